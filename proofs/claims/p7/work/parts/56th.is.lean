/-! ===== the runs are the functions ===== -/
theorem vn247_0 {S : Nat → zSpc} (hS132 : ∀ x g o v gz, S 132 x g o v gz → sn132 x g o v gz) (hS228 : ∀ x g o v gz, S 228 x g o v gz → sn228 x g o v gz) (hS229 : ∀ x g o v gz, S 229 x g o v gz → sn229 x g o v gz) (hS230 : ∀ x g o v gz, S 230 x g o v gz → sn230 x g o v gz) (hS231 : ∀ x g o v gz, S 231 x g o v gz → sn231 x g o v gz) (hS244 : ∀ x g o v gz, S 244 x g o v gz → sn244 x g o v gz) (hS245 : ∀ x g o v gz, S 245 x g o v gz → sn245 x g o v gz) (hS246 : ∀ x g o v gz, S 246 x g o v gz → sn246 x g o v gz) {a : List Int} {g : rHp} : ∀ (ρ : Nat → Int) (γ : Nat → rHp), zO 25 S a g q247_0 ρ γ → zGl (fun _ _ _ => True) (sn247 a g) q247_0 ρ γ := by
  intro ρ γ h
  obtain ⟨ha, hg, hr, hf, hm, hc, hl⟩ := h
  have ha : a = [ρ 0, ρ 1, ρ 2, ρ 3, ρ 4, ρ 5, ρ 6, ρ 7, ρ 8, ρ 9, ρ 10, ρ 11, ρ 12, ρ 13, ρ 14, ρ 15, ρ 16, ρ 17, ρ 18, ρ 19, ρ 20, ρ 21, ρ 22, ρ 23, ρ 24] := ha
  subst ha
  subst hg
  obtain ⟨r0, r1, r2, r3, r4, r5, r6, r7, r8, r9, r10, r11, r12, r13, r14, r15, r16, r17, r18, r19, r20, r21, r22, r23, r24, r25, r26, r27, -⟩ := hr
  have r0 : (0 : Int) ≤ ρ 0 ∧ ρ 0 ≤ 50000 := r0
  have r1 : (0 : Int) ≤ ρ 1 ∧ ρ 1 ≤ 2 := r1
  have r2 : (0 : Int) ≤ ρ 2 ∧ ρ 2 ≤ 2 := r2
  have r3 : (0 : Int) ≤ ρ 3 ∧ ρ 3 ≤ 50001 := r3
  have r4 : (0 : Int) ≤ ρ 4 ∧ ρ 4 ≤ 62 := r4
  have r5 : (0 : Int) ≤ ρ 5 ∧ ρ 5 ≤ 60 := r5
  have r6 : (0 : Int) ≤ ρ 6 ∧ ρ 6 ≤ 2000 := r6
  have r7 : (0 : Int) ≤ ρ 7 ∧ ρ 7 ≤ 2000 := r7
  have r8 : ((-2147483648) : Int) ≤ ρ 8 ∧ ρ 8 ≤ 2147483647 := r8
  have r9 : ((-2147483648) : Int) ≤ ρ 9 ∧ ρ 9 ≤ 2147483647 := r9
  have r10 : (0 : Int) ≤ ρ 10 ∧ ρ 10 ≤ 2000 := r10
  have r11 : (0 : Int) ≤ ρ 11 ∧ ρ 11 ≤ 2000 := r11
  have r12 : ((-2147483648) : Int) ≤ ρ 12 ∧ ρ 12 ≤ 2147483647 := r12
  have r13 : (0 : Int) ≤ ρ 13 ∧ ρ 13 ≤ 7 := r13
  have r14 : (0 : Int) ≤ ρ 14 ∧ ρ 14 ≤ 8 := r14
  have r15 : (0 : Int) ≤ ρ 15 ∧ ρ 15 ≤ 4 := r15
  have r16 : ((-1) : Int) ≤ ρ 16 ∧ ρ 16 ≤ 19 := r16
  have r17 : (0 : Int) ≤ ρ 17 ∧ ρ 17 ≤ 4 := r17
  have r18 : ((-1) : Int) ≤ ρ 18 ∧ ρ 18 ≤ 7 := r18
  have r19 : (0 : Int) ≤ ρ 19 ∧ ρ 19 ≤ 8 := r19
  have r20 : (0 : Int) ≤ ρ 20 ∧ ρ 20 ≤ 4 := r20
  have r21 : ((-1) : Int) ≤ ρ 21 ∧ ρ 21 ≤ 19 := r21
  have r22 : ((-1) : Int) ≤ ρ 22 ∧ ρ 22 ≤ 3 := r22
  have r23 : (0 : Int) ≤ ρ 23 ∧ ρ 23 ≤ 7 := r23
  have r24 : ((-1) : Int) ≤ ρ 24 ∧ ρ 24 ≤ 7 := r24
  have r25 : (0 : Int) ≤ ρ 25 ∧ ρ 25 ≤ 50001 := r25
  have r26 : (0 : Int) ≤ ρ 26 ∧ ρ 26 ≤ 2000 := r26
  have r27 : (0 : Int) ≤ ρ 27 ∧ ρ 27 ≤ 2000 := r27
  obtain ⟨f0, f1, f2, f3, f4, -⟩ := hf
  have f0 : (0 : Int) ≤ -ρ 3 + ((-50001) * ρ 1 + ρ 0) + 100002 := f0
  have f1 : (0 : Int) ≤ ρ 25 + -ρ 3 := f1
  have f2 : (0 : Int) ≤ ρ 26 + -ρ 6 := f2
  have f3 : (0 : Int) ≤ ρ 27 + -ρ 7 := f3
  have f4 : (0 : Int) ≤ -ρ 25 + ρ 3 + 1 := f4
  obtain ⟨m0, m1, m2, m3, m4, m5, m6, m7, m8, m9, m10, m11, m12, m13, m14, m15, m16, m17, m18, m19, m20, m21, m22, m23, m24, m25, m26, m27, -⟩ := hm
  have m0 : γ 0 6 0 0 = ρ 0 := m0
  have m1 : γ 0 6 0 9 = ρ 1 := m1
  have m2 : γ 0 6 0 6 = ρ 2 := m2
  have m3 : γ 0 8 (ρ 2) 1 = ρ 3 := m3
  have m4 : γ 0 6 0 7 = ρ 4 := m4
  have m5 : γ 0 1 0 10 = ρ 5 := m5
  have m6 : γ 0 4 0 7 = ρ 6 := m6
  have m7 : γ 0 5 0 3 = ρ 7 := m7
  have m8 : γ 0 6 0 8 = ρ 8 := m8
  have m9 : γ 0 6 0 10 = ρ 9 := m9
  have m10 : γ 0 6 0 11 = ρ 10 := m10
  have m11 : γ 0 6 0 12 = ρ 11 := m11
  have m12 : γ 0 6 0 13 = ρ 12 := m12
  have m13 : γ 0 9 (ρ 4) 2 = ρ 13 := m13
  have m14 : γ 0 9 (ρ 4) 3 = ρ 14 := m14
  have m15 : γ 0 10 (9 * ρ 4) 5 = ρ 15 := m15
  have m16 : γ 0 10 (9 * ρ 4) 8 = ρ 16 := m16
  have m17 : γ 0 10 (9 * ρ 4) 12 = ρ 17 := m17
  have m18 : γ 0 10 (9 * ρ 4) 14 = ρ 18 := m18
  have m19 : γ 0 10 (9 * ρ 4 + 8) 4 = ρ 19 := m19
  have m20 : γ 0 10 (9 * ρ 4 + 8) 5 = ρ 20 := m20
  have m21 : γ 0 10 (9 * ρ 4 + 8) 8 = ρ 21 := m21
  have m22 : γ 0 10 (9 * ρ 4 + 8) 9 = ρ 22 := m22
  have m23 : γ 0 10 (9 * ρ 4 + 8) 10 = ρ 23 := m23
  have m24 : γ 0 10 (9 * ρ 4 + 8) 11 = ρ 24 := m24
  have m25 : γ 1 8 (ρ 2) 1 = ρ 25 := m25
  have m26 : γ 1 4 0 7 = ρ 26 := m26
  have m27 : γ 1 5 0 3 = ρ 27 := m27
  obtain ⟨-, c1⟩ := hc
  have c1 : ∀ (G : Nat) (k j : Int), ¬ rMdP m138_ G j → γ 1 G k j = γ 0 G k j := c1
  obtain ⟨l0, -⟩ := hl
  have l0 : sn244 [ρ 0, ρ 1, ρ 2, ρ 3, ρ 4, ρ 6, ρ 7, ρ 8, ρ 9, ρ 14, ρ 15, ρ 16, ρ 17, ρ 18] (γ 0) 0 0 (γ 1) := hS244 _ _ _ _ _ l0
  show sn247 [ρ 0, ρ 1, ρ 2, ρ 3, ρ 4, ρ 5, ρ 6, ρ 7, ρ 8, ρ 9, ρ 10, ρ 11, ρ 12, ρ 13, ρ 14, ρ 15, ρ 16, ρ 17, ρ 18, ρ 19, ρ 20, ρ 21, ρ 22, ρ 23, ρ 24] (γ 0) 0 0 (γ 1)
  refine Eq.symm ?_
  show fn247 [] (γ 0) = _
  unfold fn247
  refine (zLet_eq m4).trans ?_
  refine (zLet_eq m13).trans ?_
  refine (zLet_eq m19).trans ?_
  refine (if_pos (show 7 ≥ ρ 13 by omega)).trans ?_
  refine (zLet_eq (show fn244 [] (γ 0) = (0, 0, γ 1) from l0.symm)).trans ?_
  refine (zLet_eq (show _ = γ 1 from rfl)).trans ?_
  refine (if_pos (show (0 : Nat) = 0 by decide)).trans ?_
  rfl
theorem vn247_1 {S : Nat → zSpc} (hS132 : ∀ x g o v gz, S 132 x g o v gz → sn132 x g o v gz) (hS228 : ∀ x g o v gz, S 228 x g o v gz → sn228 x g o v gz) (hS229 : ∀ x g o v gz, S 229 x g o v gz → sn229 x g o v gz) (hS230 : ∀ x g o v gz, S 230 x g o v gz → sn230 x g o v gz) (hS231 : ∀ x g o v gz, S 231 x g o v gz → sn231 x g o v gz) (hS244 : ∀ x g o v gz, S 244 x g o v gz → sn244 x g o v gz) (hS245 : ∀ x g o v gz, S 245 x g o v gz → sn245 x g o v gz) (hS246 : ∀ x g o v gz, S 246 x g o v gz → sn246 x g o v gz) {a : List Int} {g : rHp} : ∀ (ρ : Nat → Int) (γ : Nat → rHp), zO 25 S a g q247_1 ρ γ → zGl (fun _ _ _ => True) (sn247 a g) q247_1 ρ γ := by
  intro ρ γ h
  obtain ⟨ha, hg, hr, hf, hm, hc, hl⟩ := h
  have ha : a = [ρ 0, ρ 1, ρ 2, ρ 3, ρ 4, ρ 5, ρ 6, ρ 7, ρ 8, ρ 9, ρ 10, ρ 11, ρ 12, ρ 13, ρ 14, ρ 15, ρ 16, ρ 17, ρ 18, ρ 19, ρ 20, ρ 21, ρ 22, ρ 23, ρ 24] := ha
  subst ha
  subst hg
  obtain ⟨r0, r1, r2, r3, r4, r5, r6, r7, r8, r9, r10, r11, r12, r13, r14, r15, r16, r17, r18, r19, r20, r21, r22, r23, r24, r25, -⟩ := hr
  have r0 : (0 : Int) ≤ ρ 0 ∧ ρ 0 ≤ 50000 := r0
  have r1 : (0 : Int) ≤ ρ 1 ∧ ρ 1 ≤ 1 := r1
  have r2 : (0 : Int) ≤ ρ 2 ∧ ρ 2 ≤ 2 := r2
  have r3 : (0 : Int) ≤ ρ 3 ∧ ρ 3 ≤ 50001 := r3
  have r4 : (0 : Int) ≤ ρ 4 ∧ ρ 4 ≤ 62 := r4
  have r5 : (0 : Int) ≤ ρ 5 ∧ ρ 5 ≤ 60 := r5
  have r6 : (0 : Int) ≤ ρ 6 ∧ ρ 6 ≤ 2000 := r6
  have r7 : (0 : Int) ≤ ρ 7 ∧ ρ 7 ≤ 2000 := r7
  have r8 : ((-2147483648) : Int) ≤ ρ 8 ∧ ρ 8 ≤ 2147483647 := r8
  have r9 : ((-2147483648) : Int) ≤ ρ 9 ∧ ρ 9 ≤ 2147483647 := r9
  have r10 : (0 : Int) ≤ ρ 10 ∧ ρ 10 ≤ 2000 := r10
  have r11 : (0 : Int) ≤ ρ 11 ∧ ρ 11 ≤ 2000 := r11
  have r12 : ((-2147483648) : Int) ≤ ρ 12 ∧ ρ 12 ≤ 2147483647 := r12
  have r13 : (0 : Int) ≤ ρ 13 ∧ ρ 13 ≤ 7 := r13
  have r14 : (0 : Int) ≤ ρ 14 ∧ ρ 14 ≤ 8 := r14
  have r15 : (0 : Int) ≤ ρ 15 ∧ ρ 15 ≤ 4 := r15
  have r16 : ((-1) : Int) ≤ ρ 16 ∧ ρ 16 ≤ 19 := r16
  have r17 : (0 : Int) ≤ ρ 17 ∧ ρ 17 ≤ 4 := r17
  have r18 : ((-1) : Int) ≤ ρ 18 ∧ ρ 18 ≤ 7 := r18
  have r19 : (0 : Int) ≤ ρ 19 ∧ ρ 19 ≤ 8 := r19
  have r20 : (0 : Int) ≤ ρ 20 ∧ ρ 20 ≤ 4 := r20
  have r21 : ((-1) : Int) ≤ ρ 21 ∧ ρ 21 ≤ 19 := r21
  have r22 : ((-1) : Int) ≤ ρ 22 ∧ ρ 22 ≤ 3 := r22
  have r23 : (0 : Int) ≤ ρ 23 ∧ ρ 23 ≤ 7 := r23
  have r24 : ((-1) : Int) ≤ ρ 24 ∧ ρ 24 ≤ 7 := r24
  have r25 : (0 : Int) ≤ ρ 25 ∧ ρ 25 ≤ 2000 := r25
  obtain ⟨f0, f1, -⟩ := hf
  have f0 : (0 : Int) ≤ ρ 25 + -ρ 7 := f0
  have f1 : (0 : Int) ≤ -ρ 3 + ((-50001) * ρ 1 + ρ 0) + 100002 := f1
  obtain ⟨m0, m1, m2, m3, m4, m5, m6, m7, m8, m9, m10, m11, m12, m13, m14, m15, m16, m17, m18, m19, m20, m21, m22, m23, m24, m25, m26, m27, -⟩ := hm
  have m0 : γ 0 6 0 0 = ρ 0 := m0
  have m1 : γ 0 6 0 9 = ρ 1 := m1
  have m2 : γ 0 6 0 6 = ρ 2 := m2
  have m3 : γ 0 8 (ρ 2) 1 = ρ 3 := m3
  have m4 : γ 0 6 0 7 = ρ 4 := m4
  have m5 : γ 0 1 0 10 = ρ 5 := m5
  have m6 : γ 0 4 0 7 = ρ 6 := m6
  have m7 : γ 0 5 0 3 = ρ 7 := m7
  have m8 : γ 0 6 0 8 = ρ 8 := m8
  have m9 : γ 0 6 0 10 = ρ 9 := m9
  have m10 : γ 0 6 0 11 = ρ 10 := m10
  have m11 : γ 0 6 0 12 = ρ 11 := m11
  have m12 : γ 0 6 0 13 = ρ 12 := m12
  have m13 : γ 0 9 (ρ 4) 2 = ρ 13 := m13
  have m14 : γ 0 9 (ρ 4) 3 = ρ 14 := m14
  have m15 : γ 0 10 (9 * ρ 4) 5 = ρ 15 := m15
  have m16 : γ 0 10 (9 * ρ 4) 8 = ρ 16 := m16
  have m17 : γ 0 10 (9 * ρ 4) 12 = ρ 17 := m17
  have m18 : γ 0 10 (9 * ρ 4) 14 = ρ 18 := m18
  have m19 : γ 0 10 (9 * ρ 4 + 8) 4 = ρ 19 := m19
  have m20 : γ 0 10 (9 * ρ 4 + 8) 5 = ρ 20 := m20
  have m21 : γ 0 10 (9 * ρ 4 + 8) 8 = ρ 21 := m21
  have m22 : γ 0 10 (9 * ρ 4 + 8) 9 = ρ 22 := m22
  have m23 : γ 0 10 (9 * ρ 4 + 8) 10 = ρ 23 := m23
  have m24 : γ 0 10 (9 * ρ 4 + 8) 11 = ρ 24 := m24
  have m25 : γ 1 8 (ρ 2) 1 = ρ 3 := m25
  have m26 : γ 1 4 0 7 = ρ 6 := m26
  have m27 : γ 1 5 0 3 = ρ 25 := m27
  obtain ⟨-, c1⟩ := hc
  have c1 : ∀ (G : Nat) (k j : Int), ¬ rMdP m138_ G j → γ 1 G k j = γ 0 G k j := c1
  obtain ⟨l0, -⟩ := hl
  have l0 : sn244 [ρ 0, ρ 1, ρ 2, ρ 3, ρ 4, ρ 6, ρ 7, ρ 8, ρ 9, ρ 14, ρ 15, ρ 16, ρ 17, ρ 18] (γ 0) 1 0 (γ 1) := hS244 _ _ _ _ _ l0
  show sn247 [ρ 0, ρ 1, ρ 2, ρ 3, ρ 4, ρ 5, ρ 6, ρ 7, ρ 8, ρ 9, ρ 10, ρ 11, ρ 12, ρ 13, ρ 14, ρ 15, ρ 16, ρ 17, ρ 18, ρ 19, ρ 20, ρ 21, ρ 22, ρ 23, ρ 24] (γ 0) 1 0 (γ 1)
  refine Eq.symm ?_
  show fn247 [] (γ 0) = _
  unfold fn247
  refine (zLet_eq m4).trans ?_
  refine (zLet_eq m13).trans ?_
  refine (zLet_eq m19).trans ?_
  refine (if_pos (show 7 ≥ ρ 13 by omega)).trans ?_
  refine (zLet_eq (show fn244 [] (γ 0) = (1, 0, γ 1) from l0.symm)).trans ?_
  refine (zLet_eq (show _ = γ 1 from rfl)).trans ?_
  refine (if_neg (show ¬ (1 : Nat) = 0 by decide)).trans ?_
  rfl
theorem vn247_2 {S : Nat → zSpc} (hS132 : ∀ x g o v gz, S 132 x g o v gz → sn132 x g o v gz) (hS228 : ∀ x g o v gz, S 228 x g o v gz → sn228 x g o v gz) (hS229 : ∀ x g o v gz, S 229 x g o v gz → sn229 x g o v gz) (hS230 : ∀ x g o v gz, S 230 x g o v gz → sn230 x g o v gz) (hS231 : ∀ x g o v gz, S 231 x g o v gz → sn231 x g o v gz) (hS244 : ∀ x g o v gz, S 244 x g o v gz → sn244 x g o v gz) (hS245 : ∀ x g o v gz, S 245 x g o v gz → sn245 x g o v gz) (hS246 : ∀ x g o v gz, S 246 x g o v gz → sn246 x g o v gz) {a : List Int} {g : rHp} : ∀ (ρ : Nat → Int) (γ : Nat → rHp), zO 25 S a g q247_2 ρ γ → zGl (fun _ _ _ => True) (sn247 a g) q247_2 ρ γ := by
  intro ρ γ h
  obtain ⟨ha, hg, hr, hf, hm, hc, hl⟩ := h
  have ha : a = [ρ 0, ρ 1, ρ 2, ρ 3, ρ 4, ρ 5, ρ 6, ρ 7, ρ 8, ρ 9, ρ 10, ρ 11, ρ 12, ρ 13, ρ 14, ρ 15, ρ 16, ρ 17, ρ 18, ρ 19, ρ 20, ρ 21, ρ 22, ρ 23, ρ 24] := ha
  subst ha
  subst hg
  obtain ⟨r0, r1, r2, r3, r4, r5, r6, r7, r8, r9, r10, r11, r12, r13, r14, r15, r16, r17, r18, r19, r20, r21, r22, r23, r24, r25, -⟩ := hr
  have r0 : (0 : Int) ≤ ρ 0 ∧ ρ 0 ≤ 50000 := r0
  have r1 : (0 : Int) ≤ ρ 1 ∧ ρ 1 ≤ 2 := r1
  have r2 : (0 : Int) ≤ ρ 2 ∧ ρ 2 ≤ 2 := r2
  have r3 : (0 : Int) ≤ ρ 3 ∧ ρ 3 ≤ 50001 := r3
  have r4 : (0 : Int) ≤ ρ 4 ∧ ρ 4 ≤ 62 := r4
  have r5 : (0 : Int) ≤ ρ 5 ∧ ρ 5 ≤ 60 := r5
  have r6 : (0 : Int) ≤ ρ 6 ∧ ρ 6 ≤ 2000 := r6
  have r7 : (0 : Int) ≤ ρ 7 ∧ ρ 7 ≤ 2000 := r7
  have r8 : ((-2147483648) : Int) ≤ ρ 8 ∧ ρ 8 ≤ 2147483647 := r8
  have r9 : ((-2147483648) : Int) ≤ ρ 9 ∧ ρ 9 ≤ 2147483647 := r9
  have r10 : (0 : Int) ≤ ρ 10 ∧ ρ 10 ≤ 2000 := r10
  have r11 : (0 : Int) ≤ ρ 11 ∧ ρ 11 ≤ 2000 := r11
  have r12 : ((-2147483648) : Int) ≤ ρ 12 ∧ ρ 12 ≤ 2147483647 := r12
  have r13 : (8 : Int) ≤ ρ 13 ∧ ρ 13 ≤ 8 := r13
  have r14 : (0 : Int) ≤ ρ 14 ∧ ρ 14 ≤ 8 := r14
  have r15 : (0 : Int) ≤ ρ 15 ∧ ρ 15 ≤ 4 := r15
  have r16 : ((-1) : Int) ≤ ρ 16 ∧ ρ 16 ≤ 19 := r16
  have r17 : (0 : Int) ≤ ρ 17 ∧ ρ 17 ≤ 4 := r17
  have r18 : ((-1) : Int) ≤ ρ 18 ∧ ρ 18 ≤ 7 := r18
  have r19 : (3 : Int) ≤ ρ 19 ∧ ρ 19 ≤ 3 := r19
  have r20 : (0 : Int) ≤ ρ 20 ∧ ρ 20 ≤ 4 := r20
  have r21 : ((-1) : Int) ≤ ρ 21 ∧ ρ 21 ≤ 19 := r21
  have r22 : ((-1) : Int) ≤ ρ 22 ∧ ρ 22 ≤ 3 := r22
  have r23 : (0 : Int) ≤ ρ 23 ∧ ρ 23 ≤ 7 := r23
  have r24 : ((-1) : Int) ≤ ρ 24 ∧ ρ 24 ≤ 7 := r24
  have r25 : (0 : Int) ≤ ρ 25 ∧ ρ 25 ≤ 60 := r25
  obtain ⟨f0, -⟩ := hf
  have f0 : (0 : Int) ≤ -ρ 3 + ((-50001) * ρ 1 + ρ 0) + 100002 := f0
  obtain ⟨m0, m1, m2, m3, m4, m5, m6, m7, m8, m9, m10, m11, m12, m13, m14, m15, m16, m17, m18, m19, m20, m21, m22, m23, m24, m25, -⟩ := hm
  have m0 : γ 0 6 0 0 = ρ 0 := m0
  have m1 : γ 0 6 0 9 = ρ 1 := m1
  have m2 : γ 0 6 0 6 = ρ 2 := m2
  have m3 : γ 0 8 (ρ 2) 1 = ρ 3 := m3
  have m4 : γ 0 6 0 7 = ρ 4 := m4
  have m5 : γ 0 1 0 10 = ρ 5 := m5
  have m6 : γ 0 4 0 7 = ρ 6 := m6
  have m7 : γ 0 5 0 3 = ρ 7 := m7
  have m8 : γ 0 6 0 8 = ρ 8 := m8
  have m9 : γ 0 6 0 10 = ρ 9 := m9
  have m10 : γ 0 6 0 11 = ρ 10 := m10
  have m11 : γ 0 6 0 12 = ρ 11 := m11
  have m12 : γ 0 6 0 13 = ρ 12 := m12
  have m13 : γ 0 9 (ρ 4) 2 = ρ 13 := m13
  have m14 : γ 0 9 (ρ 4) 3 = ρ 14 := m14
  have m15 : γ 0 10 (9 * ρ 4) 5 = ρ 15 := m15
  have m16 : γ 0 10 (9 * ρ 4) 8 = ρ 16 := m16
  have m17 : γ 0 10 (9 * ρ 4) 12 = ρ 17 := m17
  have m18 : γ 0 10 (9 * ρ 4) 14 = ρ 18 := m18
  have m19 : γ 0 10 (9 * ρ 4 + 8) 4 = ρ 19 := m19
  have m20 : γ 0 10 (9 * ρ 4 + 8) 5 = ρ 20 := m20
  have m21 : γ 0 10 (9 * ρ 4 + 8) 8 = ρ 21 := m21
  have m22 : γ 0 10 (9 * ρ 4 + 8) 9 = ρ 22 := m22
  have m23 : γ 0 10 (9 * ρ 4 + 8) 10 = ρ 23 := m23
  have m24 : γ 0 10 (9 * ρ 4 + 8) 11 = ρ 24 := m24
  have m25 : γ 0 40 0 (ρ 5) = ρ 25 := m25
  obtain ⟨⟨-, c1⟩, c2⟩ := hc
  have c1 : ∀ (G : Nat) (k j : Int), ¬ rMdP m0_ G j → γ 1 G k j = γ 0 G k j := c1
  have c2 : ∀ (G : Nat) (k j : Int), ¬ rMdP m0_ G j → γ 2 G k j = γ 1 G k j := c2
  obtain ⟨l0, l1, -⟩ := hl
  have l0 : sn132 [ρ 4, 7] (γ 0) 0 (9 * ρ 4 + 8) (γ 1) := hS132 _ _ _ _ _ l0
  have l1 : sn230 [9 * ρ 4 + 8, ρ 19] (γ 1) 0 0 (γ 2) := hS230 _ _ _ _ _ l1
  show sn247 [ρ 0, ρ 1, ρ 2, ρ 3, ρ 4, ρ 5, ρ 6, ρ 7, ρ 8, ρ 9, ρ 10, ρ 11, ρ 12, ρ 13, ρ 14, ρ 15, ρ 16, ρ 17, ρ 18, ρ 19, ρ 20, ρ 21, ρ 22, ρ 23, ρ 24] (γ 0) 0 0 (γ 2)
  refine Eq.symm ?_
  show fn247 [] (γ 0) = _
  unfold fn247
  refine (zLet_eq m4).trans ?_
  refine (zLet_eq m13).trans ?_
  refine (zLet_eq m19).trans ?_
  refine (if_neg (show ¬ (7 ≥ ρ 13) by omega)).trans ?_
  refine (zLet_eq (show fn132 [ρ 4, 7] (γ 0) = (0, 9 * ρ 4 + 8, γ 1) from l0.symm)).trans ?_
  refine (zLet_eq (show _ = γ 1 from rfl)).trans ?_
  refine (if_pos (show ρ 19 ≠ 1 by omega)).trans ?_
  refine (if_pos (show 0 ≤ -ρ 19 + 3 by omega)).trans ?_
  refine (if_pos (show ρ 19 ≠ 2 by omega)).trans ?_
  refine (zLet_eq (show fn230 [9 * ρ 4 + 8] (γ 1) = (0, 0, γ 2) from l1.symm)).trans ?_
  refine (zLet_eq (show _ = γ 2 from rfl)).trans ?_
  refine (if_neg (show ¬ ((1 : Int) ≤ 0) by omega)).trans ?_
  rfl
theorem vn247_3 {S : Nat → zSpc} (hS132 : ∀ x g o v gz, S 132 x g o v gz → sn132 x g o v gz) (hS228 : ∀ x g o v gz, S 228 x g o v gz → sn228 x g o v gz) (hS229 : ∀ x g o v gz, S 229 x g o v gz → sn229 x g o v gz) (hS230 : ∀ x g o v gz, S 230 x g o v gz → sn230 x g o v gz) (hS231 : ∀ x g o v gz, S 231 x g o v gz → sn231 x g o v gz) (hS244 : ∀ x g o v gz, S 244 x g o v gz → sn244 x g o v gz) (hS245 : ∀ x g o v gz, S 245 x g o v gz → sn245 x g o v gz) (hS246 : ∀ x g o v gz, S 246 x g o v gz → sn246 x g o v gz) {a : List Int} {g : rHp} : ∀ (ρ : Nat → Int) (γ : Nat → rHp), zO 25 S a g q247_3 ρ γ → zGl (fun _ _ _ => True) (sn247 a g) q247_3 ρ γ := by
  intro ρ γ h
  obtain ⟨ha, hg, hr, hf, hm, hc, hl⟩ := h
  have ha : a = [ρ 0, ρ 1, ρ 2, ρ 3, ρ 4, ρ 5, ρ 6, ρ 7, ρ 8, ρ 9, ρ 10, ρ 11, ρ 12, ρ 13, ρ 14, ρ 15, ρ 16, ρ 17, ρ 18, ρ 19, ρ 20, ρ 21, ρ 22, ρ 23, ρ 24] := ha
  subst ha
  subst hg
  obtain ⟨r0, r1, r2, r3, r4, r5, r6, r7, r8, r9, r10, r11, r12, r13, r14, r15, r16, r17, r18, r19, r20, r21, r22, r23, r24, r25, r26, r27, r28, -⟩ := hr
  have r0 : (0 : Int) ≤ ρ 0 ∧ ρ 0 ≤ 50000 := r0
  have r1 : (0 : Int) ≤ ρ 1 ∧ ρ 1 ≤ 2 := r1
  have r2 : (0 : Int) ≤ ρ 2 ∧ ρ 2 ≤ 2 := r2
  have r3 : (0 : Int) ≤ ρ 3 ∧ ρ 3 ≤ 50001 := r3
  have r4 : (0 : Int) ≤ ρ 4 ∧ ρ 4 ≤ 62 := r4
  have r5 : (0 : Int) ≤ ρ 5 ∧ ρ 5 ≤ 60 := r5
  have r6 : (0 : Int) ≤ ρ 6 ∧ ρ 6 ≤ 2000 := r6
  have r7 : (0 : Int) ≤ ρ 7 ∧ ρ 7 ≤ 2000 := r7
  have r8 : ((-2147483648) : Int) ≤ ρ 8 ∧ ρ 8 ≤ 2147483647 := r8
  have r9 : ((-2147483648) : Int) ≤ ρ 9 ∧ ρ 9 ≤ 2147483647 := r9
  have r10 : (0 : Int) ≤ ρ 10 ∧ ρ 10 ≤ 2000 := r10
  have r11 : (0 : Int) ≤ ρ 11 ∧ ρ 11 ≤ 2000 := r11
  have r12 : ((-2147483648) : Int) ≤ ρ 12 ∧ ρ 12 ≤ 2147483647 := r12
  have r13 : (8 : Int) ≤ ρ 13 ∧ ρ 13 ≤ 8 := r13
  have r14 : (0 : Int) ≤ ρ 14 ∧ ρ 14 ≤ 8 := r14
  have r15 : (0 : Int) ≤ ρ 15 ∧ ρ 15 ≤ 4 := r15
  have r16 : ((-1) : Int) ≤ ρ 16 ∧ ρ 16 ≤ 19 := r16
  have r17 : (0 : Int) ≤ ρ 17 ∧ ρ 17 ≤ 4 := r17
  have r18 : ((-1) : Int) ≤ ρ 18 ∧ ρ 18 ≤ 7 := r18
  have r19 : (3 : Int) ≤ ρ 19 ∧ ρ 19 ≤ 3 := r19
  have r20 : (0 : Int) ≤ ρ 20 ∧ ρ 20 ≤ 4 := r20
  have r21 : ((-1) : Int) ≤ ρ 21 ∧ ρ 21 ≤ 19 := r21
  have r22 : ((-1) : Int) ≤ ρ 22 ∧ ρ 22 ≤ 3 := r22
  have r23 : (0 : Int) ≤ ρ 23 ∧ ρ 23 ≤ 7 := r23
  have r24 : ((-1) : Int) ≤ ρ 24 ∧ ρ 24 ≤ 7 := r24
  have r25 : (0 : Int) ≤ ρ 25 ∧ ρ 25 ≤ 60 := r25
  have r26 : (0 : Int) ≤ ρ 26 ∧ ρ 26 ≤ 50001 := r26
  have r27 : (0 : Int) ≤ ρ 27 ∧ ρ 27 ≤ 2000 := r27
  have r28 : (0 : Int) ≤ ρ 28 ∧ ρ 28 ≤ 2000 := r28
  obtain ⟨f0, f1, f2, f3, f4, -⟩ := hf
  have f0 : (0 : Int) ≤ -ρ 3 + ((-50001) * ρ 1 + ρ 0) + 100002 := f0
  have f1 : (0 : Int) ≤ ρ 26 + -ρ 3 := f1
  have f2 : (0 : Int) ≤ ρ 27 + -ρ 6 := f2
  have f3 : (0 : Int) ≤ ρ 28 + -ρ 7 := f3
  have f4 : (0 : Int) ≤ -ρ 26 + ρ 3 + 1 := f4
  obtain ⟨m0, m1, m2, m3, m4, m5, m6, m7, m8, m9, m10, m11, m12, m13, m14, m15, m16, m17, m18, m19, m20, m21, m22, m23, m24, m25, m26, m27, m28, -⟩ := hm
  have m0 : γ 0 6 0 0 = ρ 0 := m0
  have m1 : γ 0 6 0 9 = ρ 1 := m1
  have m2 : γ 0 6 0 6 = ρ 2 := m2
  have m3 : γ 0 8 (ρ 2) 1 = ρ 3 := m3
  have m4 : γ 0 6 0 7 = ρ 4 := m4
  have m5 : γ 0 1 0 10 = ρ 5 := m5
  have m6 : γ 0 4 0 7 = ρ 6 := m6
  have m7 : γ 0 5 0 3 = ρ 7 := m7
  have m8 : γ 0 6 0 8 = ρ 8 := m8
  have m9 : γ 0 6 0 10 = ρ 9 := m9
  have m10 : γ 0 6 0 11 = ρ 10 := m10
  have m11 : γ 0 6 0 12 = ρ 11 := m11
  have m12 : γ 0 6 0 13 = ρ 12 := m12
  have m13 : γ 0 9 (ρ 4) 2 = ρ 13 := m13
  have m14 : γ 0 9 (ρ 4) 3 = ρ 14 := m14
  have m15 : γ 0 10 (9 * ρ 4) 5 = ρ 15 := m15
  have m16 : γ 0 10 (9 * ρ 4) 8 = ρ 16 := m16
  have m17 : γ 0 10 (9 * ρ 4) 12 = ρ 17 := m17
  have m18 : γ 0 10 (9 * ρ 4) 14 = ρ 18 := m18
  have m19 : γ 0 10 (9 * ρ 4 + 8) 4 = ρ 19 := m19
  have m20 : γ 0 10 (9 * ρ 4 + 8) 5 = ρ 20 := m20
  have m21 : γ 0 10 (9 * ρ 4 + 8) 8 = ρ 21 := m21
  have m22 : γ 0 10 (9 * ρ 4 + 8) 9 = ρ 22 := m22
  have m23 : γ 0 10 (9 * ρ 4 + 8) 10 = ρ 23 := m23
  have m24 : γ 0 10 (9 * ρ 4 + 8) 11 = ρ 24 := m24
  have m25 : γ 0 40 0 (ρ 5) = ρ 25 := m25
  have m26 : γ 3 8 (ρ 2) 1 = ρ 26 := m26
  have m27 : γ 3 4 0 7 = ρ 27 := m27
  have m28 : γ 3 5 0 3 = ρ 28 := m28
  obtain ⟨⟨⟨-, c1⟩, c2⟩, c3⟩ := hc
  have c1 : ∀ (G : Nat) (k j : Int), ¬ rMdP m0_ G j → γ 1 G k j = γ 0 G k j := c1
  have c2 : ∀ (G : Nat) (k j : Int), ¬ rMdP m0_ G j → γ 2 G k j = γ 1 G k j := c2
  have c3 : ∀ (G : Nat) (k j : Int), ¬ rMdP m138_ G j → γ 3 G k j = γ 2 G k j := c3
  obtain ⟨l0, l1, l2, -⟩ := hl
  have l0 : sn132 [ρ 4, 7] (γ 0) 0 (9 * ρ 4 + 8) (γ 1) := hS132 _ _ _ _ _ l0
  have l1 : sn230 [9 * ρ 4 + 8, ρ 19] (γ 1) 0 1 (γ 2) := hS230 _ _ _ _ _ l1
  have l2 : sn245 [ρ 0, ρ 1, ρ 2, ρ 3, ρ 4, ρ 6, ρ 7, ρ 8, ρ 9, ρ 13, ρ 14, ρ 15, ρ 16, ρ 17, ρ 18] (γ 2) 0 0 (γ 3) := hS245 _ _ _ _ _ l2
  show sn247 [ρ 0, ρ 1, ρ 2, ρ 3, ρ 4, ρ 5, ρ 6, ρ 7, ρ 8, ρ 9, ρ 10, ρ 11, ρ 12, ρ 13, ρ 14, ρ 15, ρ 16, ρ 17, ρ 18, ρ 19, ρ 20, ρ 21, ρ 22, ρ 23, ρ 24] (γ 0) 0 0 (γ 3)
  refine Eq.symm ?_
  show fn247 [] (γ 0) = _
  unfold fn247
  refine (zLet_eq m4).trans ?_
  refine (zLet_eq m13).trans ?_
  refine (zLet_eq m19).trans ?_
  refine (if_neg (show ¬ (7 ≥ ρ 13) by omega)).trans ?_
  refine (zLet_eq (show fn132 [ρ 4, 7] (γ 0) = (0, 9 * ρ 4 + 8, γ 1) from l0.symm)).trans ?_
  refine (zLet_eq (show _ = γ 1 from rfl)).trans ?_
  refine (if_pos (show ρ 19 ≠ 1 by omega)).trans ?_
  refine (if_pos (show 0 ≤ -ρ 19 + 3 by omega)).trans ?_
  refine (if_pos (show ρ 19 ≠ 2 by omega)).trans ?_
  refine (zLet_eq (show fn230 [9 * ρ 4 + 8] (γ 1) = (0, 1, γ 2) from l1.symm)).trans ?_
  refine (zLet_eq (show _ = γ 2 from rfl)).trans ?_
  refine (if_pos (show (1 : Int) ≤ 1 by omega)).trans ?_
  refine (zLet_eq (show fn245 [] (γ 2) = (0, 0, γ 3) from l2.symm)).trans ?_
  refine (zLet_eq (show _ = γ 3 from rfl)).trans ?_
  refine (if_pos (show (0 : Nat) = 0 by decide)).trans ?_
  rfl
theorem vn247_4 {S : Nat → zSpc} (hS132 : ∀ x g o v gz, S 132 x g o v gz → sn132 x g o v gz) (hS228 : ∀ x g o v gz, S 228 x g o v gz → sn228 x g o v gz) (hS229 : ∀ x g o v gz, S 229 x g o v gz → sn229 x g o v gz) (hS230 : ∀ x g o v gz, S 230 x g o v gz → sn230 x g o v gz) (hS231 : ∀ x g o v gz, S 231 x g o v gz → sn231 x g o v gz) (hS244 : ∀ x g o v gz, S 244 x g o v gz → sn244 x g o v gz) (hS245 : ∀ x g o v gz, S 245 x g o v gz → sn245 x g o v gz) (hS246 : ∀ x g o v gz, S 246 x g o v gz → sn246 x g o v gz) {a : List Int} {g : rHp} : ∀ (ρ : Nat → Int) (γ : Nat → rHp), zO 25 S a g q247_4 ρ γ → zGl (fun _ _ _ => True) (sn247 a g) q247_4 ρ γ := by
  intro ρ γ h
  obtain ⟨ha, hg, hr, hf, hm, hc, hl⟩ := h
  have ha : a = [ρ 0, ρ 1, ρ 2, ρ 3, ρ 4, ρ 5, ρ 6, ρ 7, ρ 8, ρ 9, ρ 10, ρ 11, ρ 12, ρ 13, ρ 14, ρ 15, ρ 16, ρ 17, ρ 18, ρ 19, ρ 20, ρ 21, ρ 22, ρ 23, ρ 24] := ha
  subst ha
  subst hg
  obtain ⟨r0, r1, r2, r3, r4, r5, r6, r7, r8, r9, r10, r11, r12, r13, r14, r15, r16, r17, r18, r19, r20, r21, r22, r23, r24, r25, r26, -⟩ := hr
  have r0 : (0 : Int) ≤ ρ 0 ∧ ρ 0 ≤ 50000 := r0
  have r1 : (0 : Int) ≤ ρ 1 ∧ ρ 1 ≤ 1 := r1
  have r2 : (0 : Int) ≤ ρ 2 ∧ ρ 2 ≤ 2 := r2
  have r3 : (0 : Int) ≤ ρ 3 ∧ ρ 3 ≤ 50001 := r3
  have r4 : (0 : Int) ≤ ρ 4 ∧ ρ 4 ≤ 62 := r4
  have r5 : (0 : Int) ≤ ρ 5 ∧ ρ 5 ≤ 60 := r5
  have r6 : (0 : Int) ≤ ρ 6 ∧ ρ 6 ≤ 2000 := r6
  have r7 : (0 : Int) ≤ ρ 7 ∧ ρ 7 ≤ 2000 := r7
  have r8 : ((-2147483648) : Int) ≤ ρ 8 ∧ ρ 8 ≤ 2147483647 := r8
  have r9 : ((-2147483648) : Int) ≤ ρ 9 ∧ ρ 9 ≤ 2147483647 := r9
  have r10 : (0 : Int) ≤ ρ 10 ∧ ρ 10 ≤ 2000 := r10
  have r11 : (0 : Int) ≤ ρ 11 ∧ ρ 11 ≤ 2000 := r11
  have r12 : ((-2147483648) : Int) ≤ ρ 12 ∧ ρ 12 ≤ 2147483647 := r12
  have r13 : (8 : Int) ≤ ρ 13 ∧ ρ 13 ≤ 8 := r13
  have r14 : (0 : Int) ≤ ρ 14 ∧ ρ 14 ≤ 8 := r14
  have r15 : (0 : Int) ≤ ρ 15 ∧ ρ 15 ≤ 4 := r15
  have r16 : ((-1) : Int) ≤ ρ 16 ∧ ρ 16 ≤ 19 := r16
  have r17 : (0 : Int) ≤ ρ 17 ∧ ρ 17 ≤ 4 := r17
  have r18 : ((-1) : Int) ≤ ρ 18 ∧ ρ 18 ≤ 7 := r18
  have r19 : (3 : Int) ≤ ρ 19 ∧ ρ 19 ≤ 3 := r19
  have r20 : (0 : Int) ≤ ρ 20 ∧ ρ 20 ≤ 4 := r20
  have r21 : ((-1) : Int) ≤ ρ 21 ∧ ρ 21 ≤ 19 := r21
  have r22 : ((-1) : Int) ≤ ρ 22 ∧ ρ 22 ≤ 3 := r22
  have r23 : (0 : Int) ≤ ρ 23 ∧ ρ 23 ≤ 7 := r23
  have r24 : ((-1) : Int) ≤ ρ 24 ∧ ρ 24 ≤ 7 := r24
  have r25 : (0 : Int) ≤ ρ 25 ∧ ρ 25 ≤ 60 := r25
  have r26 : (0 : Int) ≤ ρ 26 ∧ ρ 26 ≤ 2000 := r26
  obtain ⟨f0, f1, -⟩ := hf
  have f0 : (0 : Int) ≤ ρ 26 + -ρ 7 := f0
  have f1 : (0 : Int) ≤ -ρ 3 + ((-50001) * ρ 1 + ρ 0) + 100002 := f1
  obtain ⟨m0, m1, m2, m3, m4, m5, m6, m7, m8, m9, m10, m11, m12, m13, m14, m15, m16, m17, m18, m19, m20, m21, m22, m23, m24, m25, m26, m27, m28, -⟩ := hm
  have m0 : γ 0 6 0 0 = ρ 0 := m0
  have m1 : γ 0 6 0 9 = ρ 1 := m1
  have m2 : γ 0 6 0 6 = ρ 2 := m2
  have m3 : γ 0 8 (ρ 2) 1 = ρ 3 := m3
  have m4 : γ 0 6 0 7 = ρ 4 := m4
  have m5 : γ 0 1 0 10 = ρ 5 := m5
  have m6 : γ 0 4 0 7 = ρ 6 := m6
  have m7 : γ 0 5 0 3 = ρ 7 := m7
  have m8 : γ 0 6 0 8 = ρ 8 := m8
  have m9 : γ 0 6 0 10 = ρ 9 := m9
  have m10 : γ 0 6 0 11 = ρ 10 := m10
  have m11 : γ 0 6 0 12 = ρ 11 := m11
  have m12 : γ 0 6 0 13 = ρ 12 := m12
  have m13 : γ 0 9 (ρ 4) 2 = ρ 13 := m13
  have m14 : γ 0 9 (ρ 4) 3 = ρ 14 := m14
  have m15 : γ 0 10 (9 * ρ 4) 5 = ρ 15 := m15
  have m16 : γ 0 10 (9 * ρ 4) 8 = ρ 16 := m16
  have m17 : γ 0 10 (9 * ρ 4) 12 = ρ 17 := m17
  have m18 : γ 0 10 (9 * ρ 4) 14 = ρ 18 := m18
  have m19 : γ 0 10 (9 * ρ 4 + 8) 4 = ρ 19 := m19
  have m20 : γ 0 10 (9 * ρ 4 + 8) 5 = ρ 20 := m20
  have m21 : γ 0 10 (9 * ρ 4 + 8) 8 = ρ 21 := m21
  have m22 : γ 0 10 (9 * ρ 4 + 8) 9 = ρ 22 := m22
  have m23 : γ 0 10 (9 * ρ 4 + 8) 10 = ρ 23 := m23
  have m24 : γ 0 10 (9 * ρ 4 + 8) 11 = ρ 24 := m24
  have m25 : γ 0 40 0 (ρ 5) = ρ 25 := m25
  have m26 : γ 3 8 (ρ 2) 1 = ρ 3 := m26
  have m27 : γ 3 4 0 7 = ρ 6 := m27
  have m28 : γ 3 5 0 3 = ρ 26 := m28
  obtain ⟨⟨⟨-, c1⟩, c2⟩, c3⟩ := hc
  have c1 : ∀ (G : Nat) (k j : Int), ¬ rMdP m0_ G j → γ 1 G k j = γ 0 G k j := c1
  have c2 : ∀ (G : Nat) (k j : Int), ¬ rMdP m0_ G j → γ 2 G k j = γ 1 G k j := c2
  have c3 : ∀ (G : Nat) (k j : Int), ¬ rMdP m138_ G j → γ 3 G k j = γ 2 G k j := c3
  obtain ⟨l0, l1, l2, -⟩ := hl
  have l0 : sn132 [ρ 4, 7] (γ 0) 0 (9 * ρ 4 + 8) (γ 1) := hS132 _ _ _ _ _ l0
  have l1 : sn230 [9 * ρ 4 + 8, ρ 19] (γ 1) 0 1 (γ 2) := hS230 _ _ _ _ _ l1
  have l2 : sn245 [ρ 0, ρ 1, ρ 2, ρ 3, ρ 4, ρ 6, ρ 7, ρ 8, ρ 9, ρ 13, ρ 14, ρ 15, ρ 16, ρ 17, ρ 18] (γ 2) 1 0 (γ 3) := hS245 _ _ _ _ _ l2
  show sn247 [ρ 0, ρ 1, ρ 2, ρ 3, ρ 4, ρ 5, ρ 6, ρ 7, ρ 8, ρ 9, ρ 10, ρ 11, ρ 12, ρ 13, ρ 14, ρ 15, ρ 16, ρ 17, ρ 18, ρ 19, ρ 20, ρ 21, ρ 22, ρ 23, ρ 24] (γ 0) 1 0 (γ 3)
  refine Eq.symm ?_
  show fn247 [] (γ 0) = _
  unfold fn247
  refine (zLet_eq m4).trans ?_
  refine (zLet_eq m13).trans ?_
  refine (zLet_eq m19).trans ?_
  refine (if_neg (show ¬ (7 ≥ ρ 13) by omega)).trans ?_
  refine (zLet_eq (show fn132 [ρ 4, 7] (γ 0) = (0, 9 * ρ 4 + 8, γ 1) from l0.symm)).trans ?_
  refine (zLet_eq (show _ = γ 1 from rfl)).trans ?_
  refine (if_pos (show ρ 19 ≠ 1 by omega)).trans ?_
  refine (if_pos (show 0 ≤ -ρ 19 + 3 by omega)).trans ?_
  refine (if_pos (show ρ 19 ≠ 2 by omega)).trans ?_
  refine (zLet_eq (show fn230 [9 * ρ 4 + 8] (γ 1) = (0, 1, γ 2) from l1.symm)).trans ?_
  refine (zLet_eq (show _ = γ 2 from rfl)).trans ?_
  refine (if_pos (show (1 : Int) ≤ 1 by omega)).trans ?_
  refine (zLet_eq (show fn245 [] (γ 2) = (1, 0, γ 3) from l2.symm)).trans ?_
  refine (zLet_eq (show _ = γ 3 from rfl)).trans ?_
  refine (if_neg (show ¬ (1 : Nat) = 0 by decide)).trans ?_
  rfl
theorem vn247_5 {S : Nat → zSpc} (hS132 : ∀ x g o v gz, S 132 x g o v gz → sn132 x g o v gz) (hS228 : ∀ x g o v gz, S 228 x g o v gz → sn228 x g o v gz) (hS229 : ∀ x g o v gz, S 229 x g o v gz → sn229 x g o v gz) (hS230 : ∀ x g o v gz, S 230 x g o v gz → sn230 x g o v gz) (hS231 : ∀ x g o v gz, S 231 x g o v gz → sn231 x g o v gz) (hS244 : ∀ x g o v gz, S 244 x g o v gz → sn244 x g o v gz) (hS245 : ∀ x g o v gz, S 245 x g o v gz → sn245 x g o v gz) (hS246 : ∀ x g o v gz, S 246 x g o v gz → sn246 x g o v gz) {a : List Int} {g : rHp} : ∀ (ρ : Nat → Int) (γ : Nat → rHp), zO 25 S a g q247_5 ρ γ → zGl (fun _ _ _ => True) (sn247 a g) q247_5 ρ γ := by
  intro ρ γ h
  obtain ⟨ha, hg, hr, hf, hm, hc, hl⟩ := h
  have ha : a = [ρ 0, ρ 1, ρ 2, ρ 3, ρ 4, ρ 5, ρ 6, ρ 7, ρ 8, ρ 9, ρ 10, ρ 11, ρ 12, ρ 13, ρ 14, ρ 15, ρ 16, ρ 17, ρ 18, ρ 19, ρ 20, ρ 21, ρ 22, ρ 23, ρ 24] := ha
  subst ha
  subst hg
  obtain ⟨r0, r1, r2, r3, r4, r5, r6, r7, r8, r9, r10, r11, r12, r13, r14, r15, r16, r17, r18, r19, r20, r21, r22, r23, r24, r25, r26, r27, r28, -⟩ := hr
  have r0 : (0 : Int) ≤ ρ 0 ∧ ρ 0 ≤ 50000 := r0
  have r1 : (0 : Int) ≤ ρ 1 ∧ ρ 1 ≤ 2 := r1
  have r2 : (0 : Int) ≤ ρ 2 ∧ ρ 2 ≤ 2 := r2
  have r3 : (0 : Int) ≤ ρ 3 ∧ ρ 3 ≤ 50001 := r3
  have r4 : (0 : Int) ≤ ρ 4 ∧ ρ 4 ≤ 62 := r4
  have r5 : (0 : Int) ≤ ρ 5 ∧ ρ 5 ≤ 60 := r5
  have r6 : (0 : Int) ≤ ρ 6 ∧ ρ 6 ≤ 2000 := r6
  have r7 : (0 : Int) ≤ ρ 7 ∧ ρ 7 ≤ 2000 := r7
  have r8 : ((-2147483648) : Int) ≤ ρ 8 ∧ ρ 8 ≤ 2147483647 := r8
  have r9 : ((-2147483648) : Int) ≤ ρ 9 ∧ ρ 9 ≤ 2147483647 := r9
  have r10 : (0 : Int) ≤ ρ 10 ∧ ρ 10 ≤ 2000 := r10
  have r11 : (0 : Int) ≤ ρ 11 ∧ ρ 11 ≤ 2000 := r11
  have r12 : ((-2147483648) : Int) ≤ ρ 12 ∧ ρ 12 ≤ 2147483647 := r12
  have r13 : (8 : Int) ≤ ρ 13 ∧ ρ 13 ≤ 8 := r13
  have r14 : (0 : Int) ≤ ρ 14 ∧ ρ 14 ≤ 8 := r14
  have r15 : (0 : Int) ≤ ρ 15 ∧ ρ 15 ≤ 4 := r15
  have r16 : ((-1) : Int) ≤ ρ 16 ∧ ρ 16 ≤ 19 := r16
  have r17 : (0 : Int) ≤ ρ 17 ∧ ρ 17 ≤ 4 := r17
  have r18 : ((-1) : Int) ≤ ρ 18 ∧ ρ 18 ≤ 7 := r18
  have r19 : (2 : Int) ≤ ρ 19 ∧ ρ 19 ≤ 2 := r19
  have r20 : (0 : Int) ≤ ρ 20 ∧ ρ 20 ≤ 4 := r20
  have r21 : ((-1) : Int) ≤ ρ 21 ∧ ρ 21 ≤ 19 := r21
  have r22 : ((-1) : Int) ≤ ρ 22 ∧ ρ 22 ≤ 3 := r22
  have r23 : (0 : Int) ≤ ρ 23 ∧ ρ 23 ≤ 7 := r23
  have r24 : ((-1) : Int) ≤ ρ 24 ∧ ρ 24 ≤ 7 := r24
  have r25 : (0 : Int) ≤ ρ 25 ∧ ρ 25 ≤ 60 := r25
  have r26 : (0 : Int) ≤ ρ 26 ∧ ρ 26 ≤ 50001 := r26
  have r27 : (0 : Int) ≤ ρ 27 ∧ ρ 27 ≤ 2000 := r27
  have r28 : (0 : Int) ≤ ρ 28 ∧ ρ 28 ≤ 2000 := r28
  obtain ⟨f0, f1, f2, f3, f4, -⟩ := hf
  have f0 : (0 : Int) ≤ -ρ 3 + ((-50001) * ρ 1 + ρ 0) + 100002 := f0
  have f1 : (0 : Int) ≤ ρ 26 + -ρ 3 := f1
  have f2 : (0 : Int) ≤ ρ 27 + -ρ 6 := f2
  have f3 : (0 : Int) ≤ ρ 28 + -ρ 7 := f3
  have f4 : (0 : Int) ≤ -ρ 26 + ρ 3 + 1 := f4
  obtain ⟨m0, m1, m2, m3, m4, m5, m6, m7, m8, m9, m10, m11, m12, m13, m14, m15, m16, m17, m18, m19, m20, m21, m22, m23, m24, m25, m26, m27, m28, -⟩ := hm
  have m0 : γ 0 6 0 0 = ρ 0 := m0
  have m1 : γ 0 6 0 9 = ρ 1 := m1
  have m2 : γ 0 6 0 6 = ρ 2 := m2
  have m3 : γ 0 8 (ρ 2) 1 = ρ 3 := m3
  have m4 : γ 0 6 0 7 = ρ 4 := m4
  have m5 : γ 0 1 0 10 = ρ 5 := m5
  have m6 : γ 0 4 0 7 = ρ 6 := m6
  have m7 : γ 0 5 0 3 = ρ 7 := m7
  have m8 : γ 0 6 0 8 = ρ 8 := m8
  have m9 : γ 0 6 0 10 = ρ 9 := m9
  have m10 : γ 0 6 0 11 = ρ 10 := m10
  have m11 : γ 0 6 0 12 = ρ 11 := m11
  have m12 : γ 0 6 0 13 = ρ 12 := m12
  have m13 : γ 0 9 (ρ 4) 2 = ρ 13 := m13
  have m14 : γ 0 9 (ρ 4) 3 = ρ 14 := m14
  have m15 : γ 0 10 (9 * ρ 4) 5 = ρ 15 := m15
  have m16 : γ 0 10 (9 * ρ 4) 8 = ρ 16 := m16
  have m17 : γ 0 10 (9 * ρ 4) 12 = ρ 17 := m17
  have m18 : γ 0 10 (9 * ρ 4) 14 = ρ 18 := m18
  have m19 : γ 0 10 (9 * ρ 4 + 8) 4 = ρ 19 := m19
  have m20 : γ 0 10 (9 * ρ 4 + 8) 5 = ρ 20 := m20
  have m21 : γ 0 10 (9 * ρ 4 + 8) 8 = ρ 21 := m21
  have m22 : γ 0 10 (9 * ρ 4 + 8) 9 = ρ 22 := m22
  have m23 : γ 0 10 (9 * ρ 4 + 8) 10 = ρ 23 := m23
  have m24 : γ 0 10 (9 * ρ 4 + 8) 11 = ρ 24 := m24
  have m25 : γ 0 40 0 (ρ 5) = ρ 25 := m25
  have m26 : γ 3 8 (ρ 2) 1 = ρ 26 := m26
  have m27 : γ 3 4 0 7 = ρ 27 := m27
  have m28 : γ 3 5 0 3 = ρ 28 := m28
  obtain ⟨⟨⟨-, c1⟩, c2⟩, c3⟩ := hc
  have c1 : ∀ (G : Nat) (k j : Int), ¬ rMdP m0_ G j → γ 1 G k j = γ 0 G k j := c1
  have c2 : ∀ (G : Nat) (k j : Int), ¬ rMdP m132_ G j → γ 2 G k j = γ 1 G k j := c2
  have c3 : ∀ (G : Nat) (k j : Int), ¬ rMdP m138_ G j → γ 3 G k j = γ 2 G k j := c3
  obtain ⟨l0, l1, l2, -⟩ := hl
  have l0 : sn132 [ρ 4, 7] (γ 0) 0 (9 * ρ 4 + 8) (γ 1) := hS132 _ _ _ _ _ l0
  have l1 : sn228 [9 * ρ 4 + 8, ρ 6, ρ 10, ρ 20, ρ 21, ρ 22] (γ 1) 0 0 (γ 2) := hS228 _ _ _ _ _ l1
  have l2 : sn245 [ρ 0, ρ 1, ρ 2, ρ 3, ρ 4, ρ 6, ρ 7, ρ 8, ρ 9, ρ 13, ρ 14, ρ 15, ρ 16, ρ 17, ρ 18] (γ 2) 0 0 (γ 3) := hS245 _ _ _ _ _ l2
  show sn247 [ρ 0, ρ 1, ρ 2, ρ 3, ρ 4, ρ 5, ρ 6, ρ 7, ρ 8, ρ 9, ρ 10, ρ 11, ρ 12, ρ 13, ρ 14, ρ 15, ρ 16, ρ 17, ρ 18, ρ 19, ρ 20, ρ 21, ρ 22, ρ 23, ρ 24] (γ 0) 0 0 (γ 3)
  refine Eq.symm ?_
  show fn247 [] (γ 0) = _
  unfold fn247
  refine (zLet_eq m4).trans ?_
  refine (zLet_eq m13).trans ?_
  refine (zLet_eq m19).trans ?_
  refine (if_neg (show ¬ (7 ≥ ρ 13) by omega)).trans ?_
  refine (zLet_eq (show fn132 [ρ 4, 7] (γ 0) = (0, 9 * ρ 4 + 8, γ 1) from l0.symm)).trans ?_
  refine (zLet_eq (show _ = γ 1 from rfl)).trans ?_
  refine (if_pos (show ρ 19 ≠ 1 by omega)).trans ?_
  refine (if_pos (show 0 ≤ -ρ 19 + 3 by omega)).trans ?_
  refine (if_neg (show ¬ (ρ 19 ≠ 2) by omega)).trans ?_
  refine (zLet_eq (show fn228 [9 * ρ 4 + 8] (γ 1) = (0, 0, γ 2) from l1.symm)).trans ?_
  refine (zLet_eq (show _ = γ 2 from rfl)).trans ?_
  refine (if_neg (show ¬ ((1 : Int) ≤ 0) by omega)).trans ?_
  refine (zLet_eq (show fn245 [] (γ 2) = (0, 0, γ 3) from l2.symm)).trans ?_
  refine (zLet_eq (show _ = γ 3 from rfl)).trans ?_
  refine (if_pos (show (0 : Nat) = 0 by decide)).trans ?_
  rfl
theorem vn247_6 {S : Nat → zSpc} (hS132 : ∀ x g o v gz, S 132 x g o v gz → sn132 x g o v gz) (hS228 : ∀ x g o v gz, S 228 x g o v gz → sn228 x g o v gz) (hS229 : ∀ x g o v gz, S 229 x g o v gz → sn229 x g o v gz) (hS230 : ∀ x g o v gz, S 230 x g o v gz → sn230 x g o v gz) (hS231 : ∀ x g o v gz, S 231 x g o v gz → sn231 x g o v gz) (hS244 : ∀ x g o v gz, S 244 x g o v gz → sn244 x g o v gz) (hS245 : ∀ x g o v gz, S 245 x g o v gz → sn245 x g o v gz) (hS246 : ∀ x g o v gz, S 246 x g o v gz → sn246 x g o v gz) {a : List Int} {g : rHp} : ∀ (ρ : Nat → Int) (γ : Nat → rHp), zO 25 S a g q247_6 ρ γ → zGl (fun _ _ _ => True) (sn247 a g) q247_6 ρ γ := by
  intro ρ γ h
  obtain ⟨ha, hg, hr, hf, hm, hc, hl⟩ := h
  have ha : a = [ρ 0, ρ 1, ρ 2, ρ 3, ρ 4, ρ 5, ρ 6, ρ 7, ρ 8, ρ 9, ρ 10, ρ 11, ρ 12, ρ 13, ρ 14, ρ 15, ρ 16, ρ 17, ρ 18, ρ 19, ρ 20, ρ 21, ρ 22, ρ 23, ρ 24] := ha
  subst ha
  subst hg
  obtain ⟨r0, r1, r2, r3, r4, r5, r6, r7, r8, r9, r10, r11, r12, r13, r14, r15, r16, r17, r18, r19, r20, r21, r22, r23, r24, r25, r26, -⟩ := hr
  have r0 : (0 : Int) ≤ ρ 0 ∧ ρ 0 ≤ 50000 := r0
  have r1 : (0 : Int) ≤ ρ 1 ∧ ρ 1 ≤ 1 := r1
  have r2 : (0 : Int) ≤ ρ 2 ∧ ρ 2 ≤ 2 := r2
  have r3 : (0 : Int) ≤ ρ 3 ∧ ρ 3 ≤ 50001 := r3
  have r4 : (0 : Int) ≤ ρ 4 ∧ ρ 4 ≤ 62 := r4
  have r5 : (0 : Int) ≤ ρ 5 ∧ ρ 5 ≤ 60 := r5
  have r6 : (0 : Int) ≤ ρ 6 ∧ ρ 6 ≤ 2000 := r6
  have r7 : (0 : Int) ≤ ρ 7 ∧ ρ 7 ≤ 2000 := r7
  have r8 : ((-2147483648) : Int) ≤ ρ 8 ∧ ρ 8 ≤ 2147483647 := r8
  have r9 : ((-2147483648) : Int) ≤ ρ 9 ∧ ρ 9 ≤ 2147483647 := r9
  have r10 : (0 : Int) ≤ ρ 10 ∧ ρ 10 ≤ 2000 := r10
  have r11 : (0 : Int) ≤ ρ 11 ∧ ρ 11 ≤ 2000 := r11
  have r12 : ((-2147483648) : Int) ≤ ρ 12 ∧ ρ 12 ≤ 2147483647 := r12
  have r13 : (8 : Int) ≤ ρ 13 ∧ ρ 13 ≤ 8 := r13
  have r14 : (0 : Int) ≤ ρ 14 ∧ ρ 14 ≤ 8 := r14
  have r15 : (0 : Int) ≤ ρ 15 ∧ ρ 15 ≤ 4 := r15
  have r16 : ((-1) : Int) ≤ ρ 16 ∧ ρ 16 ≤ 19 := r16
  have r17 : (0 : Int) ≤ ρ 17 ∧ ρ 17 ≤ 4 := r17
  have r18 : ((-1) : Int) ≤ ρ 18 ∧ ρ 18 ≤ 7 := r18
  have r19 : (2 : Int) ≤ ρ 19 ∧ ρ 19 ≤ 2 := r19
  have r20 : (0 : Int) ≤ ρ 20 ∧ ρ 20 ≤ 4 := r20
  have r21 : ((-1) : Int) ≤ ρ 21 ∧ ρ 21 ≤ 19 := r21
  have r22 : ((-1) : Int) ≤ ρ 22 ∧ ρ 22 ≤ 3 := r22
  have r23 : (0 : Int) ≤ ρ 23 ∧ ρ 23 ≤ 7 := r23
  have r24 : ((-1) : Int) ≤ ρ 24 ∧ ρ 24 ≤ 7 := r24
  have r25 : (0 : Int) ≤ ρ 25 ∧ ρ 25 ≤ 60 := r25
  have r26 : (0 : Int) ≤ ρ 26 ∧ ρ 26 ≤ 2000 := r26
  obtain ⟨f0, f1, -⟩ := hf
  have f0 : (0 : Int) ≤ ρ 26 + -ρ 7 := f0
  have f1 : (0 : Int) ≤ -ρ 3 + ((-50001) * ρ 1 + ρ 0) + 100002 := f1
  obtain ⟨m0, m1, m2, m3, m4, m5, m6, m7, m8, m9, m10, m11, m12, m13, m14, m15, m16, m17, m18, m19, m20, m21, m22, m23, m24, m25, m26, m27, m28, -⟩ := hm
  have m0 : γ 0 6 0 0 = ρ 0 := m0
  have m1 : γ 0 6 0 9 = ρ 1 := m1
  have m2 : γ 0 6 0 6 = ρ 2 := m2
  have m3 : γ 0 8 (ρ 2) 1 = ρ 3 := m3
  have m4 : γ 0 6 0 7 = ρ 4 := m4
  have m5 : γ 0 1 0 10 = ρ 5 := m5
  have m6 : γ 0 4 0 7 = ρ 6 := m6
  have m7 : γ 0 5 0 3 = ρ 7 := m7
  have m8 : γ 0 6 0 8 = ρ 8 := m8
  have m9 : γ 0 6 0 10 = ρ 9 := m9
  have m10 : γ 0 6 0 11 = ρ 10 := m10
  have m11 : γ 0 6 0 12 = ρ 11 := m11
  have m12 : γ 0 6 0 13 = ρ 12 := m12
  have m13 : γ 0 9 (ρ 4) 2 = ρ 13 := m13
  have m14 : γ 0 9 (ρ 4) 3 = ρ 14 := m14
  have m15 : γ 0 10 (9 * ρ 4) 5 = ρ 15 := m15
  have m16 : γ 0 10 (9 * ρ 4) 8 = ρ 16 := m16
  have m17 : γ 0 10 (9 * ρ 4) 12 = ρ 17 := m17
  have m18 : γ 0 10 (9 * ρ 4) 14 = ρ 18 := m18
  have m19 : γ 0 10 (9 * ρ 4 + 8) 4 = ρ 19 := m19
  have m20 : γ 0 10 (9 * ρ 4 + 8) 5 = ρ 20 := m20
  have m21 : γ 0 10 (9 * ρ 4 + 8) 8 = ρ 21 := m21
  have m22 : γ 0 10 (9 * ρ 4 + 8) 9 = ρ 22 := m22
  have m23 : γ 0 10 (9 * ρ 4 + 8) 10 = ρ 23 := m23
  have m24 : γ 0 10 (9 * ρ 4 + 8) 11 = ρ 24 := m24
  have m25 : γ 0 40 0 (ρ 5) = ρ 25 := m25
  have m26 : γ 3 8 (ρ 2) 1 = ρ 3 := m26
  have m27 : γ 3 4 0 7 = ρ 6 := m27
  have m28 : γ 3 5 0 3 = ρ 26 := m28
  obtain ⟨⟨⟨-, c1⟩, c2⟩, c3⟩ := hc
  have c1 : ∀ (G : Nat) (k j : Int), ¬ rMdP m0_ G j → γ 1 G k j = γ 0 G k j := c1
  have c2 : ∀ (G : Nat) (k j : Int), ¬ rMdP m132_ G j → γ 2 G k j = γ 1 G k j := c2
  have c3 : ∀ (G : Nat) (k j : Int), ¬ rMdP m138_ G j → γ 3 G k j = γ 2 G k j := c3
  obtain ⟨l0, l1, l2, -⟩ := hl
  have l0 : sn132 [ρ 4, 7] (γ 0) 0 (9 * ρ 4 + 8) (γ 1) := hS132 _ _ _ _ _ l0
  have l1 : sn228 [9 * ρ 4 + 8, ρ 6, ρ 10, ρ 20, ρ 21, ρ 22] (γ 1) 0 0 (γ 2) := hS228 _ _ _ _ _ l1
  have l2 : sn245 [ρ 0, ρ 1, ρ 2, ρ 3, ρ 4, ρ 6, ρ 7, ρ 8, ρ 9, ρ 13, ρ 14, ρ 15, ρ 16, ρ 17, ρ 18] (γ 2) 1 0 (γ 3) := hS245 _ _ _ _ _ l2
  show sn247 [ρ 0, ρ 1, ρ 2, ρ 3, ρ 4, ρ 5, ρ 6, ρ 7, ρ 8, ρ 9, ρ 10, ρ 11, ρ 12, ρ 13, ρ 14, ρ 15, ρ 16, ρ 17, ρ 18, ρ 19, ρ 20, ρ 21, ρ 22, ρ 23, ρ 24] (γ 0) 1 0 (γ 3)
  refine Eq.symm ?_
  show fn247 [] (γ 0) = _
  unfold fn247
  refine (zLet_eq m4).trans ?_
  refine (zLet_eq m13).trans ?_
  refine (zLet_eq m19).trans ?_
  refine (if_neg (show ¬ (7 ≥ ρ 13) by omega)).trans ?_
  refine (zLet_eq (show fn132 [ρ 4, 7] (γ 0) = (0, 9 * ρ 4 + 8, γ 1) from l0.symm)).trans ?_
  refine (zLet_eq (show _ = γ 1 from rfl)).trans ?_
  refine (if_pos (show ρ 19 ≠ 1 by omega)).trans ?_
  refine (if_pos (show 0 ≤ -ρ 19 + 3 by omega)).trans ?_
  refine (if_neg (show ¬ (ρ 19 ≠ 2) by omega)).trans ?_
  refine (zLet_eq (show fn228 [9 * ρ 4 + 8] (γ 1) = (0, 0, γ 2) from l1.symm)).trans ?_
  refine (zLet_eq (show _ = γ 2 from rfl)).trans ?_
  refine (if_neg (show ¬ ((1 : Int) ≤ 0) by omega)).trans ?_
  refine (zLet_eq (show fn245 [] (γ 2) = (1, 0, γ 3) from l2.symm)).trans ?_
  refine (zLet_eq (show _ = γ 3 from rfl)).trans ?_
  refine (if_neg (show ¬ (1 : Nat) = 0 by decide)).trans ?_
  rfl
theorem vn247_7 {S : Nat → zSpc} (hS132 : ∀ x g o v gz, S 132 x g o v gz → sn132 x g o v gz) (hS228 : ∀ x g o v gz, S 228 x g o v gz → sn228 x g o v gz) (hS229 : ∀ x g o v gz, S 229 x g o v gz → sn229 x g o v gz) (hS230 : ∀ x g o v gz, S 230 x g o v gz → sn230 x g o v gz) (hS231 : ∀ x g o v gz, S 231 x g o v gz → sn231 x g o v gz) (hS244 : ∀ x g o v gz, S 244 x g o v gz → sn244 x g o v gz) (hS245 : ∀ x g o v gz, S 245 x g o v gz → sn245 x g o v gz) (hS246 : ∀ x g o v gz, S 246 x g o v gz → sn246 x g o v gz) {a : List Int} {g : rHp} : ∀ (ρ : Nat → Int) (γ : Nat → rHp), zO 25 S a g q247_7 ρ γ → zGl (fun _ _ _ => True) (sn247 a g) q247_7 ρ γ := by
  intro ρ γ h
  obtain ⟨ha, hg, hr, hf, hm, hc, hl⟩ := h
  have ha : a = [ρ 0, ρ 1, ρ 2, ρ 3, ρ 4, ρ 5, ρ 6, ρ 7, ρ 8, ρ 9, ρ 10, ρ 11, ρ 12, ρ 13, ρ 14, ρ 15, ρ 16, ρ 17, ρ 18, ρ 19, ρ 20, ρ 21, ρ 22, ρ 23, ρ 24] := ha
  subst ha
  subst hg
  obtain ⟨r0, r1, r2, r3, r4, r5, r6, r7, r8, r9, r10, r11, r12, r13, r14, r15, r16, r17, r18, r19, r20, r21, r22, r23, r24, r25, -⟩ := hr
  have r0 : (0 : Int) ≤ ρ 0 ∧ ρ 0 ≤ 50000 := r0
  have r1 : (0 : Int) ≤ ρ 1 ∧ ρ 1 ≤ 2 := r1
  have r2 : (0 : Int) ≤ ρ 2 ∧ ρ 2 ≤ 2 := r2
  have r3 : (0 : Int) ≤ ρ 3 ∧ ρ 3 ≤ 50001 := r3
  have r4 : (0 : Int) ≤ ρ 4 ∧ ρ 4 ≤ 62 := r4
  have r5 : (0 : Int) ≤ ρ 5 ∧ ρ 5 ≤ 60 := r5
  have r6 : (0 : Int) ≤ ρ 6 ∧ ρ 6 ≤ 2000 := r6
  have r7 : (0 : Int) ≤ ρ 7 ∧ ρ 7 ≤ 2000 := r7
  have r8 : ((-2147483648) : Int) ≤ ρ 8 ∧ ρ 8 ≤ 2147483647 := r8
  have r9 : ((-2147483648) : Int) ≤ ρ 9 ∧ ρ 9 ≤ 2147483647 := r9
  have r10 : (0 : Int) ≤ ρ 10 ∧ ρ 10 ≤ 2000 := r10
  have r11 : (0 : Int) ≤ ρ 11 ∧ ρ 11 ≤ 2000 := r11
  have r12 : ((-2147483648) : Int) ≤ ρ 12 ∧ ρ 12 ≤ 2147483647 := r12
  have r13 : (8 : Int) ≤ ρ 13 ∧ ρ 13 ≤ 8 := r13
  have r14 : (0 : Int) ≤ ρ 14 ∧ ρ 14 ≤ 8 := r14
  have r15 : (0 : Int) ≤ ρ 15 ∧ ρ 15 ≤ 4 := r15
  have r16 : ((-1) : Int) ≤ ρ 16 ∧ ρ 16 ≤ 19 := r16
  have r17 : (0 : Int) ≤ ρ 17 ∧ ρ 17 ≤ 4 := r17
  have r18 : ((-1) : Int) ≤ ρ 18 ∧ ρ 18 ≤ 7 := r18
  have r19 : (2 : Int) ≤ ρ 19 ∧ ρ 19 ≤ 2 := r19
  have r20 : (0 : Int) ≤ ρ 20 ∧ ρ 20 ≤ 4 := r20
  have r21 : ((-1) : Int) ≤ ρ 21 ∧ ρ 21 ≤ 19 := r21
  have r22 : ((-1) : Int) ≤ ρ 22 ∧ ρ 22 ≤ 3 := r22
  have r23 : (0 : Int) ≤ ρ 23 ∧ ρ 23 ≤ 7 := r23
  have r24 : ((-1) : Int) ≤ ρ 24 ∧ ρ 24 ≤ 7 := r24
  have r25 : (0 : Int) ≤ ρ 25 ∧ ρ 25 ≤ 60 := r25
  obtain ⟨f0, -⟩ := hf
  have f0 : (0 : Int) ≤ -ρ 3 + ((-50001) * ρ 1 + ρ 0) + 100002 := f0
  obtain ⟨m0, m1, m2, m3, m4, m5, m6, m7, m8, m9, m10, m11, m12, m13, m14, m15, m16, m17, m18, m19, m20, m21, m22, m23, m24, m25, -⟩ := hm
  have m0 : γ 0 6 0 0 = ρ 0 := m0
  have m1 : γ 0 6 0 9 = ρ 1 := m1
  have m2 : γ 0 6 0 6 = ρ 2 := m2
  have m3 : γ 0 8 (ρ 2) 1 = ρ 3 := m3
  have m4 : γ 0 6 0 7 = ρ 4 := m4
  have m5 : γ 0 1 0 10 = ρ 5 := m5
  have m6 : γ 0 4 0 7 = ρ 6 := m6
  have m7 : γ 0 5 0 3 = ρ 7 := m7
  have m8 : γ 0 6 0 8 = ρ 8 := m8
  have m9 : γ 0 6 0 10 = ρ 9 := m9
  have m10 : γ 0 6 0 11 = ρ 10 := m10
  have m11 : γ 0 6 0 12 = ρ 11 := m11
  have m12 : γ 0 6 0 13 = ρ 12 := m12
  have m13 : γ 0 9 (ρ 4) 2 = ρ 13 := m13
  have m14 : γ 0 9 (ρ 4) 3 = ρ 14 := m14
  have m15 : γ 0 10 (9 * ρ 4) 5 = ρ 15 := m15
  have m16 : γ 0 10 (9 * ρ 4) 8 = ρ 16 := m16
  have m17 : γ 0 10 (9 * ρ 4) 12 = ρ 17 := m17
  have m18 : γ 0 10 (9 * ρ 4) 14 = ρ 18 := m18
  have m19 : γ 0 10 (9 * ρ 4 + 8) 4 = ρ 19 := m19
  have m20 : γ 0 10 (9 * ρ 4 + 8) 5 = ρ 20 := m20
  have m21 : γ 0 10 (9 * ρ 4 + 8) 8 = ρ 21 := m21
  have m22 : γ 0 10 (9 * ρ 4 + 8) 9 = ρ 22 := m22
  have m23 : γ 0 10 (9 * ρ 4 + 8) 10 = ρ 23 := m23
  have m24 : γ 0 10 (9 * ρ 4 + 8) 11 = ρ 24 := m24
  have m25 : γ 0 40 0 (ρ 5) = ρ 25 := m25
  obtain ⟨⟨-, c1⟩, c2⟩ := hc
  have c1 : ∀ (G : Nat) (k j : Int), ¬ rMdP m0_ G j → γ 1 G k j = γ 0 G k j := c1
  have c2 : ∀ (G : Nat) (k j : Int), ¬ rMdP m132_ G j → γ 2 G k j = γ 1 G k j := c2
  obtain ⟨l0, l1, -⟩ := hl
  have l0 : sn132 [ρ 4, 7] (γ 0) 0 (9 * ρ 4 + 8) (γ 1) := hS132 _ _ _ _ _ l0
  have l1 : sn228 [9 * ρ 4 + 8, ρ 6, ρ 10, ρ 20, ρ 21, ρ 22] (γ 1) 0 1 (γ 2) := hS228 _ _ _ _ _ l1
  show sn247 [ρ 0, ρ 1, ρ 2, ρ 3, ρ 4, ρ 5, ρ 6, ρ 7, ρ 8, ρ 9, ρ 10, ρ 11, ρ 12, ρ 13, ρ 14, ρ 15, ρ 16, ρ 17, ρ 18, ρ 19, ρ 20, ρ 21, ρ 22, ρ 23, ρ 24] (γ 0) 0 0 (γ 2)
  refine Eq.symm ?_
  show fn247 [] (γ 0) = _
  unfold fn247
  refine (zLet_eq m4).trans ?_
  refine (zLet_eq m13).trans ?_
  refine (zLet_eq m19).trans ?_
  refine (if_neg (show ¬ (7 ≥ ρ 13) by omega)).trans ?_
  refine (zLet_eq (show fn132 [ρ 4, 7] (γ 0) = (0, 9 * ρ 4 + 8, γ 1) from l0.symm)).trans ?_
  refine (zLet_eq (show _ = γ 1 from rfl)).trans ?_
  refine (if_pos (show ρ 19 ≠ 1 by omega)).trans ?_
  refine (if_pos (show 0 ≤ -ρ 19 + 3 by omega)).trans ?_
  refine (if_neg (show ¬ (ρ 19 ≠ 2) by omega)).trans ?_
  refine (zLet_eq (show fn228 [9 * ρ 4 + 8] (γ 1) = (0, 1, γ 2) from l1.symm)).trans ?_
  refine (zLet_eq (show _ = γ 2 from rfl)).trans ?_
  refine (if_pos (show (1 : Int) ≤ 1 by omega)).trans ?_
  rfl
theorem vn247_8 {S : Nat → zSpc} (hS132 : ∀ x g o v gz, S 132 x g o v gz → sn132 x g o v gz) (hS228 : ∀ x g o v gz, S 228 x g o v gz → sn228 x g o v gz) (hS229 : ∀ x g o v gz, S 229 x g o v gz → sn229 x g o v gz) (hS230 : ∀ x g o v gz, S 230 x g o v gz → sn230 x g o v gz) (hS231 : ∀ x g o v gz, S 231 x g o v gz → sn231 x g o v gz) (hS244 : ∀ x g o v gz, S 244 x g o v gz → sn244 x g o v gz) (hS245 : ∀ x g o v gz, S 245 x g o v gz → sn245 x g o v gz) (hS246 : ∀ x g o v gz, S 246 x g o v gz → sn246 x g o v gz) {a : List Int} {g : rHp} : ∀ (ρ : Nat → Int) (γ : Nat → rHp), zO 25 S a g q247_8 ρ γ → zGl (fun _ _ _ => True) (sn247 a g) q247_8 ρ γ := by
  intro ρ γ h
  obtain ⟨ha, hg, hr, hf, hm, hc, hl⟩ := h
  have ha : a = [ρ 0, ρ 1, ρ 2, ρ 3, ρ 4, ρ 5, ρ 6, ρ 7, ρ 8, ρ 9, ρ 10, ρ 11, ρ 12, ρ 13, ρ 14, ρ 15, ρ 16, ρ 17, ρ 18, ρ 19, ρ 20, ρ 21, ρ 22, ρ 23, ρ 24] := ha
  subst ha
  subst hg
  obtain ⟨r0, r1, r2, r3, r4, r5, r6, r7, r8, r9, r10, r11, r12, r13, r14, r15, r16, r17, r18, r19, r20, r21, r22, r23, r24, r25, -⟩ := hr
  have r0 : (0 : Int) ≤ ρ 0 ∧ ρ 0 ≤ 50000 := r0
  have r1 : (0 : Int) ≤ ρ 1 ∧ ρ 1 ≤ 2 := r1
  have r2 : (0 : Int) ≤ ρ 2 ∧ ρ 2 ≤ 2 := r2
  have r3 : (0 : Int) ≤ ρ 3 ∧ ρ 3 ≤ 50001 := r3
  have r4 : (0 : Int) ≤ ρ 4 ∧ ρ 4 ≤ 62 := r4
  have r5 : (0 : Int) ≤ ρ 5 ∧ ρ 5 ≤ 60 := r5
  have r6 : (0 : Int) ≤ ρ 6 ∧ ρ 6 ≤ 2000 := r6
  have r7 : (0 : Int) ≤ ρ 7 ∧ ρ 7 ≤ 2000 := r7
  have r8 : ((-2147483648) : Int) ≤ ρ 8 ∧ ρ 8 ≤ 2147483647 := r8
  have r9 : ((-2147483648) : Int) ≤ ρ 9 ∧ ρ 9 ≤ 2147483647 := r9
  have r10 : (0 : Int) ≤ ρ 10 ∧ ρ 10 ≤ 2000 := r10
  have r11 : (0 : Int) ≤ ρ 11 ∧ ρ 11 ≤ 2000 := r11
  have r12 : ((-2147483648) : Int) ≤ ρ 12 ∧ ρ 12 ≤ 2147483647 := r12
  have r13 : (8 : Int) ≤ ρ 13 ∧ ρ 13 ≤ 8 := r13
  have r14 : (0 : Int) ≤ ρ 14 ∧ ρ 14 ≤ 8 := r14
  have r15 : (0 : Int) ≤ ρ 15 ∧ ρ 15 ≤ 4 := r15
  have r16 : ((-1) : Int) ≤ ρ 16 ∧ ρ 16 ≤ 19 := r16
  have r17 : (0 : Int) ≤ ρ 17 ∧ ρ 17 ≤ 4 := r17
  have r18 : ((-1) : Int) ≤ ρ 18 ∧ ρ 18 ≤ 7 := r18
  have r19 : (4 : Int) ≤ ρ 19 ∧ ρ 19 ≤ 5 := r19
  have r20 : (0 : Int) ≤ ρ 20 ∧ ρ 20 ≤ 4 := r20
  have r21 : ((-1) : Int) ≤ ρ 21 ∧ ρ 21 ≤ 19 := r21
  have r22 : ((-1) : Int) ≤ ρ 22 ∧ ρ 22 ≤ 3 := r22
  have r23 : (0 : Int) ≤ ρ 23 ∧ ρ 23 ≤ 7 := r23
  have r24 : ((-1) : Int) ≤ ρ 24 ∧ ρ 24 ≤ 7 := r24
  have r25 : (0 : Int) ≤ ρ 25 ∧ ρ 25 ≤ 60 := r25
  obtain ⟨f0, -⟩ := hf
  have f0 : (0 : Int) ≤ -ρ 3 + ((-50001) * ρ 1 + ρ 0) + 100002 := f0
  obtain ⟨m0, m1, m2, m3, m4, m5, m6, m7, m8, m9, m10, m11, m12, m13, m14, m15, m16, m17, m18, m19, m20, m21, m22, m23, m24, m25, -⟩ := hm
  have m0 : γ 0 6 0 0 = ρ 0 := m0
  have m1 : γ 0 6 0 9 = ρ 1 := m1
  have m2 : γ 0 6 0 6 = ρ 2 := m2
  have m3 : γ 0 8 (ρ 2) 1 = ρ 3 := m3
  have m4 : γ 0 6 0 7 = ρ 4 := m4
  have m5 : γ 0 1 0 10 = ρ 5 := m5
  have m6 : γ 0 4 0 7 = ρ 6 := m6
  have m7 : γ 0 5 0 3 = ρ 7 := m7
  have m8 : γ 0 6 0 8 = ρ 8 := m8
  have m9 : γ 0 6 0 10 = ρ 9 := m9
  have m10 : γ 0 6 0 11 = ρ 10 := m10
  have m11 : γ 0 6 0 12 = ρ 11 := m11
  have m12 : γ 0 6 0 13 = ρ 12 := m12
  have m13 : γ 0 9 (ρ 4) 2 = ρ 13 := m13
  have m14 : γ 0 9 (ρ 4) 3 = ρ 14 := m14
  have m15 : γ 0 10 (9 * ρ 4) 5 = ρ 15 := m15
  have m16 : γ 0 10 (9 * ρ 4) 8 = ρ 16 := m16
  have m17 : γ 0 10 (9 * ρ 4) 12 = ρ 17 := m17
  have m18 : γ 0 10 (9 * ρ 4) 14 = ρ 18 := m18
  have m19 : γ 0 10 (9 * ρ 4 + 8) 4 = ρ 19 := m19
  have m20 : γ 0 10 (9 * ρ 4 + 8) 5 = ρ 20 := m20
  have m21 : γ 0 10 (9 * ρ 4 + 8) 8 = ρ 21 := m21
  have m22 : γ 0 10 (9 * ρ 4 + 8) 9 = ρ 22 := m22
  have m23 : γ 0 10 (9 * ρ 4 + 8) 10 = ρ 23 := m23
  have m24 : γ 0 10 (9 * ρ 4 + 8) 11 = ρ 24 := m24
  have m25 : γ 0 40 0 (ρ 5) = ρ 25 := m25
  obtain ⟨⟨-, c1⟩, c2⟩ := hc
  have c1 : ∀ (G : Nat) (k j : Int), ¬ rMdP m0_ G j → γ 1 G k j = γ 0 G k j := c1
  have c2 : ∀ (G : Nat) (k j : Int), ¬ rMdP m0_ G j → γ 2 G k j = γ 1 G k j := c2
  obtain ⟨l0, l1, -⟩ := hl
  have l0 : sn132 [ρ 4, 7] (γ 0) 0 (9 * ρ 4 + 8) (γ 1) := hS132 _ _ _ _ _ l0
  have l1 : sn229 [9 * ρ 4 + 8, ρ 19] (γ 1) 0 0 (γ 2) := hS229 _ _ _ _ _ l1
  show sn247 [ρ 0, ρ 1, ρ 2, ρ 3, ρ 4, ρ 5, ρ 6, ρ 7, ρ 8, ρ 9, ρ 10, ρ 11, ρ 12, ρ 13, ρ 14, ρ 15, ρ 16, ρ 17, ρ 18, ρ 19, ρ 20, ρ 21, ρ 22, ρ 23, ρ 24] (γ 0) 0 0 (γ 2)
  refine Eq.symm ?_
  show fn247 [] (γ 0) = _
  unfold fn247
  refine (zLet_eq m4).trans ?_
  refine (zLet_eq m13).trans ?_
  refine (zLet_eq m19).trans ?_
  refine (if_neg (show ¬ (7 ≥ ρ 13) by omega)).trans ?_
  refine (zLet_eq (show fn132 [ρ 4, 7] (γ 0) = (0, 9 * ρ 4 + 8, γ 1) from l0.symm)).trans ?_
  refine (zLet_eq (show _ = γ 1 from rfl)).trans ?_
  refine (if_pos (show ρ 19 ≠ 1 by omega)).trans ?_
  refine (if_neg (show ¬ (0 ≤ -ρ 19 + 3) by omega)).trans ?_
  refine (if_pos (show 0 ≤ -ρ 19 + 5 by omega)).trans ?_
  refine (zLet_eq (show fn229 [9 * ρ 4 + 8] (γ 1) = (0, 0, γ 2) from l1.symm)).trans ?_
  refine (zLet_eq (show _ = γ 2 from rfl)).trans ?_
  refine (if_neg (show ¬ ((1 : Int) ≤ 0) by omega)).trans ?_
  rfl
theorem vn247_9 {S : Nat → zSpc} (hS132 : ∀ x g o v gz, S 132 x g o v gz → sn132 x g o v gz) (hS228 : ∀ x g o v gz, S 228 x g o v gz → sn228 x g o v gz) (hS229 : ∀ x g o v gz, S 229 x g o v gz → sn229 x g o v gz) (hS230 : ∀ x g o v gz, S 230 x g o v gz → sn230 x g o v gz) (hS231 : ∀ x g o v gz, S 231 x g o v gz → sn231 x g o v gz) (hS244 : ∀ x g o v gz, S 244 x g o v gz → sn244 x g o v gz) (hS245 : ∀ x g o v gz, S 245 x g o v gz → sn245 x g o v gz) (hS246 : ∀ x g o v gz, S 246 x g o v gz → sn246 x g o v gz) {a : List Int} {g : rHp} : ∀ (ρ : Nat → Int) (γ : Nat → rHp), zO 25 S a g q247_9 ρ γ → zGl (fun _ _ _ => True) (sn247 a g) q247_9 ρ γ := by
  intro ρ γ h
  obtain ⟨ha, hg, hr, hf, hm, hc, hl⟩ := h
  have ha : a = [ρ 0, ρ 1, ρ 2, ρ 3, ρ 4, ρ 5, ρ 6, ρ 7, ρ 8, ρ 9, ρ 10, ρ 11, ρ 12, ρ 13, ρ 14, ρ 15, ρ 16, ρ 17, ρ 18, ρ 19, ρ 20, ρ 21, ρ 22, ρ 23, ρ 24] := ha
  subst ha
  subst hg
  obtain ⟨r0, r1, r2, r3, r4, r5, r6, r7, r8, r9, r10, r11, r12, r13, r14, r15, r16, r17, r18, r19, r20, r21, r22, r23, r24, r25, r26, r27, r28, -⟩ := hr
  have r0 : (0 : Int) ≤ ρ 0 ∧ ρ 0 ≤ 50000 := r0
  have r1 : (0 : Int) ≤ ρ 1 ∧ ρ 1 ≤ 2 := r1
  have r2 : (0 : Int) ≤ ρ 2 ∧ ρ 2 ≤ 2 := r2
  have r3 : (0 : Int) ≤ ρ 3 ∧ ρ 3 ≤ 50001 := r3
  have r4 : (0 : Int) ≤ ρ 4 ∧ ρ 4 ≤ 62 := r4
  have r5 : (0 : Int) ≤ ρ 5 ∧ ρ 5 ≤ 60 := r5
  have r6 : (0 : Int) ≤ ρ 6 ∧ ρ 6 ≤ 2000 := r6
  have r7 : (0 : Int) ≤ ρ 7 ∧ ρ 7 ≤ 2000 := r7
  have r8 : ((-2147483648) : Int) ≤ ρ 8 ∧ ρ 8 ≤ 2147483647 := r8
  have r9 : ((-2147483648) : Int) ≤ ρ 9 ∧ ρ 9 ≤ 2147483647 := r9
  have r10 : (0 : Int) ≤ ρ 10 ∧ ρ 10 ≤ 2000 := r10
  have r11 : (0 : Int) ≤ ρ 11 ∧ ρ 11 ≤ 2000 := r11
  have r12 : ((-2147483648) : Int) ≤ ρ 12 ∧ ρ 12 ≤ 2147483647 := r12
  have r13 : (8 : Int) ≤ ρ 13 ∧ ρ 13 ≤ 8 := r13
  have r14 : (0 : Int) ≤ ρ 14 ∧ ρ 14 ≤ 8 := r14
  have r15 : (0 : Int) ≤ ρ 15 ∧ ρ 15 ≤ 4 := r15
  have r16 : ((-1) : Int) ≤ ρ 16 ∧ ρ 16 ≤ 19 := r16
  have r17 : (0 : Int) ≤ ρ 17 ∧ ρ 17 ≤ 4 := r17
  have r18 : ((-1) : Int) ≤ ρ 18 ∧ ρ 18 ≤ 7 := r18
  have r19 : (4 : Int) ≤ ρ 19 ∧ ρ 19 ≤ 5 := r19
  have r20 : (0 : Int) ≤ ρ 20 ∧ ρ 20 ≤ 4 := r20
  have r21 : ((-1) : Int) ≤ ρ 21 ∧ ρ 21 ≤ 19 := r21
  have r22 : ((-1) : Int) ≤ ρ 22 ∧ ρ 22 ≤ 3 := r22
  have r23 : (0 : Int) ≤ ρ 23 ∧ ρ 23 ≤ 7 := r23
  have r24 : ((-1) : Int) ≤ ρ 24 ∧ ρ 24 ≤ 7 := r24
  have r25 : (0 : Int) ≤ ρ 25 ∧ ρ 25 ≤ 60 := r25
  have r26 : (0 : Int) ≤ ρ 26 ∧ ρ 26 ≤ 50001 := r26
  have r27 : (0 : Int) ≤ ρ 27 ∧ ρ 27 ≤ 2000 := r27
  have r28 : (0 : Int) ≤ ρ 28 ∧ ρ 28 ≤ 2000 := r28
  obtain ⟨f0, f1, f2, f3, f4, -⟩ := hf
  have f0 : (0 : Int) ≤ -ρ 3 + ((-50001) * ρ 1 + ρ 0) + 100002 := f0
  have f1 : (0 : Int) ≤ ρ 26 + -ρ 3 := f1
  have f2 : (0 : Int) ≤ ρ 27 + -ρ 6 := f2
  have f3 : (0 : Int) ≤ ρ 28 + -ρ 7 := f3
  have f4 : (0 : Int) ≤ -ρ 26 + ρ 3 + 1 := f4
  obtain ⟨m0, m1, m2, m3, m4, m5, m6, m7, m8, m9, m10, m11, m12, m13, m14, m15, m16, m17, m18, m19, m20, m21, m22, m23, m24, m25, m26, m27, m28, -⟩ := hm
  have m0 : γ 0 6 0 0 = ρ 0 := m0
  have m1 : γ 0 6 0 9 = ρ 1 := m1
  have m2 : γ 0 6 0 6 = ρ 2 := m2
  have m3 : γ 0 8 (ρ 2) 1 = ρ 3 := m3
  have m4 : γ 0 6 0 7 = ρ 4 := m4
  have m5 : γ 0 1 0 10 = ρ 5 := m5
  have m6 : γ 0 4 0 7 = ρ 6 := m6
  have m7 : γ 0 5 0 3 = ρ 7 := m7
  have m8 : γ 0 6 0 8 = ρ 8 := m8
  have m9 : γ 0 6 0 10 = ρ 9 := m9
  have m10 : γ 0 6 0 11 = ρ 10 := m10
  have m11 : γ 0 6 0 12 = ρ 11 := m11
  have m12 : γ 0 6 0 13 = ρ 12 := m12
  have m13 : γ 0 9 (ρ 4) 2 = ρ 13 := m13
  have m14 : γ 0 9 (ρ 4) 3 = ρ 14 := m14
  have m15 : γ 0 10 (9 * ρ 4) 5 = ρ 15 := m15
  have m16 : γ 0 10 (9 * ρ 4) 8 = ρ 16 := m16
  have m17 : γ 0 10 (9 * ρ 4) 12 = ρ 17 := m17
  have m18 : γ 0 10 (9 * ρ 4) 14 = ρ 18 := m18
  have m19 : γ 0 10 (9 * ρ 4 + 8) 4 = ρ 19 := m19
  have m20 : γ 0 10 (9 * ρ 4 + 8) 5 = ρ 20 := m20
  have m21 : γ 0 10 (9 * ρ 4 + 8) 8 = ρ 21 := m21
  have m22 : γ 0 10 (9 * ρ 4 + 8) 9 = ρ 22 := m22
  have m23 : γ 0 10 (9 * ρ 4 + 8) 10 = ρ 23 := m23
  have m24 : γ 0 10 (9 * ρ 4 + 8) 11 = ρ 24 := m24
  have m25 : γ 0 40 0 (ρ 5) = ρ 25 := m25
  have m26 : γ 3 8 (ρ 2) 1 = ρ 26 := m26
  have m27 : γ 3 4 0 7 = ρ 27 := m27
  have m28 : γ 3 5 0 3 = ρ 28 := m28
  obtain ⟨⟨⟨-, c1⟩, c2⟩, c3⟩ := hc
  have c1 : ∀ (G : Nat) (k j : Int), ¬ rMdP m0_ G j → γ 1 G k j = γ 0 G k j := c1
  have c2 : ∀ (G : Nat) (k j : Int), ¬ rMdP m0_ G j → γ 2 G k j = γ 1 G k j := c2
  have c3 : ∀ (G : Nat) (k j : Int), ¬ rMdP m138_ G j → γ 3 G k j = γ 2 G k j := c3
  obtain ⟨l0, l1, l2, -⟩ := hl
  have l0 : sn132 [ρ 4, 7] (γ 0) 0 (9 * ρ 4 + 8) (γ 1) := hS132 _ _ _ _ _ l0
  have l1 : sn229 [9 * ρ 4 + 8, ρ 19] (γ 1) 0 1 (γ 2) := hS229 _ _ _ _ _ l1
  have l2 : sn245 [ρ 0, ρ 1, ρ 2, ρ 3, ρ 4, ρ 6, ρ 7, ρ 8, ρ 9, ρ 13, ρ 14, ρ 15, ρ 16, ρ 17, ρ 18] (γ 2) 0 0 (γ 3) := hS245 _ _ _ _ _ l2
  show sn247 [ρ 0, ρ 1, ρ 2, ρ 3, ρ 4, ρ 5, ρ 6, ρ 7, ρ 8, ρ 9, ρ 10, ρ 11, ρ 12, ρ 13, ρ 14, ρ 15, ρ 16, ρ 17, ρ 18, ρ 19, ρ 20, ρ 21, ρ 22, ρ 23, ρ 24] (γ 0) 0 0 (γ 3)
  refine Eq.symm ?_
  show fn247 [] (γ 0) = _
  unfold fn247
  refine (zLet_eq m4).trans ?_
  refine (zLet_eq m13).trans ?_
  refine (zLet_eq m19).trans ?_
  refine (if_neg (show ¬ (7 ≥ ρ 13) by omega)).trans ?_
  refine (zLet_eq (show fn132 [ρ 4, 7] (γ 0) = (0, 9 * ρ 4 + 8, γ 1) from l0.symm)).trans ?_
  refine (zLet_eq (show _ = γ 1 from rfl)).trans ?_
  refine (if_pos (show ρ 19 ≠ 1 by omega)).trans ?_
  refine (if_neg (show ¬ (0 ≤ -ρ 19 + 3) by omega)).trans ?_
  refine (if_pos (show 0 ≤ -ρ 19 + 5 by omega)).trans ?_
  refine (zLet_eq (show fn229 [9 * ρ 4 + 8] (γ 1) = (0, 1, γ 2) from l1.symm)).trans ?_
  refine (zLet_eq (show _ = γ 2 from rfl)).trans ?_
  refine (if_pos (show (1 : Int) ≤ 1 by omega)).trans ?_
  refine (zLet_eq (show fn245 [] (γ 2) = (0, 0, γ 3) from l2.symm)).trans ?_
  refine (zLet_eq (show _ = γ 3 from rfl)).trans ?_
  refine (if_pos (show (0 : Nat) = 0 by decide)).trans ?_
  rfl
theorem vn247_10 {S : Nat → zSpc} (hS132 : ∀ x g o v gz, S 132 x g o v gz → sn132 x g o v gz) (hS228 : ∀ x g o v gz, S 228 x g o v gz → sn228 x g o v gz) (hS229 : ∀ x g o v gz, S 229 x g o v gz → sn229 x g o v gz) (hS230 : ∀ x g o v gz, S 230 x g o v gz → sn230 x g o v gz) (hS231 : ∀ x g o v gz, S 231 x g o v gz → sn231 x g o v gz) (hS244 : ∀ x g o v gz, S 244 x g o v gz → sn244 x g o v gz) (hS245 : ∀ x g o v gz, S 245 x g o v gz → sn245 x g o v gz) (hS246 : ∀ x g o v gz, S 246 x g o v gz → sn246 x g o v gz) {a : List Int} {g : rHp} : ∀ (ρ : Nat → Int) (γ : Nat → rHp), zO 25 S a g q247_10 ρ γ → zGl (fun _ _ _ => True) (sn247 a g) q247_10 ρ γ := by
  intro ρ γ h
  obtain ⟨ha, hg, hr, hf, hm, hc, hl⟩ := h
  have ha : a = [ρ 0, ρ 1, ρ 2, ρ 3, ρ 4, ρ 5, ρ 6, ρ 7, ρ 8, ρ 9, ρ 10, ρ 11, ρ 12, ρ 13, ρ 14, ρ 15, ρ 16, ρ 17, ρ 18, ρ 19, ρ 20, ρ 21, ρ 22, ρ 23, ρ 24] := ha
  subst ha
  subst hg
  obtain ⟨r0, r1, r2, r3, r4, r5, r6, r7, r8, r9, r10, r11, r12, r13, r14, r15, r16, r17, r18, r19, r20, r21, r22, r23, r24, r25, r26, -⟩ := hr
  have r0 : (0 : Int) ≤ ρ 0 ∧ ρ 0 ≤ 50000 := r0
  have r1 : (0 : Int) ≤ ρ 1 ∧ ρ 1 ≤ 1 := r1
  have r2 : (0 : Int) ≤ ρ 2 ∧ ρ 2 ≤ 2 := r2
  have r3 : (0 : Int) ≤ ρ 3 ∧ ρ 3 ≤ 50001 := r3
  have r4 : (0 : Int) ≤ ρ 4 ∧ ρ 4 ≤ 62 := r4
  have r5 : (0 : Int) ≤ ρ 5 ∧ ρ 5 ≤ 60 := r5
  have r6 : (0 : Int) ≤ ρ 6 ∧ ρ 6 ≤ 2000 := r6
  have r7 : (0 : Int) ≤ ρ 7 ∧ ρ 7 ≤ 2000 := r7
  have r8 : ((-2147483648) : Int) ≤ ρ 8 ∧ ρ 8 ≤ 2147483647 := r8
  have r9 : ((-2147483648) : Int) ≤ ρ 9 ∧ ρ 9 ≤ 2147483647 := r9
  have r10 : (0 : Int) ≤ ρ 10 ∧ ρ 10 ≤ 2000 := r10
  have r11 : (0 : Int) ≤ ρ 11 ∧ ρ 11 ≤ 2000 := r11
  have r12 : ((-2147483648) : Int) ≤ ρ 12 ∧ ρ 12 ≤ 2147483647 := r12
  have r13 : (8 : Int) ≤ ρ 13 ∧ ρ 13 ≤ 8 := r13
  have r14 : (0 : Int) ≤ ρ 14 ∧ ρ 14 ≤ 8 := r14
  have r15 : (0 : Int) ≤ ρ 15 ∧ ρ 15 ≤ 4 := r15
  have r16 : ((-1) : Int) ≤ ρ 16 ∧ ρ 16 ≤ 19 := r16
  have r17 : (0 : Int) ≤ ρ 17 ∧ ρ 17 ≤ 4 := r17
  have r18 : ((-1) : Int) ≤ ρ 18 ∧ ρ 18 ≤ 7 := r18
  have r19 : (4 : Int) ≤ ρ 19 ∧ ρ 19 ≤ 5 := r19
  have r20 : (0 : Int) ≤ ρ 20 ∧ ρ 20 ≤ 4 := r20
  have r21 : ((-1) : Int) ≤ ρ 21 ∧ ρ 21 ≤ 19 := r21
  have r22 : ((-1) : Int) ≤ ρ 22 ∧ ρ 22 ≤ 3 := r22
  have r23 : (0 : Int) ≤ ρ 23 ∧ ρ 23 ≤ 7 := r23
  have r24 : ((-1) : Int) ≤ ρ 24 ∧ ρ 24 ≤ 7 := r24
  have r25 : (0 : Int) ≤ ρ 25 ∧ ρ 25 ≤ 60 := r25
  have r26 : (0 : Int) ≤ ρ 26 ∧ ρ 26 ≤ 2000 := r26
  obtain ⟨f0, f1, -⟩ := hf
  have f0 : (0 : Int) ≤ ρ 26 + -ρ 7 := f0
  have f1 : (0 : Int) ≤ -ρ 3 + ((-50001) * ρ 1 + ρ 0) + 100002 := f1
  obtain ⟨m0, m1, m2, m3, m4, m5, m6, m7, m8, m9, m10, m11, m12, m13, m14, m15, m16, m17, m18, m19, m20, m21, m22, m23, m24, m25, m26, m27, m28, -⟩ := hm
  have m0 : γ 0 6 0 0 = ρ 0 := m0
  have m1 : γ 0 6 0 9 = ρ 1 := m1
  have m2 : γ 0 6 0 6 = ρ 2 := m2
  have m3 : γ 0 8 (ρ 2) 1 = ρ 3 := m3
  have m4 : γ 0 6 0 7 = ρ 4 := m4
  have m5 : γ 0 1 0 10 = ρ 5 := m5
  have m6 : γ 0 4 0 7 = ρ 6 := m6
  have m7 : γ 0 5 0 3 = ρ 7 := m7
  have m8 : γ 0 6 0 8 = ρ 8 := m8
  have m9 : γ 0 6 0 10 = ρ 9 := m9
  have m10 : γ 0 6 0 11 = ρ 10 := m10
  have m11 : γ 0 6 0 12 = ρ 11 := m11
  have m12 : γ 0 6 0 13 = ρ 12 := m12
  have m13 : γ 0 9 (ρ 4) 2 = ρ 13 := m13
  have m14 : γ 0 9 (ρ 4) 3 = ρ 14 := m14
  have m15 : γ 0 10 (9 * ρ 4) 5 = ρ 15 := m15
  have m16 : γ 0 10 (9 * ρ 4) 8 = ρ 16 := m16
  have m17 : γ 0 10 (9 * ρ 4) 12 = ρ 17 := m17
  have m18 : γ 0 10 (9 * ρ 4) 14 = ρ 18 := m18
  have m19 : γ 0 10 (9 * ρ 4 + 8) 4 = ρ 19 := m19
  have m20 : γ 0 10 (9 * ρ 4 + 8) 5 = ρ 20 := m20
  have m21 : γ 0 10 (9 * ρ 4 + 8) 8 = ρ 21 := m21
  have m22 : γ 0 10 (9 * ρ 4 + 8) 9 = ρ 22 := m22
  have m23 : γ 0 10 (9 * ρ 4 + 8) 10 = ρ 23 := m23
  have m24 : γ 0 10 (9 * ρ 4 + 8) 11 = ρ 24 := m24
  have m25 : γ 0 40 0 (ρ 5) = ρ 25 := m25
  have m26 : γ 3 8 (ρ 2) 1 = ρ 3 := m26
  have m27 : γ 3 4 0 7 = ρ 6 := m27
  have m28 : γ 3 5 0 3 = ρ 26 := m28
  obtain ⟨⟨⟨-, c1⟩, c2⟩, c3⟩ := hc
  have c1 : ∀ (G : Nat) (k j : Int), ¬ rMdP m0_ G j → γ 1 G k j = γ 0 G k j := c1
  have c2 : ∀ (G : Nat) (k j : Int), ¬ rMdP m0_ G j → γ 2 G k j = γ 1 G k j := c2
  have c3 : ∀ (G : Nat) (k j : Int), ¬ rMdP m138_ G j → γ 3 G k j = γ 2 G k j := c3
  obtain ⟨l0, l1, l2, -⟩ := hl
  have l0 : sn132 [ρ 4, 7] (γ 0) 0 (9 * ρ 4 + 8) (γ 1) := hS132 _ _ _ _ _ l0
  have l1 : sn229 [9 * ρ 4 + 8, ρ 19] (γ 1) 0 1 (γ 2) := hS229 _ _ _ _ _ l1
  have l2 : sn245 [ρ 0, ρ 1, ρ 2, ρ 3, ρ 4, ρ 6, ρ 7, ρ 8, ρ 9, ρ 13, ρ 14, ρ 15, ρ 16, ρ 17, ρ 18] (γ 2) 1 0 (γ 3) := hS245 _ _ _ _ _ l2
  show sn247 [ρ 0, ρ 1, ρ 2, ρ 3, ρ 4, ρ 5, ρ 6, ρ 7, ρ 8, ρ 9, ρ 10, ρ 11, ρ 12, ρ 13, ρ 14, ρ 15, ρ 16, ρ 17, ρ 18, ρ 19, ρ 20, ρ 21, ρ 22, ρ 23, ρ 24] (γ 0) 1 0 (γ 3)
  refine Eq.symm ?_
  show fn247 [] (γ 0) = _
  unfold fn247
  refine (zLet_eq m4).trans ?_
  refine (zLet_eq m13).trans ?_
  refine (zLet_eq m19).trans ?_
  refine (if_neg (show ¬ (7 ≥ ρ 13) by omega)).trans ?_
  refine (zLet_eq (show fn132 [ρ 4, 7] (γ 0) = (0, 9 * ρ 4 + 8, γ 1) from l0.symm)).trans ?_
  refine (zLet_eq (show _ = γ 1 from rfl)).trans ?_
  refine (if_pos (show ρ 19 ≠ 1 by omega)).trans ?_
  refine (if_neg (show ¬ (0 ≤ -ρ 19 + 3) by omega)).trans ?_
  refine (if_pos (show 0 ≤ -ρ 19 + 5 by omega)).trans ?_
  refine (zLet_eq (show fn229 [9 * ρ 4 + 8] (γ 1) = (0, 1, γ 2) from l1.symm)).trans ?_
  refine (zLet_eq (show _ = γ 2 from rfl)).trans ?_
  refine (if_pos (show (1 : Int) ≤ 1 by omega)).trans ?_
  refine (zLet_eq (show fn245 [] (γ 2) = (1, 0, γ 3) from l2.symm)).trans ?_
  refine (zLet_eq (show _ = γ 3 from rfl)).trans ?_
  refine (if_neg (show ¬ (1 : Nat) = 0 by decide)).trans ?_
  rfl
theorem vn247_11 {S : Nat → zSpc} (hS132 : ∀ x g o v gz, S 132 x g o v gz → sn132 x g o v gz) (hS228 : ∀ x g o v gz, S 228 x g o v gz → sn228 x g o v gz) (hS229 : ∀ x g o v gz, S 229 x g o v gz → sn229 x g o v gz) (hS230 : ∀ x g o v gz, S 230 x g o v gz → sn230 x g o v gz) (hS231 : ∀ x g o v gz, S 231 x g o v gz → sn231 x g o v gz) (hS244 : ∀ x g o v gz, S 244 x g o v gz → sn244 x g o v gz) (hS245 : ∀ x g o v gz, S 245 x g o v gz → sn245 x g o v gz) (hS246 : ∀ x g o v gz, S 246 x g o v gz → sn246 x g o v gz) {a : List Int} {g : rHp} : ∀ (ρ : Nat → Int) (γ : Nat → rHp), zO 25 S a g q247_11 ρ γ → zGl (fun _ _ _ => True) (sn247 a g) q247_11 ρ γ := by
  intro ρ γ h
  obtain ⟨ha, hg, hr, hf, hm, hc, hl⟩ := h
  have ha : a = [ρ 0, ρ 1, ρ 2, ρ 3, ρ 4, ρ 5, ρ 6, ρ 7, ρ 8, ρ 9, ρ 10, ρ 11, ρ 12, ρ 13, ρ 14, ρ 15, ρ 16, ρ 17, ρ 18, ρ 19, ρ 20, ρ 21, ρ 22, ρ 23, ρ 24] := ha
  subst ha
  subst hg
  obtain ⟨r0, r1, r2, r3, r4, r5, r6, r7, r8, r9, r10, r11, r12, r13, r14, r15, r16, r17, r18, r19, r20, r21, r22, r23, r24, r25, -⟩ := hr
  have r0 : (0 : Int) ≤ ρ 0 ∧ ρ 0 ≤ 50000 := r0
  have r1 : (0 : Int) ≤ ρ 1 ∧ ρ 1 ≤ 2 := r1
  have r2 : (0 : Int) ≤ ρ 2 ∧ ρ 2 ≤ 2 := r2
  have r3 : (0 : Int) ≤ ρ 3 ∧ ρ 3 ≤ 50001 := r3
  have r4 : (0 : Int) ≤ ρ 4 ∧ ρ 4 ≤ 62 := r4
  have r5 : (0 : Int) ≤ ρ 5 ∧ ρ 5 ≤ 60 := r5
  have r6 : (0 : Int) ≤ ρ 6 ∧ ρ 6 ≤ 2000 := r6
  have r7 : (0 : Int) ≤ ρ 7 ∧ ρ 7 ≤ 2000 := r7
  have r8 : ((-2147483648) : Int) ≤ ρ 8 ∧ ρ 8 ≤ 2147483647 := r8
  have r9 : ((-2147483648) : Int) ≤ ρ 9 ∧ ρ 9 ≤ 2147483647 := r9
  have r10 : (0 : Int) ≤ ρ 10 ∧ ρ 10 ≤ 2000 := r10
  have r11 : (0 : Int) ≤ ρ 11 ∧ ρ 11 ≤ 2000 := r11
  have r12 : ((-2147483648) : Int) ≤ ρ 12 ∧ ρ 12 ≤ 2147483647 := r12
  have r13 : (8 : Int) ≤ ρ 13 ∧ ρ 13 ≤ 8 := r13
  have r14 : (0 : Int) ≤ ρ 14 ∧ ρ 14 ≤ 8 := r14
  have r15 : (0 : Int) ≤ ρ 15 ∧ ρ 15 ≤ 4 := r15
  have r16 : ((-1) : Int) ≤ ρ 16 ∧ ρ 16 ≤ 19 := r16
  have r17 : (0 : Int) ≤ ρ 17 ∧ ρ 17 ≤ 4 := r17
  have r18 : ((-1) : Int) ≤ ρ 18 ∧ ρ 18 ≤ 7 := r18
  have r19 : (6 : Int) ≤ ρ 19 ∧ ρ 19 ≤ 8 := r19
  have r20 : (0 : Int) ≤ ρ 20 ∧ ρ 20 ≤ 4 := r20
  have r21 : ((-1) : Int) ≤ ρ 21 ∧ ρ 21 ≤ 19 := r21
  have r22 : ((-1) : Int) ≤ ρ 22 ∧ ρ 22 ≤ 3 := r22
  have r23 : (0 : Int) ≤ ρ 23 ∧ ρ 23 ≤ 7 := r23
  have r24 : (0 : Int) ≤ ρ 24 ∧ ρ 24 ≤ 7 := r24
  have r25 : (0 : Int) ≤ ρ 25 ∧ ρ 25 ≤ 60 := r25
  obtain ⟨f0, -⟩ := hf
  have f0 : (0 : Int) ≤ -ρ 3 + ((-50001) * ρ 1 + ρ 0) + 100002 := f0
  obtain ⟨m0, m1, m2, m3, m4, m5, m6, m7, m8, m9, m10, m11, m12, m13, m14, m15, m16, m17, m18, m19, m20, m21, m22, m23, m24, m25, -⟩ := hm
  have m0 : γ 0 6 0 0 = ρ 0 := m0
  have m1 : γ 0 6 0 9 = ρ 1 := m1
  have m2 : γ 0 6 0 6 = ρ 2 := m2
  have m3 : γ 0 8 (ρ 2) 1 = ρ 3 := m3
  have m4 : γ 0 6 0 7 = ρ 4 := m4
  have m5 : γ 0 1 0 10 = ρ 5 := m5
  have m6 : γ 0 4 0 7 = ρ 6 := m6
  have m7 : γ 0 5 0 3 = ρ 7 := m7
  have m8 : γ 0 6 0 8 = ρ 8 := m8
  have m9 : γ 0 6 0 10 = ρ 9 := m9
  have m10 : γ 0 6 0 11 = ρ 10 := m10
  have m11 : γ 0 6 0 12 = ρ 11 := m11
  have m12 : γ 0 6 0 13 = ρ 12 := m12
  have m13 : γ 0 9 (ρ 4) 2 = ρ 13 := m13
  have m14 : γ 0 9 (ρ 4) 3 = ρ 14 := m14
  have m15 : γ 0 10 (9 * ρ 4) 5 = ρ 15 := m15
  have m16 : γ 0 10 (9 * ρ 4) 8 = ρ 16 := m16
  have m17 : γ 0 10 (9 * ρ 4) 12 = ρ 17 := m17
  have m18 : γ 0 10 (9 * ρ 4) 14 = ρ 18 := m18
  have m19 : γ 0 10 (9 * ρ 4 + 8) 4 = ρ 19 := m19
  have m20 : γ 0 10 (9 * ρ 4 + 8) 5 = ρ 20 := m20
  have m21 : γ 0 10 (9 * ρ 4 + 8) 8 = ρ 21 := m21
  have m22 : γ 0 10 (9 * ρ 4 + 8) 9 = ρ 22 := m22
  have m23 : γ 0 10 (9 * ρ 4 + 8) 10 = ρ 23 := m23
  have m24 : γ 0 10 (9 * ρ 4 + 8) 11 = ρ 24 := m24
  have m25 : γ 0 40 0 (ρ 5) = ρ 25 := m25
  obtain ⟨⟨-, c1⟩, c2⟩ := hc
  have c1 : ∀ (G : Nat) (k j : Int), ¬ rMdP m0_ G j → γ 1 G k j = γ 0 G k j := c1
  have c2 : ∀ (G : Nat) (k j : Int), ¬ rMdP m132_ G j → γ 2 G k j = γ 1 G k j := c2
  obtain ⟨l0, l1, -⟩ := hl
  have l0 : sn132 [ρ 4, 7] (γ 0) 0 (9 * ρ 4 + 8) (γ 1) := hS132 _ _ _ _ _ l0
  have l1 : sn231 [9 * ρ 4 + 8, ρ 19, ρ 24] (γ 1) 0 0 (γ 2) := hS231 _ _ _ _ _ l1
  show sn247 [ρ 0, ρ 1, ρ 2, ρ 3, ρ 4, ρ 5, ρ 6, ρ 7, ρ 8, ρ 9, ρ 10, ρ 11, ρ 12, ρ 13, ρ 14, ρ 15, ρ 16, ρ 17, ρ 18, ρ 19, ρ 20, ρ 21, ρ 22, ρ 23, ρ 24] (γ 0) 0 0 (γ 2)
  refine Eq.symm ?_
  show fn247 [] (γ 0) = _
  unfold fn247
  refine (zLet_eq m4).trans ?_
  refine (zLet_eq m13).trans ?_
  refine (zLet_eq m19).trans ?_
  refine (if_neg (show ¬ (7 ≥ ρ 13) by omega)).trans ?_
  refine (zLet_eq (show fn132 [ρ 4, 7] (γ 0) = (0, 9 * ρ 4 + 8, γ 1) from l0.symm)).trans ?_
  refine (zLet_eq (show _ = γ 1 from rfl)).trans ?_
  refine (if_pos (show ρ 19 ≠ 1 by omega)).trans ?_
  refine (if_neg (show ¬ (0 ≤ -ρ 19 + 3) by omega)).trans ?_
  refine (if_neg (show ¬ (0 ≤ -ρ 19 + 5) by omega)).trans ?_
  refine (zLet_eq (show fn231 [9 * ρ 4 + 8] (γ 1) = (0, 0, γ 2) from l1.symm)).trans ?_
  refine (zLet_eq (show _ = γ 2 from rfl)).trans ?_
  refine (if_neg (show ¬ ((1 : Int) ≤ 0) by omega)).trans ?_
  rfl
theorem vn247_12 {S : Nat → zSpc} (hS132 : ∀ x g o v gz, S 132 x g o v gz → sn132 x g o v gz) (hS228 : ∀ x g o v gz, S 228 x g o v gz → sn228 x g o v gz) (hS229 : ∀ x g o v gz, S 229 x g o v gz → sn229 x g o v gz) (hS230 : ∀ x g o v gz, S 230 x g o v gz → sn230 x g o v gz) (hS231 : ∀ x g o v gz, S 231 x g o v gz → sn231 x g o v gz) (hS244 : ∀ x g o v gz, S 244 x g o v gz → sn244 x g o v gz) (hS245 : ∀ x g o v gz, S 245 x g o v gz → sn245 x g o v gz) (hS246 : ∀ x g o v gz, S 246 x g o v gz → sn246 x g o v gz) {a : List Int} {g : rHp} : ∀ (ρ : Nat → Int) (γ : Nat → rHp), zO 25 S a g q247_12 ρ γ → zGl (fun _ _ _ => True) (sn247 a g) q247_12 ρ γ := by
  intro ρ γ h
  obtain ⟨ha, hg, hr, hf, hm, hc, hl⟩ := h
  have ha : a = [ρ 0, ρ 1, ρ 2, ρ 3, ρ 4, ρ 5, ρ 6, ρ 7, ρ 8, ρ 9, ρ 10, ρ 11, ρ 12, ρ 13, ρ 14, ρ 15, ρ 16, ρ 17, ρ 18, ρ 19, ρ 20, ρ 21, ρ 22, ρ 23, ρ 24] := ha
  subst ha
  subst hg
  obtain ⟨r0, r1, r2, r3, r4, r5, r6, r7, r8, r9, r10, r11, r12, r13, r14, r15, r16, r17, r18, r19, r20, r21, r22, r23, r24, r25, r26, r27, r28, -⟩ := hr
  have r0 : (0 : Int) ≤ ρ 0 ∧ ρ 0 ≤ 50000 := r0
  have r1 : (0 : Int) ≤ ρ 1 ∧ ρ 1 ≤ 2 := r1
  have r2 : (0 : Int) ≤ ρ 2 ∧ ρ 2 ≤ 2 := r2
  have r3 : (0 : Int) ≤ ρ 3 ∧ ρ 3 ≤ 50001 := r3
  have r4 : (0 : Int) ≤ ρ 4 ∧ ρ 4 ≤ 62 := r4
  have r5 : (0 : Int) ≤ ρ 5 ∧ ρ 5 ≤ 60 := r5
  have r6 : (0 : Int) ≤ ρ 6 ∧ ρ 6 ≤ 2000 := r6
  have r7 : (0 : Int) ≤ ρ 7 ∧ ρ 7 ≤ 2000 := r7
  have r8 : ((-2147483648) : Int) ≤ ρ 8 ∧ ρ 8 ≤ 2147483647 := r8
  have r9 : ((-2147483648) : Int) ≤ ρ 9 ∧ ρ 9 ≤ 2147483647 := r9
  have r10 : (0 : Int) ≤ ρ 10 ∧ ρ 10 ≤ 2000 := r10
  have r11 : (0 : Int) ≤ ρ 11 ∧ ρ 11 ≤ 2000 := r11
  have r12 : ((-2147483648) : Int) ≤ ρ 12 ∧ ρ 12 ≤ 2147483647 := r12
  have r13 : (8 : Int) ≤ ρ 13 ∧ ρ 13 ≤ 8 := r13
  have r14 : (0 : Int) ≤ ρ 14 ∧ ρ 14 ≤ 8 := r14
  have r15 : (0 : Int) ≤ ρ 15 ∧ ρ 15 ≤ 4 := r15
  have r16 : ((-1) : Int) ≤ ρ 16 ∧ ρ 16 ≤ 19 := r16
  have r17 : (0 : Int) ≤ ρ 17 ∧ ρ 17 ≤ 4 := r17
  have r18 : ((-1) : Int) ≤ ρ 18 ∧ ρ 18 ≤ 7 := r18
  have r19 : (6 : Int) ≤ ρ 19 ∧ ρ 19 ≤ 8 := r19
  have r20 : (0 : Int) ≤ ρ 20 ∧ ρ 20 ≤ 4 := r20
  have r21 : ((-1) : Int) ≤ ρ 21 ∧ ρ 21 ≤ 19 := r21
  have r22 : ((-1) : Int) ≤ ρ 22 ∧ ρ 22 ≤ 3 := r22
  have r23 : (0 : Int) ≤ ρ 23 ∧ ρ 23 ≤ 7 := r23
  have r24 : (0 : Int) ≤ ρ 24 ∧ ρ 24 ≤ 7 := r24
  have r25 : (0 : Int) ≤ ρ 25 ∧ ρ 25 ≤ 60 := r25
  have r26 : (0 : Int) ≤ ρ 26 ∧ ρ 26 ≤ 50001 := r26
  have r27 : (0 : Int) ≤ ρ 27 ∧ ρ 27 ≤ 2000 := r27
  have r28 : (0 : Int) ≤ ρ 28 ∧ ρ 28 ≤ 2000 := r28
  obtain ⟨f0, f1, f2, f3, f4, -⟩ := hf
  have f0 : (0 : Int) ≤ -ρ 3 + ((-50001) * ρ 1 + ρ 0) + 100002 := f0
  have f1 : (0 : Int) ≤ ρ 26 + -ρ 3 := f1
  have f2 : (0 : Int) ≤ ρ 27 + -ρ 6 := f2
  have f3 : (0 : Int) ≤ ρ 28 + -ρ 7 := f3
  have f4 : (0 : Int) ≤ -ρ 26 + ρ 3 + 1 := f4
  obtain ⟨m0, m1, m2, m3, m4, m5, m6, m7, m8, m9, m10, m11, m12, m13, m14, m15, m16, m17, m18, m19, m20, m21, m22, m23, m24, m25, m26, m27, m28, -⟩ := hm
  have m0 : γ 0 6 0 0 = ρ 0 := m0
  have m1 : γ 0 6 0 9 = ρ 1 := m1
  have m2 : γ 0 6 0 6 = ρ 2 := m2
  have m3 : γ 0 8 (ρ 2) 1 = ρ 3 := m3
  have m4 : γ 0 6 0 7 = ρ 4 := m4
  have m5 : γ 0 1 0 10 = ρ 5 := m5
  have m6 : γ 0 4 0 7 = ρ 6 := m6
  have m7 : γ 0 5 0 3 = ρ 7 := m7
  have m8 : γ 0 6 0 8 = ρ 8 := m8
  have m9 : γ 0 6 0 10 = ρ 9 := m9
  have m10 : γ 0 6 0 11 = ρ 10 := m10
  have m11 : γ 0 6 0 12 = ρ 11 := m11
  have m12 : γ 0 6 0 13 = ρ 12 := m12
  have m13 : γ 0 9 (ρ 4) 2 = ρ 13 := m13
  have m14 : γ 0 9 (ρ 4) 3 = ρ 14 := m14
  have m15 : γ 0 10 (9 * ρ 4) 5 = ρ 15 := m15
  have m16 : γ 0 10 (9 * ρ 4) 8 = ρ 16 := m16
  have m17 : γ 0 10 (9 * ρ 4) 12 = ρ 17 := m17
  have m18 : γ 0 10 (9 * ρ 4) 14 = ρ 18 := m18
  have m19 : γ 0 10 (9 * ρ 4 + 8) 4 = ρ 19 := m19
  have m20 : γ 0 10 (9 * ρ 4 + 8) 5 = ρ 20 := m20
  have m21 : γ 0 10 (9 * ρ 4 + 8) 8 = ρ 21 := m21
  have m22 : γ 0 10 (9 * ρ 4 + 8) 9 = ρ 22 := m22
  have m23 : γ 0 10 (9 * ρ 4 + 8) 10 = ρ 23 := m23
  have m24 : γ 0 10 (9 * ρ 4 + 8) 11 = ρ 24 := m24
  have m25 : γ 0 40 0 (ρ 5) = ρ 25 := m25
  have m26 : γ 3 8 (ρ 2) 1 = ρ 26 := m26
  have m27 : γ 3 4 0 7 = ρ 27 := m27
  have m28 : γ 3 5 0 3 = ρ 28 := m28
  obtain ⟨⟨⟨-, c1⟩, c2⟩, c3⟩ := hc
  have c1 : ∀ (G : Nat) (k j : Int), ¬ rMdP m0_ G j → γ 1 G k j = γ 0 G k j := c1
  have c2 : ∀ (G : Nat) (k j : Int), ¬ rMdP m132_ G j → γ 2 G k j = γ 1 G k j := c2
  have c3 : ∀ (G : Nat) (k j : Int), ¬ rMdP m138_ G j → γ 3 G k j = γ 2 G k j := c3
  obtain ⟨l0, l1, l2, -⟩ := hl
  have l0 : sn132 [ρ 4, 7] (γ 0) 0 (9 * ρ 4 + 8) (γ 1) := hS132 _ _ _ _ _ l0
  have l1 : sn231 [9 * ρ 4 + 8, ρ 19, ρ 24] (γ 1) 0 1 (γ 2) := hS231 _ _ _ _ _ l1
  have l2 : sn245 [ρ 0, ρ 1, ρ 2, ρ 3, ρ 4, ρ 6, ρ 7, ρ 8, ρ 9, ρ 13, ρ 14, ρ 15, ρ 16, ρ 17, ρ 18] (γ 2) 0 0 (γ 3) := hS245 _ _ _ _ _ l2
  show sn247 [ρ 0, ρ 1, ρ 2, ρ 3, ρ 4, ρ 5, ρ 6, ρ 7, ρ 8, ρ 9, ρ 10, ρ 11, ρ 12, ρ 13, ρ 14, ρ 15, ρ 16, ρ 17, ρ 18, ρ 19, ρ 20, ρ 21, ρ 22, ρ 23, ρ 24] (γ 0) 0 0 (γ 3)
  refine Eq.symm ?_
  show fn247 [] (γ 0) = _
  unfold fn247
  refine (zLet_eq m4).trans ?_
  refine (zLet_eq m13).trans ?_
  refine (zLet_eq m19).trans ?_
  refine (if_neg (show ¬ (7 ≥ ρ 13) by omega)).trans ?_
  refine (zLet_eq (show fn132 [ρ 4, 7] (γ 0) = (0, 9 * ρ 4 + 8, γ 1) from l0.symm)).trans ?_
  refine (zLet_eq (show _ = γ 1 from rfl)).trans ?_
  refine (if_pos (show ρ 19 ≠ 1 by omega)).trans ?_
  refine (if_neg (show ¬ (0 ≤ -ρ 19 + 3) by omega)).trans ?_
  refine (if_neg (show ¬ (0 ≤ -ρ 19 + 5) by omega)).trans ?_
  refine (zLet_eq (show fn231 [9 * ρ 4 + 8] (γ 1) = (0, 1, γ 2) from l1.symm)).trans ?_
  refine (zLet_eq (show _ = γ 2 from rfl)).trans ?_
  refine (if_pos (show (1 : Int) ≤ 1 by omega)).trans ?_
  refine (zLet_eq (show fn245 [] (γ 2) = (0, 0, γ 3) from l2.symm)).trans ?_
  refine (zLet_eq (show _ = γ 3 from rfl)).trans ?_
  refine (if_pos (show (0 : Nat) = 0 by decide)).trans ?_
  rfl
theorem vn247_13 {S : Nat → zSpc} (hS132 : ∀ x g o v gz, S 132 x g o v gz → sn132 x g o v gz) (hS228 : ∀ x g o v gz, S 228 x g o v gz → sn228 x g o v gz) (hS229 : ∀ x g o v gz, S 229 x g o v gz → sn229 x g o v gz) (hS230 : ∀ x g o v gz, S 230 x g o v gz → sn230 x g o v gz) (hS231 : ∀ x g o v gz, S 231 x g o v gz → sn231 x g o v gz) (hS244 : ∀ x g o v gz, S 244 x g o v gz → sn244 x g o v gz) (hS245 : ∀ x g o v gz, S 245 x g o v gz → sn245 x g o v gz) (hS246 : ∀ x g o v gz, S 246 x g o v gz → sn246 x g o v gz) {a : List Int} {g : rHp} : ∀ (ρ : Nat → Int) (γ : Nat → rHp), zO 25 S a g q247_13 ρ γ → zGl (fun _ _ _ => True) (sn247 a g) q247_13 ρ γ := by
  intro ρ γ h
  obtain ⟨ha, hg, hr, hf, hm, hc, hl⟩ := h
  have ha : a = [ρ 0, ρ 1, ρ 2, ρ 3, ρ 4, ρ 5, ρ 6, ρ 7, ρ 8, ρ 9, ρ 10, ρ 11, ρ 12, ρ 13, ρ 14, ρ 15, ρ 16, ρ 17, ρ 18, ρ 19, ρ 20, ρ 21, ρ 22, ρ 23, ρ 24] := ha
  subst ha
  subst hg
  obtain ⟨r0, r1, r2, r3, r4, r5, r6, r7, r8, r9, r10, r11, r12, r13, r14, r15, r16, r17, r18, r19, r20, r21, r22, r23, r24, r25, r26, -⟩ := hr
  have r0 : (0 : Int) ≤ ρ 0 ∧ ρ 0 ≤ 50000 := r0
  have r1 : (0 : Int) ≤ ρ 1 ∧ ρ 1 ≤ 1 := r1
  have r2 : (0 : Int) ≤ ρ 2 ∧ ρ 2 ≤ 2 := r2
  have r3 : (0 : Int) ≤ ρ 3 ∧ ρ 3 ≤ 50001 := r3
  have r4 : (0 : Int) ≤ ρ 4 ∧ ρ 4 ≤ 62 := r4
  have r5 : (0 : Int) ≤ ρ 5 ∧ ρ 5 ≤ 60 := r5
  have r6 : (0 : Int) ≤ ρ 6 ∧ ρ 6 ≤ 2000 := r6
  have r7 : (0 : Int) ≤ ρ 7 ∧ ρ 7 ≤ 2000 := r7
  have r8 : ((-2147483648) : Int) ≤ ρ 8 ∧ ρ 8 ≤ 2147483647 := r8
  have r9 : ((-2147483648) : Int) ≤ ρ 9 ∧ ρ 9 ≤ 2147483647 := r9
  have r10 : (0 : Int) ≤ ρ 10 ∧ ρ 10 ≤ 2000 := r10
  have r11 : (0 : Int) ≤ ρ 11 ∧ ρ 11 ≤ 2000 := r11
  have r12 : ((-2147483648) : Int) ≤ ρ 12 ∧ ρ 12 ≤ 2147483647 := r12
  have r13 : (8 : Int) ≤ ρ 13 ∧ ρ 13 ≤ 8 := r13
  have r14 : (0 : Int) ≤ ρ 14 ∧ ρ 14 ≤ 8 := r14
  have r15 : (0 : Int) ≤ ρ 15 ∧ ρ 15 ≤ 4 := r15
  have r16 : ((-1) : Int) ≤ ρ 16 ∧ ρ 16 ≤ 19 := r16
  have r17 : (0 : Int) ≤ ρ 17 ∧ ρ 17 ≤ 4 := r17
  have r18 : ((-1) : Int) ≤ ρ 18 ∧ ρ 18 ≤ 7 := r18
  have r19 : (6 : Int) ≤ ρ 19 ∧ ρ 19 ≤ 8 := r19
  have r20 : (0 : Int) ≤ ρ 20 ∧ ρ 20 ≤ 4 := r20
  have r21 : ((-1) : Int) ≤ ρ 21 ∧ ρ 21 ≤ 19 := r21
  have r22 : ((-1) : Int) ≤ ρ 22 ∧ ρ 22 ≤ 3 := r22
  have r23 : (0 : Int) ≤ ρ 23 ∧ ρ 23 ≤ 7 := r23
  have r24 : (0 : Int) ≤ ρ 24 ∧ ρ 24 ≤ 7 := r24
  have r25 : (0 : Int) ≤ ρ 25 ∧ ρ 25 ≤ 60 := r25
  have r26 : (0 : Int) ≤ ρ 26 ∧ ρ 26 ≤ 2000 := r26
  obtain ⟨f0, f1, -⟩ := hf
  have f0 : (0 : Int) ≤ ρ 26 + -ρ 7 := f0
  have f1 : (0 : Int) ≤ -ρ 3 + ((-50001) * ρ 1 + ρ 0) + 100002 := f1
  obtain ⟨m0, m1, m2, m3, m4, m5, m6, m7, m8, m9, m10, m11, m12, m13, m14, m15, m16, m17, m18, m19, m20, m21, m22, m23, m24, m25, m26, m27, m28, -⟩ := hm
  have m0 : γ 0 6 0 0 = ρ 0 := m0
  have m1 : γ 0 6 0 9 = ρ 1 := m1
  have m2 : γ 0 6 0 6 = ρ 2 := m2
  have m3 : γ 0 8 (ρ 2) 1 = ρ 3 := m3
  have m4 : γ 0 6 0 7 = ρ 4 := m4
  have m5 : γ 0 1 0 10 = ρ 5 := m5
  have m6 : γ 0 4 0 7 = ρ 6 := m6
  have m7 : γ 0 5 0 3 = ρ 7 := m7
  have m8 : γ 0 6 0 8 = ρ 8 := m8
  have m9 : γ 0 6 0 10 = ρ 9 := m9
  have m10 : γ 0 6 0 11 = ρ 10 := m10
  have m11 : γ 0 6 0 12 = ρ 11 := m11
  have m12 : γ 0 6 0 13 = ρ 12 := m12
  have m13 : γ 0 9 (ρ 4) 2 = ρ 13 := m13
  have m14 : γ 0 9 (ρ 4) 3 = ρ 14 := m14
  have m15 : γ 0 10 (9 * ρ 4) 5 = ρ 15 := m15
  have m16 : γ 0 10 (9 * ρ 4) 8 = ρ 16 := m16
  have m17 : γ 0 10 (9 * ρ 4) 12 = ρ 17 := m17
  have m18 : γ 0 10 (9 * ρ 4) 14 = ρ 18 := m18
  have m19 : γ 0 10 (9 * ρ 4 + 8) 4 = ρ 19 := m19
  have m20 : γ 0 10 (9 * ρ 4 + 8) 5 = ρ 20 := m20
  have m21 : γ 0 10 (9 * ρ 4 + 8) 8 = ρ 21 := m21
  have m22 : γ 0 10 (9 * ρ 4 + 8) 9 = ρ 22 := m22
  have m23 : γ 0 10 (9 * ρ 4 + 8) 10 = ρ 23 := m23
  have m24 : γ 0 10 (9 * ρ 4 + 8) 11 = ρ 24 := m24
  have m25 : γ 0 40 0 (ρ 5) = ρ 25 := m25
  have m26 : γ 3 8 (ρ 2) 1 = ρ 3 := m26
  have m27 : γ 3 4 0 7 = ρ 6 := m27
  have m28 : γ 3 5 0 3 = ρ 26 := m28
  obtain ⟨⟨⟨-, c1⟩, c2⟩, c3⟩ := hc
  have c1 : ∀ (G : Nat) (k j : Int), ¬ rMdP m0_ G j → γ 1 G k j = γ 0 G k j := c1
  have c2 : ∀ (G : Nat) (k j : Int), ¬ rMdP m132_ G j → γ 2 G k j = γ 1 G k j := c2
  have c3 : ∀ (G : Nat) (k j : Int), ¬ rMdP m138_ G j → γ 3 G k j = γ 2 G k j := c3
  obtain ⟨l0, l1, l2, -⟩ := hl
  have l0 : sn132 [ρ 4, 7] (γ 0) 0 (9 * ρ 4 + 8) (γ 1) := hS132 _ _ _ _ _ l0
  have l1 : sn231 [9 * ρ 4 + 8, ρ 19, ρ 24] (γ 1) 0 1 (γ 2) := hS231 _ _ _ _ _ l1
  have l2 : sn245 [ρ 0, ρ 1, ρ 2, ρ 3, ρ 4, ρ 6, ρ 7, ρ 8, ρ 9, ρ 13, ρ 14, ρ 15, ρ 16, ρ 17, ρ 18] (γ 2) 1 0 (γ 3) := hS245 _ _ _ _ _ l2
  show sn247 [ρ 0, ρ 1, ρ 2, ρ 3, ρ 4, ρ 5, ρ 6, ρ 7, ρ 8, ρ 9, ρ 10, ρ 11, ρ 12, ρ 13, ρ 14, ρ 15, ρ 16, ρ 17, ρ 18, ρ 19, ρ 20, ρ 21, ρ 22, ρ 23, ρ 24] (γ 0) 1 0 (γ 3)
  refine Eq.symm ?_
  show fn247 [] (γ 0) = _
  unfold fn247
  refine (zLet_eq m4).trans ?_
  refine (zLet_eq m13).trans ?_
  refine (zLet_eq m19).trans ?_
  refine (if_neg (show ¬ (7 ≥ ρ 13) by omega)).trans ?_
  refine (zLet_eq (show fn132 [ρ 4, 7] (γ 0) = (0, 9 * ρ 4 + 8, γ 1) from l0.symm)).trans ?_
  refine (zLet_eq (show _ = γ 1 from rfl)).trans ?_
  refine (if_pos (show ρ 19 ≠ 1 by omega)).trans ?_
  refine (if_neg (show ¬ (0 ≤ -ρ 19 + 3) by omega)).trans ?_
  refine (if_neg (show ¬ (0 ≤ -ρ 19 + 5) by omega)).trans ?_
  refine (zLet_eq (show fn231 [9 * ρ 4 + 8] (γ 1) = (0, 1, γ 2) from l1.symm)).trans ?_
  refine (zLet_eq (show _ = γ 2 from rfl)).trans ?_
  refine (if_pos (show (1 : Int) ≤ 1 by omega)).trans ?_
  refine (zLet_eq (show fn245 [] (γ 2) = (1, 0, γ 3) from l2.symm)).trans ?_
  refine (zLet_eq (show _ = γ 3 from rfl)).trans ?_
  refine (if_neg (show ¬ (1 : Nat) = 0 by decide)).trans ?_
  rfl
theorem vn247_14 {S : Nat → zSpc} (hS132 : ∀ x g o v gz, S 132 x g o v gz → sn132 x g o v gz) (hS228 : ∀ x g o v gz, S 228 x g o v gz → sn228 x g o v gz) (hS229 : ∀ x g o v gz, S 229 x g o v gz → sn229 x g o v gz) (hS230 : ∀ x g o v gz, S 230 x g o v gz → sn230 x g o v gz) (hS231 : ∀ x g o v gz, S 231 x g o v gz → sn231 x g o v gz) (hS244 : ∀ x g o v gz, S 244 x g o v gz → sn244 x g o v gz) (hS245 : ∀ x g o v gz, S 245 x g o v gz → sn245 x g o v gz) (hS246 : ∀ x g o v gz, S 246 x g o v gz → sn246 x g o v gz) {a : List Int} {g : rHp} : ∀ (ρ : Nat → Int) (γ : Nat → rHp), zO 25 S a g q247_14 ρ γ → zGl (fun _ _ _ => True) (sn247 a g) q247_14 ρ γ := by
  intro ρ γ h
  obtain ⟨ha, hg, hr, hf, hm, hc, hl⟩ := h
  have ha : a = [ρ 0, ρ 1, ρ 2, ρ 3, ρ 4, ρ 5, ρ 6, ρ 7, ρ 8, ρ 9, ρ 10, ρ 11, ρ 12, ρ 13, ρ 14, ρ 15, ρ 16, ρ 17, ρ 18, ρ 19, ρ 20, ρ 21, ρ 22, ρ 23, ρ 24] := ha
  subst ha
  subst hg
  obtain ⟨r0, r1, r2, r3, r4, r5, r6, r7, r8, r9, r10, r11, r12, r13, r14, r15, r16, r17, r18, r19, r20, r21, r22, r23, r24, r25, r26, r27, r28, r29, r30, -⟩ := hr
  have r0 : (0 : Int) ≤ ρ 0 ∧ ρ 0 ≤ 50000 := r0
  have r1 : (0 : Int) ≤ ρ 1 ∧ ρ 1 ≤ 2 := r1
  have r2 : (0 : Int) ≤ ρ 2 ∧ ρ 2 ≤ 2 := r2
  have r3 : (0 : Int) ≤ ρ 3 ∧ ρ 3 ≤ 50001 := r3
  have r4 : (0 : Int) ≤ ρ 4 ∧ ρ 4 ≤ 62 := r4
  have r5 : (0 : Int) ≤ ρ 5 ∧ ρ 5 ≤ 60 := r5
  have r6 : (0 : Int) ≤ ρ 6 ∧ ρ 6 ≤ 2000 := r6
  have r7 : (0 : Int) ≤ ρ 7 ∧ ρ 7 ≤ 2000 := r7
  have r8 : ((-2147483648) : Int) ≤ ρ 8 ∧ ρ 8 ≤ 2147483647 := r8
  have r9 : ((-2147483648) : Int) ≤ ρ 9 ∧ ρ 9 ≤ 2147483647 := r9
  have r10 : (0 : Int) ≤ ρ 10 ∧ ρ 10 ≤ 2000 := r10
  have r11 : (0 : Int) ≤ ρ 11 ∧ ρ 11 ≤ 2000 := r11
  have r12 : ((-2147483648) : Int) ≤ ρ 12 ∧ ρ 12 ≤ 2147483647 := r12
  have r13 : (8 : Int) ≤ ρ 13 ∧ ρ 13 ≤ 8 := r13
  have r14 : (0 : Int) ≤ ρ 14 ∧ ρ 14 ≤ 8 := r14
  have r15 : (0 : Int) ≤ ρ 15 ∧ ρ 15 ≤ 4 := r15
  have r16 : ((-1) : Int) ≤ ρ 16 ∧ ρ 16 ≤ 19 := r16
  have r17 : (0 : Int) ≤ ρ 17 ∧ ρ 17 ≤ 4 := r17
  have r18 : ((-1) : Int) ≤ ρ 18 ∧ ρ 18 ≤ 7 := r18
  have r19 : (1 : Int) ≤ ρ 19 ∧ ρ 19 ≤ 1 := r19
  have r20 : (0 : Int) ≤ ρ 20 ∧ ρ 20 ≤ 4 := r20
  have r21 : ((-1) : Int) ≤ ρ 21 ∧ ρ 21 ≤ 19 := r21
  have r22 : ((-1) : Int) ≤ ρ 22 ∧ ρ 22 ≤ 3 := r22
  have r23 : (0 : Int) ≤ ρ 23 ∧ ρ 23 ≤ 7 := r23
  have r24 : ((-1) : Int) ≤ ρ 24 ∧ ρ 24 ≤ 7 := r24
  have r25 : (0 : Int) ≤ ρ 25 ∧ ρ 25 ≤ 60 := r25
  have r26 : (0 : Int) ≤ ρ 26 ∧ ρ 26 ≤ 50000 := r26
  have r27 : (0 : Int) ≤ ρ 27 ∧ ρ 27 ≤ 50001 := r27
  have r28 : (0 : Int) ≤ ρ 28 ∧ ρ 28 ≤ 2000 := r28
  have r29 : (0 : Int) ≤ ρ 29 ∧ ρ 29 ≤ 2000 := r29
  have r30 : ((-2147483648) : Int) ≤ ρ 30 ∧ ρ 30 ≤ 2147483647 := r30
  obtain ⟨f0, f1, f2, f3, f4, f5, -⟩ := hf
  have f0 : (0 : Int) ≤ -ρ 3 + ((-50001) * ρ 1 + ρ 0) + 100002 := f0
  have f1 : (0 : Int) ≤ ρ 26 + -ρ 0 := f1
  have f2 : (0 : Int) ≤ ρ 27 + -ρ 3 := f2
  have f3 : (0 : Int) ≤ ρ 28 + -ρ 6 := f3
  have f4 : (0 : Int) ≤ ρ 29 + -ρ 7 := f4
  have f5 : (0 : Int) ≤ -ρ 27 + (ρ 26 + (ρ 3 + -ρ 0)) := f5
  obtain ⟨m0, m1, m2, m3, m4, m5, m6, m7, m8, m9, m10, m11, m12, m13, m14, m15, m16, m17, m18, m19, m20, m21, m22, m23, m24, m25, m26, m27, m28, m29, m30, -⟩ := hm
  have m0 : γ 0 6 0 0 = ρ 0 := m0
  have m1 : γ 0 6 0 9 = ρ 1 := m1
  have m2 : γ 0 6 0 6 = ρ 2 := m2
  have m3 : γ 0 8 (ρ 2) 1 = ρ 3 := m3
  have m4 : γ 0 6 0 7 = ρ 4 := m4
  have m5 : γ 0 1 0 10 = ρ 5 := m5
  have m6 : γ 0 4 0 7 = ρ 6 := m6
  have m7 : γ 0 5 0 3 = ρ 7 := m7
  have m8 : γ 0 6 0 8 = ρ 8 := m8
  have m9 : γ 0 6 0 10 = ρ 9 := m9
  have m10 : γ 0 6 0 11 = ρ 10 := m10
  have m11 : γ 0 6 0 12 = ρ 11 := m11
  have m12 : γ 0 6 0 13 = ρ 12 := m12
  have m13 : γ 0 9 (ρ 4) 2 = ρ 13 := m13
  have m14 : γ 0 9 (ρ 4) 3 = ρ 14 := m14
  have m15 : γ 0 10 (9 * ρ 4) 5 = ρ 15 := m15
  have m16 : γ 0 10 (9 * ρ 4) 8 = ρ 16 := m16
  have m17 : γ 0 10 (9 * ρ 4) 12 = ρ 17 := m17
  have m18 : γ 0 10 (9 * ρ 4) 14 = ρ 18 := m18
  have m19 : γ 0 10 (9 * ρ 4 + 8) 4 = ρ 19 := m19
  have m20 : γ 0 10 (9 * ρ 4 + 8) 5 = ρ 20 := m20
  have m21 : γ 0 10 (9 * ρ 4 + 8) 8 = ρ 21 := m21
  have m22 : γ 0 10 (9 * ρ 4 + 8) 9 = ρ 22 := m22
  have m23 : γ 0 10 (9 * ρ 4 + 8) 10 = ρ 23 := m23
  have m24 : γ 0 10 (9 * ρ 4 + 8) 11 = ρ 24 := m24
  have m25 : γ 0 40 0 (ρ 5) = ρ 25 := m25
  have m26 : γ 2 6 0 0 = ρ 26 := m26
  have m27 : γ 2 8 (ρ 2) 1 = ρ 27 := m27
  have m28 : γ 2 4 0 7 = ρ 28 := m28
  have m29 : γ 2 5 0 3 = ρ 29 := m29
  have m30 : γ 2 6 0 13 = ρ 30 := m30
  obtain ⟨⟨-, c1⟩, c2⟩ := hc
  have c1 : ∀ (G : Nat) (k j : Int), ¬ rMdP m0_ G j → γ 1 G k j = γ 0 G k j := c1
  have c2 : ∀ (G : Nat) (k j : Int), ¬ rMdP m140_ G j → γ 2 G k j = γ 1 G k j := c2
  obtain ⟨l0, l1, -⟩ := hl
  have l0 : sn132 [ρ 4, 7] (γ 0) 0 (9 * ρ 4 + 8) (γ 1) := hS132 _ _ _ _ _ l0
  have l1 : sn246 [ρ 0, ρ 1, ρ 2, ρ 3, ρ 4, ρ 6, ρ 7, ρ 8, ρ 9, ρ 10, ρ 11, ρ 12, ρ 13, ρ 14, ρ 15, ρ 16, ρ 17, ρ 18, ρ 20, ρ 21, ρ 22, ρ 23] (γ 1) 0 0 (γ 2) := hS246 _ _ _ _ _ l1
  show sn247 [ρ 0, ρ 1, ρ 2, ρ 3, ρ 4, ρ 5, ρ 6, ρ 7, ρ 8, ρ 9, ρ 10, ρ 11, ρ 12, ρ 13, ρ 14, ρ 15, ρ 16, ρ 17, ρ 18, ρ 19, ρ 20, ρ 21, ρ 22, ρ 23, ρ 24] (γ 0) 0 0 (γ 2)
  refine Eq.symm ?_
  show fn247 [] (γ 0) = _
  unfold fn247
  refine (zLet_eq m4).trans ?_
  refine (zLet_eq m13).trans ?_
  refine (zLet_eq m19).trans ?_
  refine (if_neg (show ¬ (7 ≥ ρ 13) by omega)).trans ?_
  refine (zLet_eq (show fn132 [ρ 4, 7] (γ 0) = (0, 9 * ρ 4 + 8, γ 1) from l0.symm)).trans ?_
  refine (zLet_eq (show _ = γ 1 from rfl)).trans ?_
  refine (if_neg (show ¬ (ρ 19 ≠ 1) by omega)).trans ?_
  refine (zLet_eq (show fn246 [] (γ 1) = (0, 0, γ 2) from l1.symm)).trans ?_
  refine (zLet_eq (show _ = γ 2 from rfl)).trans ?_
  refine (if_pos (show (0 : Nat) = 0 by decide)).trans ?_
  rfl
theorem vn247_15 {S : Nat → zSpc} (hS132 : ∀ x g o v gz, S 132 x g o v gz → sn132 x g o v gz) (hS228 : ∀ x g o v gz, S 228 x g o v gz → sn228 x g o v gz) (hS229 : ∀ x g o v gz, S 229 x g o v gz → sn229 x g o v gz) (hS230 : ∀ x g o v gz, S 230 x g o v gz → sn230 x g o v gz) (hS231 : ∀ x g o v gz, S 231 x g o v gz → sn231 x g o v gz) (hS244 : ∀ x g o v gz, S 244 x g o v gz → sn244 x g o v gz) (hS245 : ∀ x g o v gz, S 245 x g o v gz → sn245 x g o v gz) (hS246 : ∀ x g o v gz, S 246 x g o v gz → sn246 x g o v gz) {a : List Int} {g : rHp} : ∀ (ρ : Nat → Int) (γ : Nat → rHp), zO 25 S a g q247_15 ρ γ → zGl (fun _ _ _ => True) (sn247 a g) q247_15 ρ γ := by
  intro ρ γ h
  obtain ⟨ha, hg, hr, hf, hm, hc, hl⟩ := h
  have ha : a = [ρ 0, ρ 1, ρ 2, ρ 3, ρ 4, ρ 5, ρ 6, ρ 7, ρ 8, ρ 9, ρ 10, ρ 11, ρ 12, ρ 13, ρ 14, ρ 15, ρ 16, ρ 17, ρ 18, ρ 19, ρ 20, ρ 21, ρ 22, ρ 23, ρ 24] := ha
  subst ha
  subst hg
  obtain ⟨r0, r1, r2, r3, r4, r5, r6, r7, r8, r9, r10, r11, r12, r13, r14, r15, r16, r17, r18, r19, r20, r21, r22, r23, r24, r25, r26, r27, r28, r29, r30, -⟩ := hr
  have r0 : (0 : Int) ≤ ρ 0 ∧ ρ 0 ≤ 50000 := r0
  have r1 : (0 : Int) ≤ ρ 1 ∧ ρ 1 ≤ 1 := r1
  have r2 : (0 : Int) ≤ ρ 2 ∧ ρ 2 ≤ 2 := r2
  have r3 : (0 : Int) ≤ ρ 3 ∧ ρ 3 ≤ 50001 := r3
  have r4 : (0 : Int) ≤ ρ 4 ∧ ρ 4 ≤ 62 := r4
  have r5 : (0 : Int) ≤ ρ 5 ∧ ρ 5 ≤ 60 := r5
  have r6 : (0 : Int) ≤ ρ 6 ∧ ρ 6 ≤ 2000 := r6
  have r7 : (0 : Int) ≤ ρ 7 ∧ ρ 7 ≤ 2000 := r7
  have r8 : ((-2147483648) : Int) ≤ ρ 8 ∧ ρ 8 ≤ 2147483647 := r8
  have r9 : ((-2147483648) : Int) ≤ ρ 9 ∧ ρ 9 ≤ 2147483647 := r9
  have r10 : (0 : Int) ≤ ρ 10 ∧ ρ 10 ≤ 2000 := r10
  have r11 : (0 : Int) ≤ ρ 11 ∧ ρ 11 ≤ 2000 := r11
  have r12 : ((-2147483648) : Int) ≤ ρ 12 ∧ ρ 12 ≤ 2147483647 := r12
  have r13 : (8 : Int) ≤ ρ 13 ∧ ρ 13 ≤ 8 := r13
  have r14 : (0 : Int) ≤ ρ 14 ∧ ρ 14 ≤ 8 := r14
  have r15 : (0 : Int) ≤ ρ 15 ∧ ρ 15 ≤ 4 := r15
  have r16 : ((-1) : Int) ≤ ρ 16 ∧ ρ 16 ≤ 19 := r16
  have r17 : (0 : Int) ≤ ρ 17 ∧ ρ 17 ≤ 4 := r17
  have r18 : ((-1) : Int) ≤ ρ 18 ∧ ρ 18 ≤ 7 := r18
  have r19 : (1 : Int) ≤ ρ 19 ∧ ρ 19 ≤ 1 := r19
  have r20 : (0 : Int) ≤ ρ 20 ∧ ρ 20 ≤ 4 := r20
  have r21 : ((-1) : Int) ≤ ρ 21 ∧ ρ 21 ≤ 19 := r21
  have r22 : ((-1) : Int) ≤ ρ 22 ∧ ρ 22 ≤ 3 := r22
  have r23 : (0 : Int) ≤ ρ 23 ∧ ρ 23 ≤ 7 := r23
  have r24 : ((-1) : Int) ≤ ρ 24 ∧ ρ 24 ≤ 7 := r24
  have r25 : (0 : Int) ≤ ρ 25 ∧ ρ 25 ≤ 60 := r25
  have r26 : (1 : Int) ≤ ρ 26 ∧ ρ 26 ≤ 50000 := r26
  have r27 : (0 : Int) ≤ ρ 27 ∧ ρ 27 ≤ 50001 := r27
  have r28 : (0 : Int) ≤ ρ 28 ∧ ρ 28 ≤ 2000 := r28
  have r29 : (0 : Int) ≤ ρ 29 ∧ ρ 29 ≤ 2000 := r29
  have r30 : ((-2147483648) : Int) ≤ ρ 30 ∧ ρ 30 ≤ 2147483647 := r30
  obtain ⟨f0, f1, f2, f3, f4, f5, f6, -⟩ := hf
  have f0 : (0 : Int) ≤ ρ 26 + -ρ 0 + (-1) := f0
  have f1 : (0 : Int) ≤ ρ 27 + -ρ 3 := f1
  have f2 : (0 : Int) ≤ ρ 28 + -ρ 6 := f2
  have f3 : (0 : Int) ≤ ρ 29 + -ρ 7 := f3
  have f4 : (0 : Int) ≤ ρ 10 + -ρ 1 := f4
  have f5 : (0 : Int) ≤ -ρ 27 + (ρ 26 + (ρ 3 + -ρ 0)) := f5
  have f6 : (0 : Int) ≤ -ρ 3 + ((-50001) * ρ 1 + ρ 0) + 100002 := f6
  obtain ⟨m0, m1, m2, m3, m4, m5, m6, m7, m8, m9, m10, m11, m12, m13, m14, m15, m16, m17, m18, m19, m20, m21, m22, m23, m24, m25, m26, m27, m28, m29, m30, -⟩ := hm
  have m0 : γ 0 6 0 0 = ρ 0 := m0
  have m1 : γ 0 6 0 9 = ρ 1 := m1
  have m2 : γ 0 6 0 6 = ρ 2 := m2
  have m3 : γ 0 8 (ρ 2) 1 = ρ 3 := m3
  have m4 : γ 0 6 0 7 = ρ 4 := m4
  have m5 : γ 0 1 0 10 = ρ 5 := m5
  have m6 : γ 0 4 0 7 = ρ 6 := m6
  have m7 : γ 0 5 0 3 = ρ 7 := m7
  have m8 : γ 0 6 0 8 = ρ 8 := m8
  have m9 : γ 0 6 0 10 = ρ 9 := m9
  have m10 : γ 0 6 0 11 = ρ 10 := m10
  have m11 : γ 0 6 0 12 = ρ 11 := m11
  have m12 : γ 0 6 0 13 = ρ 12 := m12
  have m13 : γ 0 9 (ρ 4) 2 = ρ 13 := m13
  have m14 : γ 0 9 (ρ 4) 3 = ρ 14 := m14
  have m15 : γ 0 10 (9 * ρ 4) 5 = ρ 15 := m15
  have m16 : γ 0 10 (9 * ρ 4) 8 = ρ 16 := m16
  have m17 : γ 0 10 (9 * ρ 4) 12 = ρ 17 := m17
  have m18 : γ 0 10 (9 * ρ 4) 14 = ρ 18 := m18
  have m19 : γ 0 10 (9 * ρ 4 + 8) 4 = ρ 19 := m19
  have m20 : γ 0 10 (9 * ρ 4 + 8) 5 = ρ 20 := m20
  have m21 : γ 0 10 (9 * ρ 4 + 8) 8 = ρ 21 := m21
  have m22 : γ 0 10 (9 * ρ 4 + 8) 9 = ρ 22 := m22
  have m23 : γ 0 10 (9 * ρ 4 + 8) 10 = ρ 23 := m23
  have m24 : γ 0 10 (9 * ρ 4 + 8) 11 = ρ 24 := m24
  have m25 : γ 0 40 0 (ρ 5) = ρ 25 := m25
  have m26 : γ 2 6 0 0 = ρ 26 := m26
  have m27 : γ 2 8 (ρ 2) 1 = ρ 27 := m27
  have m28 : γ 2 4 0 7 = ρ 28 := m28
  have m29 : γ 2 5 0 3 = ρ 29 := m29
  have m30 : γ 2 6 0 13 = ρ 30 := m30
  obtain ⟨⟨-, c1⟩, c2⟩ := hc
  have c1 : ∀ (G : Nat) (k j : Int), ¬ rMdP m0_ G j → γ 1 G k j = γ 0 G k j := c1
  have c2 : ∀ (G : Nat) (k j : Int), ¬ rMdP m140_ G j → γ 2 G k j = γ 1 G k j := c2
  obtain ⟨l0, l1, -⟩ := hl
  have l0 : sn132 [ρ 4, 7] (γ 0) 0 (9 * ρ 4 + 8) (γ 1) := hS132 _ _ _ _ _ l0
  have l1 : sn246 [ρ 0, ρ 1, ρ 2, ρ 3, ρ 4, ρ 6, ρ 7, ρ 8, ρ 9, ρ 10, ρ 11, ρ 12, ρ 13, ρ 14, ρ 15, ρ 16, ρ 17, ρ 18, ρ 20, ρ 21, ρ 22, ρ 23] (γ 1) 1 0 (γ 2) := hS246 _ _ _ _ _ l1
  show sn247 [ρ 0, ρ 1, ρ 2, ρ 3, ρ 4, ρ 5, ρ 6, ρ 7, ρ 8, ρ 9, ρ 10, ρ 11, ρ 12, ρ 13, ρ 14, ρ 15, ρ 16, ρ 17, ρ 18, ρ 19, ρ 20, ρ 21, ρ 22, ρ 23, ρ 24] (γ 0) 1 0 (γ 2)
  refine Eq.symm ?_
  show fn247 [] (γ 0) = _
  unfold fn247
  refine (zLet_eq m4).trans ?_
  refine (zLet_eq m13).trans ?_
  refine (zLet_eq m19).trans ?_
  refine (if_neg (show ¬ (7 ≥ ρ 13) by omega)).trans ?_
  refine (zLet_eq (show fn132 [ρ 4, 7] (γ 0) = (0, 9 * ρ 4 + 8, γ 1) from l0.symm)).trans ?_
  refine (zLet_eq (show _ = γ 1 from rfl)).trans ?_
  refine (if_neg (show ¬ (ρ 19 ≠ 1) by omega)).trans ?_
  refine (zLet_eq (show fn246 [] (γ 1) = (1, 0, γ 2) from l1.symm)).trans ?_
  refine (zLet_eq (show _ = γ 2 from rfl)).trans ?_
  refine (if_neg (show ¬ (1 : Nat) = 0 by decide)).trans ?_
  refine (if_pos (show (1 : Nat) = 1 by decide)).trans ?_
  rfl
theorem vn247_16 {S : Nat → zSpc} (hS132 : ∀ x g o v gz, S 132 x g o v gz → sn132 x g o v gz) (hS228 : ∀ x g o v gz, S 228 x g o v gz → sn228 x g o v gz) (hS229 : ∀ x g o v gz, S 229 x g o v gz → sn229 x g o v gz) (hS230 : ∀ x g o v gz, S 230 x g o v gz → sn230 x g o v gz) (hS231 : ∀ x g o v gz, S 231 x g o v gz → sn231 x g o v gz) (hS244 : ∀ x g o v gz, S 244 x g o v gz → sn244 x g o v gz) (hS245 : ∀ x g o v gz, S 245 x g o v gz → sn245 x g o v gz) (hS246 : ∀ x g o v gz, S 246 x g o v gz → sn246 x g o v gz) {a : List Int} {g : rHp} : ∀ (ρ : Nat → Int) (γ : Nat → rHp), zO 25 S a g q247_16 ρ γ → zGl (fun _ _ _ => True) (sn247 a g) q247_16 ρ γ := by
  intro ρ γ h
  obtain ⟨ha, hg, hr, hf, hm, hc, hl⟩ := h
  have ha : a = [ρ 0, ρ 1, ρ 2, ρ 3, ρ 4, ρ 5, ρ 6, ρ 7, ρ 8, ρ 9, ρ 10, ρ 11, ρ 12, ρ 13, ρ 14, ρ 15, ρ 16, ρ 17, ρ 18, ρ 19, ρ 20, ρ 21, ρ 22, ρ 23, ρ 24] := ha
  subst ha
  subst hg
  obtain ⟨r0, r1, r2, r3, r4, r5, r6, r7, r8, r9, r10, r11, r12, r13, r14, r15, r16, r17, r18, r19, r20, r21, r22, r23, r24, r25, r26, r27, r28, r29, r30, -⟩ := hr
  have r0 : (0 : Int) ≤ ρ 0 ∧ ρ 0 ≤ 50000 := r0
  have r1 : (0 : Int) ≤ ρ 1 ∧ ρ 1 ≤ 2 := r1
  have r2 : (0 : Int) ≤ ρ 2 ∧ ρ 2 ≤ 2 := r2
  have r3 : (0 : Int) ≤ ρ 3 ∧ ρ 3 ≤ 50001 := r3
  have r4 : (0 : Int) ≤ ρ 4 ∧ ρ 4 ≤ 62 := r4
  have r5 : (0 : Int) ≤ ρ 5 ∧ ρ 5 ≤ 60 := r5
  have r6 : (0 : Int) ≤ ρ 6 ∧ ρ 6 ≤ 2000 := r6
  have r7 : (0 : Int) ≤ ρ 7 ∧ ρ 7 ≤ 2000 := r7
  have r8 : ((-2147483648) : Int) ≤ ρ 8 ∧ ρ 8 ≤ 2147483647 := r8
  have r9 : ((-2147483648) : Int) ≤ ρ 9 ∧ ρ 9 ≤ 2147483647 := r9
  have r10 : (0 : Int) ≤ ρ 10 ∧ ρ 10 ≤ 2000 := r10
  have r11 : (0 : Int) ≤ ρ 11 ∧ ρ 11 ≤ 2000 := r11
  have r12 : ((-2147483648) : Int) ≤ ρ 12 ∧ ρ 12 ≤ 2147483647 := r12
  have r13 : (8 : Int) ≤ ρ 13 ∧ ρ 13 ≤ 8 := r13
  have r14 : (0 : Int) ≤ ρ 14 ∧ ρ 14 ≤ 8 := r14
  have r15 : (0 : Int) ≤ ρ 15 ∧ ρ 15 ≤ 4 := r15
  have r16 : ((-1) : Int) ≤ ρ 16 ∧ ρ 16 ≤ 19 := r16
  have r17 : (0 : Int) ≤ ρ 17 ∧ ρ 17 ≤ 4 := r17
  have r18 : ((-1) : Int) ≤ ρ 18 ∧ ρ 18 ≤ 7 := r18
  have r19 : (1 : Int) ≤ ρ 19 ∧ ρ 19 ≤ 1 := r19
  have r20 : (0 : Int) ≤ ρ 20 ∧ ρ 20 ≤ 4 := r20
  have r21 : ((-1) : Int) ≤ ρ 21 ∧ ρ 21 ≤ 19 := r21
  have r22 : ((-1) : Int) ≤ ρ 22 ∧ ρ 22 ≤ 3 := r22
  have r23 : (0 : Int) ≤ ρ 23 ∧ ρ 23 ≤ 7 := r23
  have r24 : ((-1) : Int) ≤ ρ 24 ∧ ρ 24 ≤ 7 := r24
  have r25 : (0 : Int) ≤ ρ 25 ∧ ρ 25 ≤ 60 := r25
  have r26 : (50001 : Int) ≤ ρ 26 ∧ ρ 26 ≤ 50001 := r26
  have r27 : (0 : Int) ≤ ρ 27 ∧ ρ 27 ≤ 50001 := r27
  have r28 : (0 : Int) ≤ ρ 28 ∧ ρ 28 ≤ 2000 := r28
  have r29 : (0 : Int) ≤ ρ 29 ∧ ρ 29 ≤ 2000 := r29
  have r30 : ((-2147483648) : Int) ≤ ρ 30 ∧ ρ 30 ≤ 2147483647 := r30
  obtain ⟨f0, f1, f2, f3, f4, -⟩ := hf
  have f0 : (0 : Int) ≤ -ρ 3 + ((-50001) * ρ 1 + ρ 0) + 100002 := f0
  have f1 : (0 : Int) ≤ ρ 27 + -ρ 3 := f1
  have f2 : (0 : Int) ≤ ρ 28 + -ρ 6 := f2
  have f3 : (0 : Int) ≤ ρ 29 + -ρ 7 := f3
  have f4 : (0 : Int) ≤ -ρ 27 + (ρ 26 + (ρ 3 + -ρ 0)) := f4
  obtain ⟨m0, m1, m2, m3, m4, m5, m6, m7, m8, m9, m10, m11, m12, m13, m14, m15, m16, m17, m18, m19, m20, m21, m22, m23, m24, m25, m26, m27, m28, m29, m30, -⟩ := hm
  have m0 : γ 0 6 0 0 = ρ 0 := m0
  have m1 : γ 0 6 0 9 = ρ 1 := m1
  have m2 : γ 0 6 0 6 = ρ 2 := m2
  have m3 : γ 0 8 (ρ 2) 1 = ρ 3 := m3
  have m4 : γ 0 6 0 7 = ρ 4 := m4
  have m5 : γ 0 1 0 10 = ρ 5 := m5
  have m6 : γ 0 4 0 7 = ρ 6 := m6
  have m7 : γ 0 5 0 3 = ρ 7 := m7
  have m8 : γ 0 6 0 8 = ρ 8 := m8
  have m9 : γ 0 6 0 10 = ρ 9 := m9
  have m10 : γ 0 6 0 11 = ρ 10 := m10
  have m11 : γ 0 6 0 12 = ρ 11 := m11
  have m12 : γ 0 6 0 13 = ρ 12 := m12
  have m13 : γ 0 9 (ρ 4) 2 = ρ 13 := m13
  have m14 : γ 0 9 (ρ 4) 3 = ρ 14 := m14
  have m15 : γ 0 10 (9 * ρ 4) 5 = ρ 15 := m15
  have m16 : γ 0 10 (9 * ρ 4) 8 = ρ 16 := m16
  have m17 : γ 0 10 (9 * ρ 4) 12 = ρ 17 := m17
  have m18 : γ 0 10 (9 * ρ 4) 14 = ρ 18 := m18
  have m19 : γ 0 10 (9 * ρ 4 + 8) 4 = ρ 19 := m19
  have m20 : γ 0 10 (9 * ρ 4 + 8) 5 = ρ 20 := m20
  have m21 : γ 0 10 (9 * ρ 4 + 8) 8 = ρ 21 := m21
  have m22 : γ 0 10 (9 * ρ 4 + 8) 9 = ρ 22 := m22
  have m23 : γ 0 10 (9 * ρ 4 + 8) 10 = ρ 23 := m23
  have m24 : γ 0 10 (9 * ρ 4 + 8) 11 = ρ 24 := m24
  have m25 : γ 0 40 0 (ρ 5) = ρ 25 := m25
  have m26 : γ 2 6 0 0 = ρ 26 := m26
  have m27 : γ 2 8 (ρ 2) 1 = ρ 27 := m27
  have m28 : γ 2 4 0 7 = ρ 28 := m28
  have m29 : γ 2 5 0 3 = ρ 29 := m29
  have m30 : γ 2 6 0 13 = ρ 30 := m30
  obtain ⟨⟨-, c1⟩, c2⟩ := hc
  have c1 : ∀ (G : Nat) (k j : Int), ¬ rMdP m0_ G j → γ 1 G k j = γ 0 G k j := c1
  have c2 : ∀ (G : Nat) (k j : Int), ¬ rMdP m140_ G j → γ 2 G k j = γ 1 G k j := c2
  obtain ⟨l0, l1, -⟩ := hl
  have l0 : sn132 [ρ 4, 7] (γ 0) 0 (9 * ρ 4 + 8) (γ 1) := hS132 _ _ _ _ _ l0
  have l1 : sn246 [ρ 0, ρ 1, ρ 2, ρ 3, ρ 4, ρ 6, ρ 7, ρ 8, ρ 9, ρ 10, ρ 11, ρ 12, ρ 13, ρ 14, ρ 15, ρ 16, ρ 17, ρ 18, ρ 20, ρ 21, ρ 22, ρ 23] (γ 1) 4 0 (γ 2) := hS246 _ _ _ _ _ l1
  show sn247 [ρ 0, ρ 1, ρ 2, ρ 3, ρ 4, ρ 5, ρ 6, ρ 7, ρ 8, ρ 9, ρ 10, ρ 11, ρ 12, ρ 13, ρ 14, ρ 15, ρ 16, ρ 17, ρ 18, ρ 19, ρ 20, ρ 21, ρ 22, ρ 23, ρ 24] (γ 0) 4 0 (γ 2)
  refine Eq.symm ?_
  show fn247 [] (γ 0) = _
  unfold fn247
  refine (zLet_eq m4).trans ?_
  refine (zLet_eq m13).trans ?_
  refine (zLet_eq m19).trans ?_
  refine (if_neg (show ¬ (7 ≥ ρ 13) by omega)).trans ?_
  refine (zLet_eq (show fn132 [ρ 4, 7] (γ 0) = (0, 9 * ρ 4 + 8, γ 1) from l0.symm)).trans ?_
  refine (zLet_eq (show _ = γ 1 from rfl)).trans ?_
  refine (if_neg (show ¬ (ρ 19 ≠ 1) by omega)).trans ?_
  refine (zLet_eq (show fn246 [] (γ 1) = (4, 0, γ 2) from l1.symm)).trans ?_
  refine (zLet_eq (show _ = γ 2 from rfl)).trans ?_
  refine (if_neg (show ¬ (4 : Nat) = 0 by decide)).trans ?_
  refine (if_neg (show ¬ (4 : Nat) = 1 by decide)).trans ?_
  rfl
theorem yn247 {S : Nat → zSpc} (hS132 : ∀ x g o v gz, S 132 x g o v gz → sn132 x g o v gz) (hS228 : ∀ x g o v gz, S 228 x g o v gz → sn228 x g o v gz) (hS229 : ∀ x g o v gz, S 229 x g o v gz → sn229 x g o v gz) (hS230 : ∀ x g o v gz, S 230 x g o v gz → sn230 x g o v gz) (hS231 : ∀ x g o v gz, S 231 x g o v gz → sn231 x g o v gz) (hS244 : ∀ x g o v gz, S 244 x g o v gz → sn244 x g o v gz) (hS245 : ∀ x g o v gz, S 245 x g o v gz → sn245 x g o v gz) (hS246 : ∀ x g o v gz, S 246 x g o v gz → sn246 x g o v gz) : ∀ x g o v gz, zSem uW uT w247_.2.2.2.1 w247_.2.2.1.1.length S q247 (fun i => q247a.getD i []) (zNA a247_) x g o v gz → sn247 x g o v gz := by
  intro a g o v gz h
  exact zSem_all (l0 := q247) (las := q247a) (S := S) (J := (fun _ _ _ => True)) (P := sn247 a g) (fun _ => (show zAll _ [q247_0, q247_1, q247_2, q247_3, q247_4, q247_5, q247_6, q247_7, q247_8, q247_9, q247_10, q247_11, q247_12, q247_13, q247_14, q247_15, q247_16] from (zAll_c (vn247_0 hS132 hS228 hS229 hS230 hS231 hS244 hS245 hS246) (zAll_c (vn247_1 hS132 hS228 hS229 hS230 hS231 hS244 hS245 hS246) (zAll_c (vn247_2 hS132 hS228 hS229 hS230 hS231 hS244 hS245 hS246) (zAll_c (vn247_3 hS132 hS228 hS229 hS230 hS231 hS244 hS245 hS246) (zAll_c (vn247_4 hS132 hS228 hS229 hS230 hS231 hS244 hS245 hS246) (zAll_c (vn247_5 hS132 hS228 hS229 hS230 hS231 hS244 hS245 hS246) (zAll_c (vn247_6 hS132 hS228 hS229 hS230 hS231 hS244 hS245 hS246) (zAll_c (vn247_7 hS132 hS228 hS229 hS230 hS231 hS244 hS245 hS246) (zAll_c (vn247_8 hS132 hS228 hS229 hS230 hS231 hS244 hS245 hS246) (zAll_c (vn247_9 hS132 hS228 hS229 hS230 hS231 hS244 hS245 hS246) (zAll_c (vn247_10 hS132 hS228 hS229 hS230 hS231 hS244 hS245 hS246) (zAll_c (vn247_11 hS132 hS228 hS229 hS230 hS231 hS244 hS245 hS246) (zAll_c (vn247_12 hS132 hS228 hS229 hS230 hS231 hS244 hS245 hS246) (zAll_c (vn247_13 hS132 hS228 hS229 hS230 hS231 hS244 hS245 hS246) (zAll_c (vn247_14 hS132 hS228 hS229 hS230 hS231 hS244 hS245 hS246) (zAll_c (vn247_15 hS132 hS228 hS229 hS230 hS231 hS244 hS245 hS246) (zAll_c (vn247_16 hS132 hS228 hS229 hS230 hS231 hS244 hS245 hS246) zAll_n))))))))))))))))))) (fun _ => (show zAllI _ 0 [] from trivial)) h
theorem vn248_0 {S : Nat → zSpc} (hS225 : ∀ x g o v gz, S 225 x g o v gz → sn225 x g o v gz) (hS226 : ∀ x g o v gz, S 226 x g o v gz → sn226 x g o v gz) (hS227 : ∀ x g o v gz, S 227 x g o v gz → sn227 x g o v gz) (hS232 : ∀ x g o v gz, S 232 x g o v gz → sn232 x g o v gz) (hS247 : ∀ x g o v gz, S 247 x g o v gz → sn247 x g o v gz) {a : List Int} {g : rHp} : ∀ (ρ : Nat → Int) (γ : Nat → rHp), zO 29 S a g q248_0 ρ γ → zGl (fun i vs g1 => jn248 a g i vs g1) (sn248 a g) q248_0 ρ γ := by
  intro ρ γ h
  obtain ⟨ha, hg, hr, hf, hm, hc, hl⟩ := h
  have ha : a = [ρ 0, ρ 1, ρ 2, ρ 3, ρ 4, ρ 5, ρ 6, ρ 7, ρ 8, ρ 9, ρ 10, ρ 11, ρ 12, ρ 13, ρ 14, ρ 15, ρ 16, ρ 17, ρ 18, ρ 19, ρ 20, ρ 21, ρ 22, ρ 23, ρ 24, ρ 25, ρ 26, ρ 27, ρ 28] := ha
  subst ha
  subst hg
  obtain ⟨r0, r1, r2, r3, r4, r5, r6, r7, r8, r9, r10, r11, r12, r13, r14, r15, r16, r17, r18, r19, r20, r21, r22, r23, r24, r25, r26, r27, r28, r29, -⟩ := hr
  have r0 : (0 : Int) ≤ ρ 0 ∧ ρ 0 ≤ 50000 := r0
  have r1 : (0 : Int) ≤ ρ 1 ∧ ρ 1 ≤ 2 := r1
  have r2 : (0 : Int) ≤ ρ 2 ∧ ρ 2 ≤ 2 := r2
  have r3 : (0 : Int) ≤ ρ 3 ∧ ρ 3 ≤ 50001 := r3
  have r4 : (0 : Int) ≤ ρ 4 ∧ ρ 4 ≤ 62 := r4
  have r5 : (0 : Int) ≤ ρ 5 ∧ ρ 5 ≤ 60 := r5
  have r6 : (0 : Int) ≤ ρ 6 ∧ ρ 6 ≤ 2000 := r6
  have r7 : (0 : Int) ≤ ρ 7 ∧ ρ 7 ≤ 2000 := r7
  have r8 : ((-2147483648) : Int) ≤ ρ 8 ∧ ρ 8 ≤ 2147483647 := r8
  have r9 : ((-2147483648) : Int) ≤ ρ 9 ∧ ρ 9 ≤ 1 := r9
  have r10 : (0 : Int) ≤ ρ 10 ∧ ρ 10 ≤ 2000 := r10
  have r11 : (0 : Int) ≤ ρ 11 ∧ ρ 11 ≤ 2000 := r11
  have r12 : ((-2147483648) : Int) ≤ ρ 12 ∧ ρ 12 ≤ 2147483647 := r12
  have r13 : (0 : Int) ≤ ρ 13 ∧ ρ 13 ≤ 8 := r13
  have r14 : (0 : Int) ≤ ρ 14 ∧ ρ 14 ≤ 8 := r14
  have r15 : (0 : Int) ≤ ρ 15 ∧ ρ 15 ≤ 4 := r15
  have r16 : ((-1) : Int) ≤ ρ 16 ∧ ρ 16 ≤ 19 := r16
  have r17 : (0 : Int) ≤ ρ 17 ∧ ρ 17 ≤ 4 := r17
  have r18 : ((-1) : Int) ≤ ρ 18 ∧ ρ 18 ≤ 7 := r18
  have r19 : (0 : Int) ≤ ρ 19 ∧ ρ 19 ≤ 4 := r19
  have r20 : ((-1) : Int) ≤ ρ 20 ∧ ρ 20 ≤ 19 := r20
  have r21 : ((-1) : Int) ≤ ρ 21 ∧ ρ 21 ≤ 3 := r21
  have r22 : (0 : Int) ≤ ρ 22 ∧ ρ 22 ≤ 7 := r22
  have r23 : (0 : Int) ≤ ρ 23 ∧ ρ 23 ≤ 8 := r23
  have r24 : (0 : Int) ≤ ρ 24 ∧ ρ 24 ≤ 4 := r24
  have r25 : ((-1) : Int) ≤ ρ 25 ∧ ρ 25 ≤ 19 := r25
  have r26 : ((-1) : Int) ≤ ρ 26 ∧ ρ 26 ≤ 3 := r26
  have r27 : (0 : Int) ≤ ρ 27 ∧ ρ 27 ≤ 7 := r27
  have r28 : ((-1) : Int) ≤ ρ 28 ∧ ρ 28 ≤ 7 := r28
  have r29 : ((-1) : Int) ≤ ρ 29 ∧ ρ 29 ≤ 2000 := r29
  obtain ⟨f0, -⟩ := hf
  have f0 : (0 : Int) ≤ -ρ 3 + ((-50001) * ρ 1 + ρ 0) + 100002 := f0
  obtain ⟨m0, m1, m2, m3, m4, m5, m6, m7, m8, m9, m10, m11, m12, m13, m14, m15, m16, m17, m18, m19, m20, m21, m22, m23, m24, m25, m26, m27, m28, -⟩ := hm
  have m0 : γ 0 6 0 0 = ρ 0 := m0
  have m1 : γ 0 6 0 9 = ρ 1 := m1
  have m2 : γ 0 6 0 6 = ρ 2 := m2
  have m3 : γ 0 8 (ρ 2) 1 = ρ 3 := m3
  have m4 : γ 0 6 0 7 = ρ 4 := m4
  have m5 : γ 0 1 0 10 = ρ 5 := m5
  have m6 : γ 0 4 0 7 = ρ 6 := m6
  have m7 : γ 0 5 0 3 = ρ 7 := m7
  have m8 : γ 0 6 0 8 = ρ 8 := m8
  have m9 : γ 0 6 0 10 = ρ 9 := m9
  have m10 : γ 0 6 0 11 = ρ 10 := m10
  have m11 : γ 0 6 0 12 = ρ 11 := m11
  have m12 : γ 0 6 0 13 = ρ 12 := m12
  have m13 : γ 0 9 (ρ 4) 2 = ρ 13 := m13
  have m14 : γ 0 9 (ρ 4) 3 = ρ 14 := m14
  have m15 : γ 0 10 (9 * ρ 4) 5 = ρ 15 := m15
  have m16 : γ 0 10 (9 * ρ 4) 8 = ρ 16 := m16
  have m17 : γ 0 10 (9 * ρ 4) 12 = ρ 17 := m17
  have m18 : γ 0 10 (9 * ρ 4) 14 = ρ 18 := m18
  have m19 : γ 0 10 (9 * ρ 4 + 7) 5 = ρ 19 := m19
  have m20 : γ 0 10 (9 * ρ 4 + 7) 8 = ρ 20 := m20
  have m21 : γ 0 10 (9 * ρ 4 + 7) 9 = ρ 21 := m21
  have m22 : γ 0 10 (9 * ρ 4 + 7) 10 = ρ 22 := m22
  have m23 : γ 0 10 (9 * ρ 4 + 8) 4 = ρ 23 := m23
  have m24 : γ 0 10 (9 * ρ 4 + 8) 5 = ρ 24 := m24
  have m25 : γ 0 10 (9 * ρ 4 + 8) 8 = ρ 25 := m25
  have m26 : γ 0 10 (9 * ρ 4 + 8) 9 = ρ 26 := m26
  have m27 : γ 0 10 (9 * ρ 4 + 8) 10 = ρ 27 := m27
  have m28 : γ 0 10 (9 * ρ 4 + 8) 11 = ρ 28 := m28
  obtain ⟨-, c1⟩ := hc
  have c1 : ∀ (G : Nat) (k j : Int), ¬ rMdP m0_ G j → γ 1 G k j = γ 0 G k j := c1
  obtain ⟨l0, -⟩ := hl
  have l0 : sn226 [9 * ρ 4 + 7, 0, ρ 6, ρ 20, ρ 21] (γ 0) 0 (ρ 29) (γ 1) := hS226 _ _ _ _ _ l0
  show jn248 [ρ 0, ρ 1, ρ 2, ρ 3, ρ 4, ρ 5, ρ 6, ρ 7, ρ 8, ρ 9, ρ 10, ρ 11, ρ 12, ρ 13, ρ 14, ρ 15, ρ 16, ρ 17, ρ 18, ρ 19, ρ 20, ρ 21, ρ 22, ρ 23, ρ 24, ρ 25, ρ 26, ρ 27, ρ 28] (γ 0) 0 [ρ 0, ρ 1, ρ 2, ρ 3, ρ 4, ρ 5, ρ 6, ρ 7, ρ 8, ρ 9, ρ 10, ρ 11, ρ 12, ρ 13, ρ 14, ρ 15, ρ 16, ρ 17, ρ 18, ρ 19, ρ 20, ρ 21, ρ 22, ρ 23, ρ 24, ρ 25, ρ 26, ρ 27, ρ 28, 0, ρ 29, 0, 0, ρ 0, ρ 3, ρ 6, ρ 7, ρ 12] (γ 1)
  have hD : dn248 [] (γ 0) = .inl (0, [0, ρ 29, 0, 0], γ 1) := by
    unfold dn248
    refine (zLet_eq m4).trans ?_
    refine (zLet_eq m9).trans ?_
    refine (zLet_eq m11).trans ?_
    refine (zLet_eq m12).trans ?_
    refine (zLet_eq m14).trans ?_
    refine (zLet_eq m22).trans ?_
    refine (if_pos (show ρ 9 ≤ 1 by omega)).trans ?_
    refine (zLet_eq (show fn226 [9 * ρ 4 + 7, 0] (γ 0) = (0, ρ 29, γ 1) from l0.symm)).trans ?_
    refine (zLet_eq (show _ = γ 1 from rfl)).trans ?_
    refine (zLet_eq (show _ = ρ 29 from rfl)).trans ?_
    rfl
  exact zGoo_to hD
theorem vn248_1 {S : Nat → zSpc} (hS225 : ∀ x g o v gz, S 225 x g o v gz → sn225 x g o v gz) (hS226 : ∀ x g o v gz, S 226 x g o v gz → sn226 x g o v gz) (hS227 : ∀ x g o v gz, S 227 x g o v gz → sn227 x g o v gz) (hS232 : ∀ x g o v gz, S 232 x g o v gz → sn232 x g o v gz) (hS247 : ∀ x g o v gz, S 247 x g o v gz → sn247 x g o v gz) {a : List Int} {g : rHp} : ∀ (ρ : Nat → Int) (γ : Nat → rHp), zO 29 S a g q248_1 ρ γ → zGl (fun i vs g1 => jn248 a g i vs g1) (sn248 a g) q248_1 ρ γ := by
  intro ρ γ h
  obtain ⟨ha, hg, hr, hf, hm, hc, hl⟩ := h
  have ha : a = [ρ 0, ρ 1, ρ 2, ρ 3, ρ 4, ρ 5, ρ 6, ρ 7, ρ 8, ρ 9, ρ 10, ρ 11, ρ 12, ρ 13, ρ 14, ρ 15, ρ 16, ρ 17, ρ 18, ρ 19, ρ 20, ρ 21, ρ 22, ρ 23, ρ 24, ρ 25, ρ 26, ρ 27, ρ 28] := ha
  subst ha
  subst hg
  obtain ⟨r0, r1, r2, r3, r4, r5, r6, r7, r8, r9, r10, r11, r12, r13, r14, r15, r16, r17, r18, r19, r20, r21, r22, r23, r24, r25, r26, r27, r28, r29, -⟩ := hr
  have r0 : (0 : Int) ≤ ρ 0 ∧ ρ 0 ≤ 50000 := r0
  have r1 : (0 : Int) ≤ ρ 1 ∧ ρ 1 ≤ 2 := r1
  have r2 : (0 : Int) ≤ ρ 2 ∧ ρ 2 ≤ 2 := r2
  have r3 : (0 : Int) ≤ ρ 3 ∧ ρ 3 ≤ 50001 := r3
  have r4 : (0 : Int) ≤ ρ 4 ∧ ρ 4 ≤ 62 := r4
  have r5 : (0 : Int) ≤ ρ 5 ∧ ρ 5 ≤ 60 := r5
  have r6 : (0 : Int) ≤ ρ 6 ∧ ρ 6 ≤ 2000 := r6
  have r7 : (0 : Int) ≤ ρ 7 ∧ ρ 7 ≤ 2000 := r7
  have r8 : ((-2147483648) : Int) ≤ ρ 8 ∧ ρ 8 ≤ 2147483647 := r8
  have r9 : (2 : Int) ≤ ρ 9 ∧ ρ 9 ≤ 2147483647 := r9
  have r10 : (0 : Int) ≤ ρ 10 ∧ ρ 10 ≤ 2000 := r10
  have r11 : (0 : Int) ≤ ρ 11 ∧ ρ 11 ≤ 2000 := r11
  have r12 : ((-2147483648) : Int) ≤ ρ 12 ∧ ρ 12 ≤ 2147483647 := r12
  have r13 : (0 : Int) ≤ ρ 13 ∧ ρ 13 ≤ 8 := r13
  have r14 : (0 : Int) ≤ ρ 14 ∧ ρ 14 ≤ 8 := r14
  have r15 : (0 : Int) ≤ ρ 15 ∧ ρ 15 ≤ 4 := r15
  have r16 : ((-1) : Int) ≤ ρ 16 ∧ ρ 16 ≤ 19 := r16
  have r17 : (0 : Int) ≤ ρ 17 ∧ ρ 17 ≤ 4 := r17
  have r18 : ((-1) : Int) ≤ ρ 18 ∧ ρ 18 ≤ 7 := r18
  have r19 : (0 : Int) ≤ ρ 19 ∧ ρ 19 ≤ 4 := r19
  have r20 : ((-1) : Int) ≤ ρ 20 ∧ ρ 20 ≤ 19 := r20
  have r21 : ((-1) : Int) ≤ ρ 21 ∧ ρ 21 ≤ 3 := r21
  have r22 : (0 : Int) ≤ ρ 22 ∧ ρ 22 ≤ 7 := r22
  have r23 : (0 : Int) ≤ ρ 23 ∧ ρ 23 ≤ 8 := r23
  have r24 : (0 : Int) ≤ ρ 24 ∧ ρ 24 ≤ 4 := r24
  have r25 : ((-1) : Int) ≤ ρ 25 ∧ ρ 25 ≤ 19 := r25
  have r26 : ((-1) : Int) ≤ ρ 26 ∧ ρ 26 ≤ 3 := r26
  have r27 : (0 : Int) ≤ ρ 27 ∧ ρ 27 ≤ 7 := r27
  have r28 : ((-1) : Int) ≤ ρ 28 ∧ ρ 28 ≤ 7 := r28
  have r29 : ((-1) : Int) ≤ ρ 29 ∧ ρ 29 ≤ 2000 := r29
  obtain ⟨f0, -⟩ := hf
  have f0 : (0 : Int) ≤ -ρ 3 + ((-50001) * ρ 1 + ρ 0) + 100002 := f0
  obtain ⟨m0, m1, m2, m3, m4, m5, m6, m7, m8, m9, m10, m11, m12, m13, m14, m15, m16, m17, m18, m19, m20, m21, m22, m23, m24, m25, m26, m27, m28, -⟩ := hm
  have m0 : γ 0 6 0 0 = ρ 0 := m0
  have m1 : γ 0 6 0 9 = ρ 1 := m1
  have m2 : γ 0 6 0 6 = ρ 2 := m2
  have m3 : γ 0 8 (ρ 2) 1 = ρ 3 := m3
  have m4 : γ 0 6 0 7 = ρ 4 := m4
  have m5 : γ 0 1 0 10 = ρ 5 := m5
  have m6 : γ 0 4 0 7 = ρ 6 := m6
  have m7 : γ 0 5 0 3 = ρ 7 := m7
  have m8 : γ 0 6 0 8 = ρ 8 := m8
  have m9 : γ 0 6 0 10 = ρ 9 := m9
  have m10 : γ 0 6 0 11 = ρ 10 := m10
  have m11 : γ 0 6 0 12 = ρ 11 := m11
  have m12 : γ 0 6 0 13 = ρ 12 := m12
  have m13 : γ 0 9 (ρ 4) 2 = ρ 13 := m13
  have m14 : γ 0 9 (ρ 4) 3 = ρ 14 := m14
  have m15 : γ 0 10 (9 * ρ 4) 5 = ρ 15 := m15
  have m16 : γ 0 10 (9 * ρ 4) 8 = ρ 16 := m16
  have m17 : γ 0 10 (9 * ρ 4) 12 = ρ 17 := m17
  have m18 : γ 0 10 (9 * ρ 4) 14 = ρ 18 := m18
  have m19 : γ 0 10 (9 * ρ 4 + 7) 5 = ρ 19 := m19
  have m20 : γ 0 10 (9 * ρ 4 + 7) 8 = ρ 20 := m20
  have m21 : γ 0 10 (9 * ρ 4 + 7) 9 = ρ 21 := m21
  have m22 : γ 0 10 (9 * ρ 4 + 7) 10 = ρ 22 := m22
  have m23 : γ 0 10 (9 * ρ 4 + 8) 4 = ρ 23 := m23
  have m24 : γ 0 10 (9 * ρ 4 + 8) 5 = ρ 24 := m24
  have m25 : γ 0 10 (9 * ρ 4 + 8) 8 = ρ 25 := m25
  have m26 : γ 0 10 (9 * ρ 4 + 8) 9 = ρ 26 := m26
  have m27 : γ 0 10 (9 * ρ 4 + 8) 10 = ρ 27 := m27
  have m28 : γ 0 10 (9 * ρ 4 + 8) 11 = ρ 28 := m28
  obtain ⟨-, c1⟩ := hc
  have c1 : ∀ (G : Nat) (k j : Int), ¬ rMdP m0_ G j → γ 1 G k j = γ 0 G k j := c1
  obtain ⟨l0, l1, -⟩ := hl
  have l0 : ρ 12 ≠ 0 := l0
  have l1 : sn226 [9 * ρ 4 + 7, 0, ρ 6, ρ 20, ρ 21] (γ 0) 0 (ρ 29) (γ 1) := hS226 _ _ _ _ _ l1
  show jn248 [ρ 0, ρ 1, ρ 2, ρ 3, ρ 4, ρ 5, ρ 6, ρ 7, ρ 8, ρ 9, ρ 10, ρ 11, ρ 12, ρ 13, ρ 14, ρ 15, ρ 16, ρ 17, ρ 18, ρ 19, ρ 20, ρ 21, ρ 22, ρ 23, ρ 24, ρ 25, ρ 26, ρ 27, ρ 28] (γ 0) 0 [ρ 0, ρ 1, ρ 2, ρ 3, ρ 4, ρ 5, ρ 6, ρ 7, ρ 8, ρ 9, ρ 10, ρ 11, ρ 12, ρ 13, ρ 14, ρ 15, ρ 16, ρ 17, ρ 18, ρ 19, ρ 20, ρ 21, ρ 22, ρ 23, ρ 24, ρ 25, ρ 26, ρ 27, ρ 28, 0, ρ 29, 0, 0, ρ 0, ρ 3, ρ 6, ρ 7, ρ 12] (γ 1)
  have hD : dn248 [] (γ 0) = .inl (0, [0, ρ 29, 0, 0], γ 1) := by
    unfold dn248
    refine (zLet_eq m4).trans ?_
    refine (zLet_eq m9).trans ?_
    refine (zLet_eq m11).trans ?_
    refine (zLet_eq m12).trans ?_
    refine (zLet_eq m14).trans ?_
    refine (zLet_eq m22).trans ?_
    refine (if_neg (show ¬ (ρ 9 ≤ 1) by omega)).trans ?_
    refine (if_pos (show ρ 12 ≠ 0 by omega)).trans ?_
    refine (zLet_eq (show fn226 [9 * ρ 4 + 7, 0] (γ 0) = (0, ρ 29, γ 1) from l1.symm)).trans ?_
    refine (zLet_eq (show _ = γ 1 from rfl)).trans ?_
    refine (zLet_eq (show _ = ρ 29 from rfl)).trans ?_
    rfl
  exact zGoo_to hD
theorem vn248_2 {S : Nat → zSpc} (hS225 : ∀ x g o v gz, S 225 x g o v gz → sn225 x g o v gz) (hS226 : ∀ x g o v gz, S 226 x g o v gz → sn226 x g o v gz) (hS227 : ∀ x g o v gz, S 227 x g o v gz → sn227 x g o v gz) (hS232 : ∀ x g o v gz, S 232 x g o v gz → sn232 x g o v gz) (hS247 : ∀ x g o v gz, S 247 x g o v gz → sn247 x g o v gz) {a : List Int} {g : rHp} : ∀ (ρ : Nat → Int) (γ : Nat → rHp), zO 29 S a g q248_2 ρ γ → zGl (fun i vs g1 => jn248 a g i vs g1) (sn248 a g) q248_2 ρ γ := by
  intro ρ γ h
  obtain ⟨ha, hg, hr, hf, hm, hc, hl⟩ := h
  have ha : a = [ρ 0, ρ 1, ρ 2, ρ 3, ρ 4, ρ 5, ρ 6, ρ 7, ρ 8, ρ 9, ρ 10, ρ 11, ρ 12, ρ 13, ρ 14, ρ 15, ρ 16, ρ 17, ρ 18, ρ 19, ρ 20, ρ 21, ρ 22, ρ 23, ρ 24, ρ 25, ρ 26, ρ 27, ρ 28] := ha
  subst ha
  subst hg
  obtain ⟨r0, r1, r2, r3, r4, r5, r6, r7, r8, r9, r10, r11, r12, r13, r14, r15, r16, r17, r18, r19, r20, r21, r22, r23, r24, r25, r26, r27, r28, r29, -⟩ := hr
  have r0 : (0 : Int) ≤ ρ 0 ∧ ρ 0 ≤ 50000 := r0
  have r1 : (0 : Int) ≤ ρ 1 ∧ ρ 1 ≤ 2 := r1
  have r2 : (0 : Int) ≤ ρ 2 ∧ ρ 2 ≤ 2 := r2
  have r3 : (0 : Int) ≤ ρ 3 ∧ ρ 3 ≤ 50001 := r3
  have r4 : (0 : Int) ≤ ρ 4 ∧ ρ 4 ≤ 62 := r4
  have r5 : (0 : Int) ≤ ρ 5 ∧ ρ 5 ≤ 60 := r5
  have r6 : (0 : Int) ≤ ρ 6 ∧ ρ 6 ≤ 2000 := r6
  have r7 : (0 : Int) ≤ ρ 7 ∧ ρ 7 ≤ 2000 := r7
  have r8 : ((-2147483648) : Int) ≤ ρ 8 ∧ ρ 8 ≤ 2147483647 := r8
  have r9 : (2 : Int) ≤ ρ 9 ∧ ρ 9 ≤ 2147483647 := r9
  have r10 : (0 : Int) ≤ ρ 10 ∧ ρ 10 ≤ 2000 := r10
  have r11 : (0 : Int) ≤ ρ 11 ∧ ρ 11 ≤ 2000 := r11
  have r12 : (0 : Int) ≤ ρ 12 ∧ ρ 12 ≤ 0 := r12
  have r13 : (0 : Int) ≤ ρ 13 ∧ ρ 13 ≤ 8 := r13
  have r14 : (0 : Int) ≤ ρ 14 ∧ ρ 14 ≤ 8 := r14
  have r15 : (0 : Int) ≤ ρ 15 ∧ ρ 15 ≤ 4 := r15
  have r16 : ((-1) : Int) ≤ ρ 16 ∧ ρ 16 ≤ 19 := r16
  have r17 : (0 : Int) ≤ ρ 17 ∧ ρ 17 ≤ 4 := r17
  have r18 : ((-1) : Int) ≤ ρ 18 ∧ ρ 18 ≤ 7 := r18
  have r19 : (0 : Int) ≤ ρ 19 ∧ ρ 19 ≤ 4 := r19
  have r20 : ((-1) : Int) ≤ ρ 20 ∧ ρ 20 ≤ 19 := r20
  have r21 : ((-1) : Int) ≤ ρ 21 ∧ ρ 21 ≤ 3 := r21
  have r22 : (0 : Int) ≤ ρ 22 ∧ ρ 22 ≤ 7 := r22
  have r23 : (0 : Int) ≤ ρ 23 ∧ ρ 23 ≤ 8 := r23
  have r24 : (0 : Int) ≤ ρ 24 ∧ ρ 24 ≤ 4 := r24
  have r25 : ((-1) : Int) ≤ ρ 25 ∧ ρ 25 ≤ 19 := r25
  have r26 : ((-1) : Int) ≤ ρ 26 ∧ ρ 26 ≤ 3 := r26
  have r27 : (0 : Int) ≤ ρ 27 ∧ ρ 27 ≤ 7 := r27
  have r28 : ((-1) : Int) ≤ ρ 28 ∧ ρ 28 ≤ 7 := r28
  have r29 : ((-1) : Int) ≤ ρ 29 ∧ ρ 29 ≤ 2000 := r29
  obtain ⟨f0, -⟩ := hf
  have f0 : (0 : Int) ≤ -ρ 3 + ((-50001) * ρ 1 + ρ 0) + 100002 := f0
  obtain ⟨m0, m1, m2, m3, m4, m5, m6, m7, m8, m9, m10, m11, m12, m13, m14, m15, m16, m17, m18, m19, m20, m21, m22, m23, m24, m25, m26, m27, m28, -⟩ := hm
  have m0 : γ 0 6 0 0 = ρ 0 := m0
  have m1 : γ 0 6 0 9 = ρ 1 := m1
  have m2 : γ 0 6 0 6 = ρ 2 := m2
  have m3 : γ 0 8 (ρ 2) 1 = ρ 3 := m3
  have m4 : γ 0 6 0 7 = ρ 4 := m4
  have m5 : γ 0 1 0 10 = ρ 5 := m5
  have m6 : γ 0 4 0 7 = ρ 6 := m6
  have m7 : γ 0 5 0 3 = ρ 7 := m7
  have m8 : γ 0 6 0 8 = ρ 8 := m8
  have m9 : γ 0 6 0 10 = ρ 9 := m9
  have m10 : γ 0 6 0 11 = ρ 10 := m10
  have m11 : γ 0 6 0 12 = ρ 11 := m11
  have m12 : γ 0 6 0 13 = ρ 12 := m12
  have m13 : γ 0 9 (ρ 4) 2 = ρ 13 := m13
  have m14 : γ 0 9 (ρ 4) 3 = ρ 14 := m14
  have m15 : γ 0 10 (9 * ρ 4) 5 = ρ 15 := m15
  have m16 : γ 0 10 (9 * ρ 4) 8 = ρ 16 := m16
  have m17 : γ 0 10 (9 * ρ 4) 12 = ρ 17 := m17
  have m18 : γ 0 10 (9 * ρ 4) 14 = ρ 18 := m18
  have m19 : γ 0 10 (9 * ρ 4 + 7) 5 = ρ 19 := m19
  have m20 : γ 0 10 (9 * ρ 4 + 7) 8 = ρ 20 := m20
  have m21 : γ 0 10 (9 * ρ 4 + 7) 9 = ρ 21 := m21
  have m22 : γ 0 10 (9 * ρ 4 + 7) 10 = ρ 22 := m22
  have m23 : γ 0 10 (9 * ρ 4 + 8) 4 = ρ 23 := m23
  have m24 : γ 0 10 (9 * ρ 4 + 8) 5 = ρ 24 := m24
  have m25 : γ 0 10 (9 * ρ 4 + 8) 8 = ρ 25 := m25
  have m26 : γ 0 10 (9 * ρ 4 + 8) 9 = ρ 26 := m26
  have m27 : γ 0 10 (9 * ρ 4 + 8) 10 = ρ 27 := m27
  have m28 : γ 0 10 (9 * ρ 4 + 8) 11 = ρ 28 := m28
  obtain ⟨-, c1⟩ := hc
  have c1 : ∀ (G : Nat) (k j : Int), ¬ rMdP m0_ G j → γ 1 G k j = γ 0 G k j := c1
  obtain ⟨l0, l1, -⟩ := hl
  have l0 : ρ 22 ≠ ρ 14 + (-1) := l0
  have l1 : sn226 [9 * ρ 4 + 7, 0, ρ 6, ρ 20, ρ 21] (γ 0) 0 (ρ 29) (γ 1) := hS226 _ _ _ _ _ l1
  show jn248 [ρ 0, ρ 1, ρ 2, ρ 3, ρ 4, ρ 5, ρ 6, ρ 7, ρ 8, ρ 9, ρ 10, ρ 11, ρ 12, ρ 13, ρ 14, ρ 15, ρ 16, ρ 17, ρ 18, ρ 19, ρ 20, ρ 21, ρ 22, ρ 23, ρ 24, ρ 25, ρ 26, ρ 27, ρ 28] (γ 0) 0 [ρ 0, ρ 1, ρ 2, ρ 3, ρ 4, ρ 5, ρ 6, ρ 7, ρ 8, ρ 9, ρ 10, ρ 11, ρ 12, ρ 13, ρ 14, ρ 15, ρ 16, ρ 17, ρ 18, ρ 19, ρ 20, ρ 21, ρ 22, ρ 23, ρ 24, ρ 25, ρ 26, ρ 27, ρ 28, 0, ρ 29, 0, 0, ρ 0, ρ 3, ρ 6, ρ 7, ρ 12] (γ 1)
  have hD : dn248 [] (γ 0) = .inl (0, [0, ρ 29, 0, 0], γ 1) := by
    unfold dn248
    refine (zLet_eq m4).trans ?_
    refine (zLet_eq m9).trans ?_
    refine (zLet_eq m11).trans ?_
    refine (zLet_eq m12).trans ?_
    refine (zLet_eq m14).trans ?_
    refine (zLet_eq m22).trans ?_
    refine (if_neg (show ¬ (ρ 9 ≤ 1) by omega)).trans ?_
    refine (if_neg (show ¬ (ρ 12 ≠ 0) by omega)).trans ?_
    refine (if_pos (show ρ 22 ≠ ρ 14 + (-1) by omega)).trans ?_
    refine (zLet_eq (show fn226 [9 * ρ 4 + 7, 0] (γ 0) = (0, ρ 29, γ 1) from l1.symm)).trans ?_
    refine (zLet_eq (show _ = γ 1 from rfl)).trans ?_
    refine (zLet_eq (show _ = ρ 29 from rfl)).trans ?_
    rfl
  exact zGoo_to hD
theorem vn248_3 {S : Nat → zSpc} (hS225 : ∀ x g o v gz, S 225 x g o v gz → sn225 x g o v gz) (hS226 : ∀ x g o v gz, S 226 x g o v gz → sn226 x g o v gz) (hS227 : ∀ x g o v gz, S 227 x g o v gz → sn227 x g o v gz) (hS232 : ∀ x g o v gz, S 232 x g o v gz → sn232 x g o v gz) (hS247 : ∀ x g o v gz, S 247 x g o v gz → sn247 x g o v gz) {a : List Int} {g : rHp} : ∀ (ρ : Nat → Int) (γ : Nat → rHp), zO 29 S a g q248_3 ρ γ → zGl (fun i vs g1 => jn248 a g i vs g1) (sn248 a g) q248_3 ρ γ := by
  intro ρ γ h
  obtain ⟨ha, hg, hr, hf, hm, hc, hl⟩ := h
  have ha : a = [ρ 0, ρ 1, ρ 2, ρ 3, ρ 4, ρ 5, ρ 6, ρ 7, ρ 8, ρ 9, ρ 10, ρ 11, ρ 12, ρ 13, ρ 14, ρ 15, ρ 16, ρ 17, ρ 18, ρ 19, ρ 20, ρ 21, ρ 22, ρ 23, ρ 24, ρ 25, ρ 26, ρ 27, ρ 28] := ha
  subst ha
  subst hg
  obtain ⟨r0, r1, r2, r3, r4, r5, r6, r7, r8, r9, r10, r11, r12, r13, r14, r15, r16, r17, r18, r19, r20, r21, r22, r23, r24, r25, r26, r27, r28, r29, -⟩ := hr
  have r0 : (0 : Int) ≤ ρ 0 ∧ ρ 0 ≤ 50000 := r0
  have r1 : (0 : Int) ≤ ρ 1 ∧ ρ 1 ≤ 2 := r1
  have r2 : (0 : Int) ≤ ρ 2 ∧ ρ 2 ≤ 2 := r2
  have r3 : (0 : Int) ≤ ρ 3 ∧ ρ 3 ≤ 50001 := r3
  have r4 : (0 : Int) ≤ ρ 4 ∧ ρ 4 ≤ 62 := r4
  have r5 : (0 : Int) ≤ ρ 5 ∧ ρ 5 ≤ 60 := r5
  have r6 : (0 : Int) ≤ ρ 6 ∧ ρ 6 ≤ 2000 := r6
  have r7 : (0 : Int) ≤ ρ 7 ∧ ρ 7 ≤ 2000 := r7
  have r8 : ((-2147483648) : Int) ≤ ρ 8 ∧ ρ 8 ≤ 2147483647 := r8
  have r9 : (2 : Int) ≤ ρ 9 ∧ ρ 9 ≤ 2147483647 := r9
  have r10 : (0 : Int) ≤ ρ 10 ∧ ρ 10 ≤ 2000 := r10
  have r11 : (0 : Int) ≤ ρ 11 ∧ ρ 11 ≤ 2000 := r11
  have r12 : (0 : Int) ≤ ρ 12 ∧ ρ 12 ≤ 0 := r12
  have r13 : (0 : Int) ≤ ρ 13 ∧ ρ 13 ≤ 8 := r13
  have r14 : (0 : Int) ≤ ρ 14 ∧ ρ 14 ≤ 8 := r14
  have r15 : (0 : Int) ≤ ρ 15 ∧ ρ 15 ≤ 4 := r15
  have r16 : ((-1) : Int) ≤ ρ 16 ∧ ρ 16 ≤ 19 := r16
  have r17 : (0 : Int) ≤ ρ 17 ∧ ρ 17 ≤ 4 := r17
  have r18 : ((-1) : Int) ≤ ρ 18 ∧ ρ 18 ≤ 7 := r18
  have r19 : (0 : Int) ≤ ρ 19 ∧ ρ 19 ≤ 4 := r19
  have r20 : ((-1) : Int) ≤ ρ 20 ∧ ρ 20 ≤ 19 := r20
  have r21 : ((-1) : Int) ≤ ρ 21 ∧ ρ 21 ≤ 3 := r21
  have r22 : (0 : Int) ≤ ρ 22 ∧ ρ 22 ≤ 7 := r22
  have r23 : (0 : Int) ≤ ρ 23 ∧ ρ 23 ≤ 8 := r23
  have r24 : (0 : Int) ≤ ρ 24 ∧ ρ 24 ≤ 4 := r24
  have r25 : ((-1) : Int) ≤ ρ 25 ∧ ρ 25 ≤ 19 := r25
  have r26 : ((-1) : Int) ≤ ρ 26 ∧ ρ 26 ≤ 3 := r26
  have r27 : (0 : Int) ≤ ρ 27 ∧ ρ 27 ≤ 7 := r27
  have r28 : ((-1) : Int) ≤ ρ 28 ∧ ρ 28 ≤ 7 := r28
  have r29 : ((-1) : Int) ≤ ρ 29 ∧ ρ 29 ≤ 2000 := r29
  obtain ⟨f0, f1, f2, -⟩ := hf
  have f0 : (0 : Int) ≤ -ρ 22 + ρ 14 + (-1) := f0
  have f1 : (0 : Int) ≤ ρ 22 + -ρ 14 + 1 := f1
  have f2 : (0 : Int) ≤ -ρ 3 + ((-50001) * ρ 1 + ρ 0) + 100002 := f2
  obtain ⟨m0, m1, m2, m3, m4, m5, m6, m7, m8, m9, m10, m11, m12, m13, m14, m15, m16, m17, m18, m19, m20, m21, m22, m23, m24, m25, m26, m27, m28, -⟩ := hm
  have m0 : γ 0 6 0 0 = ρ 0 := m0
  have m1 : γ 0 6 0 9 = ρ 1 := m1
  have m2 : γ 0 6 0 6 = ρ 2 := m2
  have m3 : γ 0 8 (ρ 2) 1 = ρ 3 := m3
  have m4 : γ 0 6 0 7 = ρ 4 := m4
  have m5 : γ 0 1 0 10 = ρ 5 := m5
  have m6 : γ 0 4 0 7 = ρ 6 := m6
  have m7 : γ 0 5 0 3 = ρ 7 := m7
  have m8 : γ 0 6 0 8 = ρ 8 := m8
  have m9 : γ 0 6 0 10 = ρ 9 := m9
  have m10 : γ 0 6 0 11 = ρ 10 := m10
  have m11 : γ 0 6 0 12 = ρ 11 := m11
  have m12 : γ 0 6 0 13 = ρ 12 := m12
  have m13 : γ 0 9 (ρ 4) 2 = ρ 13 := m13
  have m14 : γ 0 9 (ρ 4) 3 = ρ 14 := m14
  have m15 : γ 0 10 (9 * ρ 4) 5 = ρ 15 := m15
  have m16 : γ 0 10 (9 * ρ 4) 8 = ρ 16 := m16
  have m17 : γ 0 10 (9 * ρ 4) 12 = ρ 17 := m17
  have m18 : γ 0 10 (9 * ρ 4) 14 = ρ 18 := m18
  have m19 : γ 0 10 (9 * ρ 4 + 7) 5 = ρ 19 := m19
  have m20 : γ 0 10 (9 * ρ 4 + 7) 8 = ρ 20 := m20
  have m21 : γ 0 10 (9 * ρ 4 + 7) 9 = ρ 21 := m21
  have m22 : γ 0 10 (9 * ρ 4 + 7) 10 = ρ 22 := m22
  have m23 : γ 0 10 (9 * ρ 4 + 8) 4 = ρ 23 := m23
  have m24 : γ 0 10 (9 * ρ 4 + 8) 5 = ρ 24 := m24
  have m25 : γ 0 10 (9 * ρ 4 + 8) 8 = ρ 25 := m25
  have m26 : γ 0 10 (9 * ρ 4 + 8) 9 = ρ 26 := m26
  have m27 : γ 0 10 (9 * ρ 4 + 8) 10 = ρ 27 := m27
  have m28 : γ 0 10 (9 * ρ 4 + 8) 11 = ρ 28 := m28
  obtain ⟨-, c1⟩ := hc
  have c1 : ∀ (G : Nat) (k j : Int), ¬ rMdP m0_ G j → γ 1 G k j = γ 0 G k j := c1
  obtain ⟨l0, -⟩ := hl
  have l0 : sn226 [9 * ρ 4 + 7, ρ 11, ρ 6, ρ 20, ρ 21] (γ 0) 0 (ρ 29) (γ 1) := hS226 _ _ _ _ _ l0
  show jn248 [ρ 0, ρ 1, ρ 2, ρ 3, ρ 4, ρ 5, ρ 6, ρ 7, ρ 8, ρ 9, ρ 10, ρ 11, ρ 12, ρ 13, ρ 14, ρ 15, ρ 16, ρ 17, ρ 18, ρ 19, ρ 20, ρ 21, ρ 22, ρ 23, ρ 24, ρ 25, ρ 26, ρ 27, ρ 28] (γ 0) 0 [ρ 0, ρ 1, ρ 2, ρ 3, ρ 4, ρ 5, ρ 6, ρ 7, ρ 8, ρ 9, ρ 10, ρ 11, ρ 12, ρ 13, ρ 14, ρ 15, ρ 16, ρ 17, ρ 18, ρ 19, ρ 20, ρ 21, ρ 22, ρ 23, ρ 24, ρ 25, ρ 26, ρ 27, ρ 28, 0, ρ 29, ρ 11, 1, ρ 0, ρ 3, ρ 6, ρ 7, ρ 12] (γ 1)
  have hD : dn248 [] (γ 0) = .inl (0, [0, ρ 29, ρ 11, 1], γ 1) := by
    unfold dn248
    refine (zLet_eq m4).trans ?_
    refine (zLet_eq m9).trans ?_
    refine (zLet_eq m11).trans ?_
    refine (zLet_eq m12).trans ?_
    refine (zLet_eq m14).trans ?_
    refine (zLet_eq m22).trans ?_
    refine (if_neg (show ¬ (ρ 9 ≤ 1) by omega)).trans ?_
    refine (if_neg (show ¬ (ρ 12 ≠ 0) by omega)).trans ?_
    refine (if_neg (show ¬ (ρ 22 ≠ ρ 14 + (-1)) by omega)).trans ?_
    refine (zLet_eq (show fn226 [9 * ρ 4 + 7, ρ 11] (γ 0) = (0, ρ 29, γ 1) from l0.symm)).trans ?_
    refine (zLet_eq (show _ = γ 1 from rfl)).trans ?_
    refine (zLet_eq (show _ = ρ 29 from rfl)).trans ?_
    rfl
  exact zGoo_to hD
theorem vn248a0_0 {S : Nat → zSpc} (hS225 : ∀ x g o v gz, S 225 x g o v gz → sn225 x g o v gz) (hS226 : ∀ x g o v gz, S 226 x g o v gz → sn226 x g o v gz) (hS227 : ∀ x g o v gz, S 227 x g o v gz → sn227 x g o v gz) (hS232 : ∀ x g o v gz, S 232 x g o v gz → sn232 x g o v gz) (hS247 : ∀ x g o v gz, S 247 x g o v gz → sn247 x g o v gz) {a : List Int} {g : rHp} : ∀ (ρ : Nat → Int) (γ : Nat → rHp), jn248 a g 0 (zAg (zNA a248_ 0) ρ) (γ 1) → zO 29 S a g q248a0_0 ρ γ → zGl (fun i vs g1 => jn248 a g i vs g1) (sn248 a g) q248a0_0 ρ γ := by
  intro ρ γ hJ h
  obtain ⟨ha, hg, hr, hf, hm, hc, hl⟩ := h
  have ha : a = [ρ 0, ρ 1, ρ 2, ρ 3, ρ 4, ρ 5, ρ 6, ρ 7, ρ 8, ρ 9, ρ 10, ρ 11, ρ 12, ρ 13, ρ 14, ρ 15, ρ 16, ρ 17, ρ 18, ρ 19, ρ 20, ρ 21, ρ 22, ρ 23, ρ 24, ρ 25, ρ 26, ρ 27, ρ 28] := ha
  subst ha
  subst hg
  have hJ : jn248 [ρ 0, ρ 1, ρ 2, ρ 3, ρ 4, ρ 5, ρ 6, ρ 7, ρ 8, ρ 9, ρ 10, ρ 11, ρ 12, ρ 13, ρ 14, ρ 15, ρ 16, ρ 17, ρ 18, ρ 19, ρ 20, ρ 21, ρ 22, ρ 23, ρ 24, ρ 25, ρ 26, ρ 27, ρ 28] (γ 0) 0 [ρ 0, ρ 1, ρ 2, ρ 3, ρ 4, ρ 5, ρ 6, ρ 7, ρ 8, ρ 9, ρ 10, ρ 11, ρ 12, ρ 13, ρ 14, ρ 15, ρ 16, ρ 17, ρ 18, ρ 19, ρ 20, ρ 21, ρ 22, ρ 23, ρ 24, ρ 25, ρ 26, ρ 27, ρ 28, ρ 29, ρ 30, ρ 31, ρ 32, ρ 33, ρ 34, ρ 35, ρ 36, ρ 37] (γ 1) := hJ
  obtain ⟨r0, r1, r2, r3, r4, r5, r6, r7, r8, r9, r10, r11, r12, r13, r14, r15, r16, r17, r18, r19, r20, r21, r22, r23, r24, r25, r26, r27, r28, r29, r30, r31, r32, r33, r34, r35, r36, r37, -⟩ := hr
  have r0 : (0 : Int) ≤ ρ 0 ∧ ρ 0 ≤ 50000 := r0
  have r1 : (0 : Int) ≤ ρ 1 ∧ ρ 1 ≤ 2 := r1
  have r2 : (0 : Int) ≤ ρ 2 ∧ ρ 2 ≤ 2 := r2
  have r3 : (0 : Int) ≤ ρ 3 ∧ ρ 3 ≤ 50001 := r3
  have r4 : (0 : Int) ≤ ρ 4 ∧ ρ 4 ≤ 62 := r4
  have r5 : (0 : Int) ≤ ρ 5 ∧ ρ 5 ≤ 60 := r5
  have r6 : (0 : Int) ≤ ρ 6 ∧ ρ 6 ≤ 2000 := r6
  have r7 : (0 : Int) ≤ ρ 7 ∧ ρ 7 ≤ 2000 := r7
  have r8 : ((-2147483648) : Int) ≤ ρ 8 ∧ ρ 8 ≤ 2147483647 := r8
  have r9 : ((-2147483648) : Int) ≤ ρ 9 ∧ ρ 9 ≤ 2147483647 := r9
  have r10 : (0 : Int) ≤ ρ 10 ∧ ρ 10 ≤ 2000 := r10
  have r11 : (0 : Int) ≤ ρ 11 ∧ ρ 11 ≤ 2000 := r11
  have r12 : ((-2147483648) : Int) ≤ ρ 12 ∧ ρ 12 ≤ 2147483647 := r12
  have r13 : (0 : Int) ≤ ρ 13 ∧ ρ 13 ≤ 8 := r13
  have r14 : (0 : Int) ≤ ρ 14 ∧ ρ 14 ≤ 8 := r14
  have r15 : (0 : Int) ≤ ρ 15 ∧ ρ 15 ≤ 4 := r15
  have r16 : ((-1) : Int) ≤ ρ 16 ∧ ρ 16 ≤ 19 := r16
  have r17 : (0 : Int) ≤ ρ 17 ∧ ρ 17 ≤ 4 := r17
  have r18 : ((-1) : Int) ≤ ρ 18 ∧ ρ 18 ≤ 7 := r18
  have r19 : (0 : Int) ≤ ρ 19 ∧ ρ 19 ≤ 4 := r19
  have r20 : ((-1) : Int) ≤ ρ 20 ∧ ρ 20 ≤ 19 := r20
  have r21 : ((-1) : Int) ≤ ρ 21 ∧ ρ 21 ≤ 3 := r21
  have r22 : (0 : Int) ≤ ρ 22 ∧ ρ 22 ≤ 7 := r22
  have r23 : (0 : Int) ≤ ρ 23 ∧ ρ 23 ≤ 8 := r23
  have r24 : (0 : Int) ≤ ρ 24 ∧ ρ 24 ≤ 4 := r24
  have r25 : ((-1) : Int) ≤ ρ 25 ∧ ρ 25 ≤ 19 := r25
  have r26 : ((-1) : Int) ≤ ρ 26 ∧ ρ 26 ≤ 3 := r26
  have r27 : (0 : Int) ≤ ρ 27 ∧ ρ 27 ≤ 7 := r27
  have r28 : ((-1) : Int) ≤ ρ 28 ∧ ρ 28 ≤ 7 := r28
  have r29 : (0 : Int) ≤ ρ 29 ∧ ρ 29 ≤ 2000 := r29
  have r30 : ((-1) : Int) ≤ ρ 30 ∧ ρ 30 ≤ (-1) := r30
  have r31 : (0 : Int) ≤ ρ 31 ∧ ρ 31 ≤ 2000 := r31
  have r32 : (0 : Int) ≤ ρ 32 ∧ ρ 32 ≤ 1 := r32
  have r33 : (0 : Int) ≤ ρ 33 ∧ ρ 33 ≤ 50000 := r33
  have r34 : (0 : Int) ≤ ρ 34 ∧ ρ 34 ≤ 50001 := r34
  have r35 : (0 : Int) ≤ ρ 35 ∧ ρ 35 ≤ 2000 := r35
  have r36 : (0 : Int) ≤ ρ 36 ∧ ρ 36 ≤ 2000 := r36
  have r37 : ((-2147483648) : Int) ≤ ρ 37 ∧ ρ 37 ≤ 2147483647 := r37
  obtain ⟨f0, f1, f2, f3, f4, f5, f6, f7, f8, -⟩ := hf
  have f0 : (0 : Int) ≤ -ρ 34 + (ρ 33 + (ρ 3 + -ρ 0)) := f0
  have f1 : (0 : Int) ≤ -ρ 34 + (ρ 33 + (-50001) * ρ 1) + 100002 := f1
  have f2 : (0 : Int) ≤ -ρ 32 + ρ 14 := f2
  have f3 : (0 : Int) ≤ -ρ 31 + ρ 11 := f3
  have f4 : (0 : Int) ≤ ρ 36 + -ρ 7 := f4
  have f5 : (0 : Int) ≤ ρ 35 + -ρ 6 := f5
  have f6 : (0 : Int) ≤ ρ 34 + -ρ 3 := f6
  have f7 : (0 : Int) ≤ ρ 33 + -ρ 0 := f7
  have f8 : (0 : Int) ≤ -ρ 3 + ((-50001) * ρ 1 + ρ 0) + 100002 := f8
  obtain ⟨m0, m1, m2, m3, m4, m5, m6, m7, m8, m9, m10, m11, m12, m13, m14, m15, m16, m17, m18, m19, m20, m21, m22, m23, m24, m25, m26, m27, m28, m29, m30, m31, m32, m33, -⟩ := hm
  have m0 : γ 0 6 0 0 = ρ 0 := m0
  have m1 : γ 0 6 0 9 = ρ 1 := m1
  have m2 : γ 0 6 0 6 = ρ 2 := m2
  have m3 : γ 0 8 (ρ 2) 1 = ρ 3 := m3
  have m4 : γ 0 6 0 7 = ρ 4 := m4
  have m5 : γ 0 1 0 10 = ρ 5 := m5
  have m6 : γ 0 4 0 7 = ρ 6 := m6
  have m7 : γ 0 5 0 3 = ρ 7 := m7
  have m8 : γ 0 6 0 8 = ρ 8 := m8
  have m9 : γ 0 6 0 10 = ρ 9 := m9
  have m10 : γ 0 6 0 11 = ρ 10 := m10
  have m11 : γ 0 6 0 12 = ρ 11 := m11
  have m12 : γ 0 6 0 13 = ρ 12 := m12
  have m13 : γ 0 9 (ρ 4) 2 = ρ 13 := m13
  have m14 : γ 0 9 (ρ 4) 3 = ρ 14 := m14
  have m15 : γ 0 10 (9 * ρ 4) 5 = ρ 15 := m15
  have m16 : γ 0 10 (9 * ρ 4) 8 = ρ 16 := m16
  have m17 : γ 0 10 (9 * ρ 4) 12 = ρ 17 := m17
  have m18 : γ 0 10 (9 * ρ 4) 14 = ρ 18 := m18
  have m19 : γ 0 10 (9 * ρ 4 + 7) 5 = ρ 19 := m19
  have m20 : γ 0 10 (9 * ρ 4 + 7) 8 = ρ 20 := m20
  have m21 : γ 0 10 (9 * ρ 4 + 7) 9 = ρ 21 := m21
  have m22 : γ 0 10 (9 * ρ 4 + 7) 10 = ρ 22 := m22
  have m23 : γ 0 10 (9 * ρ 4 + 8) 4 = ρ 23 := m23
  have m24 : γ 0 10 (9 * ρ 4 + 8) 5 = ρ 24 := m24
  have m25 : γ 0 10 (9 * ρ 4 + 8) 8 = ρ 25 := m25
  have m26 : γ 0 10 (9 * ρ 4 + 8) 9 = ρ 26 := m26
  have m27 : γ 0 10 (9 * ρ 4 + 8) 10 = ρ 27 := m27
  have m28 : γ 0 10 (9 * ρ 4 + 8) 11 = ρ 28 := m28
  have m29 : γ 1 6 0 0 = ρ 33 := m29
  have m30 : γ 1 8 (ρ 2) 1 = ρ 34 := m30
  have m31 : γ 1 4 0 7 = ρ 35 := m31
  have m32 : γ 1 5 0 3 = ρ 36 := m32
  have m33 : γ 1 6 0 13 = ρ 37 := m33
  obtain ⟨-, c1⟩ := hc
  have c1 : ∀ (G : Nat) (k j : Int), ¬ rMdP m140_ G j → γ 1 G k j = γ 0 G k j := c1
  show sn248 [ρ 0, ρ 1, ρ 2, ρ 3, ρ 4, ρ 5, ρ 6, ρ 7, ρ 8, ρ 9, ρ 10, ρ 11, ρ 12, ρ 13, ρ 14, ρ 15, ρ 16, ρ 17, ρ 18, ρ 19, ρ 20, ρ 21, ρ 22, ρ 23, ρ 24, ρ 25, ρ 26, ρ 27, ρ 28] (γ 0) 0 0 (γ 1)
  have hD : en248 (γ 0) (0, [ρ 29, ρ 30, ρ 31, ρ 32], γ 1) = .inr (0, 0, γ 1) := by
    unfold en248
    refine (if_pos (show (0 : Nat) = 0 by decide)).trans ?_
    refine (zLet_eq (show _ = γ 1 from rfl)).trans ?_
    refine (zLet_eq (show _ = ρ 29 from rfl)).trans ?_
    refine (zLet_eq (show _ = ρ 30 from rfl)).trans ?_
    refine (zLet_eq (show _ = ρ 31 from rfl)).trans ?_
    refine (zLet_eq (show _ = ρ 32 from rfl)).trans ?_
    refine (zLet_eq m4).trans ?_
    refine (zLet_eq m10).trans ?_
    refine (zLet_eq m11).trans ?_
    refine (zLet_eq m33).trans ?_
    refine (if_pos (show ρ 30 < 0 by omega)).trans ?_
    rfl
  exact zGoo_aend hJ hD
theorem vn248a0_1 {S : Nat → zSpc} (hS225 : ∀ x g o v gz, S 225 x g o v gz → sn225 x g o v gz) (hS226 : ∀ x g o v gz, S 226 x g o v gz → sn226 x g o v gz) (hS227 : ∀ x g o v gz, S 227 x g o v gz → sn227 x g o v gz) (hS232 : ∀ x g o v gz, S 232 x g o v gz → sn232 x g o v gz) (hS247 : ∀ x g o v gz, S 247 x g o v gz → sn247 x g o v gz) {a : List Int} {g : rHp} : ∀ (ρ : Nat → Int) (γ : Nat → rHp), jn248 a g 0 (zAg (zNA a248_ 0) ρ) (γ 1) → zO 29 S a g q248a0_1 ρ γ → zGl (fun i vs g1 => jn248 a g i vs g1) (sn248 a g) q248a0_1 ρ γ := by
  intro ρ γ hJ h
  obtain ⟨ha, hg, hr, hf, hm, hc, hl⟩ := h
  have ha : a = [ρ 0, ρ 1, ρ 2, ρ 3, ρ 4, ρ 5, ρ 6, ρ 7, ρ 8, ρ 9, ρ 10, ρ 11, ρ 12, ρ 13, ρ 14, ρ 15, ρ 16, ρ 17, ρ 18, ρ 19, ρ 20, ρ 21, ρ 22, ρ 23, ρ 24, ρ 25, ρ 26, ρ 27, ρ 28] := ha
  subst ha
  subst hg
  have hJ : jn248 [ρ 0, ρ 1, ρ 2, ρ 3, ρ 4, ρ 5, ρ 6, ρ 7, ρ 8, ρ 9, ρ 10, ρ 11, ρ 12, ρ 13, ρ 14, ρ 15, ρ 16, ρ 17, ρ 18, ρ 19, ρ 20, ρ 21, ρ 22, ρ 23, ρ 24, ρ 25, ρ 26, ρ 27, ρ 28] (γ 0) 0 [ρ 0, ρ 1, ρ 2, ρ 3, ρ 4, ρ 5, ρ 6, ρ 7, ρ 8, ρ 9, ρ 10, ρ 11, ρ 12, ρ 13, ρ 14, ρ 15, ρ 16, ρ 17, ρ 18, ρ 19, ρ 20, ρ 21, ρ 22, ρ 23, ρ 24, ρ 25, ρ 26, ρ 27, ρ 28, ρ 29, ρ 30, ρ 31, ρ 32, ρ 33, ρ 34, ρ 35, ρ 36, ρ 37] (γ 1) := hJ
  obtain ⟨r0, r1, r2, r3, r4, r5, r6, r7, r8, r9, r10, r11, r12, r13, r14, r15, r16, r17, r18, r19, r20, r21, r22, r23, r24, r25, r26, r27, r28, r29, r30, r31, r32, r33, r34, r35, r36, r37, -⟩ := hr
  have r0 : (0 : Int) ≤ ρ 0 ∧ ρ 0 ≤ 50000 := r0
  have r1 : (0 : Int) ≤ ρ 1 ∧ ρ 1 ≤ 2 := r1
  have r2 : (0 : Int) ≤ ρ 2 ∧ ρ 2 ≤ 2 := r2
  have r3 : (0 : Int) ≤ ρ 3 ∧ ρ 3 ≤ 50001 := r3
  have r4 : (0 : Int) ≤ ρ 4 ∧ ρ 4 ≤ 62 := r4
  have r5 : (0 : Int) ≤ ρ 5 ∧ ρ 5 ≤ 60 := r5
  have r6 : (0 : Int) ≤ ρ 6 ∧ ρ 6 ≤ 2000 := r6
  have r7 : (0 : Int) ≤ ρ 7 ∧ ρ 7 ≤ 2000 := r7
  have r8 : ((-2147483648) : Int) ≤ ρ 8 ∧ ρ 8 ≤ 2147483647 := r8
  have r9 : ((-2147483648) : Int) ≤ ρ 9 ∧ ρ 9 ≤ 2147483647 := r9
  have r10 : (0 : Int) ≤ ρ 10 ∧ ρ 10 ≤ 2000 := r10
  have r11 : (0 : Int) ≤ ρ 11 ∧ ρ 11 ≤ 2000 := r11
  have r12 : ((-2147483648) : Int) ≤ ρ 12 ∧ ρ 12 ≤ 2147483647 := r12
  have r13 : (0 : Int) ≤ ρ 13 ∧ ρ 13 ≤ 8 := r13
  have r14 : (0 : Int) ≤ ρ 14 ∧ ρ 14 ≤ 8 := r14
  have r15 : (0 : Int) ≤ ρ 15 ∧ ρ 15 ≤ 4 := r15
  have r16 : ((-1) : Int) ≤ ρ 16 ∧ ρ 16 ≤ 19 := r16
  have r17 : (0 : Int) ≤ ρ 17 ∧ ρ 17 ≤ 4 := r17
  have r18 : ((-1) : Int) ≤ ρ 18 ∧ ρ 18 ≤ 7 := r18
  have r19 : (0 : Int) ≤ ρ 19 ∧ ρ 19 ≤ 4 := r19
  have r20 : ((-1) : Int) ≤ ρ 20 ∧ ρ 20 ≤ 19 := r20
  have r21 : ((-1) : Int) ≤ ρ 21 ∧ ρ 21 ≤ 3 := r21
  have r22 : (0 : Int) ≤ ρ 22 ∧ ρ 22 ≤ 7 := r22
  have r23 : (0 : Int) ≤ ρ 23 ∧ ρ 23 ≤ 8 := r23
  have r24 : (0 : Int) ≤ ρ 24 ∧ ρ 24 ≤ 4 := r24
  have r25 : ((-1) : Int) ≤ ρ 25 ∧ ρ 25 ≤ 19 := r25
  have r26 : ((-1) : Int) ≤ ρ 26 ∧ ρ 26 ≤ 3 := r26
  have r27 : (0 : Int) ≤ ρ 27 ∧ ρ 27 ≤ 7 := r27
  have r28 : ((-1) : Int) ≤ ρ 28 ∧ ρ 28 ≤ 7 := r28
  have r29 : (0 : Int) ≤ ρ 29 ∧ ρ 29 ≤ 2000 := r29
  have r30 : (0 : Int) ≤ ρ 30 ∧ ρ 30 ≤ 2000 := r30
  have r31 : (0 : Int) ≤ ρ 31 ∧ ρ 31 ≤ 2000 := r31
  have r32 : (0 : Int) ≤ ρ 32 ∧ ρ 32 ≤ 1 := r32
  have r33 : (0 : Int) ≤ ρ 33 ∧ ρ 33 ≤ 50000 := r33
  have r34 : (0 : Int) ≤ ρ 34 ∧ ρ 34 ≤ 50001 := r34
  have r35 : (0 : Int) ≤ ρ 35 ∧ ρ 35 ≤ 2000 := r35
  have r36 : (0 : Int) ≤ ρ 36 ∧ ρ 36 ≤ 2000 := r36
  have r37 : ((-2147483648) : Int) ≤ ρ 37 ∧ ρ 37 ≤ 2147483647 := r37
  obtain ⟨f0, f1, f2, f3, f4, f5, f6, f7, f8, f9, -⟩ := hf
  have f0 : (0 : Int) ≤ ρ 30 + -ρ 10 := f0
  have f1 : (0 : Int) ≤ -ρ 34 + (ρ 33 + (ρ 3 + -ρ 0)) := f1
  have f2 : (0 : Int) ≤ -ρ 34 + (ρ 33 + (-50001) * ρ 1) + 100002 := f2
  have f3 : (0 : Int) ≤ -ρ 32 + ρ 14 := f3
  have f4 : (0 : Int) ≤ -ρ 31 + ρ 11 := f4
  have f5 : (0 : Int) ≤ ρ 36 + -ρ 7 := f5
  have f6 : (0 : Int) ≤ ρ 35 + -ρ 6 := f6
  have f7 : (0 : Int) ≤ ρ 34 + -ρ 3 := f7
  have f8 : (0 : Int) ≤ ρ 33 + -ρ 0 := f8
  have f9 : (0 : Int) ≤ -ρ 3 + ((-50001) * ρ 1 + ρ 0) + 100002 := f9
  obtain ⟨m0, m1, m2, m3, m4, m5, m6, m7, m8, m9, m10, m11, m12, m13, m14, m15, m16, m17, m18, m19, m20, m21, m22, m23, m24, m25, m26, m27, m28, m29, m30, m31, m32, m33, -⟩ := hm
  have m0 : γ 0 6 0 0 = ρ 0 := m0
  have m1 : γ 0 6 0 9 = ρ 1 := m1
  have m2 : γ 0 6 0 6 = ρ 2 := m2
  have m3 : γ 0 8 (ρ 2) 1 = ρ 3 := m3
  have m4 : γ 0 6 0 7 = ρ 4 := m4
  have m5 : γ 0 1 0 10 = ρ 5 := m5
  have m6 : γ 0 4 0 7 = ρ 6 := m6
  have m7 : γ 0 5 0 3 = ρ 7 := m7
  have m8 : γ 0 6 0 8 = ρ 8 := m8
  have m9 : γ 0 6 0 10 = ρ 9 := m9
  have m10 : γ 0 6 0 11 = ρ 10 := m10
  have m11 : γ 0 6 0 12 = ρ 11 := m11
  have m12 : γ 0 6 0 13 = ρ 12 := m12
  have m13 : γ 0 9 (ρ 4) 2 = ρ 13 := m13
  have m14 : γ 0 9 (ρ 4) 3 = ρ 14 := m14
  have m15 : γ 0 10 (9 * ρ 4) 5 = ρ 15 := m15
  have m16 : γ 0 10 (9 * ρ 4) 8 = ρ 16 := m16
  have m17 : γ 0 10 (9 * ρ 4) 12 = ρ 17 := m17
  have m18 : γ 0 10 (9 * ρ 4) 14 = ρ 18 := m18
  have m19 : γ 0 10 (9 * ρ 4 + 7) 5 = ρ 19 := m19
  have m20 : γ 0 10 (9 * ρ 4 + 7) 8 = ρ 20 := m20
  have m21 : γ 0 10 (9 * ρ 4 + 7) 9 = ρ 21 := m21
  have m22 : γ 0 10 (9 * ρ 4 + 7) 10 = ρ 22 := m22
  have m23 : γ 0 10 (9 * ρ 4 + 8) 4 = ρ 23 := m23
  have m24 : γ 0 10 (9 * ρ 4 + 8) 5 = ρ 24 := m24
  have m25 : γ 0 10 (9 * ρ 4 + 8) 8 = ρ 25 := m25
  have m26 : γ 0 10 (9 * ρ 4 + 8) 9 = ρ 26 := m26
  have m27 : γ 0 10 (9 * ρ 4 + 8) 10 = ρ 27 := m27
  have m28 : γ 0 10 (9 * ρ 4 + 8) 11 = ρ 28 := m28
  have m29 : γ 1 6 0 0 = ρ 33 := m29
  have m30 : γ 1 8 (ρ 2) 1 = ρ 34 := m30
  have m31 : γ 1 4 0 7 = ρ 35 := m31
  have m32 : γ 1 5 0 3 = ρ 36 := m32
  have m33 : γ 1 6 0 13 = ρ 37 := m33
  obtain ⟨-, c1⟩ := hc
  have c1 : ∀ (G : Nat) (k j : Int), ¬ rMdP m140_ G j → γ 1 G k j = γ 0 G k j := c1
  show sn248 [ρ 0, ρ 1, ρ 2, ρ 3, ρ 4, ρ 5, ρ 6, ρ 7, ρ 8, ρ 9, ρ 10, ρ 11, ρ 12, ρ 13, ρ 14, ρ 15, ρ 16, ρ 17, ρ 18, ρ 19, ρ 20, ρ 21, ρ 22, ρ 23, ρ 24, ρ 25, ρ 26, ρ 27, ρ 28] (γ 0) 0 0 (γ 1)
  have hD : en248 (γ 0) (0, [ρ 29, ρ 30, ρ 31, ρ 32], γ 1) = .inr (0, 0, γ 1) := by
    unfold en248
    refine (if_pos (show (0 : Nat) = 0 by decide)).trans ?_
    refine (zLet_eq (show _ = γ 1 from rfl)).trans ?_
    refine (zLet_eq (show _ = ρ 29 from rfl)).trans ?_
    refine (zLet_eq (show _ = ρ 30 from rfl)).trans ?_
    refine (zLet_eq (show _ = ρ 31 from rfl)).trans ?_
    refine (zLet_eq (show _ = ρ 32 from rfl)).trans ?_
    refine (zLet_eq m4).trans ?_
    refine (zLet_eq m10).trans ?_
    refine (zLet_eq m11).trans ?_
    refine (zLet_eq m33).trans ?_
    refine (if_neg (show ¬ (ρ 30 < 0) by omega)).trans ?_
    refine (if_pos (show ρ 30 ≥ ρ 10 by omega)).trans ?_
    rfl
  exact zGoo_aend hJ hD
theorem vn248a0_2 {S : Nat → zSpc} (hS225 : ∀ x g o v gz, S 225 x g o v gz → sn225 x g o v gz) (hS226 : ∀ x g o v gz, S 226 x g o v gz → sn226 x g o v gz) (hS227 : ∀ x g o v gz, S 227 x g o v gz → sn227 x g o v gz) (hS232 : ∀ x g o v gz, S 232 x g o v gz → sn232 x g o v gz) (hS247 : ∀ x g o v gz, S 247 x g o v gz → sn247 x g o v gz) {a : List Int} {g : rHp} : ∀ (ρ : Nat → Int) (γ : Nat → rHp), jn248 a g 0 (zAg (zNA a248_ 0) ρ) (γ 1) → zO 29 S a g q248a0_2 ρ γ → zGl (fun i vs g1 => jn248 a g i vs g1) (sn248 a g) q248a0_2 ρ γ := by
  intro ρ γ hJ h
  obtain ⟨ha, hg, hr, hf, hm, hc, hl⟩ := h
  have ha : a = [ρ 0, ρ 1, ρ 2, ρ 3, ρ 4, ρ 5, ρ 6, ρ 7, ρ 8, ρ 9, ρ 10, ρ 11, ρ 12, ρ 13, ρ 14, ρ 15, ρ 16, ρ 17, ρ 18, ρ 19, ρ 20, ρ 21, ρ 22, ρ 23, ρ 24, ρ 25, ρ 26, ρ 27, ρ 28] := ha
  subst ha
  subst hg
  have hJ : jn248 [ρ 0, ρ 1, ρ 2, ρ 3, ρ 4, ρ 5, ρ 6, ρ 7, ρ 8, ρ 9, ρ 10, ρ 11, ρ 12, ρ 13, ρ 14, ρ 15, ρ 16, ρ 17, ρ 18, ρ 19, ρ 20, ρ 21, ρ 22, ρ 23, ρ 24, ρ 25, ρ 26, ρ 27, ρ 28] (γ 0) 0 [ρ 0, ρ 1, ρ 2, ρ 3, ρ 4, ρ 5, ρ 6, ρ 7, ρ 8, ρ 9, ρ 10, ρ 11, ρ 12, ρ 13, ρ 14, ρ 15, ρ 16, ρ 17, ρ 18, ρ 19, ρ 20, ρ 21, ρ 22, ρ 23, ρ 24, ρ 25, ρ 26, ρ 27, ρ 28, ρ 29, ρ 30, ρ 31, ρ 32, ρ 33, ρ 34, ρ 35, ρ 36, ρ 37] (γ 1) := hJ
  obtain ⟨r0, r1, r2, r3, r4, r5, r6, r7, r8, r9, r10, r11, r12, r13, r14, r15, r16, r17, r18, r19, r20, r21, r22, r23, r24, r25, r26, r27, r28, r29, r30, r31, r32, r33, r34, r35, r36, r37, -⟩ := hr
  have r0 : (0 : Int) ≤ ρ 0 ∧ ρ 0 ≤ 50000 := r0
  have r1 : (0 : Int) ≤ ρ 1 ∧ ρ 1 ≤ 2 := r1
  have r2 : (0 : Int) ≤ ρ 2 ∧ ρ 2 ≤ 2 := r2
  have r3 : (0 : Int) ≤ ρ 3 ∧ ρ 3 ≤ 50001 := r3
  have r4 : (0 : Int) ≤ ρ 4 ∧ ρ 4 ≤ 62 := r4
  have r5 : (0 : Int) ≤ ρ 5 ∧ ρ 5 ≤ 60 := r5
  have r6 : (0 : Int) ≤ ρ 6 ∧ ρ 6 ≤ 2000 := r6
  have r7 : (0 : Int) ≤ ρ 7 ∧ ρ 7 ≤ 2000 := r7
  have r8 : ((-2147483648) : Int) ≤ ρ 8 ∧ ρ 8 ≤ 2147483647 := r8
  have r9 : ((-2147483648) : Int) ≤ ρ 9 ∧ ρ 9 ≤ 2147483647 := r9
  have r10 : (0 : Int) ≤ ρ 10 ∧ ρ 10 ≤ 2000 := r10
  have r11 : (0 : Int) ≤ ρ 11 ∧ ρ 11 ≤ 2000 := r11
  have r12 : ((-2147483648) : Int) ≤ ρ 12 ∧ ρ 12 ≤ 2147483647 := r12
  have r13 : (0 : Int) ≤ ρ 13 ∧ ρ 13 ≤ 8 := r13
  have r14 : (0 : Int) ≤ ρ 14 ∧ ρ 14 ≤ 8 := r14
  have r15 : (0 : Int) ≤ ρ 15 ∧ ρ 15 ≤ 4 := r15
  have r16 : ((-1) : Int) ≤ ρ 16 ∧ ρ 16 ≤ 19 := r16
  have r17 : (0 : Int) ≤ ρ 17 ∧ ρ 17 ≤ 4 := r17
  have r18 : ((-1) : Int) ≤ ρ 18 ∧ ρ 18 ≤ 7 := r18
  have r19 : (0 : Int) ≤ ρ 19 ∧ ρ 19 ≤ 4 := r19
  have r20 : ((-1) : Int) ≤ ρ 20 ∧ ρ 20 ≤ 19 := r20
  have r21 : ((-1) : Int) ≤ ρ 21 ∧ ρ 21 ≤ 3 := r21
  have r22 : (0 : Int) ≤ ρ 22 ∧ ρ 22 ≤ 7 := r22
  have r23 : (0 : Int) ≤ ρ 23 ∧ ρ 23 ≤ 8 := r23
  have r24 : (0 : Int) ≤ ρ 24 ∧ ρ 24 ≤ 4 := r24
  have r25 : ((-1) : Int) ≤ ρ 25 ∧ ρ 25 ≤ 19 := r25
  have r26 : ((-1) : Int) ≤ ρ 26 ∧ ρ 26 ≤ 3 := r26
  have r27 : (0 : Int) ≤ ρ 27 ∧ ρ 27 ≤ 7 := r27
  have r28 : ((-1) : Int) ≤ ρ 28 ∧ ρ 28 ≤ 7 := r28
  have r29 : (2000 : Int) ≤ ρ 29 ∧ ρ 29 ≤ 2000 := r29
  have r30 : (0 : Int) ≤ ρ 30 ∧ ρ 30 ≤ 2000 := r30
  have r31 : (0 : Int) ≤ ρ 31 ∧ ρ 31 ≤ 2000 := r31
  have r32 : (0 : Int) ≤ ρ 32 ∧ ρ 32 ≤ 1 := r32
  have r33 : (0 : Int) ≤ ρ 33 ∧ ρ 33 ≤ 50000 := r33
  have r34 : (0 : Int) ≤ ρ 34 ∧ ρ 34 ≤ 50001 := r34
  have r35 : (0 : Int) ≤ ρ 35 ∧ ρ 35 ≤ 2000 := r35
  have r36 : (0 : Int) ≤ ρ 36 ∧ ρ 36 ≤ 2000 := r36
  have r37 : ((-2147483648) : Int) ≤ ρ 37 ∧ ρ 37 ≤ 2147483647 := r37
  obtain ⟨f0, f1, f2, f3, f4, f5, f6, f7, f8, f9, -⟩ := hf
  have f0 : (0 : Int) ≤ -ρ 30 + ρ 10 + (-1) := f0
  have f1 : (0 : Int) ≤ -ρ 34 + (ρ 33 + (ρ 3 + -ρ 0)) := f1
  have f2 : (0 : Int) ≤ -ρ 34 + (ρ 33 + (-50001) * ρ 1) + 100002 := f2
  have f3 : (0 : Int) ≤ -ρ 32 + ρ 14 := f3
  have f4 : (0 : Int) ≤ -ρ 31 + ρ 11 := f4
  have f5 : (0 : Int) ≤ ρ 36 + -ρ 7 := f5
  have f6 : (0 : Int) ≤ ρ 35 + -ρ 6 := f6
  have f7 : (0 : Int) ≤ ρ 34 + -ρ 3 := f7
  have f8 : (0 : Int) ≤ ρ 33 + -ρ 0 := f8
  have f9 : (0 : Int) ≤ -ρ 3 + ((-50001) * ρ 1 + ρ 0) + 100002 := f9
  obtain ⟨m0, m1, m2, m3, m4, m5, m6, m7, m8, m9, m10, m11, m12, m13, m14, m15, m16, m17, m18, m19, m20, m21, m22, m23, m24, m25, m26, m27, m28, m29, m30, m31, m32, m33, -⟩ := hm
  have m0 : γ 0 6 0 0 = ρ 0 := m0
  have m1 : γ 0 6 0 9 = ρ 1 := m1
  have m2 : γ 0 6 0 6 = ρ 2 := m2
  have m3 : γ 0 8 (ρ 2) 1 = ρ 3 := m3
  have m4 : γ 0 6 0 7 = ρ 4 := m4
  have m5 : γ 0 1 0 10 = ρ 5 := m5
  have m6 : γ 0 4 0 7 = ρ 6 := m6
  have m7 : γ 0 5 0 3 = ρ 7 := m7
  have m8 : γ 0 6 0 8 = ρ 8 := m8
  have m9 : γ 0 6 0 10 = ρ 9 := m9
  have m10 : γ 0 6 0 11 = ρ 10 := m10
  have m11 : γ 0 6 0 12 = ρ 11 := m11
  have m12 : γ 0 6 0 13 = ρ 12 := m12
  have m13 : γ 0 9 (ρ 4) 2 = ρ 13 := m13
  have m14 : γ 0 9 (ρ 4) 3 = ρ 14 := m14
  have m15 : γ 0 10 (9 * ρ 4) 5 = ρ 15 := m15
  have m16 : γ 0 10 (9 * ρ 4) 8 = ρ 16 := m16
  have m17 : γ 0 10 (9 * ρ 4) 12 = ρ 17 := m17
  have m18 : γ 0 10 (9 * ρ 4) 14 = ρ 18 := m18
  have m19 : γ 0 10 (9 * ρ 4 + 7) 5 = ρ 19 := m19
  have m20 : γ 0 10 (9 * ρ 4 + 7) 8 = ρ 20 := m20
  have m21 : γ 0 10 (9 * ρ 4 + 7) 9 = ρ 21 := m21
  have m22 : γ 0 10 (9 * ρ 4 + 7) 10 = ρ 22 := m22
  have m23 : γ 0 10 (9 * ρ 4 + 8) 4 = ρ 23 := m23
  have m24 : γ 0 10 (9 * ρ 4 + 8) 5 = ρ 24 := m24
  have m25 : γ 0 10 (9 * ρ 4 + 8) 8 = ρ 25 := m25
  have m26 : γ 0 10 (9 * ρ 4 + 8) 9 = ρ 26 := m26
  have m27 : γ 0 10 (9 * ρ 4 + 8) 10 = ρ 27 := m27
  have m28 : γ 0 10 (9 * ρ 4 + 8) 11 = ρ 28 := m28
  have m29 : γ 1 6 0 0 = ρ 33 := m29
  have m30 : γ 1 8 (ρ 2) 1 = ρ 34 := m30
  have m31 : γ 1 4 0 7 = ρ 35 := m31
  have m32 : γ 1 5 0 3 = ρ 36 := m32
  have m33 : γ 1 6 0 13 = ρ 37 := m33
  obtain ⟨-, c1⟩ := hc
  have c1 : ∀ (G : Nat) (k j : Int), ¬ rMdP m140_ G j → γ 1 G k j = γ 0 G k j := c1
  show sn248 [ρ 0, ρ 1, ρ 2, ρ 3, ρ 4, ρ 5, ρ 6, ρ 7, ρ 8, ρ 9, ρ 10, ρ 11, ρ 12, ρ 13, ρ 14, ρ 15, ρ 16, ρ 17, ρ 18, ρ 19, ρ 20, ρ 21, ρ 22, ρ 23, ρ 24, ρ 25, ρ 26, ρ 27, ρ 28] (γ 0) 0 0 (γ 1)
  have hD : en248 (γ 0) (0, [ρ 29, ρ 30, ρ 31, ρ 32], γ 1) = .inr (0, 0, γ 1) := by
    unfold en248
    refine (if_pos (show (0 : Nat) = 0 by decide)).trans ?_
    refine (zLet_eq (show _ = γ 1 from rfl)).trans ?_
    refine (zLet_eq (show _ = ρ 29 from rfl)).trans ?_
    refine (zLet_eq (show _ = ρ 30 from rfl)).trans ?_
    refine (zLet_eq (show _ = ρ 31 from rfl)).trans ?_
    refine (zLet_eq (show _ = ρ 32 from rfl)).trans ?_
    refine (zLet_eq m4).trans ?_
    refine (zLet_eq m10).trans ?_
    refine (zLet_eq m11).trans ?_
    refine (zLet_eq m33).trans ?_
    refine (if_neg (show ¬ (ρ 30 < 0) by omega)).trans ?_
    refine (if_neg (show ¬ (ρ 30 ≥ ρ 10) by omega)).trans ?_
    refine (if_pos (show ρ 29 ≥ 2000 by omega)).trans ?_
    rfl
  exact zGoo_aend hJ hD
theorem vn248a0_3 {S : Nat → zSpc} (hS225 : ∀ x g o v gz, S 225 x g o v gz → sn225 x g o v gz) (hS226 : ∀ x g o v gz, S 226 x g o v gz → sn226 x g o v gz) (hS227 : ∀ x g o v gz, S 227 x g o v gz → sn227 x g o v gz) (hS232 : ∀ x g o v gz, S 232 x g o v gz → sn232 x g o v gz) (hS247 : ∀ x g o v gz, S 247 x g o v gz → sn247 x g o v gz) {a : List Int} {g : rHp} : ∀ (ρ : Nat → Int) (γ : Nat → rHp), jn248 a g 0 (zAg (zNA a248_ 0) ρ) (γ 1) → zO 29 S a g q248a0_3 ρ γ → zGl (fun i vs g1 => jn248 a g i vs g1) (sn248 a g) q248a0_3 ρ γ := by
  intro ρ γ hJ h
  obtain ⟨ha, hg, hr, hf, hm, hc, hl⟩ := h
  have ha : a = [ρ 0, ρ 1, ρ 2, ρ 3, ρ 4, ρ 5, ρ 6, ρ 7, ρ 8, ρ 9, ρ 10, ρ 11, ρ 12, ρ 13, ρ 14, ρ 15, ρ 16, ρ 17, ρ 18, ρ 19, ρ 20, ρ 21, ρ 22, ρ 23, ρ 24, ρ 25, ρ 26, ρ 27, ρ 28] := ha
  subst ha
  subst hg
  have hJ : jn248 [ρ 0, ρ 1, ρ 2, ρ 3, ρ 4, ρ 5, ρ 6, ρ 7, ρ 8, ρ 9, ρ 10, ρ 11, ρ 12, ρ 13, ρ 14, ρ 15, ρ 16, ρ 17, ρ 18, ρ 19, ρ 20, ρ 21, ρ 22, ρ 23, ρ 24, ρ 25, ρ 26, ρ 27, ρ 28] (γ 0) 0 [ρ 0, ρ 1, ρ 2, ρ 3, ρ 4, ρ 5, ρ 6, ρ 7, ρ 8, ρ 9, ρ 10, ρ 11, ρ 12, ρ 13, ρ 14, ρ 15, ρ 16, ρ 17, ρ 18, ρ 19, ρ 20, ρ 21, ρ 22, ρ 23, ρ 24, ρ 25, ρ 26, ρ 27, ρ 28, ρ 29, ρ 30, ρ 31, ρ 32, ρ 33, ρ 34, ρ 35, ρ 36, ρ 37] (γ 1) := hJ
  obtain ⟨r0, r1, r2, r3, r4, r5, r6, r7, r8, r9, r10, r11, r12, r13, r14, r15, r16, r17, r18, r19, r20, r21, r22, r23, r24, r25, r26, r27, r28, r29, r30, r31, r32, r33, r34, r35, r36, r37, r38, -⟩ := hr
  have r0 : (0 : Int) ≤ ρ 0 ∧ ρ 0 ≤ 50000 := r0
  have r1 : (0 : Int) ≤ ρ 1 ∧ ρ 1 ≤ 2 := r1
  have r2 : (0 : Int) ≤ ρ 2 ∧ ρ 2 ≤ 2 := r2
  have r3 : (0 : Int) ≤ ρ 3 ∧ ρ 3 ≤ 50001 := r3
  have r4 : (0 : Int) ≤ ρ 4 ∧ ρ 4 ≤ 62 := r4
  have r5 : (0 : Int) ≤ ρ 5 ∧ ρ 5 ≤ 60 := r5
  have r6 : (0 : Int) ≤ ρ 6 ∧ ρ 6 ≤ 2000 := r6
  have r7 : (0 : Int) ≤ ρ 7 ∧ ρ 7 ≤ 2000 := r7
  have r8 : ((-2147483648) : Int) ≤ ρ 8 ∧ ρ 8 ≤ 2147483647 := r8
  have r9 : ((-2147483648) : Int) ≤ ρ 9 ∧ ρ 9 ≤ 2147483647 := r9
  have r10 : (0 : Int) ≤ ρ 10 ∧ ρ 10 ≤ 2000 := r10
  have r11 : (0 : Int) ≤ ρ 11 ∧ ρ 11 ≤ 2000 := r11
  have r12 : ((-2147483648) : Int) ≤ ρ 12 ∧ ρ 12 ≤ 2147483647 := r12
  have r13 : (0 : Int) ≤ ρ 13 ∧ ρ 13 ≤ 8 := r13
  have r14 : (0 : Int) ≤ ρ 14 ∧ ρ 14 ≤ 8 := r14
  have r15 : (0 : Int) ≤ ρ 15 ∧ ρ 15 ≤ 4 := r15
  have r16 : ((-1) : Int) ≤ ρ 16 ∧ ρ 16 ≤ 19 := r16
  have r17 : (0 : Int) ≤ ρ 17 ∧ ρ 17 ≤ 4 := r17
  have r18 : ((-1) : Int) ≤ ρ 18 ∧ ρ 18 ≤ 7 := r18
  have r19 : (0 : Int) ≤ ρ 19 ∧ ρ 19 ≤ 4 := r19
  have r20 : ((-1) : Int) ≤ ρ 20 ∧ ρ 20 ≤ 19 := r20
  have r21 : ((-1) : Int) ≤ ρ 21 ∧ ρ 21 ≤ 3 := r21
  have r22 : (0 : Int) ≤ ρ 22 ∧ ρ 22 ≤ 7 := r22
  have r23 : (0 : Int) ≤ ρ 23 ∧ ρ 23 ≤ 8 := r23
  have r24 : (0 : Int) ≤ ρ 24 ∧ ρ 24 ≤ 4 := r24
  have r25 : ((-1) : Int) ≤ ρ 25 ∧ ρ 25 ≤ 19 := r25
  have r26 : ((-1) : Int) ≤ ρ 26 ∧ ρ 26 ≤ 3 := r26
  have r27 : (0 : Int) ≤ ρ 27 ∧ ρ 27 ≤ 7 := r27
  have r28 : ((-1) : Int) ≤ ρ 28 ∧ ρ 28 ≤ 7 := r28
  have r29 : (0 : Int) ≤ ρ 29 ∧ ρ 29 ≤ 1999 := r29
  have r30 : (0 : Int) ≤ ρ 30 ∧ ρ 30 ≤ 2000 := r30
  have r31 : (0 : Int) ≤ ρ 31 ∧ ρ 31 ≤ 2000 := r31
  have r32 : (0 : Int) ≤ ρ 32 ∧ ρ 32 ≤ 1 := r32
  have r33 : (0 : Int) ≤ ρ 33 ∧ ρ 33 ≤ 50000 := r33
  have r34 : (0 : Int) ≤ ρ 34 ∧ ρ 34 ≤ 50001 := r34
  have r35 : (0 : Int) ≤ ρ 35 ∧ ρ 35 ≤ 2000 := r35
  have r36 : (0 : Int) ≤ ρ 36 ∧ ρ 36 ≤ 2000 := r36
  have r37 : ((-2147483648) : Int) ≤ ρ 37 ∧ ρ 37 ≤ 2147483647 := r37
  have r38 : ((-1) : Int) ≤ ρ 38 ∧ ρ 38 ≤ 1999 := r38
  obtain ⟨f0, f1, f2, f3, f4, f5, f6, f7, f8, f9, f10, -⟩ := hf
  have f0 : (0 : Int) ≤ ρ 31 + -ρ 30 + (-1) := f0
  have f1 : (0 : Int) ≤ -ρ 30 + ρ 10 + (-1) := f1
  have f2 : (0 : Int) ≤ -ρ 34 + (ρ 33 + (ρ 3 + -ρ 0)) := f2
  have f3 : (0 : Int) ≤ -ρ 34 + (ρ 33 + (-50001) * ρ 1) + 100002 := f3
  have f4 : (0 : Int) ≤ -ρ 32 + ρ 14 := f4
  have f5 : (0 : Int) ≤ -ρ 31 + ρ 11 := f5
  have f6 : (0 : Int) ≤ ρ 36 + -ρ 7 := f6
  have f7 : (0 : Int) ≤ ρ 35 + -ρ 6 := f7
  have f8 : (0 : Int) ≤ ρ 34 + -ρ 3 := f8
  have f9 : (0 : Int) ≤ ρ 33 + -ρ 0 := f9
  have f10 : (0 : Int) ≤ -ρ 3 + ((-50001) * ρ 1 + ρ 0) + 100002 := f10
  obtain ⟨m0, m1, m2, m3, m4, m5, m6, m7, m8, m9, m10, m11, m12, m13, m14, m15, m16, m17, m18, m19, m20, m21, m22, m23, m24, m25, m26, m27, m28, m29, m30, m31, m32, m33, -⟩ := hm
  have m0 : γ 0 6 0 0 = ρ 0 := m0
  have m1 : γ 0 6 0 9 = ρ 1 := m1
  have m2 : γ 0 6 0 6 = ρ 2 := m2
  have m3 : γ 0 8 (ρ 2) 1 = ρ 3 := m3
  have m4 : γ 0 6 0 7 = ρ 4 := m4
  have m5 : γ 0 1 0 10 = ρ 5 := m5
  have m6 : γ 0 4 0 7 = ρ 6 := m6
  have m7 : γ 0 5 0 3 = ρ 7 := m7
  have m8 : γ 0 6 0 8 = ρ 8 := m8
  have m9 : γ 0 6 0 10 = ρ 9 := m9
  have m10 : γ 0 6 0 11 = ρ 10 := m10
  have m11 : γ 0 6 0 12 = ρ 11 := m11
  have m12 : γ 0 6 0 13 = ρ 12 := m12
  have m13 : γ 0 9 (ρ 4) 2 = ρ 13 := m13
  have m14 : γ 0 9 (ρ 4) 3 = ρ 14 := m14
  have m15 : γ 0 10 (9 * ρ 4) 5 = ρ 15 := m15
  have m16 : γ 0 10 (9 * ρ 4) 8 = ρ 16 := m16
  have m17 : γ 0 10 (9 * ρ 4) 12 = ρ 17 := m17
  have m18 : γ 0 10 (9 * ρ 4) 14 = ρ 18 := m18
  have m19 : γ 0 10 (9 * ρ 4 + 7) 5 = ρ 19 := m19
  have m20 : γ 0 10 (9 * ρ 4 + 7) 8 = ρ 20 := m20
  have m21 : γ 0 10 (9 * ρ 4 + 7) 9 = ρ 21 := m21
  have m22 : γ 0 10 (9 * ρ 4 + 7) 10 = ρ 22 := m22
  have m23 : γ 0 10 (9 * ρ 4 + 8) 4 = ρ 23 := m23
  have m24 : γ 0 10 (9 * ρ 4 + 8) 5 = ρ 24 := m24
  have m25 : γ 0 10 (9 * ρ 4 + 8) 8 = ρ 25 := m25
  have m26 : γ 0 10 (9 * ρ 4 + 8) 9 = ρ 26 := m26
  have m27 : γ 0 10 (9 * ρ 4 + 8) 10 = ρ 27 := m27
  have m28 : γ 0 10 (9 * ρ 4 + 8) 11 = ρ 28 := m28
  have m29 : γ 1 6 0 0 = ρ 33 := m29
  have m30 : γ 1 8 (ρ 2) 1 = ρ 34 := m30
  have m31 : γ 1 4 0 7 = ρ 35 := m31
  have m32 : γ 1 5 0 3 = ρ 36 := m32
  have m33 : γ 1 6 0 13 = ρ 37 := m33
  obtain ⟨⟨-, c1⟩, c2⟩ := hc
  have c1 : ∀ (G : Nat) (k j : Int), ¬ rMdP m140_ G j → γ 1 G k j = γ 0 G k j := c1
  have c2 : ∀ (G : Nat) (k j : Int), ¬ rMdP m0_ G j → γ 2 G k j = γ 1 G k j := c2
  obtain ⟨l0, -⟩ := hl
  have l0 : sn227 [9 * ρ 4 + 7, ρ 30, ρ 21] (γ 1) 0 (ρ 38) (γ 2) := hS227 _ _ _ _ _ l0
  show jn248 [ρ 0, ρ 1, ρ 2, ρ 3, ρ 4, ρ 5, ρ 6, ρ 7, ρ 8, ρ 9, ρ 10, ρ 11, ρ 12, ρ 13, ρ 14, ρ 15, ρ 16, ρ 17, ρ 18, ρ 19, ρ 20, ρ 21, ρ 22, ρ 23, ρ 24, ρ 25, ρ 26, ρ 27, ρ 28] (γ 0) 0 [ρ 0, ρ 1, ρ 2, ρ 3, ρ 4, ρ 5, ρ 6, ρ 7, ρ 8, ρ 9, ρ 10, ρ 11, ρ 12, ρ 13, ρ 14, ρ 15, ρ 16, ρ 17, ρ 18, ρ 19, ρ 20, ρ 21, ρ 22, ρ 23, ρ 24, ρ 25, ρ 26, ρ 27, ρ 28, ρ 29 + 1, ρ 38, ρ 31, ρ 32, ρ 33, ρ 34, ρ 35, ρ 36, ρ 37] (γ 2)
  have hD : en248 (γ 0) (0, [ρ 29, ρ 30, ρ 31, ρ 32], γ 1) = .inl (0, [ρ 29 + 1, ρ 38, ρ 31, ρ 32], γ 2) := by
    unfold en248
    refine (if_pos (show (0 : Nat) = 0 by decide)).trans ?_
    refine (zLet_eq (show _ = γ 1 from rfl)).trans ?_
    refine (zLet_eq (show _ = ρ 29 from rfl)).trans ?_
    refine (zLet_eq (show _ = ρ 30 from rfl)).trans ?_
    refine (zLet_eq (show _ = ρ 31 from rfl)).trans ?_
    refine (zLet_eq (show _ = ρ 32 from rfl)).trans ?_
    refine (zLet_eq m4).trans ?_
    refine (zLet_eq m10).trans ?_
    refine (zLet_eq m11).trans ?_
    refine (zLet_eq m33).trans ?_
    refine (if_neg (show ¬ (ρ 30 < 0) by omega)).trans ?_
    refine (if_neg (show ¬ (ρ 30 ≥ ρ 10) by omega)).trans ?_
    refine (if_neg (show ¬ (ρ 29 ≥ 2000) by omega)).trans ?_
    refine (if_pos (show ρ 30 < ρ 31 by omega)).trans ?_
    refine (zLet_eq (show fn227 [9 * ρ 4 + 7, ρ 30] (γ 1) = (0, ρ 38, γ 2) from l0.symm)).trans ?_
    refine (zLet_eq (show _ = γ 2 from rfl)).trans ?_
    refine (zLet_eq (show _ = ρ 38 from rfl)).trans ?_
    rfl
  exact zGoo_ato hJ hD
theorem vn248a0_4 {S : Nat → zSpc} (hS225 : ∀ x g o v gz, S 225 x g o v gz → sn225 x g o v gz) (hS226 : ∀ x g o v gz, S 226 x g o v gz → sn226 x g o v gz) (hS227 : ∀ x g o v gz, S 227 x g o v gz → sn227 x g o v gz) (hS232 : ∀ x g o v gz, S 232 x g o v gz → sn232 x g o v gz) (hS247 : ∀ x g o v gz, S 247 x g o v gz → sn247 x g o v gz) {a : List Int} {g : rHp} : ∀ (ρ : Nat → Int) (γ : Nat → rHp), jn248 a g 0 (zAg (zNA a248_ 0) ρ) (γ 1) → zO 29 S a g q248a0_4 ρ γ → zGl (fun i vs g1 => jn248 a g i vs g1) (sn248 a g) q248a0_4 ρ γ := by
  intro ρ γ hJ h
  obtain ⟨ha, hg, hr, hf, hm, hc, hl⟩ := h
  have ha : a = [ρ 0, ρ 1, ρ 2, ρ 3, ρ 4, ρ 5, ρ 6, ρ 7, ρ 8, ρ 9, ρ 10, ρ 11, ρ 12, ρ 13, ρ 14, ρ 15, ρ 16, ρ 17, ρ 18, ρ 19, ρ 20, ρ 21, ρ 22, ρ 23, ρ 24, ρ 25, ρ 26, ρ 27, ρ 28] := ha
  subst ha
  subst hg
  have hJ : jn248 [ρ 0, ρ 1, ρ 2, ρ 3, ρ 4, ρ 5, ρ 6, ρ 7, ρ 8, ρ 9, ρ 10, ρ 11, ρ 12, ρ 13, ρ 14, ρ 15, ρ 16, ρ 17, ρ 18, ρ 19, ρ 20, ρ 21, ρ 22, ρ 23, ρ 24, ρ 25, ρ 26, ρ 27, ρ 28] (γ 0) 0 [ρ 0, ρ 1, ρ 2, ρ 3, ρ 4, ρ 5, ρ 6, ρ 7, ρ 8, ρ 9, ρ 10, ρ 11, ρ 12, ρ 13, ρ 14, ρ 15, ρ 16, ρ 17, ρ 18, ρ 19, ρ 20, ρ 21, ρ 22, ρ 23, ρ 24, ρ 25, ρ 26, ρ 27, ρ 28, ρ 29, ρ 30, ρ 31, ρ 32, ρ 33, ρ 34, ρ 35, ρ 36, ρ 37] (γ 1) := hJ
  obtain ⟨r0, r1, r2, r3, r4, r5, r6, r7, r8, r9, r10, r11, r12, r13, r14, r15, r16, r17, r18, r19, r20, r21, r22, r23, r24, r25, r26, r27, r28, r29, r30, r31, r32, r33, r34, r35, r36, r37, r38, -⟩ := hr
  have r0 : (0 : Int) ≤ ρ 0 ∧ ρ 0 ≤ 50000 := r0
  have r1 : (0 : Int) ≤ ρ 1 ∧ ρ 1 ≤ 2 := r1
  have r2 : (0 : Int) ≤ ρ 2 ∧ ρ 2 ≤ 2 := r2
  have r3 : (0 : Int) ≤ ρ 3 ∧ ρ 3 ≤ 50001 := r3
  have r4 : (0 : Int) ≤ ρ 4 ∧ ρ 4 ≤ 62 := r4
  have r5 : (0 : Int) ≤ ρ 5 ∧ ρ 5 ≤ 60 := r5
  have r6 : (0 : Int) ≤ ρ 6 ∧ ρ 6 ≤ 2000 := r6
  have r7 : (0 : Int) ≤ ρ 7 ∧ ρ 7 ≤ 2000 := r7
  have r8 : ((-2147483648) : Int) ≤ ρ 8 ∧ ρ 8 ≤ 2147483647 := r8
  have r9 : ((-2147483648) : Int) ≤ ρ 9 ∧ ρ 9 ≤ 2147483647 := r9
  have r10 : (0 : Int) ≤ ρ 10 ∧ ρ 10 ≤ 2000 := r10
  have r11 : (0 : Int) ≤ ρ 11 ∧ ρ 11 ≤ 2000 := r11
  have r12 : ((-2147483648) : Int) ≤ ρ 12 ∧ ρ 12 ≤ 2147483647 := r12
  have r13 : (0 : Int) ≤ ρ 13 ∧ ρ 13 ≤ 8 := r13
  have r14 : (0 : Int) ≤ ρ 14 ∧ ρ 14 ≤ 8 := r14
  have r15 : (0 : Int) ≤ ρ 15 ∧ ρ 15 ≤ 4 := r15
  have r16 : ((-1) : Int) ≤ ρ 16 ∧ ρ 16 ≤ 19 := r16
  have r17 : (0 : Int) ≤ ρ 17 ∧ ρ 17 ≤ 4 := r17
  have r18 : ((-1) : Int) ≤ ρ 18 ∧ ρ 18 ≤ 7 := r18
  have r19 : (0 : Int) ≤ ρ 19 ∧ ρ 19 ≤ 4 := r19
  have r20 : ((-1) : Int) ≤ ρ 20 ∧ ρ 20 ≤ 19 := r20
  have r21 : ((-1) : Int) ≤ ρ 21 ∧ ρ 21 ≤ 3 := r21
  have r22 : (0 : Int) ≤ ρ 22 ∧ ρ 22 ≤ 7 := r22
  have r23 : (0 : Int) ≤ ρ 23 ∧ ρ 23 ≤ 8 := r23
  have r24 : (0 : Int) ≤ ρ 24 ∧ ρ 24 ≤ 4 := r24
  have r25 : ((-1) : Int) ≤ ρ 25 ∧ ρ 25 ≤ 19 := r25
  have r26 : ((-1) : Int) ≤ ρ 26 ∧ ρ 26 ≤ 3 := r26
  have r27 : (0 : Int) ≤ ρ 27 ∧ ρ 27 ≤ 7 := r27
  have r28 : ((-1) : Int) ≤ ρ 28 ∧ ρ 28 ≤ 7 := r28
  have r29 : (0 : Int) ≤ ρ 29 ∧ ρ 29 ≤ 1999 := r29
  have r30 : (0 : Int) ≤ ρ 30 ∧ ρ 30 ≤ 2000 := r30
  have r31 : (0 : Int) ≤ ρ 31 ∧ ρ 31 ≤ 2000 := r31
  have r32 : (0 : Int) ≤ ρ 32 ∧ ρ 32 ≤ 1 := r32
  have r33 : (0 : Int) ≤ ρ 33 ∧ ρ 33 ≤ 50000 := r33
  have r34 : (0 : Int) ≤ ρ 34 ∧ ρ 34 ≤ 50001 := r34
  have r35 : (0 : Int) ≤ ρ 35 ∧ ρ 35 ≤ 2000 := r35
  have r36 : (0 : Int) ≤ ρ 36 ∧ ρ 36 ≤ 2000 := r36
  have r37 : ((-2147483648) : Int) ≤ ρ 37 ∧ ρ 37 ≤ 2147483647 := r37
  have r38 : ((-1) : Int) ≤ ρ 38 ∧ ρ 38 ≤ 1999 := r38
  obtain ⟨f0, f1, f2, f3, f4, f5, f6, f7, f8, f9, f10, -⟩ := hf
  have f0 : (0 : Int) ≤ -ρ 31 + ρ 30 := f0
  have f1 : (0 : Int) ≤ -ρ 30 + ρ 10 + (-1) := f1
  have f2 : (0 : Int) ≤ -ρ 34 + (ρ 33 + (ρ 3 + -ρ 0)) := f2
  have f3 : (0 : Int) ≤ -ρ 34 + (ρ 33 + (-50001) * ρ 1) + 100002 := f3
  have f4 : (0 : Int) ≤ -ρ 32 + ρ 14 := f4
  have f5 : (0 : Int) ≤ -ρ 31 + ρ 11 := f5
  have f6 : (0 : Int) ≤ ρ 36 + -ρ 7 := f6
  have f7 : (0 : Int) ≤ ρ 35 + -ρ 6 := f7
  have f8 : (0 : Int) ≤ ρ 34 + -ρ 3 := f8
  have f9 : (0 : Int) ≤ ρ 33 + -ρ 0 := f9
  have f10 : (0 : Int) ≤ -ρ 3 + ((-50001) * ρ 1 + ρ 0) + 100002 := f10
  obtain ⟨m0, m1, m2, m3, m4, m5, m6, m7, m8, m9, m10, m11, m12, m13, m14, m15, m16, m17, m18, m19, m20, m21, m22, m23, m24, m25, m26, m27, m28, m29, m30, m31, m32, m33, -⟩ := hm
  have m0 : γ 0 6 0 0 = ρ 0 := m0
  have m1 : γ 0 6 0 9 = ρ 1 := m1
  have m2 : γ 0 6 0 6 = ρ 2 := m2
  have m3 : γ 0 8 (ρ 2) 1 = ρ 3 := m3
  have m4 : γ 0 6 0 7 = ρ 4 := m4
  have m5 : γ 0 1 0 10 = ρ 5 := m5
  have m6 : γ 0 4 0 7 = ρ 6 := m6
  have m7 : γ 0 5 0 3 = ρ 7 := m7
  have m8 : γ 0 6 0 8 = ρ 8 := m8
  have m9 : γ 0 6 0 10 = ρ 9 := m9
  have m10 : γ 0 6 0 11 = ρ 10 := m10
  have m11 : γ 0 6 0 12 = ρ 11 := m11
  have m12 : γ 0 6 0 13 = ρ 12 := m12
  have m13 : γ 0 9 (ρ 4) 2 = ρ 13 := m13
  have m14 : γ 0 9 (ρ 4) 3 = ρ 14 := m14
  have m15 : γ 0 10 (9 * ρ 4) 5 = ρ 15 := m15
  have m16 : γ 0 10 (9 * ρ 4) 8 = ρ 16 := m16
  have m17 : γ 0 10 (9 * ρ 4) 12 = ρ 17 := m17
  have m18 : γ 0 10 (9 * ρ 4) 14 = ρ 18 := m18
  have m19 : γ 0 10 (9 * ρ 4 + 7) 5 = ρ 19 := m19
  have m20 : γ 0 10 (9 * ρ 4 + 7) 8 = ρ 20 := m20
  have m21 : γ 0 10 (9 * ρ 4 + 7) 9 = ρ 21 := m21
  have m22 : γ 0 10 (9 * ρ 4 + 7) 10 = ρ 22 := m22
  have m23 : γ 0 10 (9 * ρ 4 + 8) 4 = ρ 23 := m23
  have m24 : γ 0 10 (9 * ρ 4 + 8) 5 = ρ 24 := m24
  have m25 : γ 0 10 (9 * ρ 4 + 8) 8 = ρ 25 := m25
  have m26 : γ 0 10 (9 * ρ 4 + 8) 9 = ρ 26 := m26
  have m27 : γ 0 10 (9 * ρ 4 + 8) 10 = ρ 27 := m27
  have m28 : γ 0 10 (9 * ρ 4 + 8) 11 = ρ 28 := m28
  have m29 : γ 1 6 0 0 = ρ 33 := m29
  have m30 : γ 1 8 (ρ 2) 1 = ρ 34 := m30
  have m31 : γ 1 4 0 7 = ρ 35 := m31
  have m32 : γ 1 5 0 3 = ρ 36 := m32
  have m33 : γ 1 6 0 13 = ρ 37 := m33
  obtain ⟨⟨⟨-, c1⟩, c2⟩, c3⟩ := hc
  have c1 : ∀ (G : Nat) (k j : Int), ¬ rMdP m140_ G j → γ 1 G k j = γ 0 G k j := c1
  have c2 : ∀ (G : Nat) (k j : Int), ¬ rMdP m132_ G j → γ 2 G k j = γ 1 G k j := c2
  have c3 : ∀ (G : Nat) (k j : Int), ¬ rMdP m0_ G j → γ 3 G k j = γ 2 G k j := c3
  obtain ⟨l0, l1, -⟩ := hl
  have l0 : sn225 [9 * ρ 4 + 7, ρ 30, ρ 19, ρ 20] (γ 1) 0 0 (γ 2) := hS225 _ _ _ _ _ l0
  have l1 : sn227 [9 * ρ 4 + 7, ρ 30, ρ 21] (γ 2) 0 (ρ 38) (γ 3) := hS227 _ _ _ _ _ l1
  show jn248 [ρ 0, ρ 1, ρ 2, ρ 3, ρ 4, ρ 5, ρ 6, ρ 7, ρ 8, ρ 9, ρ 10, ρ 11, ρ 12, ρ 13, ρ 14, ρ 15, ρ 16, ρ 17, ρ 18, ρ 19, ρ 20, ρ 21, ρ 22, ρ 23, ρ 24, ρ 25, ρ 26, ρ 27, ρ 28] (γ 0) 0 [ρ 0, ρ 1, ρ 2, ρ 3, ρ 4, ρ 5, ρ 6, ρ 7, ρ 8, ρ 9, ρ 10, ρ 11, ρ 12, ρ 13, ρ 14, ρ 15, ρ 16, ρ 17, ρ 18, ρ 19, ρ 20, ρ 21, ρ 22, ρ 23, ρ 24, ρ 25, ρ 26, ρ 27, ρ 28, ρ 29 + 1, ρ 38, ρ 31, ρ 32, ρ 33, ρ 34, ρ 35, ρ 36, ρ 37] (γ 3)
  have hD : en248 (γ 0) (0, [ρ 29, ρ 30, ρ 31, ρ 32], γ 1) = .inl (0, [ρ 29 + 1, ρ 38, ρ 31, ρ 32], γ 3) := by
    unfold en248
    refine (if_pos (show (0 : Nat) = 0 by decide)).trans ?_
    refine (zLet_eq (show _ = γ 1 from rfl)).trans ?_
    refine (zLet_eq (show _ = ρ 29 from rfl)).trans ?_
    refine (zLet_eq (show _ = ρ 30 from rfl)).trans ?_
    refine (zLet_eq (show _ = ρ 31 from rfl)).trans ?_
    refine (zLet_eq (show _ = ρ 32 from rfl)).trans ?_
    refine (zLet_eq m4).trans ?_
    refine (zLet_eq m10).trans ?_
    refine (zLet_eq m11).trans ?_
    refine (zLet_eq m33).trans ?_
    refine (if_neg (show ¬ (ρ 30 < 0) by omega)).trans ?_
    refine (if_neg (show ¬ (ρ 30 ≥ ρ 10) by omega)).trans ?_
    refine (if_neg (show ¬ (ρ 29 ≥ 2000) by omega)).trans ?_
    refine (if_neg (show ¬ (ρ 30 < ρ 31) by omega)).trans ?_
    refine (zLet_eq (show fn225 [9 * ρ 4 + 7, ρ 30] (γ 1) = (0, 0, γ 2) from l0.symm)).trans ?_
    refine (zLet_eq (show _ = γ 2 from rfl)).trans ?_
    refine (if_neg (show ¬ ((1 : Int) ≤ 0) by omega)).trans ?_
    refine (zLet_eq (show fn227 [9 * ρ 4 + 7, ρ 30] (γ 2) = (0, ρ 38, γ 3) from l1.symm)).trans ?_
    refine (zLet_eq (show _ = γ 3 from rfl)).trans ?_
    refine (zLet_eq (show _ = ρ 38 from rfl)).trans ?_
    rfl
  exact zGoo_ato hJ hD
theorem vn248a0_5 {S : Nat → zSpc} (hS225 : ∀ x g o v gz, S 225 x g o v gz → sn225 x g o v gz) (hS226 : ∀ x g o v gz, S 226 x g o v gz → sn226 x g o v gz) (hS227 : ∀ x g o v gz, S 227 x g o v gz → sn227 x g o v gz) (hS232 : ∀ x g o v gz, S 232 x g o v gz → sn232 x g o v gz) (hS247 : ∀ x g o v gz, S 247 x g o v gz → sn247 x g o v gz) {a : List Int} {g : rHp} : ∀ (ρ : Nat → Int) (γ : Nat → rHp), jn248 a g 0 (zAg (zNA a248_ 0) ρ) (γ 1) → zO 29 S a g q248a0_5 ρ γ → zGl (fun i vs g1 => jn248 a g i vs g1) (sn248 a g) q248a0_5 ρ γ := by
  intro ρ γ hJ h
  obtain ⟨ha, hg, hr, hf, hm, hc, hl⟩ := h
  have ha : a = [ρ 0, ρ 1, ρ 2, ρ 3, ρ 4, ρ 5, ρ 6, ρ 7, ρ 8, ρ 9, ρ 10, ρ 11, ρ 12, ρ 13, ρ 14, ρ 15, ρ 16, ρ 17, ρ 18, ρ 19, ρ 20, ρ 21, ρ 22, ρ 23, ρ 24, ρ 25, ρ 26, ρ 27, ρ 28] := ha
  subst ha
  subst hg
  have hJ : jn248 [ρ 0, ρ 1, ρ 2, ρ 3, ρ 4, ρ 5, ρ 6, ρ 7, ρ 8, ρ 9, ρ 10, ρ 11, ρ 12, ρ 13, ρ 14, ρ 15, ρ 16, ρ 17, ρ 18, ρ 19, ρ 20, ρ 21, ρ 22, ρ 23, ρ 24, ρ 25, ρ 26, ρ 27, ρ 28] (γ 0) 0 [ρ 0, ρ 1, ρ 2, ρ 3, ρ 4, ρ 5, ρ 6, ρ 7, ρ 8, ρ 9, ρ 10, ρ 11, ρ 12, ρ 13, ρ 14, ρ 15, ρ 16, ρ 17, ρ 18, ρ 19, ρ 20, ρ 21, ρ 22, ρ 23, ρ 24, ρ 25, ρ 26, ρ 27, ρ 28, ρ 29, ρ 30, ρ 31, ρ 32, ρ 33, ρ 34, ρ 35, ρ 36, ρ 37] (γ 1) := hJ
  obtain ⟨r0, r1, r2, r3, r4, r5, r6, r7, r8, r9, r10, r11, r12, r13, r14, r15, r16, r17, r18, r19, r20, r21, r22, r23, r24, r25, r26, r27, r28, r29, r30, r31, r32, r33, r34, r35, r36, r37, r38, r39, r40, r41, r42, r43, -⟩ := hr
  have r0 : (0 : Int) ≤ ρ 0 ∧ ρ 0 ≤ 50000 := r0
  have r1 : (0 : Int) ≤ ρ 1 ∧ ρ 1 ≤ 2 := r1
  have r2 : (0 : Int) ≤ ρ 2 ∧ ρ 2 ≤ 2 := r2
  have r3 : (0 : Int) ≤ ρ 3 ∧ ρ 3 ≤ 50001 := r3
  have r4 : (0 : Int) ≤ ρ 4 ∧ ρ 4 ≤ 62 := r4
  have r5 : (0 : Int) ≤ ρ 5 ∧ ρ 5 ≤ 60 := r5
  have r6 : (0 : Int) ≤ ρ 6 ∧ ρ 6 ≤ 2000 := r6
  have r7 : (0 : Int) ≤ ρ 7 ∧ ρ 7 ≤ 2000 := r7
  have r8 : ((-2147483648) : Int) ≤ ρ 8 ∧ ρ 8 ≤ 2147483647 := r8
  have r9 : ((-2147483648) : Int) ≤ ρ 9 ∧ ρ 9 ≤ 2147483647 := r9
  have r10 : (0 : Int) ≤ ρ 10 ∧ ρ 10 ≤ 2000 := r10
  have r11 : (0 : Int) ≤ ρ 11 ∧ ρ 11 ≤ 2000 := r11
  have r12 : ((-2147483648) : Int) ≤ ρ 12 ∧ ρ 12 ≤ 2147483647 := r12
  have r13 : (0 : Int) ≤ ρ 13 ∧ ρ 13 ≤ 8 := r13
  have r14 : (0 : Int) ≤ ρ 14 ∧ ρ 14 ≤ 8 := r14
  have r15 : (0 : Int) ≤ ρ 15 ∧ ρ 15 ≤ 4 := r15
  have r16 : ((-1) : Int) ≤ ρ 16 ∧ ρ 16 ≤ 19 := r16
  have r17 : (0 : Int) ≤ ρ 17 ∧ ρ 17 ≤ 4 := r17
  have r18 : ((-1) : Int) ≤ ρ 18 ∧ ρ 18 ≤ 7 := r18
  have r19 : (0 : Int) ≤ ρ 19 ∧ ρ 19 ≤ 4 := r19
  have r20 : ((-1) : Int) ≤ ρ 20 ∧ ρ 20 ≤ 19 := r20
  have r21 : ((-1) : Int) ≤ ρ 21 ∧ ρ 21 ≤ 3 := r21
  have r22 : (0 : Int) ≤ ρ 22 ∧ ρ 22 ≤ 7 := r22
  have r23 : (0 : Int) ≤ ρ 23 ∧ ρ 23 ≤ 8 := r23
  have r24 : (0 : Int) ≤ ρ 24 ∧ ρ 24 ≤ 4 := r24
  have r25 : ((-1) : Int) ≤ ρ 25 ∧ ρ 25 ≤ 19 := r25
  have r26 : ((-1) : Int) ≤ ρ 26 ∧ ρ 26 ≤ 3 := r26
  have r27 : (0 : Int) ≤ ρ 27 ∧ ρ 27 ≤ 7 := r27
  have r28 : ((-1) : Int) ≤ ρ 28 ∧ ρ 28 ≤ 7 := r28
  have r29 : (0 : Int) ≤ ρ 29 ∧ ρ 29 ≤ 1999 := r29
  have r30 : (0 : Int) ≤ ρ 30 ∧ ρ 30 ≤ 2000 := r30
  have r31 : (0 : Int) ≤ ρ 31 ∧ ρ 31 ≤ 2000 := r31
  have r32 : (0 : Int) ≤ ρ 32 ∧ ρ 32 ≤ 1 := r32
  have r33 : (0 : Int) ≤ ρ 33 ∧ ρ 33 ≤ 49999 := r33
  have r34 : (0 : Int) ≤ ρ 34 ∧ ρ 34 ≤ 50001 := r34
  have r35 : (0 : Int) ≤ ρ 35 ∧ ρ 35 ≤ 2000 := r35
  have r36 : (0 : Int) ≤ ρ 36 ∧ ρ 36 ≤ 2000 := r36
  have r37 : ((-2147483648) : Int) ≤ ρ 37 ∧ ρ 37 ≤ 2147483647 := r37
  have r38 : (0 : Int) ≤ ρ 38 ∧ ρ 38 ≤ 50000 := r38
  have r39 : (0 : Int) ≤ ρ 39 ∧ ρ 39 ≤ 50001 := r39
  have r40 : (0 : Int) ≤ ρ 40 ∧ ρ 40 ≤ 2000 := r40
  have r41 : (0 : Int) ≤ ρ 41 ∧ ρ 41 ≤ 2000 := r41
  have r42 : ((-2147483648) : Int) ≤ ρ 42 ∧ ρ 42 ≤ 2147483647 := r42
  have r43 : ((-1) : Int) ≤ ρ 43 ∧ ρ 43 ≤ 1999 := r43
  obtain ⟨f0, f1, f2, f3, f4, f5, f6, f7, f8, f9, f10, f11, f12, f13, f14, f15, f16, f17, -⟩ := hf
  have f0 : (0 : Int) ≤ -ρ 34 + (ρ 33 + (-50001) * ρ 1) + 100003 := f0
  have f1 : (0 : Int) ≤ ρ 38 + -ρ 33 + (-1) := f1
  have f2 : (0 : Int) ≤ ρ 39 + -ρ 34 := f2
  have f3 : (0 : Int) ≤ ρ 40 + -ρ 35 := f3
  have f4 : (0 : Int) ≤ ρ 41 + -ρ 36 := f4
  have f5 : (0 : Int) ≤ -ρ 39 + (ρ 38 + (ρ 34 + -ρ 33)) := f5
  have f6 : (0 : Int) ≤ -ρ 30 + ρ 11 + (-1) := f6
  have f7 : (0 : Int) ≤ -ρ 31 + ρ 30 := f7
  have f8 : (0 : Int) ≤ -ρ 30 + ρ 10 + (-1) := f8
  have f9 : (0 : Int) ≤ -ρ 34 + (ρ 33 + (ρ 3 + -ρ 0)) := f9
  have f10 : (0 : Int) ≤ -ρ 34 + (ρ 33 + (-50001) * ρ 1) + 100002 := f10
  have f11 : (0 : Int) ≤ -ρ 32 + ρ 14 := f11
  have f12 : (0 : Int) ≤ -ρ 31 + ρ 11 := f12
  have f13 : (0 : Int) ≤ ρ 36 + -ρ 7 := f13
  have f14 : (0 : Int) ≤ ρ 35 + -ρ 6 := f14
  have f15 : (0 : Int) ≤ ρ 34 + -ρ 3 := f15
  have f16 : (0 : Int) ≤ ρ 33 + -ρ 0 := f16
  have f17 : (0 : Int) ≤ -ρ 3 + ((-50001) * ρ 1 + ρ 0) + 100002 := f17
  obtain ⟨m0, m1, m2, m3, m4, m5, m6, m7, m8, m9, m10, m11, m12, m13, m14, m15, m16, m17, m18, m19, m20, m21, m22, m23, m24, m25, m26, m27, m28, m29, m30, m31, m32, m33, m34, m35, m36, m37, m38, m39, -⟩ := hm
  have m0 : γ 0 6 0 0 = ρ 0 := m0
  have m1 : γ 0 6 0 9 = ρ 1 := m1
  have m2 : γ 0 6 0 6 = ρ 2 := m2
  have m3 : γ 0 8 (ρ 2) 1 = ρ 3 := m3
  have m4 : γ 0 6 0 7 = ρ 4 := m4
  have m5 : γ 0 1 0 10 = ρ 5 := m5
  have m6 : γ 0 4 0 7 = ρ 6 := m6
  have m7 : γ 0 5 0 3 = ρ 7 := m7
  have m8 : γ 0 6 0 8 = ρ 8 := m8
  have m9 : γ 0 6 0 10 = ρ 9 := m9
  have m10 : γ 0 6 0 11 = ρ 10 := m10
  have m11 : γ 0 6 0 12 = ρ 11 := m11
  have m12 : γ 0 6 0 13 = ρ 12 := m12
  have m13 : γ 0 9 (ρ 4) 2 = ρ 13 := m13
  have m14 : γ 0 9 (ρ 4) 3 = ρ 14 := m14
  have m15 : γ 0 10 (9 * ρ 4) 5 = ρ 15 := m15
  have m16 : γ 0 10 (9 * ρ 4) 8 = ρ 16 := m16
  have m17 : γ 0 10 (9 * ρ 4) 12 = ρ 17 := m17
  have m18 : γ 0 10 (9 * ρ 4) 14 = ρ 18 := m18
  have m19 : γ 0 10 (9 * ρ 4 + 7) 5 = ρ 19 := m19
  have m20 : γ 0 10 (9 * ρ 4 + 7) 8 = ρ 20 := m20
  have m21 : γ 0 10 (9 * ρ 4 + 7) 9 = ρ 21 := m21
  have m22 : γ 0 10 (9 * ρ 4 + 7) 10 = ρ 22 := m22
  have m23 : γ 0 10 (9 * ρ 4 + 8) 4 = ρ 23 := m23
  have m24 : γ 0 10 (9 * ρ 4 + 8) 5 = ρ 24 := m24
  have m25 : γ 0 10 (9 * ρ 4 + 8) 8 = ρ 25 := m25
  have m26 : γ 0 10 (9 * ρ 4 + 8) 9 = ρ 26 := m26
  have m27 : γ 0 10 (9 * ρ 4 + 8) 10 = ρ 27 := m27
  have m28 : γ 0 10 (9 * ρ 4 + 8) 11 = ρ 28 := m28
  have m29 : γ 1 6 0 0 = ρ 33 := m29
  have m30 : γ 1 8 (ρ 2) 1 = ρ 34 := m30
  have m31 : γ 1 4 0 7 = ρ 35 := m31
  have m32 : γ 1 5 0 3 = ρ 36 := m32
  have m33 : γ 1 6 0 13 = ρ 37 := m33
  have m34 : γ 3 6 0 0 = ρ 33 + 1 := m34
  have m35 : γ 5 6 0 0 = ρ 38 := m35
  have m36 : γ 5 8 (ρ 2) 1 = ρ 39 := m36
  have m37 : γ 5 4 0 7 = ρ 40 := m37
  have m38 : γ 5 5 0 3 = ρ 41 := m38
  have m39 : γ 5 6 0 13 = ρ 42 := m39
  obtain ⟨⟨⟨⟨⟨⟨⟨-, c1⟩, c2⟩, c3⟩, c4⟩, c5⟩, c6⟩, c7⟩ := hc
  have c1 : ∀ (G : Nat) (k j : Int), ¬ rMdP m140_ G j → γ 1 G k j = γ 0 G k j := c1
  have c2 : ∀ (G : Nat) (k j : Int), ¬ rMdP m132_ G j → γ 2 G k j = γ 1 G k j := c2
  have c3 : ∀ (G : Nat) (k j : Int), ¬ rMdP m133_ G j → γ 3 G k j = γ 2 G k j := c3
  have c4 : γ 4 = rUp (γ 3) 6 0 13 (ρ 37) := c4
  have c5 : ∀ (G : Nat) (k j : Int), ¬ rMdP m140_ G j → γ 5 G k j = γ 4 G k j := c5
  have c6 : γ 6 = rUp (γ 5) 6 0 13 (ρ 42) := c6
  have c7 : ∀ (G : Nat) (k j : Int), ¬ rMdP m0_ G j → γ 7 G k j = γ 6 G k j := c7
  obtain ⟨l0, l1, l2, l3, -⟩ := hl
  have l0 : sn225 [9 * ρ 4 + 7, ρ 30, ρ 19, ρ 20] (γ 1) 0 1 (γ 2) := hS225 _ _ _ _ _ l0
  have l1 : sn232 [9 * ρ 4 + 7, ρ 30, ρ 33, ρ 22] (γ 2) 0 0 (γ 3) := hS232 _ _ _ _ _ l1
  have l2 : sn247 [ρ 33 + 1, ρ 1, ρ 2, ρ 34, ρ 4, ρ 5, ρ 35, ρ 36, ρ 8, ρ 9, ρ 10, ρ 11, ρ 37, ρ 13, ρ 14, ρ 15, ρ 16, ρ 17, ρ 18, ρ 23, ρ 24, ρ 25, ρ 26, ρ 27, ρ 28] (γ 4) 0 0 (γ 5) := hS247 _ _ _ _ _ l2
  have l3 : sn227 [9 * ρ 4 + 7, ρ 30, ρ 21] (γ 6) 0 (ρ 43) (γ 7) := hS227 _ _ _ _ _ l3
  show jn248 [ρ 0, ρ 1, ρ 2, ρ 3, ρ 4, ρ 5, ρ 6, ρ 7, ρ 8, ρ 9, ρ 10, ρ 11, ρ 12, ρ 13, ρ 14, ρ 15, ρ 16, ρ 17, ρ 18, ρ 19, ρ 20, ρ 21, ρ 22, ρ 23, ρ 24, ρ 25, ρ 26, ρ 27, ρ 28] (γ 0) 0 [ρ 0, ρ 1, ρ 2, ρ 3, ρ 4, ρ 5, ρ 6, ρ 7, ρ 8, ρ 9, ρ 10, ρ 11, ρ 12, ρ 13, ρ 14, ρ 15, ρ 16, ρ 17, ρ 18, ρ 19, ρ 20, ρ 21, ρ 22, ρ 23, ρ 24, ρ 25, ρ 26, ρ 27, ρ 28, ρ 29 + 1, ρ 43, ρ 31, ρ 32, ρ 38, ρ 39, ρ 40, ρ 41, ρ 42] (γ 7)
  have hD : en248 (γ 0) (0, [ρ 29, ρ 30, ρ 31, ρ 32], γ 1) = .inl (0, [ρ 29 + 1, ρ 43, ρ 31, ρ 32], γ 7) := by
    unfold en248
    refine (if_pos (show (0 : Nat) = 0 by decide)).trans ?_
    refine (zLet_eq (show _ = γ 1 from rfl)).trans ?_
    refine (zLet_eq (show _ = ρ 29 from rfl)).trans ?_
    refine (zLet_eq (show _ = ρ 30 from rfl)).trans ?_
    refine (zLet_eq (show _ = ρ 31 from rfl)).trans ?_
    refine (zLet_eq (show _ = ρ 32 from rfl)).trans ?_
    refine (zLet_eq m4).trans ?_
    refine (zLet_eq m10).trans ?_
    refine (zLet_eq m11).trans ?_
    refine (zLet_eq m33).trans ?_
    refine (if_neg (show ¬ (ρ 30 < 0) by omega)).trans ?_
    refine (if_neg (show ¬ (ρ 30 ≥ ρ 10) by omega)).trans ?_
    refine (if_neg (show ¬ (ρ 29 ≥ 2000) by omega)).trans ?_
    refine (if_neg (show ¬ (ρ 30 < ρ 31) by omega)).trans ?_
    refine (zLet_eq (show fn225 [9 * ρ 4 + 7, ρ 30] (γ 1) = (0, 1, γ 2) from l0.symm)).trans ?_
    refine (zLet_eq (show _ = γ 2 from rfl)).trans ?_
    refine (if_pos (show (1 : Int) ≤ 1 by omega)).trans ?_
    refine (zLet_eq (show fn232 [9 * ρ 4 + 7, ρ 30] (γ 2) = (0, 0, γ 3) from l1.symm)).trans ?_
    refine (zLet_eq (show _ = γ 3 from rfl)).trans ?_
    refine (if_pos (show (0 : Nat) = 0 by decide)).trans ?_
    refine (if_pos (show ρ 30 < ρ 11 by omega)).trans ?_
    refine (zLet_eq c4.symm).trans ?_
    refine (zLet_eq (show fn247 [] (γ 4) = (0, 0, γ 5) from l2.symm)).trans ?_
    refine (zLet_eq (show _ = γ 5 from rfl)).trans ?_
    refine (if_pos (show (0 : Nat) = 0 by decide)).trans ?_
    refine (zLet_eq m39).trans ?_
    refine (zLet_eq c6.symm).trans ?_
    refine (zLet_eq (show fn227 [9 * ρ 4 + 7, ρ 30] (γ 6) = (0, ρ 43, γ 7) from l3.symm)).trans ?_
    refine (zLet_eq (show _ = γ 7 from rfl)).trans ?_
    refine (zLet_eq (show _ = ρ 43 from rfl)).trans ?_
    rfl
  exact zGoo_ato hJ hD
theorem vn248a0_6 {S : Nat → zSpc} (hS225 : ∀ x g o v gz, S 225 x g o v gz → sn225 x g o v gz) (hS226 : ∀ x g o v gz, S 226 x g o v gz → sn226 x g o v gz) (hS227 : ∀ x g o v gz, S 227 x g o v gz → sn227 x g o v gz) (hS232 : ∀ x g o v gz, S 232 x g o v gz → sn232 x g o v gz) (hS247 : ∀ x g o v gz, S 247 x g o v gz → sn247 x g o v gz) {a : List Int} {g : rHp} : ∀ (ρ : Nat → Int) (γ : Nat → rHp), jn248 a g 0 (zAg (zNA a248_ 0) ρ) (γ 1) → zO 29 S a g q248a0_6 ρ γ → zGl (fun i vs g1 => jn248 a g i vs g1) (sn248 a g) q248a0_6 ρ γ := by
  intro ρ γ hJ h
  obtain ⟨ha, hg, hr, hf, hm, hc, hl⟩ := h
  have ha : a = [ρ 0, ρ 1, ρ 2, ρ 3, ρ 4, ρ 5, ρ 6, ρ 7, ρ 8, ρ 9, ρ 10, ρ 11, ρ 12, ρ 13, ρ 14, ρ 15, ρ 16, ρ 17, ρ 18, ρ 19, ρ 20, ρ 21, ρ 22, ρ 23, ρ 24, ρ 25, ρ 26, ρ 27, ρ 28] := ha
  subst ha
  subst hg
  have hJ : jn248 [ρ 0, ρ 1, ρ 2, ρ 3, ρ 4, ρ 5, ρ 6, ρ 7, ρ 8, ρ 9, ρ 10, ρ 11, ρ 12, ρ 13, ρ 14, ρ 15, ρ 16, ρ 17, ρ 18, ρ 19, ρ 20, ρ 21, ρ 22, ρ 23, ρ 24, ρ 25, ρ 26, ρ 27, ρ 28] (γ 0) 0 [ρ 0, ρ 1, ρ 2, ρ 3, ρ 4, ρ 5, ρ 6, ρ 7, ρ 8, ρ 9, ρ 10, ρ 11, ρ 12, ρ 13, ρ 14, ρ 15, ρ 16, ρ 17, ρ 18, ρ 19, ρ 20, ρ 21, ρ 22, ρ 23, ρ 24, ρ 25, ρ 26, ρ 27, ρ 28, ρ 29, ρ 30, ρ 31, ρ 32, ρ 33, ρ 34, ρ 35, ρ 36, ρ 37] (γ 1) := hJ
  obtain ⟨r0, r1, r2, r3, r4, r5, r6, r7, r8, r9, r10, r11, r12, r13, r14, r15, r16, r17, r18, r19, r20, r21, r22, r23, r24, r25, r26, r27, r28, r29, r30, r31, r32, r33, r34, r35, r36, r37, r38, r39, r40, r41, r42, -⟩ := hr
  have r0 : (0 : Int) ≤ ρ 0 ∧ ρ 0 ≤ 50000 := r0
  have r1 : (0 : Int) ≤ ρ 1 ∧ ρ 1 ≤ 1 := r1
  have r2 : (0 : Int) ≤ ρ 2 ∧ ρ 2 ≤ 2 := r2
  have r3 : (0 : Int) ≤ ρ 3 ∧ ρ 3 ≤ 50001 := r3
  have r4 : (0 : Int) ≤ ρ 4 ∧ ρ 4 ≤ 62 := r4
  have r5 : (0 : Int) ≤ ρ 5 ∧ ρ 5 ≤ 60 := r5
  have r6 : (0 : Int) ≤ ρ 6 ∧ ρ 6 ≤ 2000 := r6
  have r7 : (0 : Int) ≤ ρ 7 ∧ ρ 7 ≤ 2000 := r7
  have r8 : ((-2147483648) : Int) ≤ ρ 8 ∧ ρ 8 ≤ 2147483647 := r8
  have r9 : ((-2147483648) : Int) ≤ ρ 9 ∧ ρ 9 ≤ 2147483647 := r9
  have r10 : (0 : Int) ≤ ρ 10 ∧ ρ 10 ≤ 2000 := r10
  have r11 : (0 : Int) ≤ ρ 11 ∧ ρ 11 ≤ 2000 := r11
  have r12 : ((-2147483648) : Int) ≤ ρ 12 ∧ ρ 12 ≤ 2147483647 := r12
  have r13 : (0 : Int) ≤ ρ 13 ∧ ρ 13 ≤ 8 := r13
  have r14 : (0 : Int) ≤ ρ 14 ∧ ρ 14 ≤ 8 := r14
  have r15 : (0 : Int) ≤ ρ 15 ∧ ρ 15 ≤ 4 := r15
  have r16 : ((-1) : Int) ≤ ρ 16 ∧ ρ 16 ≤ 19 := r16
  have r17 : (0 : Int) ≤ ρ 17 ∧ ρ 17 ≤ 4 := r17
  have r18 : ((-1) : Int) ≤ ρ 18 ∧ ρ 18 ≤ 7 := r18
  have r19 : (0 : Int) ≤ ρ 19 ∧ ρ 19 ≤ 4 := r19
  have r20 : ((-1) : Int) ≤ ρ 20 ∧ ρ 20 ≤ 19 := r20
  have r21 : ((-1) : Int) ≤ ρ 21 ∧ ρ 21 ≤ 3 := r21
  have r22 : (0 : Int) ≤ ρ 22 ∧ ρ 22 ≤ 7 := r22
  have r23 : (0 : Int) ≤ ρ 23 ∧ ρ 23 ≤ 8 := r23
  have r24 : (0 : Int) ≤ ρ 24 ∧ ρ 24 ≤ 4 := r24
  have r25 : ((-1) : Int) ≤ ρ 25 ∧ ρ 25 ≤ 19 := r25
  have r26 : ((-1) : Int) ≤ ρ 26 ∧ ρ 26 ≤ 3 := r26
  have r27 : (0 : Int) ≤ ρ 27 ∧ ρ 27 ≤ 7 := r27
  have r28 : ((-1) : Int) ≤ ρ 28 ∧ ρ 28 ≤ 7 := r28
  have r29 : (0 : Int) ≤ ρ 29 ∧ ρ 29 ≤ 1999 := r29
  have r30 : (0 : Int) ≤ ρ 30 ∧ ρ 30 ≤ 2000 := r30
  have r31 : (0 : Int) ≤ ρ 31 ∧ ρ 31 ≤ 2000 := r31
  have r32 : (0 : Int) ≤ ρ 32 ∧ ρ 32 ≤ 1 := r32
  have r33 : (0 : Int) ≤ ρ 33 ∧ ρ 33 ≤ 49999 := r33
  have r34 : (0 : Int) ≤ ρ 34 ∧ ρ 34 ≤ 50001 := r34
  have r35 : (0 : Int) ≤ ρ 35 ∧ ρ 35 ≤ 2000 := r35
  have r36 : (0 : Int) ≤ ρ 36 ∧ ρ 36 ≤ 2000 := r36
  have r37 : ((-2147483648) : Int) ≤ ρ 37 ∧ ρ 37 ≤ 2147483647 := r37
  have r38 : (0 : Int) ≤ ρ 38 ∧ ρ 38 ≤ 50000 := r38
  have r39 : (0 : Int) ≤ ρ 39 ∧ ρ 39 ≤ 50001 := r39
  have r40 : (0 : Int) ≤ ρ 40 ∧ ρ 40 ≤ 2000 := r40
  have r41 : (0 : Int) ≤ ρ 41 ∧ ρ 41 ≤ 2000 := r41
  have r42 : ((-2147483648) : Int) ≤ ρ 42 ∧ ρ 42 ≤ 2147483647 := r42
  obtain ⟨f0, f1, f2, f3, f4, f5, f6, f7, f8, f9, f10, f11, f12, f13, f14, f15, f16, -⟩ := hf
  have f0 : (0 : Int) ≤ ρ 38 + -ρ 33 + (-1) := f0
  have f1 : (0 : Int) ≤ ρ 39 + -ρ 34 := f1
  have f2 : (0 : Int) ≤ ρ 40 + -ρ 35 := f2
  have f3 : (0 : Int) ≤ ρ 41 + -ρ 36 := f3
  have f4 : (0 : Int) ≤ -ρ 39 + (ρ 38 + (ρ 34 + -ρ 33)) := f4
  have f5 : (0 : Int) ≤ -ρ 30 + ρ 11 + (-1) := f5
  have f6 : (0 : Int) ≤ -ρ 31 + ρ 30 := f6
  have f7 : (0 : Int) ≤ -ρ 30 + ρ 10 + (-1) := f7
  have f8 : (0 : Int) ≤ -ρ 34 + (ρ 33 + (ρ 3 + -ρ 0)) := f8
  have f9 : (0 : Int) ≤ -ρ 34 + (ρ 33 + (-50001) * ρ 1) + 100002 := f9
  have f10 : (0 : Int) ≤ -ρ 32 + ρ 14 := f10
  have f11 : (0 : Int) ≤ -ρ 31 + ρ 11 := f11
  have f12 : (0 : Int) ≤ ρ 36 + -ρ 7 := f12
  have f13 : (0 : Int) ≤ ρ 35 + -ρ 6 := f13
  have f14 : (0 : Int) ≤ ρ 34 + -ρ 3 := f14
  have f15 : (0 : Int) ≤ ρ 33 + -ρ 0 := f15
  have f16 : (0 : Int) ≤ -ρ 3 + ((-50001) * ρ 1 + ρ 0) + 100002 := f16
  obtain ⟨m0, m1, m2, m3, m4, m5, m6, m7, m8, m9, m10, m11, m12, m13, m14, m15, m16, m17, m18, m19, m20, m21, m22, m23, m24, m25, m26, m27, m28, m29, m30, m31, m32, m33, m34, m35, m36, m37, m38, m39, -⟩ := hm
  have m0 : γ 0 6 0 0 = ρ 0 := m0
  have m1 : γ 0 6 0 9 = ρ 1 := m1
  have m2 : γ 0 6 0 6 = ρ 2 := m2
  have m3 : γ 0 8 (ρ 2) 1 = ρ 3 := m3
  have m4 : γ 0 6 0 7 = ρ 4 := m4
  have m5 : γ 0 1 0 10 = ρ 5 := m5
  have m6 : γ 0 4 0 7 = ρ 6 := m6
  have m7 : γ 0 5 0 3 = ρ 7 := m7
  have m8 : γ 0 6 0 8 = ρ 8 := m8
  have m9 : γ 0 6 0 10 = ρ 9 := m9
  have m10 : γ 0 6 0 11 = ρ 10 := m10
  have m11 : γ 0 6 0 12 = ρ 11 := m11
  have m12 : γ 0 6 0 13 = ρ 12 := m12
  have m13 : γ 0 9 (ρ 4) 2 = ρ 13 := m13
  have m14 : γ 0 9 (ρ 4) 3 = ρ 14 := m14
  have m15 : γ 0 10 (9 * ρ 4) 5 = ρ 15 := m15
  have m16 : γ 0 10 (9 * ρ 4) 8 = ρ 16 := m16
  have m17 : γ 0 10 (9 * ρ 4) 12 = ρ 17 := m17
  have m18 : γ 0 10 (9 * ρ 4) 14 = ρ 18 := m18
  have m19 : γ 0 10 (9 * ρ 4 + 7) 5 = ρ 19 := m19
  have m20 : γ 0 10 (9 * ρ 4 + 7) 8 = ρ 20 := m20
  have m21 : γ 0 10 (9 * ρ 4 + 7) 9 = ρ 21 := m21
  have m22 : γ 0 10 (9 * ρ 4 + 7) 10 = ρ 22 := m22
  have m23 : γ 0 10 (9 * ρ 4 + 8) 4 = ρ 23 := m23
  have m24 : γ 0 10 (9 * ρ 4 + 8) 5 = ρ 24 := m24
  have m25 : γ 0 10 (9 * ρ 4 + 8) 8 = ρ 25 := m25
  have m26 : γ 0 10 (9 * ρ 4 + 8) 9 = ρ 26 := m26
  have m27 : γ 0 10 (9 * ρ 4 + 8) 10 = ρ 27 := m27
  have m28 : γ 0 10 (9 * ρ 4 + 8) 11 = ρ 28 := m28
  have m29 : γ 1 6 0 0 = ρ 33 := m29
  have m30 : γ 1 8 (ρ 2) 1 = ρ 34 := m30
  have m31 : γ 1 4 0 7 = ρ 35 := m31
  have m32 : γ 1 5 0 3 = ρ 36 := m32
  have m33 : γ 1 6 0 13 = ρ 37 := m33
  have m34 : γ 3 6 0 0 = ρ 33 + 1 := m34
  have m35 : γ 5 6 0 0 = ρ 38 := m35
  have m36 : γ 5 8 (ρ 2) 1 = ρ 39 := m36
  have m37 : γ 5 4 0 7 = ρ 40 := m37
  have m38 : γ 5 5 0 3 = ρ 41 := m38
  have m39 : γ 5 6 0 13 = ρ 42 := m39
  obtain ⟨⟨⟨⟨⟨-, c1⟩, c2⟩, c3⟩, c4⟩, c5⟩ := hc
  have c1 : ∀ (G : Nat) (k j : Int), ¬ rMdP m140_ G j → γ 1 G k j = γ 0 G k j := c1
  have c2 : ∀ (G : Nat) (k j : Int), ¬ rMdP m132_ G j → γ 2 G k j = γ 1 G k j := c2
  have c3 : ∀ (G : Nat) (k j : Int), ¬ rMdP m133_ G j → γ 3 G k j = γ 2 G k j := c3
  have c4 : γ 4 = rUp (γ 3) 6 0 13 (ρ 37) := c4
  have c5 : ∀ (G : Nat) (k j : Int), ¬ rMdP m140_ G j → γ 5 G k j = γ 4 G k j := c5
  obtain ⟨l0, l1, l2, -⟩ := hl
  have l0 : sn225 [9 * ρ 4 + 7, ρ 30, ρ 19, ρ 20] (γ 1) 0 1 (γ 2) := hS225 _ _ _ _ _ l0
  have l1 : sn232 [9 * ρ 4 + 7, ρ 30, ρ 33, ρ 22] (γ 2) 0 0 (γ 3) := hS232 _ _ _ _ _ l1
  have l2 : sn247 [ρ 33 + 1, ρ 1, ρ 2, ρ 34, ρ 4, ρ 5, ρ 35, ρ 36, ρ 8, ρ 9, ρ 10, ρ 11, ρ 37, ρ 13, ρ 14, ρ 15, ρ 16, ρ 17, ρ 18, ρ 23, ρ 24, ρ 25, ρ 26, ρ 27, ρ 28] (γ 4) 1 0 (γ 5) := hS247 _ _ _ _ _ l2
  show sn248 [ρ 0, ρ 1, ρ 2, ρ 3, ρ 4, ρ 5, ρ 6, ρ 7, ρ 8, ρ 9, ρ 10, ρ 11, ρ 12, ρ 13, ρ 14, ρ 15, ρ 16, ρ 17, ρ 18, ρ 19, ρ 20, ρ 21, ρ 22, ρ 23, ρ 24, ρ 25, ρ 26, ρ 27, ρ 28] (γ 0) 1 0 (γ 5)
  have hD : en248 (γ 0) (0, [ρ 29, ρ 30, ρ 31, ρ 32], γ 1) = .inr (1, 0, γ 5) := by
    unfold en248
    refine (if_pos (show (0 : Nat) = 0 by decide)).trans ?_
    refine (zLet_eq (show _ = γ 1 from rfl)).trans ?_
    refine (zLet_eq (show _ = ρ 29 from rfl)).trans ?_
    refine (zLet_eq (show _ = ρ 30 from rfl)).trans ?_
    refine (zLet_eq (show _ = ρ 31 from rfl)).trans ?_
    refine (zLet_eq (show _ = ρ 32 from rfl)).trans ?_
    refine (zLet_eq m4).trans ?_
    refine (zLet_eq m10).trans ?_
    refine (zLet_eq m11).trans ?_
    refine (zLet_eq m33).trans ?_
    refine (if_neg (show ¬ (ρ 30 < 0) by omega)).trans ?_
    refine (if_neg (show ¬ (ρ 30 ≥ ρ 10) by omega)).trans ?_
    refine (if_neg (show ¬ (ρ 29 ≥ 2000) by omega)).trans ?_
    refine (if_neg (show ¬ (ρ 30 < ρ 31) by omega)).trans ?_
    refine (zLet_eq (show fn225 [9 * ρ 4 + 7, ρ 30] (γ 1) = (0, 1, γ 2) from l0.symm)).trans ?_
    refine (zLet_eq (show _ = γ 2 from rfl)).trans ?_
    refine (if_pos (show (1 : Int) ≤ 1 by omega)).trans ?_
    refine (zLet_eq (show fn232 [9 * ρ 4 + 7, ρ 30] (γ 2) = (0, 0, γ 3) from l1.symm)).trans ?_
    refine (zLet_eq (show _ = γ 3 from rfl)).trans ?_
    refine (if_pos (show (0 : Nat) = 0 by decide)).trans ?_
    refine (if_pos (show ρ 30 < ρ 11 by omega)).trans ?_
    refine (zLet_eq c4.symm).trans ?_
    refine (zLet_eq (show fn247 [] (γ 4) = (1, 0, γ 5) from l2.symm)).trans ?_
    refine (zLet_eq (show _ = γ 5 from rfl)).trans ?_
    refine (if_neg (show ¬ (1 : Nat) = 0 by decide)).trans ?_
    refine (if_pos (show (1 : Nat) = 1 by decide)).trans ?_
    rfl
  exact zGoo_aend hJ hD
theorem vn248a0_7 {S : Nat → zSpc} (hS225 : ∀ x g o v gz, S 225 x g o v gz → sn225 x g o v gz) (hS226 : ∀ x g o v gz, S 226 x g o v gz → sn226 x g o v gz) (hS227 : ∀ x g o v gz, S 227 x g o v gz → sn227 x g o v gz) (hS232 : ∀ x g o v gz, S 232 x g o v gz → sn232 x g o v gz) (hS247 : ∀ x g o v gz, S 247 x g o v gz → sn247 x g o v gz) {a : List Int} {g : rHp} : ∀ (ρ : Nat → Int) (γ : Nat → rHp), jn248 a g 0 (zAg (zNA a248_ 0) ρ) (γ 1) → zO 29 S a g q248a0_7 ρ γ → zGl (fun i vs g1 => jn248 a g i vs g1) (sn248 a g) q248a0_7 ρ γ := by
  intro ρ γ hJ h
  obtain ⟨ha, hg, hr, hf, hm, hc, hl⟩ := h
  have ha : a = [ρ 0, ρ 1, ρ 2, ρ 3, ρ 4, ρ 5, ρ 6, ρ 7, ρ 8, ρ 9, ρ 10, ρ 11, ρ 12, ρ 13, ρ 14, ρ 15, ρ 16, ρ 17, ρ 18, ρ 19, ρ 20, ρ 21, ρ 22, ρ 23, ρ 24, ρ 25, ρ 26, ρ 27, ρ 28] := ha
  subst ha
  subst hg
  have hJ : jn248 [ρ 0, ρ 1, ρ 2, ρ 3, ρ 4, ρ 5, ρ 6, ρ 7, ρ 8, ρ 9, ρ 10, ρ 11, ρ 12, ρ 13, ρ 14, ρ 15, ρ 16, ρ 17, ρ 18, ρ 19, ρ 20, ρ 21, ρ 22, ρ 23, ρ 24, ρ 25, ρ 26, ρ 27, ρ 28] (γ 0) 0 [ρ 0, ρ 1, ρ 2, ρ 3, ρ 4, ρ 5, ρ 6, ρ 7, ρ 8, ρ 9, ρ 10, ρ 11, ρ 12, ρ 13, ρ 14, ρ 15, ρ 16, ρ 17, ρ 18, ρ 19, ρ 20, ρ 21, ρ 22, ρ 23, ρ 24, ρ 25, ρ 26, ρ 27, ρ 28, ρ 29, ρ 30, ρ 31, ρ 32, ρ 33, ρ 34, ρ 35, ρ 36, ρ 37] (γ 1) := hJ
  obtain ⟨r0, r1, r2, r3, r4, r5, r6, r7, r8, r9, r10, r11, r12, r13, r14, r15, r16, r17, r18, r19, r20, r21, r22, r23, r24, r25, r26, r27, r28, r29, r30, r31, r32, r33, r34, r35, r36, r37, r38, r39, r40, r41, r42, -⟩ := hr
  have r0 : (0 : Int) ≤ ρ 0 ∧ ρ 0 ≤ 50000 := r0
  have r1 : (0 : Int) ≤ ρ 1 ∧ ρ 1 ≤ 2 := r1
  have r2 : (0 : Int) ≤ ρ 2 ∧ ρ 2 ≤ 2 := r2
  have r3 : (0 : Int) ≤ ρ 3 ∧ ρ 3 ≤ 50001 := r3
  have r4 : (0 : Int) ≤ ρ 4 ∧ ρ 4 ≤ 62 := r4
  have r5 : (0 : Int) ≤ ρ 5 ∧ ρ 5 ≤ 60 := r5
  have r6 : (0 : Int) ≤ ρ 6 ∧ ρ 6 ≤ 2000 := r6
  have r7 : (0 : Int) ≤ ρ 7 ∧ ρ 7 ≤ 2000 := r7
  have r8 : ((-2147483648) : Int) ≤ ρ 8 ∧ ρ 8 ≤ 2147483647 := r8
  have r9 : ((-2147483648) : Int) ≤ ρ 9 ∧ ρ 9 ≤ 2147483647 := r9
  have r10 : (0 : Int) ≤ ρ 10 ∧ ρ 10 ≤ 2000 := r10
  have r11 : (0 : Int) ≤ ρ 11 ∧ ρ 11 ≤ 2000 := r11
  have r12 : ((-2147483648) : Int) ≤ ρ 12 ∧ ρ 12 ≤ 2147483647 := r12
  have r13 : (8 : Int) ≤ ρ 13 ∧ ρ 13 ≤ 8 := r13
  have r14 : (0 : Int) ≤ ρ 14 ∧ ρ 14 ≤ 8 := r14
  have r15 : (0 : Int) ≤ ρ 15 ∧ ρ 15 ≤ 4 := r15
  have r16 : ((-1) : Int) ≤ ρ 16 ∧ ρ 16 ≤ 19 := r16
  have r17 : (0 : Int) ≤ ρ 17 ∧ ρ 17 ≤ 4 := r17
  have r18 : ((-1) : Int) ≤ ρ 18 ∧ ρ 18 ≤ 7 := r18
  have r19 : (0 : Int) ≤ ρ 19 ∧ ρ 19 ≤ 4 := r19
  have r20 : ((-1) : Int) ≤ ρ 20 ∧ ρ 20 ≤ 19 := r20
  have r21 : ((-1) : Int) ≤ ρ 21 ∧ ρ 21 ≤ 3 := r21
  have r22 : (0 : Int) ≤ ρ 22 ∧ ρ 22 ≤ 7 := r22
  have r23 : (1 : Int) ≤ ρ 23 ∧ ρ 23 ≤ 1 := r23
  have r24 : (0 : Int) ≤ ρ 24 ∧ ρ 24 ≤ 4 := r24
  have r25 : ((-1) : Int) ≤ ρ 25 ∧ ρ 25 ≤ 19 := r25
  have r26 : ((-1) : Int) ≤ ρ 26 ∧ ρ 26 ≤ 3 := r26
  have r27 : (0 : Int) ≤ ρ 27 ∧ ρ 27 ≤ 7 := r27
  have r28 : ((-1) : Int) ≤ ρ 28 ∧ ρ 28 ≤ 7 := r28
  have r29 : (0 : Int) ≤ ρ 29 ∧ ρ 29 ≤ 1999 := r29
  have r30 : (0 : Int) ≤ ρ 30 ∧ ρ 30 ≤ 2000 := r30
  have r31 : (0 : Int) ≤ ρ 31 ∧ ρ 31 ≤ 2000 := r31
  have r32 : (0 : Int) ≤ ρ 32 ∧ ρ 32 ≤ 1 := r32
  have r33 : (0 : Int) ≤ ρ 33 ∧ ρ 33 ≤ 49999 := r33
  have r34 : (0 : Int) ≤ ρ 34 ∧ ρ 34 ≤ 50001 := r34
  have r35 : (0 : Int) ≤ ρ 35 ∧ ρ 35 ≤ 2000 := r35
  have r36 : (0 : Int) ≤ ρ 36 ∧ ρ 36 ≤ 2000 := r36
  have r37 : ((-2147483648) : Int) ≤ ρ 37 ∧ ρ 37 ≤ 2147483647 := r37
  have r38 : (50001 : Int) ≤ ρ 38 ∧ ρ 38 ≤ 50001 := r38
  have r39 : (0 : Int) ≤ ρ 39 ∧ ρ 39 ≤ 50001 := r39
  have r40 : (0 : Int) ≤ ρ 40 ∧ ρ 40 ≤ 2000 := r40
  have r41 : (0 : Int) ≤ ρ 41 ∧ ρ 41 ≤ 2000 := r41
  have r42 : ((-2147483648) : Int) ≤ ρ 42 ∧ ρ 42 ≤ 2147483647 := r42
  obtain ⟨f0, f1, f2, f3, f4, f5, f6, f7, f8, f9, f10, f11, f12, f13, f14, f15, f16, -⟩ := hf
  have f0 : (0 : Int) ≤ -ρ 34 + (ρ 33 + (-50001) * ρ 1) + 100003 := f0
  have f1 : (0 : Int) ≤ ρ 39 + -ρ 34 := f1
  have f2 : (0 : Int) ≤ ρ 40 + -ρ 35 := f2
  have f3 : (0 : Int) ≤ ρ 41 + -ρ 36 := f3
  have f4 : (0 : Int) ≤ -ρ 39 + (ρ 38 + (ρ 34 + -ρ 33)) := f4
  have f5 : (0 : Int) ≤ -ρ 30 + ρ 11 + (-1) := f5
  have f6 : (0 : Int) ≤ -ρ 31 + ρ 30 := f6
  have f7 : (0 : Int) ≤ -ρ 30 + ρ 10 + (-1) := f7
  have f8 : (0 : Int) ≤ -ρ 34 + (ρ 33 + (ρ 3 + -ρ 0)) := f8
  have f9 : (0 : Int) ≤ -ρ 34 + (ρ 33 + (-50001) * ρ 1) + 100002 := f9
  have f10 : (0 : Int) ≤ -ρ 32 + ρ 14 := f10
  have f11 : (0 : Int) ≤ -ρ 31 + ρ 11 := f11
  have f12 : (0 : Int) ≤ ρ 36 + -ρ 7 := f12
  have f13 : (0 : Int) ≤ ρ 35 + -ρ 6 := f13
  have f14 : (0 : Int) ≤ ρ 34 + -ρ 3 := f14
  have f15 : (0 : Int) ≤ ρ 33 + -ρ 0 := f15
  have f16 : (0 : Int) ≤ -ρ 3 + ((-50001) * ρ 1 + ρ 0) + 100002 := f16
  obtain ⟨m0, m1, m2, m3, m4, m5, m6, m7, m8, m9, m10, m11, m12, m13, m14, m15, m16, m17, m18, m19, m20, m21, m22, m23, m24, m25, m26, m27, m28, m29, m30, m31, m32, m33, m34, m35, m36, m37, m38, m39, -⟩ := hm
  have m0 : γ 0 6 0 0 = ρ 0 := m0
  have m1 : γ 0 6 0 9 = ρ 1 := m1
  have m2 : γ 0 6 0 6 = ρ 2 := m2
  have m3 : γ 0 8 (ρ 2) 1 = ρ 3 := m3
  have m4 : γ 0 6 0 7 = ρ 4 := m4
  have m5 : γ 0 1 0 10 = ρ 5 := m5
  have m6 : γ 0 4 0 7 = ρ 6 := m6
  have m7 : γ 0 5 0 3 = ρ 7 := m7
  have m8 : γ 0 6 0 8 = ρ 8 := m8
  have m9 : γ 0 6 0 10 = ρ 9 := m9
  have m10 : γ 0 6 0 11 = ρ 10 := m10
  have m11 : γ 0 6 0 12 = ρ 11 := m11
  have m12 : γ 0 6 0 13 = ρ 12 := m12
  have m13 : γ 0 9 (ρ 4) 2 = ρ 13 := m13
  have m14 : γ 0 9 (ρ 4) 3 = ρ 14 := m14
  have m15 : γ 0 10 (9 * ρ 4) 5 = ρ 15 := m15
  have m16 : γ 0 10 (9 * ρ 4) 8 = ρ 16 := m16
  have m17 : γ 0 10 (9 * ρ 4) 12 = ρ 17 := m17
  have m18 : γ 0 10 (9 * ρ 4) 14 = ρ 18 := m18
  have m19 : γ 0 10 (9 * ρ 4 + 7) 5 = ρ 19 := m19
  have m20 : γ 0 10 (9 * ρ 4 + 7) 8 = ρ 20 := m20
  have m21 : γ 0 10 (9 * ρ 4 + 7) 9 = ρ 21 := m21
  have m22 : γ 0 10 (9 * ρ 4 + 7) 10 = ρ 22 := m22
  have m23 : γ 0 10 (9 * ρ 4 + 8) 4 = ρ 23 := m23
  have m24 : γ 0 10 (9 * ρ 4 + 8) 5 = ρ 24 := m24
  have m25 : γ 0 10 (9 * ρ 4 + 8) 8 = ρ 25 := m25
  have m26 : γ 0 10 (9 * ρ 4 + 8) 9 = ρ 26 := m26
  have m27 : γ 0 10 (9 * ρ 4 + 8) 10 = ρ 27 := m27
  have m28 : γ 0 10 (9 * ρ 4 + 8) 11 = ρ 28 := m28
  have m29 : γ 1 6 0 0 = ρ 33 := m29
  have m30 : γ 1 8 (ρ 2) 1 = ρ 34 := m30
  have m31 : γ 1 4 0 7 = ρ 35 := m31
  have m32 : γ 1 5 0 3 = ρ 36 := m32
  have m33 : γ 1 6 0 13 = ρ 37 := m33
  have m34 : γ 3 6 0 0 = ρ 33 + 1 := m34
  have m35 : γ 5 6 0 0 = ρ 38 := m35
  have m36 : γ 5 8 (ρ 2) 1 = ρ 39 := m36
  have m37 : γ 5 4 0 7 = ρ 40 := m37
  have m38 : γ 5 5 0 3 = ρ 41 := m38
  have m39 : γ 5 6 0 13 = ρ 42 := m39
  obtain ⟨⟨⟨⟨⟨-, c1⟩, c2⟩, c3⟩, c4⟩, c5⟩ := hc
  have c1 : ∀ (G : Nat) (k j : Int), ¬ rMdP m140_ G j → γ 1 G k j = γ 0 G k j := c1
  have c2 : ∀ (G : Nat) (k j : Int), ¬ rMdP m132_ G j → γ 2 G k j = γ 1 G k j := c2
  have c3 : ∀ (G : Nat) (k j : Int), ¬ rMdP m133_ G j → γ 3 G k j = γ 2 G k j := c3
  have c4 : γ 4 = rUp (γ 3) 6 0 13 (ρ 37) := c4
  have c5 : ∀ (G : Nat) (k j : Int), ¬ rMdP m140_ G j → γ 5 G k j = γ 4 G k j := c5
  obtain ⟨l0, l1, l2, -⟩ := hl
  have l0 : sn225 [9 * ρ 4 + 7, ρ 30, ρ 19, ρ 20] (γ 1) 0 1 (γ 2) := hS225 _ _ _ _ _ l0
  have l1 : sn232 [9 * ρ 4 + 7, ρ 30, ρ 33, ρ 22] (γ 2) 0 0 (γ 3) := hS232 _ _ _ _ _ l1
  have l2 : sn247 [ρ 33 + 1, ρ 1, ρ 2, ρ 34, ρ 4, ρ 5, ρ 35, ρ 36, ρ 8, ρ 9, ρ 10, ρ 11, ρ 37, ρ 13, ρ 14, ρ 15, ρ 16, ρ 17, ρ 18, ρ 23, ρ 24, ρ 25, ρ 26, ρ 27, ρ 28] (γ 4) 4 0 (γ 5) := hS247 _ _ _ _ _ l2
  show sn248 [ρ 0, ρ 1, ρ 2, ρ 3, ρ 4, ρ 5, ρ 6, ρ 7, ρ 8, ρ 9, ρ 10, ρ 11, ρ 12, ρ 13, ρ 14, ρ 15, ρ 16, ρ 17, ρ 18, ρ 19, ρ 20, ρ 21, ρ 22, ρ 23, ρ 24, ρ 25, ρ 26, ρ 27, ρ 28] (γ 0) 4 0 (γ 5)
  have hD : en248 (γ 0) (0, [ρ 29, ρ 30, ρ 31, ρ 32], γ 1) = .inr (4, 0, γ 5) := by
    unfold en248
    refine (if_pos (show (0 : Nat) = 0 by decide)).trans ?_
    refine (zLet_eq (show _ = γ 1 from rfl)).trans ?_
    refine (zLet_eq (show _ = ρ 29 from rfl)).trans ?_
    refine (zLet_eq (show _ = ρ 30 from rfl)).trans ?_
    refine (zLet_eq (show _ = ρ 31 from rfl)).trans ?_
    refine (zLet_eq (show _ = ρ 32 from rfl)).trans ?_
    refine (zLet_eq m4).trans ?_
    refine (zLet_eq m10).trans ?_
    refine (zLet_eq m11).trans ?_
    refine (zLet_eq m33).trans ?_
    refine (if_neg (show ¬ (ρ 30 < 0) by omega)).trans ?_
    refine (if_neg (show ¬ (ρ 30 ≥ ρ 10) by omega)).trans ?_
    refine (if_neg (show ¬ (ρ 29 ≥ 2000) by omega)).trans ?_
    refine (if_neg (show ¬ (ρ 30 < ρ 31) by omega)).trans ?_
    refine (zLet_eq (show fn225 [9 * ρ 4 + 7, ρ 30] (γ 1) = (0, 1, γ 2) from l0.symm)).trans ?_
    refine (zLet_eq (show _ = γ 2 from rfl)).trans ?_
    refine (if_pos (show (1 : Int) ≤ 1 by omega)).trans ?_
    refine (zLet_eq (show fn232 [9 * ρ 4 + 7, ρ 30] (γ 2) = (0, 0, γ 3) from l1.symm)).trans ?_
    refine (zLet_eq (show _ = γ 3 from rfl)).trans ?_
    refine (if_pos (show (0 : Nat) = 0 by decide)).trans ?_
    refine (if_pos (show ρ 30 < ρ 11 by omega)).trans ?_
    refine (zLet_eq c4.symm).trans ?_
    refine (zLet_eq (show fn247 [] (γ 4) = (4, 0, γ 5) from l2.symm)).trans ?_
    refine (zLet_eq (show _ = γ 5 from rfl)).trans ?_
    refine (if_neg (show ¬ (4 : Nat) = 0 by decide)).trans ?_
    refine (if_neg (show ¬ (4 : Nat) = 1 by decide)).trans ?_
    rfl
  exact zGoo_aend hJ hD
theorem vn248a0_8 {S : Nat → zSpc} (hS225 : ∀ x g o v gz, S 225 x g o v gz → sn225 x g o v gz) (hS226 : ∀ x g o v gz, S 226 x g o v gz → sn226 x g o v gz) (hS227 : ∀ x g o v gz, S 227 x g o v gz → sn227 x g o v gz) (hS232 : ∀ x g o v gz, S 232 x g o v gz → sn232 x g o v gz) (hS247 : ∀ x g o v gz, S 247 x g o v gz → sn247 x g o v gz) {a : List Int} {g : rHp} : ∀ (ρ : Nat → Int) (γ : Nat → rHp), jn248 a g 0 (zAg (zNA a248_ 0) ρ) (γ 1) → zO 29 S a g q248a0_8 ρ γ → zGl (fun i vs g1 => jn248 a g i vs g1) (sn248 a g) q248a0_8 ρ γ := by
  intro ρ γ hJ h
  obtain ⟨ha, hg, hr, hf, hm, hc, hl⟩ := h
  have ha : a = [ρ 0, ρ 1, ρ 2, ρ 3, ρ 4, ρ 5, ρ 6, ρ 7, ρ 8, ρ 9, ρ 10, ρ 11, ρ 12, ρ 13, ρ 14, ρ 15, ρ 16, ρ 17, ρ 18, ρ 19, ρ 20, ρ 21, ρ 22, ρ 23, ρ 24, ρ 25, ρ 26, ρ 27, ρ 28] := ha
  subst ha
  subst hg
  have hJ : jn248 [ρ 0, ρ 1, ρ 2, ρ 3, ρ 4, ρ 5, ρ 6, ρ 7, ρ 8, ρ 9, ρ 10, ρ 11, ρ 12, ρ 13, ρ 14, ρ 15, ρ 16, ρ 17, ρ 18, ρ 19, ρ 20, ρ 21, ρ 22, ρ 23, ρ 24, ρ 25, ρ 26, ρ 27, ρ 28] (γ 0) 0 [ρ 0, ρ 1, ρ 2, ρ 3, ρ 4, ρ 5, ρ 6, ρ 7, ρ 8, ρ 9, ρ 10, ρ 11, ρ 12, ρ 13, ρ 14, ρ 15, ρ 16, ρ 17, ρ 18, ρ 19, ρ 20, ρ 21, ρ 22, ρ 23, ρ 24, ρ 25, ρ 26, ρ 27, ρ 28, ρ 29, ρ 30, ρ 31, ρ 32, ρ 33, ρ 34, ρ 35, ρ 36, ρ 37] (γ 1) := hJ
  obtain ⟨r0, r1, r2, r3, r4, r5, r6, r7, r8, r9, r10, r11, r12, r13, r14, r15, r16, r17, r18, r19, r20, r21, r22, r23, r24, r25, r26, r27, r28, r29, r30, r31, r32, r33, r34, r35, r36, r37, r38, r39, r40, r41, r42, r43, r44, r45, -⟩ := hr
  have r0 : (0 : Int) ≤ ρ 0 ∧ ρ 0 ≤ 50000 := r0
  have r1 : (0 : Int) ≤ ρ 1 ∧ ρ 1 ≤ 2 := r1
  have r2 : (0 : Int) ≤ ρ 2 ∧ ρ 2 ≤ 2 := r2
  have r3 : (0 : Int) ≤ ρ 3 ∧ ρ 3 ≤ 50001 := r3
  have r4 : (0 : Int) ≤ ρ 4 ∧ ρ 4 ≤ 62 := r4
  have r5 : (0 : Int) ≤ ρ 5 ∧ ρ 5 ≤ 60 := r5
  have r6 : (0 : Int) ≤ ρ 6 ∧ ρ 6 ≤ 2000 := r6
  have r7 : (0 : Int) ≤ ρ 7 ∧ ρ 7 ≤ 2000 := r7
  have r8 : ((-2147483648) : Int) ≤ ρ 8 ∧ ρ 8 ≤ 2147483647 := r8
  have r9 : ((-2147483648) : Int) ≤ ρ 9 ∧ ρ 9 ≤ 2147483647 := r9
  have r10 : (0 : Int) ≤ ρ 10 ∧ ρ 10 ≤ 2000 := r10
  have r11 : (0 : Int) ≤ ρ 11 ∧ ρ 11 ≤ 2000 := r11
  have r12 : ((-2147483648) : Int) ≤ ρ 12 ∧ ρ 12 ≤ 2147483647 := r12
  have r13 : (0 : Int) ≤ ρ 13 ∧ ρ 13 ≤ 8 := r13
  have r14 : (0 : Int) ≤ ρ 14 ∧ ρ 14 ≤ 8 := r14
  have r15 : (0 : Int) ≤ ρ 15 ∧ ρ 15 ≤ 4 := r15
  have r16 : ((-1) : Int) ≤ ρ 16 ∧ ρ 16 ≤ 19 := r16
  have r17 : (0 : Int) ≤ ρ 17 ∧ ρ 17 ≤ 4 := r17
  have r18 : ((-1) : Int) ≤ ρ 18 ∧ ρ 18 ≤ 7 := r18
  have r19 : (0 : Int) ≤ ρ 19 ∧ ρ 19 ≤ 4 := r19
  have r20 : ((-1) : Int) ≤ ρ 20 ∧ ρ 20 ≤ 19 := r20
  have r21 : ((-1) : Int) ≤ ρ 21 ∧ ρ 21 ≤ 3 := r21
  have r22 : (0 : Int) ≤ ρ 22 ∧ ρ 22 ≤ 7 := r22
  have r23 : (0 : Int) ≤ ρ 23 ∧ ρ 23 ≤ 8 := r23
  have r24 : (0 : Int) ≤ ρ 24 ∧ ρ 24 ≤ 4 := r24
  have r25 : ((-1) : Int) ≤ ρ 25 ∧ ρ 25 ≤ 19 := r25
  have r26 : ((-1) : Int) ≤ ρ 26 ∧ ρ 26 ≤ 3 := r26
  have r27 : (0 : Int) ≤ ρ 27 ∧ ρ 27 ≤ 7 := r27
  have r28 : ((-1) : Int) ≤ ρ 28 ∧ ρ 28 ≤ 7 := r28
  have r29 : (0 : Int) ≤ ρ 29 ∧ ρ 29 ≤ 1999 := r29
  have r30 : (0 : Int) ≤ ρ 30 ∧ ρ 30 ≤ 2000 := r30
  have r31 : (0 : Int) ≤ ρ 31 ∧ ρ 31 ≤ 2000 := r31
  have r32 : (0 : Int) ≤ ρ 32 ∧ ρ 32 ≤ 1 := r32
  have r33 : (0 : Int) ≤ ρ 33 ∧ ρ 33 ≤ 49999 := r33
  have r34 : (0 : Int) ≤ ρ 34 ∧ ρ 34 ≤ 50001 := r34
  have r35 : (0 : Int) ≤ ρ 35 ∧ ρ 35 ≤ 2000 := r35
  have r36 : (0 : Int) ≤ ρ 36 ∧ ρ 36 ≤ 2000 := r36
  have r37 : ((-2147483648) : Int) ≤ ρ 37 ∧ ρ 37 ≤ 2147483647 := r37
  have r38 : ((-2147483648) : Int) ≤ ρ 38 ∧ ρ 38 ≤ 2147483647 := r38
  have r39 : (0 : Int) ≤ ρ 39 ∧ ρ 39 ≤ 50000 := r39
  have r40 : (0 : Int) ≤ ρ 40 ∧ ρ 40 ≤ 50001 := r40
  have r41 : (0 : Int) ≤ ρ 41 ∧ ρ 41 ≤ 2000 := r41
  have r42 : (0 : Int) ≤ ρ 42 ∧ ρ 42 ≤ 2000 := r42
  have r43 : ((-2147483648) : Int) ≤ ρ 43 ∧ ρ 43 ≤ 2147483647 := r43
  have r44 : ((-2147483648) : Int) ≤ ρ 44 ∧ ρ 44 ≤ 2147483647 := r44
  have r45 : ((-1) : Int) ≤ ρ 45 ∧ ρ 45 ≤ 1999 := r45
  obtain ⟨f0, f1, f2, f3, f4, f5, f6, f7, f8, f9, f10, f11, f12, f13, f14, f15, f16, f17, -⟩ := hf
  have f0 : (0 : Int) ≤ -ρ 34 + (ρ 33 + (-50001) * ρ 1) + 100003 := f0
  have f1 : (0 : Int) ≤ ρ 39 + -ρ 33 + (-1) := f1
  have f2 : (0 : Int) ≤ ρ 40 + -ρ 34 := f2
  have f3 : (0 : Int) ≤ ρ 41 + -ρ 35 := f3
  have f4 : (0 : Int) ≤ ρ 42 + -ρ 36 := f4
  have f5 : (0 : Int) ≤ -ρ 40 + (ρ 39 + (ρ 34 + -ρ 33)) := f5
  have f6 : (0 : Int) ≤ ρ 30 + -ρ 11 := f6
  have f7 : (0 : Int) ≤ -ρ 31 + ρ 30 := f7
  have f8 : (0 : Int) ≤ -ρ 30 + ρ 10 + (-1) := f8
  have f9 : (0 : Int) ≤ -ρ 34 + (ρ 33 + (ρ 3 + -ρ 0)) := f9
  have f10 : (0 : Int) ≤ -ρ 34 + (ρ 33 + (-50001) * ρ 1) + 100002 := f10
  have f11 : (0 : Int) ≤ -ρ 32 + ρ 14 := f11
  have f12 : (0 : Int) ≤ -ρ 31 + ρ 11 := f12
  have f13 : (0 : Int) ≤ ρ 36 + -ρ 7 := f13
  have f14 : (0 : Int) ≤ ρ 35 + -ρ 6 := f14
  have f15 : (0 : Int) ≤ ρ 34 + -ρ 3 := f15
  have f16 : (0 : Int) ≤ ρ 33 + -ρ 0 := f16
  have f17 : (0 : Int) ≤ -ρ 3 + ((-50001) * ρ 1 + ρ 0) + 100002 := f17
  obtain ⟨m0, m1, m2, m3, m4, m5, m6, m7, m8, m9, m10, m11, m12, m13, m14, m15, m16, m17, m18, m19, m20, m21, m22, m23, m24, m25, m26, m27, m28, m29, m30, m31, m32, m33, m34, m35, m36, m37, m38, m39, -⟩ := hm
  have m0 : γ 0 6 0 0 = ρ 0 := m0
  have m1 : γ 0 6 0 9 = ρ 1 := m1
  have m2 : γ 0 6 0 6 = ρ 2 := m2
  have m3 : γ 0 8 (ρ 2) 1 = ρ 3 := m3
  have m4 : γ 0 6 0 7 = ρ 4 := m4
  have m5 : γ 0 1 0 10 = ρ 5 := m5
  have m6 : γ 0 4 0 7 = ρ 6 := m6
  have m7 : γ 0 5 0 3 = ρ 7 := m7
  have m8 : γ 0 6 0 8 = ρ 8 := m8
  have m9 : γ 0 6 0 10 = ρ 9 := m9
  have m10 : γ 0 6 0 11 = ρ 10 := m10
  have m11 : γ 0 6 0 12 = ρ 11 := m11
  have m12 : γ 0 6 0 13 = ρ 12 := m12
  have m13 : γ 0 9 (ρ 4) 2 = ρ 13 := m13
  have m14 : γ 0 9 (ρ 4) 3 = ρ 14 := m14
  have m15 : γ 0 10 (9 * ρ 4) 5 = ρ 15 := m15
  have m16 : γ 0 10 (9 * ρ 4) 8 = ρ 16 := m16
  have m17 : γ 0 10 (9 * ρ 4) 12 = ρ 17 := m17
  have m18 : γ 0 10 (9 * ρ 4) 14 = ρ 18 := m18
  have m19 : γ 0 10 (9 * ρ 4 + 7) 5 = ρ 19 := m19
  have m20 : γ 0 10 (9 * ρ 4 + 7) 8 = ρ 20 := m20
  have m21 : γ 0 10 (9 * ρ 4 + 7) 9 = ρ 21 := m21
  have m22 : γ 0 10 (9 * ρ 4 + 7) 10 = ρ 22 := m22
  have m23 : γ 0 10 (9 * ρ 4 + 8) 4 = ρ 23 := m23
  have m24 : γ 0 10 (9 * ρ 4 + 8) 5 = ρ 24 := m24
  have m25 : γ 0 10 (9 * ρ 4 + 8) 8 = ρ 25 := m25
  have m26 : γ 0 10 (9 * ρ 4 + 8) 9 = ρ 26 := m26
  have m27 : γ 0 10 (9 * ρ 4 + 8) 10 = ρ 27 := m27
  have m28 : γ 0 10 (9 * ρ 4 + 8) 11 = ρ 28 := m28
  have m29 : γ 1 6 0 0 = ρ 33 := m29
  have m30 : γ 1 8 (ρ 2) 1 = ρ 34 := m30
  have m31 : γ 1 4 0 7 = ρ 35 := m31
  have m32 : γ 1 5 0 3 = ρ 36 := m32
  have m33 : γ 1 6 0 13 = ρ 37 := m33
  have m34 : γ 3 6 0 0 = ρ 33 + 1 := m34
  have m35 : γ 5 6 0 0 = ρ 39 := m35
  have m36 : γ 5 8 (ρ 2) 1 = ρ 40 := m36
  have m37 : γ 5 4 0 7 = ρ 41 := m37
  have m38 : γ 5 5 0 3 = ρ 42 := m38
  have m39 : γ 5 6 0 13 = ρ 43 := m39
  obtain ⟨⟨⟨⟨⟨⟨⟨-, c1⟩, c2⟩, c3⟩, c4⟩, c5⟩, c6⟩, c7⟩ := hc
  have c1 : ∀ (G : Nat) (k j : Int), ¬ rMdP m140_ G j → γ 1 G k j = γ 0 G k j := c1
  have c2 : ∀ (G : Nat) (k j : Int), ¬ rMdP m132_ G j → γ 2 G k j = γ 1 G k j := c2
  have c3 : ∀ (G : Nat) (k j : Int), ¬ rMdP m133_ G j → γ 3 G k j = γ 2 G k j := c3
  have c4 : γ 4 = rUp (γ 3) 6 0 13 (ρ 38) := c4
  have c5 : ∀ (G : Nat) (k j : Int), ¬ rMdP m140_ G j → γ 5 G k j = γ 4 G k j := c5
  have c6 : γ 6 = rUp (γ 5) 6 0 13 (ρ 44) := c6
  have c7 : ∀ (G : Nat) (k j : Int), ¬ rMdP m0_ G j → γ 7 G k j = γ 6 G k j := c7
  obtain ⟨l0, l1, l2, l3, l4, l5, -⟩ := hl
  have l0 : sn225 [9 * ρ 4 + 7, ρ 30, ρ 19, ρ 20] (γ 1) 0 1 (γ 2) := hS225 _ _ _ _ _ l0
  have l1 : sn232 [9 * ρ 4 + 7, ρ 30, ρ 33, ρ 22] (γ 2) 0 0 (γ 3) := hS232 _ _ _ _ _ l1
  have l2 : zOpP (.iadd) (γ 0) (γ 1) [ρ 37, 1] (ρ 38) := l2
  have l3 : sn247 [ρ 33 + 1, ρ 1, ρ 2, ρ 34, ρ 4, ρ 5, ρ 35, ρ 36, ρ 8, ρ 9, ρ 10, ρ 11, ρ 38, ρ 13, ρ 14, ρ 15, ρ 16, ρ 17, ρ 18, ρ 23, ρ 24, ρ 25, ρ 26, ρ 27, ρ 28] (γ 4) 0 0 (γ 5) := hS247 _ _ _ _ _ l3
  have l4 : zOpP (.isub) (γ 0) (γ 1) [ρ 43, 1] (ρ 44) := l4
  have l5 : sn227 [9 * ρ 4 + 7, ρ 30, ρ 21] (γ 6) 0 (ρ 45) (γ 7) := hS227 _ _ _ _ _ l5
  show jn248 [ρ 0, ρ 1, ρ 2, ρ 3, ρ 4, ρ 5, ρ 6, ρ 7, ρ 8, ρ 9, ρ 10, ρ 11, ρ 12, ρ 13, ρ 14, ρ 15, ρ 16, ρ 17, ρ 18, ρ 19, ρ 20, ρ 21, ρ 22, ρ 23, ρ 24, ρ 25, ρ 26, ρ 27, ρ 28] (γ 0) 0 [ρ 0, ρ 1, ρ 2, ρ 3, ρ 4, ρ 5, ρ 6, ρ 7, ρ 8, ρ 9, ρ 10, ρ 11, ρ 12, ρ 13, ρ 14, ρ 15, ρ 16, ρ 17, ρ 18, ρ 19, ρ 20, ρ 21, ρ 22, ρ 23, ρ 24, ρ 25, ρ 26, ρ 27, ρ 28, ρ 29 + 1, ρ 45, ρ 31, ρ 32, ρ 39, ρ 40, ρ 41, ρ 42, ρ 44] (γ 7)
  have hD : en248 (γ 0) (0, [ρ 29, ρ 30, ρ 31, ρ 32], γ 1) = .inl (0, [ρ 29 + 1, ρ 45, ρ 31, ρ 32], γ 7) := by
    unfold en248
    refine (if_pos (show (0 : Nat) = 0 by decide)).trans ?_
    refine (zLet_eq (show _ = γ 1 from rfl)).trans ?_
    refine (zLet_eq (show _ = ρ 29 from rfl)).trans ?_
    refine (zLet_eq (show _ = ρ 30 from rfl)).trans ?_
    refine (zLet_eq (show _ = ρ 31 from rfl)).trans ?_
    refine (zLet_eq (show _ = ρ 32 from rfl)).trans ?_
    refine (zLet_eq m4).trans ?_
    refine (zLet_eq m10).trans ?_
    refine (zLet_eq m11).trans ?_
    refine (zLet_eq m33).trans ?_
    refine (if_neg (show ¬ (ρ 30 < 0) by omega)).trans ?_
    refine (if_neg (show ¬ (ρ 30 ≥ ρ 10) by omega)).trans ?_
    refine (if_neg (show ¬ (ρ 29 ≥ 2000) by omega)).trans ?_
    refine (if_neg (show ¬ (ρ 30 < ρ 31) by omega)).trans ?_
    refine (zLet_eq (show fn225 [9 * ρ 4 + 7, ρ 30] (γ 1) = (0, 1, γ 2) from l0.symm)).trans ?_
    refine (zLet_eq (show _ = γ 2 from rfl)).trans ?_
    refine (if_pos (show (1 : Int) ≤ 1 by omega)).trans ?_
    refine (zLet_eq (show fn232 [9 * ρ 4 + 7, ρ 30] (γ 2) = (0, 0, γ 3) from l1.symm)).trans ?_
    refine (zLet_eq (show _ = γ 3 from rfl)).trans ?_
    refine (if_pos (show (0 : Nat) = 0 by decide)).trans ?_
    refine (if_neg (show ¬ (ρ 30 < ρ 11) by omega)).trans ?_
    refine (zLet_eq (zF2_ok l2)).trans ?_
    refine (zLet_eq c4.symm).trans ?_
    refine (zLet_eq (show fn247 [] (γ 4) = (0, 0, γ 5) from l3.symm)).trans ?_
    refine (zLet_eq (show _ = γ 5 from rfl)).trans ?_
    refine (if_pos (show (0 : Nat) = 0 by decide)).trans ?_
    refine (zLet_eq m39).trans ?_
    refine (zLet_eq (zF2_ok l4)).trans ?_
    refine (zLet_eq c6.symm).trans ?_
    refine (zLet_eq (show fn227 [9 * ρ 4 + 7, ρ 30] (γ 6) = (0, ρ 45, γ 7) from l5.symm)).trans ?_
    refine (zLet_eq (show _ = γ 7 from rfl)).trans ?_
    refine (zLet_eq (show _ = ρ 45 from rfl)).trans ?_
    rfl
  exact zGoo_ato hJ hD
theorem vn248a0_9 {S : Nat → zSpc} (hS225 : ∀ x g o v gz, S 225 x g o v gz → sn225 x g o v gz) (hS226 : ∀ x g o v gz, S 226 x g o v gz → sn226 x g o v gz) (hS227 : ∀ x g o v gz, S 227 x g o v gz → sn227 x g o v gz) (hS232 : ∀ x g o v gz, S 232 x g o v gz → sn232 x g o v gz) (hS247 : ∀ x g o v gz, S 247 x g o v gz → sn247 x g o v gz) {a : List Int} {g : rHp} : ∀ (ρ : Nat → Int) (γ : Nat → rHp), jn248 a g 0 (zAg (zNA a248_ 0) ρ) (γ 1) → zO 29 S a g q248a0_9 ρ γ → zGl (fun i vs g1 => jn248 a g i vs g1) (sn248 a g) q248a0_9 ρ γ := by
  intro ρ γ hJ h
  obtain ⟨ha, hg, hr, hf, hm, hc, hl⟩ := h
  have ha : a = [ρ 0, ρ 1, ρ 2, ρ 3, ρ 4, ρ 5, ρ 6, ρ 7, ρ 8, ρ 9, ρ 10, ρ 11, ρ 12, ρ 13, ρ 14, ρ 15, ρ 16, ρ 17, ρ 18, ρ 19, ρ 20, ρ 21, ρ 22, ρ 23, ρ 24, ρ 25, ρ 26, ρ 27, ρ 28] := ha
  subst ha
  subst hg
  have hJ : jn248 [ρ 0, ρ 1, ρ 2, ρ 3, ρ 4, ρ 5, ρ 6, ρ 7, ρ 8, ρ 9, ρ 10, ρ 11, ρ 12, ρ 13, ρ 14, ρ 15, ρ 16, ρ 17, ρ 18, ρ 19, ρ 20, ρ 21, ρ 22, ρ 23, ρ 24, ρ 25, ρ 26, ρ 27, ρ 28] (γ 0) 0 [ρ 0, ρ 1, ρ 2, ρ 3, ρ 4, ρ 5, ρ 6, ρ 7, ρ 8, ρ 9, ρ 10, ρ 11, ρ 12, ρ 13, ρ 14, ρ 15, ρ 16, ρ 17, ρ 18, ρ 19, ρ 20, ρ 21, ρ 22, ρ 23, ρ 24, ρ 25, ρ 26, ρ 27, ρ 28, ρ 29, ρ 30, ρ 31, ρ 32, ρ 33, ρ 34, ρ 35, ρ 36, ρ 37] (γ 1) := hJ
  obtain ⟨r0, r1, r2, r3, r4, r5, r6, r7, r8, r9, r10, r11, r12, r13, r14, r15, r16, r17, r18, r19, r20, r21, r22, r23, r24, r25, r26, r27, r28, r29, r30, r31, r32, r33, r34, r35, r36, r37, r38, r39, r40, r41, r42, r43, -⟩ := hr
  have r0 : (0 : Int) ≤ ρ 0 ∧ ρ 0 ≤ 50000 := r0
  have r1 : (0 : Int) ≤ ρ 1 ∧ ρ 1 ≤ 1 := r1
  have r2 : (0 : Int) ≤ ρ 2 ∧ ρ 2 ≤ 2 := r2
  have r3 : (0 : Int) ≤ ρ 3 ∧ ρ 3 ≤ 50001 := r3
  have r4 : (0 : Int) ≤ ρ 4 ∧ ρ 4 ≤ 62 := r4
  have r5 : (0 : Int) ≤ ρ 5 ∧ ρ 5 ≤ 60 := r5
  have r6 : (0 : Int) ≤ ρ 6 ∧ ρ 6 ≤ 2000 := r6
  have r7 : (0 : Int) ≤ ρ 7 ∧ ρ 7 ≤ 2000 := r7
  have r8 : ((-2147483648) : Int) ≤ ρ 8 ∧ ρ 8 ≤ 2147483647 := r8
  have r9 : ((-2147483648) : Int) ≤ ρ 9 ∧ ρ 9 ≤ 2147483647 := r9
  have r10 : (0 : Int) ≤ ρ 10 ∧ ρ 10 ≤ 2000 := r10
  have r11 : (0 : Int) ≤ ρ 11 ∧ ρ 11 ≤ 2000 := r11
  have r12 : ((-2147483648) : Int) ≤ ρ 12 ∧ ρ 12 ≤ 2147483647 := r12
  have r13 : (0 : Int) ≤ ρ 13 ∧ ρ 13 ≤ 8 := r13
  have r14 : (0 : Int) ≤ ρ 14 ∧ ρ 14 ≤ 8 := r14
  have r15 : (0 : Int) ≤ ρ 15 ∧ ρ 15 ≤ 4 := r15
  have r16 : ((-1) : Int) ≤ ρ 16 ∧ ρ 16 ≤ 19 := r16
  have r17 : (0 : Int) ≤ ρ 17 ∧ ρ 17 ≤ 4 := r17
  have r18 : ((-1) : Int) ≤ ρ 18 ∧ ρ 18 ≤ 7 := r18
  have r19 : (0 : Int) ≤ ρ 19 ∧ ρ 19 ≤ 4 := r19
  have r20 : ((-1) : Int) ≤ ρ 20 ∧ ρ 20 ≤ 19 := r20
  have r21 : ((-1) : Int) ≤ ρ 21 ∧ ρ 21 ≤ 3 := r21
  have r22 : (0 : Int) ≤ ρ 22 ∧ ρ 22 ≤ 7 := r22
  have r23 : (0 : Int) ≤ ρ 23 ∧ ρ 23 ≤ 8 := r23
  have r24 : (0 : Int) ≤ ρ 24 ∧ ρ 24 ≤ 4 := r24
  have r25 : ((-1) : Int) ≤ ρ 25 ∧ ρ 25 ≤ 19 := r25
  have r26 : ((-1) : Int) ≤ ρ 26 ∧ ρ 26 ≤ 3 := r26
  have r27 : (0 : Int) ≤ ρ 27 ∧ ρ 27 ≤ 7 := r27
  have r28 : ((-1) : Int) ≤ ρ 28 ∧ ρ 28 ≤ 7 := r28
  have r29 : (0 : Int) ≤ ρ 29 ∧ ρ 29 ≤ 1999 := r29
  have r30 : (0 : Int) ≤ ρ 30 ∧ ρ 30 ≤ 2000 := r30
  have r31 : (0 : Int) ≤ ρ 31 ∧ ρ 31 ≤ 2000 := r31
  have r32 : (0 : Int) ≤ ρ 32 ∧ ρ 32 ≤ 1 := r32
  have r33 : (0 : Int) ≤ ρ 33 ∧ ρ 33 ≤ 49999 := r33
  have r34 : (0 : Int) ≤ ρ 34 ∧ ρ 34 ≤ 50001 := r34
  have r35 : (0 : Int) ≤ ρ 35 ∧ ρ 35 ≤ 2000 := r35
  have r36 : (0 : Int) ≤ ρ 36 ∧ ρ 36 ≤ 2000 := r36
  have r37 : ((-2147483648) : Int) ≤ ρ 37 ∧ ρ 37 ≤ 2147483647 := r37
  have r38 : ((-2147483648) : Int) ≤ ρ 38 ∧ ρ 38 ≤ 2147483647 := r38
  have r39 : (0 : Int) ≤ ρ 39 ∧ ρ 39 ≤ 50000 := r39
  have r40 : (0 : Int) ≤ ρ 40 ∧ ρ 40 ≤ 50001 := r40
  have r41 : (0 : Int) ≤ ρ 41 ∧ ρ 41 ≤ 2000 := r41
  have r42 : (0 : Int) ≤ ρ 42 ∧ ρ 42 ≤ 2000 := r42
  have r43 : ((-2147483648) : Int) ≤ ρ 43 ∧ ρ 43 ≤ 2147483647 := r43
  obtain ⟨f0, f1, f2, f3, f4, f5, f6, f7, f8, f9, f10, f11, f12, f13, f14, f15, f16, -⟩ := hf
  have f0 : (0 : Int) ≤ ρ 39 + -ρ 33 + (-1) := f0
  have f1 : (0 : Int) ≤ ρ 40 + -ρ 34 := f1
  have f2 : (0 : Int) ≤ ρ 41 + -ρ 35 := f2
  have f3 : (0 : Int) ≤ ρ 42 + -ρ 36 := f3
  have f4 : (0 : Int) ≤ -ρ 40 + (ρ 39 + (ρ 34 + -ρ 33)) := f4
  have f5 : (0 : Int) ≤ ρ 30 + -ρ 11 := f5
  have f6 : (0 : Int) ≤ -ρ 31 + ρ 30 := f6
  have f7 : (0 : Int) ≤ -ρ 30 + ρ 10 + (-1) := f7
  have f8 : (0 : Int) ≤ -ρ 34 + (ρ 33 + (ρ 3 + -ρ 0)) := f8
  have f9 : (0 : Int) ≤ -ρ 34 + (ρ 33 + (-50001) * ρ 1) + 100002 := f9
  have f10 : (0 : Int) ≤ -ρ 32 + ρ 14 := f10
  have f11 : (0 : Int) ≤ -ρ 31 + ρ 11 := f11
  have f12 : (0 : Int) ≤ ρ 36 + -ρ 7 := f12
  have f13 : (0 : Int) ≤ ρ 35 + -ρ 6 := f13
  have f14 : (0 : Int) ≤ ρ 34 + -ρ 3 := f14
  have f15 : (0 : Int) ≤ ρ 33 + -ρ 0 := f15
  have f16 : (0 : Int) ≤ -ρ 3 + ((-50001) * ρ 1 + ρ 0) + 100002 := f16
  obtain ⟨m0, m1, m2, m3, m4, m5, m6, m7, m8, m9, m10, m11, m12, m13, m14, m15, m16, m17, m18, m19, m20, m21, m22, m23, m24, m25, m26, m27, m28, m29, m30, m31, m32, m33, m34, m35, m36, m37, m38, m39, -⟩ := hm
  have m0 : γ 0 6 0 0 = ρ 0 := m0
  have m1 : γ 0 6 0 9 = ρ 1 := m1
  have m2 : γ 0 6 0 6 = ρ 2 := m2
  have m3 : γ 0 8 (ρ 2) 1 = ρ 3 := m3
  have m4 : γ 0 6 0 7 = ρ 4 := m4
  have m5 : γ 0 1 0 10 = ρ 5 := m5
  have m6 : γ 0 4 0 7 = ρ 6 := m6
  have m7 : γ 0 5 0 3 = ρ 7 := m7
  have m8 : γ 0 6 0 8 = ρ 8 := m8
  have m9 : γ 0 6 0 10 = ρ 9 := m9
  have m10 : γ 0 6 0 11 = ρ 10 := m10
  have m11 : γ 0 6 0 12 = ρ 11 := m11
  have m12 : γ 0 6 0 13 = ρ 12 := m12
  have m13 : γ 0 9 (ρ 4) 2 = ρ 13 := m13
  have m14 : γ 0 9 (ρ 4) 3 = ρ 14 := m14
  have m15 : γ 0 10 (9 * ρ 4) 5 = ρ 15 := m15
  have m16 : γ 0 10 (9 * ρ 4) 8 = ρ 16 := m16
  have m17 : γ 0 10 (9 * ρ 4) 12 = ρ 17 := m17
  have m18 : γ 0 10 (9 * ρ 4) 14 = ρ 18 := m18
  have m19 : γ 0 10 (9 * ρ 4 + 7) 5 = ρ 19 := m19
  have m20 : γ 0 10 (9 * ρ 4 + 7) 8 = ρ 20 := m20
  have m21 : γ 0 10 (9 * ρ 4 + 7) 9 = ρ 21 := m21
  have m22 : γ 0 10 (9 * ρ 4 + 7) 10 = ρ 22 := m22
  have m23 : γ 0 10 (9 * ρ 4 + 8) 4 = ρ 23 := m23
  have m24 : γ 0 10 (9 * ρ 4 + 8) 5 = ρ 24 := m24
  have m25 : γ 0 10 (9 * ρ 4 + 8) 8 = ρ 25 := m25
  have m26 : γ 0 10 (9 * ρ 4 + 8) 9 = ρ 26 := m26
  have m27 : γ 0 10 (9 * ρ 4 + 8) 10 = ρ 27 := m27
  have m28 : γ 0 10 (9 * ρ 4 + 8) 11 = ρ 28 := m28
  have m29 : γ 1 6 0 0 = ρ 33 := m29
  have m30 : γ 1 8 (ρ 2) 1 = ρ 34 := m30
  have m31 : γ 1 4 0 7 = ρ 35 := m31
  have m32 : γ 1 5 0 3 = ρ 36 := m32
  have m33 : γ 1 6 0 13 = ρ 37 := m33
  have m34 : γ 3 6 0 0 = ρ 33 + 1 := m34
  have m35 : γ 5 6 0 0 = ρ 39 := m35
  have m36 : γ 5 8 (ρ 2) 1 = ρ 40 := m36
  have m37 : γ 5 4 0 7 = ρ 41 := m37
  have m38 : γ 5 5 0 3 = ρ 42 := m38
  have m39 : γ 5 6 0 13 = ρ 43 := m39
  obtain ⟨⟨⟨⟨⟨-, c1⟩, c2⟩, c3⟩, c4⟩, c5⟩ := hc
  have c1 : ∀ (G : Nat) (k j : Int), ¬ rMdP m140_ G j → γ 1 G k j = γ 0 G k j := c1
  have c2 : ∀ (G : Nat) (k j : Int), ¬ rMdP m132_ G j → γ 2 G k j = γ 1 G k j := c2
  have c3 : ∀ (G : Nat) (k j : Int), ¬ rMdP m133_ G j → γ 3 G k j = γ 2 G k j := c3
  have c4 : γ 4 = rUp (γ 3) 6 0 13 (ρ 38) := c4
  have c5 : ∀ (G : Nat) (k j : Int), ¬ rMdP m140_ G j → γ 5 G k j = γ 4 G k j := c5
  obtain ⟨l0, l1, l2, l3, -⟩ := hl
  have l0 : sn225 [9 * ρ 4 + 7, ρ 30, ρ 19, ρ 20] (γ 1) 0 1 (γ 2) := hS225 _ _ _ _ _ l0
  have l1 : sn232 [9 * ρ 4 + 7, ρ 30, ρ 33, ρ 22] (γ 2) 0 0 (γ 3) := hS232 _ _ _ _ _ l1
  have l2 : zOpP (.iadd) (γ 0) (γ 1) [ρ 37, 1] (ρ 38) := l2
  have l3 : sn247 [ρ 33 + 1, ρ 1, ρ 2, ρ 34, ρ 4, ρ 5, ρ 35, ρ 36, ρ 8, ρ 9, ρ 10, ρ 11, ρ 38, ρ 13, ρ 14, ρ 15, ρ 16, ρ 17, ρ 18, ρ 23, ρ 24, ρ 25, ρ 26, ρ 27, ρ 28] (γ 4) 1 0 (γ 5) := hS247 _ _ _ _ _ l3
  show sn248 [ρ 0, ρ 1, ρ 2, ρ 3, ρ 4, ρ 5, ρ 6, ρ 7, ρ 8, ρ 9, ρ 10, ρ 11, ρ 12, ρ 13, ρ 14, ρ 15, ρ 16, ρ 17, ρ 18, ρ 19, ρ 20, ρ 21, ρ 22, ρ 23, ρ 24, ρ 25, ρ 26, ρ 27, ρ 28] (γ 0) 1 0 (γ 5)
  have hD : en248 (γ 0) (0, [ρ 29, ρ 30, ρ 31, ρ 32], γ 1) = .inr (1, 0, γ 5) := by
    unfold en248
    refine (if_pos (show (0 : Nat) = 0 by decide)).trans ?_
    refine (zLet_eq (show _ = γ 1 from rfl)).trans ?_
    refine (zLet_eq (show _ = ρ 29 from rfl)).trans ?_
    refine (zLet_eq (show _ = ρ 30 from rfl)).trans ?_
    refine (zLet_eq (show _ = ρ 31 from rfl)).trans ?_
    refine (zLet_eq (show _ = ρ 32 from rfl)).trans ?_
    refine (zLet_eq m4).trans ?_
    refine (zLet_eq m10).trans ?_
    refine (zLet_eq m11).trans ?_
    refine (zLet_eq m33).trans ?_
    refine (if_neg (show ¬ (ρ 30 < 0) by omega)).trans ?_
    refine (if_neg (show ¬ (ρ 30 ≥ ρ 10) by omega)).trans ?_
    refine (if_neg (show ¬ (ρ 29 ≥ 2000) by omega)).trans ?_
    refine (if_neg (show ¬ (ρ 30 < ρ 31) by omega)).trans ?_
    refine (zLet_eq (show fn225 [9 * ρ 4 + 7, ρ 30] (γ 1) = (0, 1, γ 2) from l0.symm)).trans ?_
    refine (zLet_eq (show _ = γ 2 from rfl)).trans ?_
    refine (if_pos (show (1 : Int) ≤ 1 by omega)).trans ?_
    refine (zLet_eq (show fn232 [9 * ρ 4 + 7, ρ 30] (γ 2) = (0, 0, γ 3) from l1.symm)).trans ?_
    refine (zLet_eq (show _ = γ 3 from rfl)).trans ?_
    refine (if_pos (show (0 : Nat) = 0 by decide)).trans ?_
    refine (if_neg (show ¬ (ρ 30 < ρ 11) by omega)).trans ?_
    refine (zLet_eq (zF2_ok l2)).trans ?_
    refine (zLet_eq c4.symm).trans ?_
    refine (zLet_eq (show fn247 [] (γ 4) = (1, 0, γ 5) from l3.symm)).trans ?_
    refine (zLet_eq (show _ = γ 5 from rfl)).trans ?_
    refine (if_neg (show ¬ (1 : Nat) = 0 by decide)).trans ?_
    refine (if_pos (show (1 : Nat) = 1 by decide)).trans ?_
    rfl
  exact zGoo_aend hJ hD
theorem vn248a0_10 {S : Nat → zSpc} (hS225 : ∀ x g o v gz, S 225 x g o v gz → sn225 x g o v gz) (hS226 : ∀ x g o v gz, S 226 x g o v gz → sn226 x g o v gz) (hS227 : ∀ x g o v gz, S 227 x g o v gz → sn227 x g o v gz) (hS232 : ∀ x g o v gz, S 232 x g o v gz → sn232 x g o v gz) (hS247 : ∀ x g o v gz, S 247 x g o v gz → sn247 x g o v gz) {a : List Int} {g : rHp} : ∀ (ρ : Nat → Int) (γ : Nat → rHp), jn248 a g 0 (zAg (zNA a248_ 0) ρ) (γ 1) → zO 29 S a g q248a0_10 ρ γ → zGl (fun i vs g1 => jn248 a g i vs g1) (sn248 a g) q248a0_10 ρ γ := by
  intro ρ γ hJ h
  obtain ⟨ha, hg, hr, hf, hm, hc, hl⟩ := h
  have ha : a = [ρ 0, ρ 1, ρ 2, ρ 3, ρ 4, ρ 5, ρ 6, ρ 7, ρ 8, ρ 9, ρ 10, ρ 11, ρ 12, ρ 13, ρ 14, ρ 15, ρ 16, ρ 17, ρ 18, ρ 19, ρ 20, ρ 21, ρ 22, ρ 23, ρ 24, ρ 25, ρ 26, ρ 27, ρ 28] := ha
  subst ha
  subst hg
  have hJ : jn248 [ρ 0, ρ 1, ρ 2, ρ 3, ρ 4, ρ 5, ρ 6, ρ 7, ρ 8, ρ 9, ρ 10, ρ 11, ρ 12, ρ 13, ρ 14, ρ 15, ρ 16, ρ 17, ρ 18, ρ 19, ρ 20, ρ 21, ρ 22, ρ 23, ρ 24, ρ 25, ρ 26, ρ 27, ρ 28] (γ 0) 0 [ρ 0, ρ 1, ρ 2, ρ 3, ρ 4, ρ 5, ρ 6, ρ 7, ρ 8, ρ 9, ρ 10, ρ 11, ρ 12, ρ 13, ρ 14, ρ 15, ρ 16, ρ 17, ρ 18, ρ 19, ρ 20, ρ 21, ρ 22, ρ 23, ρ 24, ρ 25, ρ 26, ρ 27, ρ 28, ρ 29, ρ 30, ρ 31, ρ 32, ρ 33, ρ 34, ρ 35, ρ 36, ρ 37] (γ 1) := hJ
  obtain ⟨r0, r1, r2, r3, r4, r5, r6, r7, r8, r9, r10, r11, r12, r13, r14, r15, r16, r17, r18, r19, r20, r21, r22, r23, r24, r25, r26, r27, r28, r29, r30, r31, r32, r33, r34, r35, r36, r37, r38, r39, r40, r41, r42, r43, -⟩ := hr
  have r0 : (0 : Int) ≤ ρ 0 ∧ ρ 0 ≤ 50000 := r0
  have r1 : (0 : Int) ≤ ρ 1 ∧ ρ 1 ≤ 2 := r1
  have r2 : (0 : Int) ≤ ρ 2 ∧ ρ 2 ≤ 2 := r2
  have r3 : (0 : Int) ≤ ρ 3 ∧ ρ 3 ≤ 50001 := r3
  have r4 : (0 : Int) ≤ ρ 4 ∧ ρ 4 ≤ 62 := r4
  have r5 : (0 : Int) ≤ ρ 5 ∧ ρ 5 ≤ 60 := r5
  have r6 : (0 : Int) ≤ ρ 6 ∧ ρ 6 ≤ 2000 := r6
  have r7 : (0 : Int) ≤ ρ 7 ∧ ρ 7 ≤ 2000 := r7
  have r8 : ((-2147483648) : Int) ≤ ρ 8 ∧ ρ 8 ≤ 2147483647 := r8
  have r9 : ((-2147483648) : Int) ≤ ρ 9 ∧ ρ 9 ≤ 2147483647 := r9
  have r10 : (0 : Int) ≤ ρ 10 ∧ ρ 10 ≤ 2000 := r10
  have r11 : (0 : Int) ≤ ρ 11 ∧ ρ 11 ≤ 2000 := r11
  have r12 : ((-2147483648) : Int) ≤ ρ 12 ∧ ρ 12 ≤ 2147483647 := r12
  have r13 : (8 : Int) ≤ ρ 13 ∧ ρ 13 ≤ 8 := r13
  have r14 : (0 : Int) ≤ ρ 14 ∧ ρ 14 ≤ 8 := r14
  have r15 : (0 : Int) ≤ ρ 15 ∧ ρ 15 ≤ 4 := r15
  have r16 : ((-1) : Int) ≤ ρ 16 ∧ ρ 16 ≤ 19 := r16
  have r17 : (0 : Int) ≤ ρ 17 ∧ ρ 17 ≤ 4 := r17
  have r18 : ((-1) : Int) ≤ ρ 18 ∧ ρ 18 ≤ 7 := r18
  have r19 : (0 : Int) ≤ ρ 19 ∧ ρ 19 ≤ 4 := r19
  have r20 : ((-1) : Int) ≤ ρ 20 ∧ ρ 20 ≤ 19 := r20
  have r21 : ((-1) : Int) ≤ ρ 21 ∧ ρ 21 ≤ 3 := r21
  have r22 : (0 : Int) ≤ ρ 22 ∧ ρ 22 ≤ 7 := r22
  have r23 : (1 : Int) ≤ ρ 23 ∧ ρ 23 ≤ 1 := r23
  have r24 : (0 : Int) ≤ ρ 24 ∧ ρ 24 ≤ 4 := r24
  have r25 : ((-1) : Int) ≤ ρ 25 ∧ ρ 25 ≤ 19 := r25
  have r26 : ((-1) : Int) ≤ ρ 26 ∧ ρ 26 ≤ 3 := r26
  have r27 : (0 : Int) ≤ ρ 27 ∧ ρ 27 ≤ 7 := r27
  have r28 : ((-1) : Int) ≤ ρ 28 ∧ ρ 28 ≤ 7 := r28
  have r29 : (0 : Int) ≤ ρ 29 ∧ ρ 29 ≤ 1999 := r29
  have r30 : (0 : Int) ≤ ρ 30 ∧ ρ 30 ≤ 2000 := r30
  have r31 : (0 : Int) ≤ ρ 31 ∧ ρ 31 ≤ 2000 := r31
  have r32 : (0 : Int) ≤ ρ 32 ∧ ρ 32 ≤ 1 := r32
  have r33 : (0 : Int) ≤ ρ 33 ∧ ρ 33 ≤ 49999 := r33
  have r34 : (0 : Int) ≤ ρ 34 ∧ ρ 34 ≤ 50001 := r34
  have r35 : (0 : Int) ≤ ρ 35 ∧ ρ 35 ≤ 2000 := r35
  have r36 : (0 : Int) ≤ ρ 36 ∧ ρ 36 ≤ 2000 := r36
  have r37 : ((-2147483648) : Int) ≤ ρ 37 ∧ ρ 37 ≤ 2147483647 := r37
  have r38 : ((-2147483648) : Int) ≤ ρ 38 ∧ ρ 38 ≤ 2147483647 := r38
  have r39 : (50001 : Int) ≤ ρ 39 ∧ ρ 39 ≤ 50001 := r39
  have r40 : (0 : Int) ≤ ρ 40 ∧ ρ 40 ≤ 50001 := r40
  have r41 : (0 : Int) ≤ ρ 41 ∧ ρ 41 ≤ 2000 := r41
  have r42 : (0 : Int) ≤ ρ 42 ∧ ρ 42 ≤ 2000 := r42
  have r43 : ((-2147483648) : Int) ≤ ρ 43 ∧ ρ 43 ≤ 2147483647 := r43
  obtain ⟨f0, f1, f2, f3, f4, f5, f6, f7, f8, f9, f10, f11, f12, f13, f14, f15, f16, -⟩ := hf
  have f0 : (0 : Int) ≤ -ρ 34 + (ρ 33 + (-50001) * ρ 1) + 100003 := f0
  have f1 : (0 : Int) ≤ ρ 40 + -ρ 34 := f1
  have f2 : (0 : Int) ≤ ρ 41 + -ρ 35 := f2
  have f3 : (0 : Int) ≤ ρ 42 + -ρ 36 := f3
  have f4 : (0 : Int) ≤ -ρ 40 + (ρ 39 + (ρ 34 + -ρ 33)) := f4
  have f5 : (0 : Int) ≤ ρ 30 + -ρ 11 := f5
  have f6 : (0 : Int) ≤ -ρ 31 + ρ 30 := f6
  have f7 : (0 : Int) ≤ -ρ 30 + ρ 10 + (-1) := f7
  have f8 : (0 : Int) ≤ -ρ 34 + (ρ 33 + (ρ 3 + -ρ 0)) := f8
  have f9 : (0 : Int) ≤ -ρ 34 + (ρ 33 + (-50001) * ρ 1) + 100002 := f9
  have f10 : (0 : Int) ≤ -ρ 32 + ρ 14 := f10
  have f11 : (0 : Int) ≤ -ρ 31 + ρ 11 := f11
  have f12 : (0 : Int) ≤ ρ 36 + -ρ 7 := f12
  have f13 : (0 : Int) ≤ ρ 35 + -ρ 6 := f13
  have f14 : (0 : Int) ≤ ρ 34 + -ρ 3 := f14
  have f15 : (0 : Int) ≤ ρ 33 + -ρ 0 := f15
  have f16 : (0 : Int) ≤ -ρ 3 + ((-50001) * ρ 1 + ρ 0) + 100002 := f16
  obtain ⟨m0, m1, m2, m3, m4, m5, m6, m7, m8, m9, m10, m11, m12, m13, m14, m15, m16, m17, m18, m19, m20, m21, m22, m23, m24, m25, m26, m27, m28, m29, m30, m31, m32, m33, m34, m35, m36, m37, m38, m39, -⟩ := hm
  have m0 : γ 0 6 0 0 = ρ 0 := m0
  have m1 : γ 0 6 0 9 = ρ 1 := m1
  have m2 : γ 0 6 0 6 = ρ 2 := m2
  have m3 : γ 0 8 (ρ 2) 1 = ρ 3 := m3
  have m4 : γ 0 6 0 7 = ρ 4 := m4
  have m5 : γ 0 1 0 10 = ρ 5 := m5
  have m6 : γ 0 4 0 7 = ρ 6 := m6
  have m7 : γ 0 5 0 3 = ρ 7 := m7
  have m8 : γ 0 6 0 8 = ρ 8 := m8
  have m9 : γ 0 6 0 10 = ρ 9 := m9
  have m10 : γ 0 6 0 11 = ρ 10 := m10
  have m11 : γ 0 6 0 12 = ρ 11 := m11
  have m12 : γ 0 6 0 13 = ρ 12 := m12
  have m13 : γ 0 9 (ρ 4) 2 = ρ 13 := m13
  have m14 : γ 0 9 (ρ 4) 3 = ρ 14 := m14
  have m15 : γ 0 10 (9 * ρ 4) 5 = ρ 15 := m15
  have m16 : γ 0 10 (9 * ρ 4) 8 = ρ 16 := m16
  have m17 : γ 0 10 (9 * ρ 4) 12 = ρ 17 := m17
  have m18 : γ 0 10 (9 * ρ 4) 14 = ρ 18 := m18
  have m19 : γ 0 10 (9 * ρ 4 + 7) 5 = ρ 19 := m19
  have m20 : γ 0 10 (9 * ρ 4 + 7) 8 = ρ 20 := m20
  have m21 : γ 0 10 (9 * ρ 4 + 7) 9 = ρ 21 := m21
  have m22 : γ 0 10 (9 * ρ 4 + 7) 10 = ρ 22 := m22
  have m23 : γ 0 10 (9 * ρ 4 + 8) 4 = ρ 23 := m23
  have m24 : γ 0 10 (9 * ρ 4 + 8) 5 = ρ 24 := m24
  have m25 : γ 0 10 (9 * ρ 4 + 8) 8 = ρ 25 := m25
  have m26 : γ 0 10 (9 * ρ 4 + 8) 9 = ρ 26 := m26
  have m27 : γ 0 10 (9 * ρ 4 + 8) 10 = ρ 27 := m27
  have m28 : γ 0 10 (9 * ρ 4 + 8) 11 = ρ 28 := m28
  have m29 : γ 1 6 0 0 = ρ 33 := m29
  have m30 : γ 1 8 (ρ 2) 1 = ρ 34 := m30
  have m31 : γ 1 4 0 7 = ρ 35 := m31
  have m32 : γ 1 5 0 3 = ρ 36 := m32
  have m33 : γ 1 6 0 13 = ρ 37 := m33
  have m34 : γ 3 6 0 0 = ρ 33 + 1 := m34
  have m35 : γ 5 6 0 0 = ρ 39 := m35
  have m36 : γ 5 8 (ρ 2) 1 = ρ 40 := m36
  have m37 : γ 5 4 0 7 = ρ 41 := m37
  have m38 : γ 5 5 0 3 = ρ 42 := m38
  have m39 : γ 5 6 0 13 = ρ 43 := m39
  obtain ⟨⟨⟨⟨⟨-, c1⟩, c2⟩, c3⟩, c4⟩, c5⟩ := hc
  have c1 : ∀ (G : Nat) (k j : Int), ¬ rMdP m140_ G j → γ 1 G k j = γ 0 G k j := c1
  have c2 : ∀ (G : Nat) (k j : Int), ¬ rMdP m132_ G j → γ 2 G k j = γ 1 G k j := c2
  have c3 : ∀ (G : Nat) (k j : Int), ¬ rMdP m133_ G j → γ 3 G k j = γ 2 G k j := c3
  have c4 : γ 4 = rUp (γ 3) 6 0 13 (ρ 38) := c4
  have c5 : ∀ (G : Nat) (k j : Int), ¬ rMdP m140_ G j → γ 5 G k j = γ 4 G k j := c5
  obtain ⟨l0, l1, l2, l3, -⟩ := hl
  have l0 : sn225 [9 * ρ 4 + 7, ρ 30, ρ 19, ρ 20] (γ 1) 0 1 (γ 2) := hS225 _ _ _ _ _ l0
  have l1 : sn232 [9 * ρ 4 + 7, ρ 30, ρ 33, ρ 22] (γ 2) 0 0 (γ 3) := hS232 _ _ _ _ _ l1
  have l2 : zOpP (.iadd) (γ 0) (γ 1) [ρ 37, 1] (ρ 38) := l2
  have l3 : sn247 [ρ 33 + 1, ρ 1, ρ 2, ρ 34, ρ 4, ρ 5, ρ 35, ρ 36, ρ 8, ρ 9, ρ 10, ρ 11, ρ 38, ρ 13, ρ 14, ρ 15, ρ 16, ρ 17, ρ 18, ρ 23, ρ 24, ρ 25, ρ 26, ρ 27, ρ 28] (γ 4) 4 0 (γ 5) := hS247 _ _ _ _ _ l3
  show sn248 [ρ 0, ρ 1, ρ 2, ρ 3, ρ 4, ρ 5, ρ 6, ρ 7, ρ 8, ρ 9, ρ 10, ρ 11, ρ 12, ρ 13, ρ 14, ρ 15, ρ 16, ρ 17, ρ 18, ρ 19, ρ 20, ρ 21, ρ 22, ρ 23, ρ 24, ρ 25, ρ 26, ρ 27, ρ 28] (γ 0) 4 0 (γ 5)
  have hD : en248 (γ 0) (0, [ρ 29, ρ 30, ρ 31, ρ 32], γ 1) = .inr (4, 0, γ 5) := by
    unfold en248
    refine (if_pos (show (0 : Nat) = 0 by decide)).trans ?_
    refine (zLet_eq (show _ = γ 1 from rfl)).trans ?_
    refine (zLet_eq (show _ = ρ 29 from rfl)).trans ?_
    refine (zLet_eq (show _ = ρ 30 from rfl)).trans ?_
    refine (zLet_eq (show _ = ρ 31 from rfl)).trans ?_
    refine (zLet_eq (show _ = ρ 32 from rfl)).trans ?_
    refine (zLet_eq m4).trans ?_
    refine (zLet_eq m10).trans ?_
    refine (zLet_eq m11).trans ?_
    refine (zLet_eq m33).trans ?_
    refine (if_neg (show ¬ (ρ 30 < 0) by omega)).trans ?_
    refine (if_neg (show ¬ (ρ 30 ≥ ρ 10) by omega)).trans ?_
    refine (if_neg (show ¬ (ρ 29 ≥ 2000) by omega)).trans ?_
    refine (if_neg (show ¬ (ρ 30 < ρ 31) by omega)).trans ?_
    refine (zLet_eq (show fn225 [9 * ρ 4 + 7, ρ 30] (γ 1) = (0, 1, γ 2) from l0.symm)).trans ?_
    refine (zLet_eq (show _ = γ 2 from rfl)).trans ?_
    refine (if_pos (show (1 : Int) ≤ 1 by omega)).trans ?_
    refine (zLet_eq (show fn232 [9 * ρ 4 + 7, ρ 30] (γ 2) = (0, 0, γ 3) from l1.symm)).trans ?_
    refine (zLet_eq (show _ = γ 3 from rfl)).trans ?_
    refine (if_pos (show (0 : Nat) = 0 by decide)).trans ?_
    refine (if_neg (show ¬ (ρ 30 < ρ 11) by omega)).trans ?_
    refine (zLet_eq (zF2_ok l2)).trans ?_
    refine (zLet_eq c4.symm).trans ?_
    refine (zLet_eq (show fn247 [] (γ 4) = (4, 0, γ 5) from l3.symm)).trans ?_
    refine (zLet_eq (show _ = γ 5 from rfl)).trans ?_
    refine (if_neg (show ¬ (4 : Nat) = 0 by decide)).trans ?_
    refine (if_neg (show ¬ (4 : Nat) = 1 by decide)).trans ?_
    rfl
  exact zGoo_aend hJ hD
theorem vn248a0_11 {S : Nat → zSpc} (hS225 : ∀ x g o v gz, S 225 x g o v gz → sn225 x g o v gz) (hS226 : ∀ x g o v gz, S 226 x g o v gz → sn226 x g o v gz) (hS227 : ∀ x g o v gz, S 227 x g o v gz → sn227 x g o v gz) (hS232 : ∀ x g o v gz, S 232 x g o v gz → sn232 x g o v gz) (hS247 : ∀ x g o v gz, S 247 x g o v gz → sn247 x g o v gz) {a : List Int} {g : rHp} : ∀ (ρ : Nat → Int) (γ : Nat → rHp), jn248 a g 0 (zAg (zNA a248_ 0) ρ) (γ 1) → zO 29 S a g q248a0_11 ρ γ → zGl (fun i vs g1 => jn248 a g i vs g1) (sn248 a g) q248a0_11 ρ γ := by
  intro ρ γ hJ h
  obtain ⟨ha, hg, hr, hf, hm, hc, hl⟩ := h
  have ha : a = [ρ 0, ρ 1, ρ 2, ρ 3, ρ 4, ρ 5, ρ 6, ρ 7, ρ 8, ρ 9, ρ 10, ρ 11, ρ 12, ρ 13, ρ 14, ρ 15, ρ 16, ρ 17, ρ 18, ρ 19, ρ 20, ρ 21, ρ 22, ρ 23, ρ 24, ρ 25, ρ 26, ρ 27, ρ 28] := ha
  subst ha
  subst hg
  have hJ : jn248 [ρ 0, ρ 1, ρ 2, ρ 3, ρ 4, ρ 5, ρ 6, ρ 7, ρ 8, ρ 9, ρ 10, ρ 11, ρ 12, ρ 13, ρ 14, ρ 15, ρ 16, ρ 17, ρ 18, ρ 19, ρ 20, ρ 21, ρ 22, ρ 23, ρ 24, ρ 25, ρ 26, ρ 27, ρ 28] (γ 0) 0 [ρ 0, ρ 1, ρ 2, ρ 3, ρ 4, ρ 5, ρ 6, ρ 7, ρ 8, ρ 9, ρ 10, ρ 11, ρ 12, ρ 13, ρ 14, ρ 15, ρ 16, ρ 17, ρ 18, ρ 19, ρ 20, ρ 21, ρ 22, ρ 23, ρ 24, ρ 25, ρ 26, ρ 27, ρ 28, ρ 29, ρ 30, ρ 31, ρ 32, ρ 33, ρ 34, ρ 35, ρ 36, ρ 37] (γ 1) := hJ
  obtain ⟨r0, r1, r2, r3, r4, r5, r6, r7, r8, r9, r10, r11, r12, r13, r14, r15, r16, r17, r18, r19, r20, r21, r22, r23, r24, r25, r26, r27, r28, r29, r30, r31, r32, r33, r34, r35, r36, r37, -⟩ := hr
  have r0 : (0 : Int) ≤ ρ 0 ∧ ρ 0 ≤ 50000 := r0
  have r1 : (0 : Int) ≤ ρ 1 ∧ ρ 1 ≤ 2 := r1
  have r2 : (0 : Int) ≤ ρ 2 ∧ ρ 2 ≤ 2 := r2
  have r3 : (0 : Int) ≤ ρ 3 ∧ ρ 3 ≤ 50001 := r3
  have r4 : (0 : Int) ≤ ρ 4 ∧ ρ 4 ≤ 62 := r4
  have r5 : (0 : Int) ≤ ρ 5 ∧ ρ 5 ≤ 60 := r5
  have r6 : (0 : Int) ≤ ρ 6 ∧ ρ 6 ≤ 2000 := r6
  have r7 : (0 : Int) ≤ ρ 7 ∧ ρ 7 ≤ 2000 := r7
  have r8 : ((-2147483648) : Int) ≤ ρ 8 ∧ ρ 8 ≤ 2147483647 := r8
  have r9 : ((-2147483648) : Int) ≤ ρ 9 ∧ ρ 9 ≤ 2147483647 := r9
  have r10 : (0 : Int) ≤ ρ 10 ∧ ρ 10 ≤ 2000 := r10
  have r11 : (0 : Int) ≤ ρ 11 ∧ ρ 11 ≤ 2000 := r11
  have r12 : ((-2147483648) : Int) ≤ ρ 12 ∧ ρ 12 ≤ 2147483647 := r12
  have r13 : (0 : Int) ≤ ρ 13 ∧ ρ 13 ≤ 8 := r13
  have r14 : (0 : Int) ≤ ρ 14 ∧ ρ 14 ≤ 8 := r14
  have r15 : (0 : Int) ≤ ρ 15 ∧ ρ 15 ≤ 4 := r15
  have r16 : ((-1) : Int) ≤ ρ 16 ∧ ρ 16 ≤ 19 := r16
  have r17 : (0 : Int) ≤ ρ 17 ∧ ρ 17 ≤ 4 := r17
  have r18 : ((-1) : Int) ≤ ρ 18 ∧ ρ 18 ≤ 7 := r18
  have r19 : (0 : Int) ≤ ρ 19 ∧ ρ 19 ≤ 4 := r19
  have r20 : ((-1) : Int) ≤ ρ 20 ∧ ρ 20 ≤ 19 := r20
  have r21 : ((-1) : Int) ≤ ρ 21 ∧ ρ 21 ≤ 3 := r21
  have r22 : (0 : Int) ≤ ρ 22 ∧ ρ 22 ≤ 7 := r22
  have r23 : (0 : Int) ≤ ρ 23 ∧ ρ 23 ≤ 8 := r23
  have r24 : (0 : Int) ≤ ρ 24 ∧ ρ 24 ≤ 4 := r24
  have r25 : ((-1) : Int) ≤ ρ 25 ∧ ρ 25 ≤ 19 := r25
  have r26 : ((-1) : Int) ≤ ρ 26 ∧ ρ 26 ≤ 3 := r26
  have r27 : (0 : Int) ≤ ρ 27 ∧ ρ 27 ≤ 7 := r27
  have r28 : ((-1) : Int) ≤ ρ 28 ∧ ρ 28 ≤ 7 := r28
  have r29 : (0 : Int) ≤ ρ 29 ∧ ρ 29 ≤ 1999 := r29
  have r30 : (0 : Int) ≤ ρ 30 ∧ ρ 30 ≤ 2000 := r30
  have r31 : (0 : Int) ≤ ρ 31 ∧ ρ 31 ≤ 2000 := r31
  have r32 : (0 : Int) ≤ ρ 32 ∧ ρ 32 ≤ 1 := r32
  have r33 : (50000 : Int) ≤ ρ 33 ∧ ρ 33 ≤ 50000 := r33
  have r34 : (0 : Int) ≤ ρ 34 ∧ ρ 34 ≤ 50001 := r34
  have r35 : (0 : Int) ≤ ρ 35 ∧ ρ 35 ≤ 2000 := r35
  have r36 : (0 : Int) ≤ ρ 36 ∧ ρ 36 ≤ 2000 := r36
  have r37 : ((-2147483648) : Int) ≤ ρ 37 ∧ ρ 37 ≤ 2147483647 := r37
  obtain ⟨f0, f1, f2, f3, f4, f5, f6, f7, f8, f9, f10, -⟩ := hf
  have f0 : (0 : Int) ≤ -ρ 31 + ρ 30 := f0
  have f1 : (0 : Int) ≤ -ρ 30 + ρ 10 + (-1) := f1
  have f2 : (0 : Int) ≤ -ρ 34 + (ρ 33 + (ρ 3 + -ρ 0)) := f2
  have f3 : (0 : Int) ≤ -ρ 34 + (ρ 33 + (-50001) * ρ 1) + 100002 := f3
  have f4 : (0 : Int) ≤ -ρ 32 + ρ 14 := f4
  have f5 : (0 : Int) ≤ -ρ 31 + ρ 11 := f5
  have f6 : (0 : Int) ≤ ρ 36 + -ρ 7 := f6
  have f7 : (0 : Int) ≤ ρ 35 + -ρ 6 := f7
  have f8 : (0 : Int) ≤ ρ 34 + -ρ 3 := f8
  have f9 : (0 : Int) ≤ ρ 33 + -ρ 0 := f9
  have f10 : (0 : Int) ≤ -ρ 3 + ((-50001) * ρ 1 + ρ 0) + 100002 := f10
  obtain ⟨m0, m1, m2, m3, m4, m5, m6, m7, m8, m9, m10, m11, m12, m13, m14, m15, m16, m17, m18, m19, m20, m21, m22, m23, m24, m25, m26, m27, m28, m29, m30, m31, m32, m33, m34, -⟩ := hm
  have m0 : γ 0 6 0 0 = ρ 0 := m0
  have m1 : γ 0 6 0 9 = ρ 1 := m1
  have m2 : γ 0 6 0 6 = ρ 2 := m2
  have m3 : γ 0 8 (ρ 2) 1 = ρ 3 := m3
  have m4 : γ 0 6 0 7 = ρ 4 := m4
  have m5 : γ 0 1 0 10 = ρ 5 := m5
  have m6 : γ 0 4 0 7 = ρ 6 := m6
  have m7 : γ 0 5 0 3 = ρ 7 := m7
  have m8 : γ 0 6 0 8 = ρ 8 := m8
  have m9 : γ 0 6 0 10 = ρ 9 := m9
  have m10 : γ 0 6 0 11 = ρ 10 := m10
  have m11 : γ 0 6 0 12 = ρ 11 := m11
  have m12 : γ 0 6 0 13 = ρ 12 := m12
  have m13 : γ 0 9 (ρ 4) 2 = ρ 13 := m13
  have m14 : γ 0 9 (ρ 4) 3 = ρ 14 := m14
  have m15 : γ 0 10 (9 * ρ 4) 5 = ρ 15 := m15
  have m16 : γ 0 10 (9 * ρ 4) 8 = ρ 16 := m16
  have m17 : γ 0 10 (9 * ρ 4) 12 = ρ 17 := m17
  have m18 : γ 0 10 (9 * ρ 4) 14 = ρ 18 := m18
  have m19 : γ 0 10 (9 * ρ 4 + 7) 5 = ρ 19 := m19
  have m20 : γ 0 10 (9 * ρ 4 + 7) 8 = ρ 20 := m20
  have m21 : γ 0 10 (9 * ρ 4 + 7) 9 = ρ 21 := m21
  have m22 : γ 0 10 (9 * ρ 4 + 7) 10 = ρ 22 := m22
  have m23 : γ 0 10 (9 * ρ 4 + 8) 4 = ρ 23 := m23
  have m24 : γ 0 10 (9 * ρ 4 + 8) 5 = ρ 24 := m24
  have m25 : γ 0 10 (9 * ρ 4 + 8) 8 = ρ 25 := m25
  have m26 : γ 0 10 (9 * ρ 4 + 8) 9 = ρ 26 := m26
  have m27 : γ 0 10 (9 * ρ 4 + 8) 10 = ρ 27 := m27
  have m28 : γ 0 10 (9 * ρ 4 + 8) 11 = ρ 28 := m28
  have m29 : γ 1 6 0 0 = ρ 33 := m29
  have m30 : γ 1 8 (ρ 2) 1 = ρ 34 := m30
  have m31 : γ 1 4 0 7 = ρ 35 := m31
  have m32 : γ 1 5 0 3 = ρ 36 := m32
  have m33 : γ 1 6 0 13 = ρ 37 := m33
  have m34 : γ 3 6 0 0 = ρ 33 + 1 := m34
  obtain ⟨⟨⟨-, c1⟩, c2⟩, c3⟩ := hc
  have c1 : ∀ (G : Nat) (k j : Int), ¬ rMdP m140_ G j → γ 1 G k j = γ 0 G k j := c1
  have c2 : ∀ (G : Nat) (k j : Int), ¬ rMdP m132_ G j → γ 2 G k j = γ 1 G k j := c2
  have c3 : ∀ (G : Nat) (k j : Int), ¬ rMdP m133_ G j → γ 3 G k j = γ 2 G k j := c3
  obtain ⟨l0, l1, -⟩ := hl
  have l0 : sn225 [9 * ρ 4 + 7, ρ 30, ρ 19, ρ 20] (γ 1) 0 1 (γ 2) := hS225 _ _ _ _ _ l0
  have l1 : sn232 [9 * ρ 4 + 7, ρ 30, ρ 33, ρ 22] (γ 2) 4 0 (γ 3) := hS232 _ _ _ _ _ l1
  show sn248 [ρ 0, ρ 1, ρ 2, ρ 3, ρ 4, ρ 5, ρ 6, ρ 7, ρ 8, ρ 9, ρ 10, ρ 11, ρ 12, ρ 13, ρ 14, ρ 15, ρ 16, ρ 17, ρ 18, ρ 19, ρ 20, ρ 21, ρ 22, ρ 23, ρ 24, ρ 25, ρ 26, ρ 27, ρ 28] (γ 0) 4 0 (γ 3)
  have hD : en248 (γ 0) (0, [ρ 29, ρ 30, ρ 31, ρ 32], γ 1) = .inr (4, 0, γ 3) := by
    unfold en248
    refine (if_pos (show (0 : Nat) = 0 by decide)).trans ?_
    refine (zLet_eq (show _ = γ 1 from rfl)).trans ?_
    refine (zLet_eq (show _ = ρ 29 from rfl)).trans ?_
    refine (zLet_eq (show _ = ρ 30 from rfl)).trans ?_
    refine (zLet_eq (show _ = ρ 31 from rfl)).trans ?_
    refine (zLet_eq (show _ = ρ 32 from rfl)).trans ?_
    refine (zLet_eq m4).trans ?_
    refine (zLet_eq m10).trans ?_
    refine (zLet_eq m11).trans ?_
    refine (zLet_eq m33).trans ?_
    refine (if_neg (show ¬ (ρ 30 < 0) by omega)).trans ?_
    refine (if_neg (show ¬ (ρ 30 ≥ ρ 10) by omega)).trans ?_
    refine (if_neg (show ¬ (ρ 29 ≥ 2000) by omega)).trans ?_
    refine (if_neg (show ¬ (ρ 30 < ρ 31) by omega)).trans ?_
    refine (zLet_eq (show fn225 [9 * ρ 4 + 7, ρ 30] (γ 1) = (0, 1, γ 2) from l0.symm)).trans ?_
    refine (zLet_eq (show _ = γ 2 from rfl)).trans ?_
    refine (if_pos (show (1 : Int) ≤ 1 by omega)).trans ?_
    refine (zLet_eq (show fn232 [9 * ρ 4 + 7, ρ 30] (γ 2) = (4, 0, γ 3) from l1.symm)).trans ?_
    refine (zLet_eq (show _ = γ 3 from rfl)).trans ?_
    refine (if_neg (show ¬ (4 : Nat) = 0 by decide)).trans ?_
    rfl
  exact zGoo_aend hJ hD
theorem yn248 {S : Nat → zSpc} (hS225 : ∀ x g o v gz, S 225 x g o v gz → sn225 x g o v gz) (hS226 : ∀ x g o v gz, S 226 x g o v gz → sn226 x g o v gz) (hS227 : ∀ x g o v gz, S 227 x g o v gz → sn227 x g o v gz) (hS232 : ∀ x g o v gz, S 232 x g o v gz → sn232 x g o v gz) (hS247 : ∀ x g o v gz, S 247 x g o v gz → sn247 x g o v gz) : ∀ x g o v gz, zSem uW uT w248_.2.2.2.1 w248_.2.2.1.1.length S q248 (fun i => q248a.getD i []) (zNA a248_) x g o v gz → sn248 x g o v gz := by
  intro a g o v gz h
  exact zSem_all (l0 := q248) (las := q248a) (S := S) (J := (fun i vs g1 => jn248 a g i vs g1)) (P := sn248 a g) (fun _ => (show zAll _ [q248_0, q248_1, q248_2, q248_3] from (zAll_c (vn248_0 hS225 hS226 hS227 hS232 hS247) (zAll_c (vn248_1 hS225 hS226 hS227 hS232 hS247) (zAll_c (vn248_2 hS225 hS226 hS227 hS232 hS247) (zAll_c (vn248_3 hS225 hS226 hS227 hS232 hS247) zAll_n)))))) (fun _ => (show zAllI _ 0 [q248a0] from ⟨(show zAll _ [q248a0_0, q248a0_1, q248a0_2, q248a0_3, q248a0_4, q248a0_5, q248a0_6, q248a0_7, q248a0_8, q248a0_9, q248a0_10, q248a0_11] from (zAll_c (vn248a0_0 hS225 hS226 hS227 hS232 hS247) (zAll_c (vn248a0_1 hS225 hS226 hS227 hS232 hS247) (zAll_c (vn248a0_2 hS225 hS226 hS227 hS232 hS247) (zAll_c (vn248a0_3 hS225 hS226 hS227 hS232 hS247) (zAll_c (vn248a0_4 hS225 hS226 hS227 hS232 hS247) (zAll_c (vn248a0_5 hS225 hS226 hS227 hS232 hS247) (zAll_c (vn248a0_6 hS225 hS226 hS227 hS232 hS247) (zAll_c (vn248a0_7 hS225 hS226 hS227 hS232 hS247) (zAll_c (vn248a0_8 hS225 hS226 hS227 hS232 hS247) (zAll_c (vn248a0_9 hS225 hS226 hS227 hS232 hS247) (zAll_c (vn248a0_10 hS225 hS226 hS227 hS232 hS247) (zAll_c (vn248a0_11 hS225 hS226 hS227 hS232 hS247) zAll_n))))))))))))), trivial⟩)) h
theorem vn249_0 {S : Nat → zSpc} (hS132 : ∀ x g o v gz, S 132 x g o v gz → sn132 x g o v gz) (hS228 : ∀ x g o v gz, S 228 x g o v gz → sn228 x g o v gz) (hS229 : ∀ x g o v gz, S 229 x g o v gz → sn229 x g o v gz) (hS230 : ∀ x g o v gz, S 230 x g o v gz → sn230 x g o v gz) (hS231 : ∀ x g o v gz, S 231 x g o v gz → sn231 x g o v gz) (hS244 : ∀ x g o v gz, S 244 x g o v gz → sn244 x g o v gz) (hS247 : ∀ x g o v gz, S 247 x g o v gz → sn247 x g o v gz) (hS248 : ∀ x g o v gz, S 248 x g o v gz → sn248 x g o v gz) {a : List Int} {g : rHp} : ∀ (ρ : Nat → Int) (γ : Nat → rHp), zO 31 S a g q249_0 ρ γ → zGl (fun _ _ _ => True) (sn249 a g) q249_0 ρ γ := by
  intro ρ γ h
  obtain ⟨ha, hg, hr, hf, hm, hc, hl⟩ := h
  have ha : a = [ρ 0, ρ 1, ρ 2, ρ 3, ρ 4, ρ 5, ρ 6, ρ 7, ρ 8, ρ 9, ρ 10, ρ 11, ρ 12, ρ 13, ρ 14, ρ 15, ρ 16, ρ 17, ρ 18, ρ 19, ρ 20, ρ 21, ρ 22, ρ 23, ρ 24, ρ 25, ρ 26, ρ 27, ρ 28, ρ 29, ρ 30] := ha
  subst ha
  subst hg
  obtain ⟨r0, r1, r2, r3, r4, r5, r6, r7, r8, r9, r10, r11, r12, r13, r14, r15, r16, r17, r18, r19, r20, r21, r22, r23, r24, r25, r26, r27, r28, r29, r30, r31, r32, r33, -⟩ := hr
  have r0 : (0 : Int) ≤ ρ 0 ∧ ρ 0 ≤ 50000 := r0
  have r1 : (0 : Int) ≤ ρ 1 ∧ ρ 1 ≤ 2 := r1
  have r2 : (0 : Int) ≤ ρ 2 ∧ ρ 2 ≤ 2 := r2
  have r3 : (0 : Int) ≤ ρ 3 ∧ ρ 3 ≤ 50001 := r3
  have r4 : (0 : Int) ≤ ρ 4 ∧ ρ 4 ≤ 62 := r4
  have r5 : (0 : Int) ≤ ρ 5 ∧ ρ 5 ≤ 60 := r5
  have r6 : (0 : Int) ≤ ρ 6 ∧ ρ 6 ≤ 2000 := r6
  have r7 : (0 : Int) ≤ ρ 7 ∧ ρ 7 ≤ 2000 := r7
  have r8 : ((-2147483648) : Int) ≤ ρ 8 ∧ ρ 8 ≤ 2147483647 := r8
  have r9 : ((-2147483648) : Int) ≤ ρ 9 ∧ ρ 9 ≤ 2147483647 := r9
  have r10 : (0 : Int) ≤ ρ 10 ∧ ρ 10 ≤ 2000 := r10
  have r11 : (0 : Int) ≤ ρ 11 ∧ ρ 11 ≤ 2000 := r11
  have r12 : ((-2147483648) : Int) ≤ ρ 12 ∧ ρ 12 ≤ 2147483647 := r12
  have r13 : (0 : Int) ≤ ρ 13 ∧ ρ 13 ≤ 6 := r13
  have r14 : (0 : Int) ≤ ρ 14 ∧ ρ 14 ≤ 8 := r14
  have r15 : (0 : Int) ≤ ρ 15 ∧ ρ 15 ≤ 4 := r15
  have r16 : ((-1) : Int) ≤ ρ 16 ∧ ρ 16 ≤ 19 := r16
  have r17 : (0 : Int) ≤ ρ 17 ∧ ρ 17 ≤ 4 := r17
  have r18 : ((-1) : Int) ≤ ρ 18 ∧ ρ 18 ≤ 7 := r18
  have r19 : (0 : Int) ≤ ρ 19 ∧ ρ 19 ≤ 8 := r19
  have r20 : (0 : Int) ≤ ρ 20 ∧ ρ 20 ≤ 4 := r20
  have r21 : ((-1) : Int) ≤ ρ 21 ∧ ρ 21 ≤ 19 := r21
  have r22 : ((-1) : Int) ≤ ρ 22 ∧ ρ 22 ≤ 3 := r22
  have r23 : (0 : Int) ≤ ρ 23 ∧ ρ 23 ≤ 7 := r23
  have r24 : ((-1) : Int) ≤ ρ 24 ∧ ρ 24 ≤ 7 := r24
  have r25 : (0 : Int) ≤ ρ 25 ∧ ρ 25 ≤ 8 := r25
  have r26 : (0 : Int) ≤ ρ 26 ∧ ρ 26 ≤ 4 := r26
  have r27 : ((-1) : Int) ≤ ρ 27 ∧ ρ 27 ≤ 19 := r27
  have r28 : ((-1) : Int) ≤ ρ 28 ∧ ρ 28 ≤ 3 := r28
  have r29 : (0 : Int) ≤ ρ 29 ∧ ρ 29 ≤ 7 := r29
  have r30 : ((-1) : Int) ≤ ρ 30 ∧ ρ 30 ≤ 7 := r30
  have r31 : (0 : Int) ≤ ρ 31 ∧ ρ 31 ≤ 50001 := r31
  have r32 : (0 : Int) ≤ ρ 32 ∧ ρ 32 ≤ 2000 := r32
  have r33 : (0 : Int) ≤ ρ 33 ∧ ρ 33 ≤ 2000 := r33
  obtain ⟨f0, f1, f2, f3, f4, -⟩ := hf
  have f0 : (0 : Int) ≤ -ρ 3 + ((-50001) * ρ 1 + ρ 0) + 100002 := f0
  have f1 : (0 : Int) ≤ ρ 31 + -ρ 3 := f1
  have f2 : (0 : Int) ≤ ρ 32 + -ρ 6 := f2
  have f3 : (0 : Int) ≤ ρ 33 + -ρ 7 := f3
  have f4 : (0 : Int) ≤ -ρ 31 + ρ 3 + 1 := f4
  obtain ⟨m0, m1, m2, m3, m4, m5, m6, m7, m8, m9, m10, m11, m12, m13, m14, m15, m16, m17, m18, m19, m20, m21, m22, m23, m24, m25, m26, m27, m28, m29, m30, m31, m32, m33, -⟩ := hm
  have m0 : γ 0 6 0 0 = ρ 0 := m0
  have m1 : γ 0 6 0 9 = ρ 1 := m1
  have m2 : γ 0 6 0 6 = ρ 2 := m2
  have m3 : γ 0 8 (ρ 2) 1 = ρ 3 := m3
  have m4 : γ 0 6 0 7 = ρ 4 := m4
  have m5 : γ 0 1 0 10 = ρ 5 := m5
  have m6 : γ 0 4 0 7 = ρ 6 := m6
  have m7 : γ 0 5 0 3 = ρ 7 := m7
  have m8 : γ 0 6 0 8 = ρ 8 := m8
  have m9 : γ 0 6 0 10 = ρ 9 := m9
  have m10 : γ 0 6 0 11 = ρ 10 := m10
  have m11 : γ 0 6 0 12 = ρ 11 := m11
  have m12 : γ 0 6 0 13 = ρ 12 := m12
  have m13 : γ 0 9 (ρ 4) 2 = ρ 13 := m13
  have m14 : γ 0 9 (ρ 4) 3 = ρ 14 := m14
  have m15 : γ 0 10 (9 * ρ 4) 5 = ρ 15 := m15
  have m16 : γ 0 10 (9 * ρ 4) 8 = ρ 16 := m16
  have m17 : γ 0 10 (9 * ρ 4) 12 = ρ 17 := m17
  have m18 : γ 0 10 (9 * ρ 4) 14 = ρ 18 := m18
  have m19 : γ 0 10 (9 * ρ 4 + 7) 4 = ρ 19 := m19
  have m20 : γ 0 10 (9 * ρ 4 + 7) 5 = ρ 20 := m20
  have m21 : γ 0 10 (9 * ρ 4 + 7) 8 = ρ 21 := m21
  have m22 : γ 0 10 (9 * ρ 4 + 7) 9 = ρ 22 := m22
  have m23 : γ 0 10 (9 * ρ 4 + 7) 10 = ρ 23 := m23
  have m24 : γ 0 10 (9 * ρ 4 + 7) 11 = ρ 24 := m24
  have m25 : γ 0 10 (9 * ρ 4 + 8) 4 = ρ 25 := m25
  have m26 : γ 0 10 (9 * ρ 4 + 8) 5 = ρ 26 := m26
  have m27 : γ 0 10 (9 * ρ 4 + 8) 8 = ρ 27 := m27
  have m28 : γ 0 10 (9 * ρ 4 + 8) 9 = ρ 28 := m28
  have m29 : γ 0 10 (9 * ρ 4 + 8) 10 = ρ 29 := m29
  have m30 : γ 0 10 (9 * ρ 4 + 8) 11 = ρ 30 := m30
  have m31 : γ 1 8 (ρ 2) 1 = ρ 31 := m31
  have m32 : γ 1 4 0 7 = ρ 32 := m32
  have m33 : γ 1 5 0 3 = ρ 33 := m33
  obtain ⟨-, c1⟩ := hc
  have c1 : ∀ (G : Nat) (k j : Int), ¬ rMdP m138_ G j → γ 1 G k j = γ 0 G k j := c1
  obtain ⟨l0, -⟩ := hl
  have l0 : sn244 [ρ 0, ρ 1, ρ 2, ρ 3, ρ 4, ρ 6, ρ 7, ρ 8, ρ 9, ρ 14, ρ 15, ρ 16, ρ 17, ρ 18] (γ 0) 0 0 (γ 1) := hS244 _ _ _ _ _ l0
  show sn249 [ρ 0, ρ 1, ρ 2, ρ 3, ρ 4, ρ 5, ρ 6, ρ 7, ρ 8, ρ 9, ρ 10, ρ 11, ρ 12, ρ 13, ρ 14, ρ 15, ρ 16, ρ 17, ρ 18, ρ 19, ρ 20, ρ 21, ρ 22, ρ 23, ρ 24, ρ 25, ρ 26, ρ 27, ρ 28, ρ 29, ρ 30] (γ 0) 0 0 (γ 1)
  refine Eq.symm ?_
  show fn249 [] (γ 0) = _
  unfold fn249
  refine (zLet_eq m4).trans ?_
  refine (zLet_eq m13).trans ?_
  refine (zLet_eq m19).trans ?_
  refine (if_pos (show 6 ≥ ρ 13 by omega)).trans ?_
  refine (zLet_eq (show fn244 [] (γ 0) = (0, 0, γ 1) from l0.symm)).trans ?_
  refine (zLet_eq (show _ = γ 1 from rfl)).trans ?_
  refine (if_pos (show (0 : Nat) = 0 by decide)).trans ?_
  rfl
theorem vn249_1 {S : Nat → zSpc} (hS132 : ∀ x g o v gz, S 132 x g o v gz → sn132 x g o v gz) (hS228 : ∀ x g o v gz, S 228 x g o v gz → sn228 x g o v gz) (hS229 : ∀ x g o v gz, S 229 x g o v gz → sn229 x g o v gz) (hS230 : ∀ x g o v gz, S 230 x g o v gz → sn230 x g o v gz) (hS231 : ∀ x g o v gz, S 231 x g o v gz → sn231 x g o v gz) (hS244 : ∀ x g o v gz, S 244 x g o v gz → sn244 x g o v gz) (hS247 : ∀ x g o v gz, S 247 x g o v gz → sn247 x g o v gz) (hS248 : ∀ x g o v gz, S 248 x g o v gz → sn248 x g o v gz) {a : List Int} {g : rHp} : ∀ (ρ : Nat → Int) (γ : Nat → rHp), zO 31 S a g q249_1 ρ γ → zGl (fun _ _ _ => True) (sn249 a g) q249_1 ρ γ := by
  intro ρ γ h
  obtain ⟨ha, hg, hr, hf, hm, hc, hl⟩ := h
  have ha : a = [ρ 0, ρ 1, ρ 2, ρ 3, ρ 4, ρ 5, ρ 6, ρ 7, ρ 8, ρ 9, ρ 10, ρ 11, ρ 12, ρ 13, ρ 14, ρ 15, ρ 16, ρ 17, ρ 18, ρ 19, ρ 20, ρ 21, ρ 22, ρ 23, ρ 24, ρ 25, ρ 26, ρ 27, ρ 28, ρ 29, ρ 30] := ha
  subst ha
  subst hg
  obtain ⟨r0, r1, r2, r3, r4, r5, r6, r7, r8, r9, r10, r11, r12, r13, r14, r15, r16, r17, r18, r19, r20, r21, r22, r23, r24, r25, r26, r27, r28, r29, r30, r31, -⟩ := hr
  have r0 : (0 : Int) ≤ ρ 0 ∧ ρ 0 ≤ 50000 := r0
  have r1 : (0 : Int) ≤ ρ 1 ∧ ρ 1 ≤ 1 := r1
  have r2 : (0 : Int) ≤ ρ 2 ∧ ρ 2 ≤ 2 := r2
  have r3 : (0 : Int) ≤ ρ 3 ∧ ρ 3 ≤ 50001 := r3
  have r4 : (0 : Int) ≤ ρ 4 ∧ ρ 4 ≤ 62 := r4
  have r5 : (0 : Int) ≤ ρ 5 ∧ ρ 5 ≤ 60 := r5
  have r6 : (0 : Int) ≤ ρ 6 ∧ ρ 6 ≤ 2000 := r6
  have r7 : (0 : Int) ≤ ρ 7 ∧ ρ 7 ≤ 2000 := r7
  have r8 : ((-2147483648) : Int) ≤ ρ 8 ∧ ρ 8 ≤ 2147483647 := r8
  have r9 : ((-2147483648) : Int) ≤ ρ 9 ∧ ρ 9 ≤ 2147483647 := r9
  have r10 : (0 : Int) ≤ ρ 10 ∧ ρ 10 ≤ 2000 := r10
  have r11 : (0 : Int) ≤ ρ 11 ∧ ρ 11 ≤ 2000 := r11
  have r12 : ((-2147483648) : Int) ≤ ρ 12 ∧ ρ 12 ≤ 2147483647 := r12
  have r13 : (0 : Int) ≤ ρ 13 ∧ ρ 13 ≤ 6 := r13
  have r14 : (0 : Int) ≤ ρ 14 ∧ ρ 14 ≤ 8 := r14
  have r15 : (0 : Int) ≤ ρ 15 ∧ ρ 15 ≤ 4 := r15
  have r16 : ((-1) : Int) ≤ ρ 16 ∧ ρ 16 ≤ 19 := r16
  have r17 : (0 : Int) ≤ ρ 17 ∧ ρ 17 ≤ 4 := r17
  have r18 : ((-1) : Int) ≤ ρ 18 ∧ ρ 18 ≤ 7 := r18
  have r19 : (0 : Int) ≤ ρ 19 ∧ ρ 19 ≤ 8 := r19
  have r20 : (0 : Int) ≤ ρ 20 ∧ ρ 20 ≤ 4 := r20
  have r21 : ((-1) : Int) ≤ ρ 21 ∧ ρ 21 ≤ 19 := r21
  have r22 : ((-1) : Int) ≤ ρ 22 ∧ ρ 22 ≤ 3 := r22
  have r23 : (0 : Int) ≤ ρ 23 ∧ ρ 23 ≤ 7 := r23
  have r24 : ((-1) : Int) ≤ ρ 24 ∧ ρ 24 ≤ 7 := r24
  have r25 : (0 : Int) ≤ ρ 25 ∧ ρ 25 ≤ 8 := r25
  have r26 : (0 : Int) ≤ ρ 26 ∧ ρ 26 ≤ 4 := r26
  have r27 : ((-1) : Int) ≤ ρ 27 ∧ ρ 27 ≤ 19 := r27
  have r28 : ((-1) : Int) ≤ ρ 28 ∧ ρ 28 ≤ 3 := r28
  have r29 : (0 : Int) ≤ ρ 29 ∧ ρ 29 ≤ 7 := r29
  have r30 : ((-1) : Int) ≤ ρ 30 ∧ ρ 30 ≤ 7 := r30
  have r31 : (0 : Int) ≤ ρ 31 ∧ ρ 31 ≤ 2000 := r31
  obtain ⟨f0, f1, -⟩ := hf
  have f0 : (0 : Int) ≤ ρ 31 + -ρ 7 := f0
  have f1 : (0 : Int) ≤ -ρ 3 + ((-50001) * ρ 1 + ρ 0) + 100002 := f1
  obtain ⟨m0, m1, m2, m3, m4, m5, m6, m7, m8, m9, m10, m11, m12, m13, m14, m15, m16, m17, m18, m19, m20, m21, m22, m23, m24, m25, m26, m27, m28, m29, m30, m31, m32, m33, -⟩ := hm
  have m0 : γ 0 6 0 0 = ρ 0 := m0
  have m1 : γ 0 6 0 9 = ρ 1 := m1
  have m2 : γ 0 6 0 6 = ρ 2 := m2
  have m3 : γ 0 8 (ρ 2) 1 = ρ 3 := m3
  have m4 : γ 0 6 0 7 = ρ 4 := m4
  have m5 : γ 0 1 0 10 = ρ 5 := m5
  have m6 : γ 0 4 0 7 = ρ 6 := m6
  have m7 : γ 0 5 0 3 = ρ 7 := m7
  have m8 : γ 0 6 0 8 = ρ 8 := m8
  have m9 : γ 0 6 0 10 = ρ 9 := m9
  have m10 : γ 0 6 0 11 = ρ 10 := m10
  have m11 : γ 0 6 0 12 = ρ 11 := m11
  have m12 : γ 0 6 0 13 = ρ 12 := m12
  have m13 : γ 0 9 (ρ 4) 2 = ρ 13 := m13
  have m14 : γ 0 9 (ρ 4) 3 = ρ 14 := m14
  have m15 : γ 0 10 (9 * ρ 4) 5 = ρ 15 := m15
  have m16 : γ 0 10 (9 * ρ 4) 8 = ρ 16 := m16
  have m17 : γ 0 10 (9 * ρ 4) 12 = ρ 17 := m17
  have m18 : γ 0 10 (9 * ρ 4) 14 = ρ 18 := m18
  have m19 : γ 0 10 (9 * ρ 4 + 7) 4 = ρ 19 := m19
  have m20 : γ 0 10 (9 * ρ 4 + 7) 5 = ρ 20 := m20
  have m21 : γ 0 10 (9 * ρ 4 + 7) 8 = ρ 21 := m21
  have m22 : γ 0 10 (9 * ρ 4 + 7) 9 = ρ 22 := m22
  have m23 : γ 0 10 (9 * ρ 4 + 7) 10 = ρ 23 := m23
  have m24 : γ 0 10 (9 * ρ 4 + 7) 11 = ρ 24 := m24
  have m25 : γ 0 10 (9 * ρ 4 + 8) 4 = ρ 25 := m25
  have m26 : γ 0 10 (9 * ρ 4 + 8) 5 = ρ 26 := m26
  have m27 : γ 0 10 (9 * ρ 4 + 8) 8 = ρ 27 := m27
  have m28 : γ 0 10 (9 * ρ 4 + 8) 9 = ρ 28 := m28
  have m29 : γ 0 10 (9 * ρ 4 + 8) 10 = ρ 29 := m29
  have m30 : γ 0 10 (9 * ρ 4 + 8) 11 = ρ 30 := m30
  have m31 : γ 1 8 (ρ 2) 1 = ρ 3 := m31
  have m32 : γ 1 4 0 7 = ρ 6 := m32
  have m33 : γ 1 5 0 3 = ρ 31 := m33
  obtain ⟨-, c1⟩ := hc
  have c1 : ∀ (G : Nat) (k j : Int), ¬ rMdP m138_ G j → γ 1 G k j = γ 0 G k j := c1
  obtain ⟨l0, -⟩ := hl
  have l0 : sn244 [ρ 0, ρ 1, ρ 2, ρ 3, ρ 4, ρ 6, ρ 7, ρ 8, ρ 9, ρ 14, ρ 15, ρ 16, ρ 17, ρ 18] (γ 0) 1 0 (γ 1) := hS244 _ _ _ _ _ l0
  show sn249 [ρ 0, ρ 1, ρ 2, ρ 3, ρ 4, ρ 5, ρ 6, ρ 7, ρ 8, ρ 9, ρ 10, ρ 11, ρ 12, ρ 13, ρ 14, ρ 15, ρ 16, ρ 17, ρ 18, ρ 19, ρ 20, ρ 21, ρ 22, ρ 23, ρ 24, ρ 25, ρ 26, ρ 27, ρ 28, ρ 29, ρ 30] (γ 0) 1 0 (γ 1)
  refine Eq.symm ?_
  show fn249 [] (γ 0) = _
  unfold fn249
  refine (zLet_eq m4).trans ?_
  refine (zLet_eq m13).trans ?_
  refine (zLet_eq m19).trans ?_
  refine (if_pos (show 6 ≥ ρ 13 by omega)).trans ?_
  refine (zLet_eq (show fn244 [] (γ 0) = (1, 0, γ 1) from l0.symm)).trans ?_
  refine (zLet_eq (show _ = γ 1 from rfl)).trans ?_
  refine (if_neg (show ¬ (1 : Nat) = 0 by decide)).trans ?_
  rfl
theorem vn249_2 {S : Nat → zSpc} (hS132 : ∀ x g o v gz, S 132 x g o v gz → sn132 x g o v gz) (hS228 : ∀ x g o v gz, S 228 x g o v gz → sn228 x g o v gz) (hS229 : ∀ x g o v gz, S 229 x g o v gz → sn229 x g o v gz) (hS230 : ∀ x g o v gz, S 230 x g o v gz → sn230 x g o v gz) (hS231 : ∀ x g o v gz, S 231 x g o v gz → sn231 x g o v gz) (hS244 : ∀ x g o v gz, S 244 x g o v gz → sn244 x g o v gz) (hS247 : ∀ x g o v gz, S 247 x g o v gz → sn247 x g o v gz) (hS248 : ∀ x g o v gz, S 248 x g o v gz → sn248 x g o v gz) {a : List Int} {g : rHp} : ∀ (ρ : Nat → Int) (γ : Nat → rHp), zO 31 S a g q249_2 ρ γ → zGl (fun _ _ _ => True) (sn249 a g) q249_2 ρ γ := by
  intro ρ γ h
  obtain ⟨ha, hg, hr, hf, hm, hc, hl⟩ := h
  have ha : a = [ρ 0, ρ 1, ρ 2, ρ 3, ρ 4, ρ 5, ρ 6, ρ 7, ρ 8, ρ 9, ρ 10, ρ 11, ρ 12, ρ 13, ρ 14, ρ 15, ρ 16, ρ 17, ρ 18, ρ 19, ρ 20, ρ 21, ρ 22, ρ 23, ρ 24, ρ 25, ρ 26, ρ 27, ρ 28, ρ 29, ρ 30] := ha
  subst ha
  subst hg
  obtain ⟨r0, r1, r2, r3, r4, r5, r6, r7, r8, r9, r10, r11, r12, r13, r14, r15, r16, r17, r18, r19, r20, r21, r22, r23, r24, r25, r26, r27, r28, r29, r30, r31, -⟩ := hr
  have r0 : (0 : Int) ≤ ρ 0 ∧ ρ 0 ≤ 50000 := r0
  have r1 : (0 : Int) ≤ ρ 1 ∧ ρ 1 ≤ 2 := r1
  have r2 : (0 : Int) ≤ ρ 2 ∧ ρ 2 ≤ 2 := r2
  have r3 : (0 : Int) ≤ ρ 3 ∧ ρ 3 ≤ 50001 := r3
  have r4 : (0 : Int) ≤ ρ 4 ∧ ρ 4 ≤ 62 := r4
  have r5 : (0 : Int) ≤ ρ 5 ∧ ρ 5 ≤ 60 := r5
  have r6 : (0 : Int) ≤ ρ 6 ∧ ρ 6 ≤ 2000 := r6
  have r7 : (0 : Int) ≤ ρ 7 ∧ ρ 7 ≤ 2000 := r7
  have r8 : ((-2147483648) : Int) ≤ ρ 8 ∧ ρ 8 ≤ 2147483647 := r8
  have r9 : ((-2147483648) : Int) ≤ ρ 9 ∧ ρ 9 ≤ 2147483647 := r9
  have r10 : (0 : Int) ≤ ρ 10 ∧ ρ 10 ≤ 2000 := r10
  have r11 : (0 : Int) ≤ ρ 11 ∧ ρ 11 ≤ 2000 := r11
  have r12 : ((-2147483648) : Int) ≤ ρ 12 ∧ ρ 12 ≤ 2147483647 := r12
  have r13 : (7 : Int) ≤ ρ 13 ∧ ρ 13 ≤ 8 := r13
  have r14 : (0 : Int) ≤ ρ 14 ∧ ρ 14 ≤ 8 := r14
  have r15 : (0 : Int) ≤ ρ 15 ∧ ρ 15 ≤ 4 := r15
  have r16 : ((-1) : Int) ≤ ρ 16 ∧ ρ 16 ≤ 19 := r16
  have r17 : (0 : Int) ≤ ρ 17 ∧ ρ 17 ≤ 4 := r17
  have r18 : ((-1) : Int) ≤ ρ 18 ∧ ρ 18 ≤ 7 := r18
  have r19 : (3 : Int) ≤ ρ 19 ∧ ρ 19 ≤ 3 := r19
  have r20 : (0 : Int) ≤ ρ 20 ∧ ρ 20 ≤ 4 := r20
  have r21 : ((-1) : Int) ≤ ρ 21 ∧ ρ 21 ≤ 19 := r21
  have r22 : ((-1) : Int) ≤ ρ 22 ∧ ρ 22 ≤ 3 := r22
  have r23 : (0 : Int) ≤ ρ 23 ∧ ρ 23 ≤ 7 := r23
  have r24 : ((-1) : Int) ≤ ρ 24 ∧ ρ 24 ≤ 7 := r24
  have r25 : (0 : Int) ≤ ρ 25 ∧ ρ 25 ≤ 8 := r25
  have r26 : (0 : Int) ≤ ρ 26 ∧ ρ 26 ≤ 4 := r26
  have r27 : ((-1) : Int) ≤ ρ 27 ∧ ρ 27 ≤ 19 := r27
  have r28 : ((-1) : Int) ≤ ρ 28 ∧ ρ 28 ≤ 3 := r28
  have r29 : (0 : Int) ≤ ρ 29 ∧ ρ 29 ≤ 7 := r29
  have r30 : ((-1) : Int) ≤ ρ 30 ∧ ρ 30 ≤ 7 := r30
  have r31 : (0 : Int) ≤ ρ 31 ∧ ρ 31 ≤ 60 := r31
  obtain ⟨f0, -⟩ := hf
  have f0 : (0 : Int) ≤ -ρ 3 + ((-50001) * ρ 1 + ρ 0) + 100002 := f0
  obtain ⟨m0, m1, m2, m3, m4, m5, m6, m7, m8, m9, m10, m11, m12, m13, m14, m15, m16, m17, m18, m19, m20, m21, m22, m23, m24, m25, m26, m27, m28, m29, m30, m31, -⟩ := hm
  have m0 : γ 0 6 0 0 = ρ 0 := m0
  have m1 : γ 0 6 0 9 = ρ 1 := m1
  have m2 : γ 0 6 0 6 = ρ 2 := m2
  have m3 : γ 0 8 (ρ 2) 1 = ρ 3 := m3
  have m4 : γ 0 6 0 7 = ρ 4 := m4
  have m5 : γ 0 1 0 10 = ρ 5 := m5
  have m6 : γ 0 4 0 7 = ρ 6 := m6
  have m7 : γ 0 5 0 3 = ρ 7 := m7
  have m8 : γ 0 6 0 8 = ρ 8 := m8
  have m9 : γ 0 6 0 10 = ρ 9 := m9
  have m10 : γ 0 6 0 11 = ρ 10 := m10
  have m11 : γ 0 6 0 12 = ρ 11 := m11
  have m12 : γ 0 6 0 13 = ρ 12 := m12
  have m13 : γ 0 9 (ρ 4) 2 = ρ 13 := m13
  have m14 : γ 0 9 (ρ 4) 3 = ρ 14 := m14
  have m15 : γ 0 10 (9 * ρ 4) 5 = ρ 15 := m15
  have m16 : γ 0 10 (9 * ρ 4) 8 = ρ 16 := m16
  have m17 : γ 0 10 (9 * ρ 4) 12 = ρ 17 := m17
  have m18 : γ 0 10 (9 * ρ 4) 14 = ρ 18 := m18
  have m19 : γ 0 10 (9 * ρ 4 + 7) 4 = ρ 19 := m19
  have m20 : γ 0 10 (9 * ρ 4 + 7) 5 = ρ 20 := m20
  have m21 : γ 0 10 (9 * ρ 4 + 7) 8 = ρ 21 := m21
  have m22 : γ 0 10 (9 * ρ 4 + 7) 9 = ρ 22 := m22
  have m23 : γ 0 10 (9 * ρ 4 + 7) 10 = ρ 23 := m23
  have m24 : γ 0 10 (9 * ρ 4 + 7) 11 = ρ 24 := m24
  have m25 : γ 0 10 (9 * ρ 4 + 8) 4 = ρ 25 := m25
  have m26 : γ 0 10 (9 * ρ 4 + 8) 5 = ρ 26 := m26
  have m27 : γ 0 10 (9 * ρ 4 + 8) 8 = ρ 27 := m27
  have m28 : γ 0 10 (9 * ρ 4 + 8) 9 = ρ 28 := m28
  have m29 : γ 0 10 (9 * ρ 4 + 8) 10 = ρ 29 := m29
  have m30 : γ 0 10 (9 * ρ 4 + 8) 11 = ρ 30 := m30
  have m31 : γ 0 40 0 (ρ 5) = ρ 31 := m31
  obtain ⟨⟨-, c1⟩, c2⟩ := hc
  have c1 : ∀ (G : Nat) (k j : Int), ¬ rMdP m0_ G j → γ 1 G k j = γ 0 G k j := c1
  have c2 : ∀ (G : Nat) (k j : Int), ¬ rMdP m0_ G j → γ 2 G k j = γ 1 G k j := c2
  obtain ⟨l0, l1, -⟩ := hl
  have l0 : sn132 [ρ 4, 6] (γ 0) 0 (9 * ρ 4 + 7) (γ 1) := hS132 _ _ _ _ _ l0
  have l1 : sn230 [9 * ρ 4 + 7, ρ 19] (γ 1) 0 0 (γ 2) := hS230 _ _ _ _ _ l1
  show sn249 [ρ 0, ρ 1, ρ 2, ρ 3, ρ 4, ρ 5, ρ 6, ρ 7, ρ 8, ρ 9, ρ 10, ρ 11, ρ 12, ρ 13, ρ 14, ρ 15, ρ 16, ρ 17, ρ 18, ρ 19, ρ 20, ρ 21, ρ 22, ρ 23, ρ 24, ρ 25, ρ 26, ρ 27, ρ 28, ρ 29, ρ 30] (γ 0) 0 0 (γ 2)
  refine Eq.symm ?_
  show fn249 [] (γ 0) = _
  unfold fn249
  refine (zLet_eq m4).trans ?_
  refine (zLet_eq m13).trans ?_
  refine (zLet_eq m19).trans ?_
  refine (if_neg (show ¬ (6 ≥ ρ 13) by omega)).trans ?_
  refine (zLet_eq (show fn132 [ρ 4, 6] (γ 0) = (0, 9 * ρ 4 + 7, γ 1) from l0.symm)).trans ?_
  refine (zLet_eq (show _ = γ 1 from rfl)).trans ?_
  refine (if_pos (show ρ 19 ≠ 1 by omega)).trans ?_
  refine (if_pos (show 0 ≤ -ρ 19 + 3 by omega)).trans ?_
  refine (if_pos (show ρ 19 ≠ 2 by omega)).trans ?_
  refine (zLet_eq (show fn230 [9 * ρ 4 + 7] (γ 1) = (0, 0, γ 2) from l1.symm)).trans ?_
  refine (zLet_eq (show _ = γ 2 from rfl)).trans ?_
  refine (if_neg (show ¬ ((1 : Int) ≤ 0) by omega)).trans ?_
  rfl
theorem vn249_3 {S : Nat → zSpc} (hS132 : ∀ x g o v gz, S 132 x g o v gz → sn132 x g o v gz) (hS228 : ∀ x g o v gz, S 228 x g o v gz → sn228 x g o v gz) (hS229 : ∀ x g o v gz, S 229 x g o v gz → sn229 x g o v gz) (hS230 : ∀ x g o v gz, S 230 x g o v gz → sn230 x g o v gz) (hS231 : ∀ x g o v gz, S 231 x g o v gz → sn231 x g o v gz) (hS244 : ∀ x g o v gz, S 244 x g o v gz → sn244 x g o v gz) (hS247 : ∀ x g o v gz, S 247 x g o v gz → sn247 x g o v gz) (hS248 : ∀ x g o v gz, S 248 x g o v gz → sn248 x g o v gz) {a : List Int} {g : rHp} : ∀ (ρ : Nat → Int) (γ : Nat → rHp), zO 31 S a g q249_3 ρ γ → zGl (fun _ _ _ => True) (sn249 a g) q249_3 ρ γ := by
  intro ρ γ h
  obtain ⟨ha, hg, hr, hf, hm, hc, hl⟩ := h
  have ha : a = [ρ 0, ρ 1, ρ 2, ρ 3, ρ 4, ρ 5, ρ 6, ρ 7, ρ 8, ρ 9, ρ 10, ρ 11, ρ 12, ρ 13, ρ 14, ρ 15, ρ 16, ρ 17, ρ 18, ρ 19, ρ 20, ρ 21, ρ 22, ρ 23, ρ 24, ρ 25, ρ 26, ρ 27, ρ 28, ρ 29, ρ 30] := ha
  subst ha
  subst hg
  obtain ⟨r0, r1, r2, r3, r4, r5, r6, r7, r8, r9, r10, r11, r12, r13, r14, r15, r16, r17, r18, r19, r20, r21, r22, r23, r24, r25, r26, r27, r28, r29, r30, r31, r32, r33, r34, r35, r36, -⟩ := hr
  have r0 : (0 : Int) ≤ ρ 0 ∧ ρ 0 ≤ 50000 := r0
  have r1 : (0 : Int) ≤ ρ 1 ∧ ρ 1 ≤ 2 := r1
  have r2 : (0 : Int) ≤ ρ 2 ∧ ρ 2 ≤ 2 := r2
  have r3 : (0 : Int) ≤ ρ 3 ∧ ρ 3 ≤ 50001 := r3
  have r4 : (0 : Int) ≤ ρ 4 ∧ ρ 4 ≤ 62 := r4
  have r5 : (0 : Int) ≤ ρ 5 ∧ ρ 5 ≤ 60 := r5
  have r6 : (0 : Int) ≤ ρ 6 ∧ ρ 6 ≤ 2000 := r6
  have r7 : (0 : Int) ≤ ρ 7 ∧ ρ 7 ≤ 2000 := r7
  have r8 : ((-2147483648) : Int) ≤ ρ 8 ∧ ρ 8 ≤ 2147483647 := r8
  have r9 : ((-2147483648) : Int) ≤ ρ 9 ∧ ρ 9 ≤ 2147483647 := r9
  have r10 : (0 : Int) ≤ ρ 10 ∧ ρ 10 ≤ 2000 := r10
  have r11 : (0 : Int) ≤ ρ 11 ∧ ρ 11 ≤ 2000 := r11
  have r12 : ((-2147483648) : Int) ≤ ρ 12 ∧ ρ 12 ≤ 2147483647 := r12
  have r13 : (7 : Int) ≤ ρ 13 ∧ ρ 13 ≤ 8 := r13
  have r14 : (0 : Int) ≤ ρ 14 ∧ ρ 14 ≤ 8 := r14
  have r15 : (0 : Int) ≤ ρ 15 ∧ ρ 15 ≤ 4 := r15
  have r16 : ((-1) : Int) ≤ ρ 16 ∧ ρ 16 ≤ 19 := r16
  have r17 : (0 : Int) ≤ ρ 17 ∧ ρ 17 ≤ 4 := r17
  have r18 : ((-1) : Int) ≤ ρ 18 ∧ ρ 18 ≤ 7 := r18
  have r19 : (3 : Int) ≤ ρ 19 ∧ ρ 19 ≤ 3 := r19
  have r20 : (0 : Int) ≤ ρ 20 ∧ ρ 20 ≤ 4 := r20
  have r21 : ((-1) : Int) ≤ ρ 21 ∧ ρ 21 ≤ 19 := r21
  have r22 : ((-1) : Int) ≤ ρ 22 ∧ ρ 22 ≤ 3 := r22
  have r23 : (0 : Int) ≤ ρ 23 ∧ ρ 23 ≤ 7 := r23
  have r24 : ((-1) : Int) ≤ ρ 24 ∧ ρ 24 ≤ 7 := r24
  have r25 : (0 : Int) ≤ ρ 25 ∧ ρ 25 ≤ 8 := r25
  have r26 : (0 : Int) ≤ ρ 26 ∧ ρ 26 ≤ 4 := r26
  have r27 : ((-1) : Int) ≤ ρ 27 ∧ ρ 27 ≤ 19 := r27
  have r28 : ((-1) : Int) ≤ ρ 28 ∧ ρ 28 ≤ 3 := r28
  have r29 : (0 : Int) ≤ ρ 29 ∧ ρ 29 ≤ 7 := r29
  have r30 : ((-1) : Int) ≤ ρ 30 ∧ ρ 30 ≤ 7 := r30
  have r31 : (0 : Int) ≤ ρ 31 ∧ ρ 31 ≤ 60 := r31
  have r32 : (0 : Int) ≤ ρ 32 ∧ ρ 32 ≤ 50000 := r32
  have r33 : (0 : Int) ≤ ρ 33 ∧ ρ 33 ≤ 50001 := r33
  have r34 : (0 : Int) ≤ ρ 34 ∧ ρ 34 ≤ 2000 := r34
  have r35 : (0 : Int) ≤ ρ 35 ∧ ρ 35 ≤ 2000 := r35
  have r36 : ((-2147483648) : Int) ≤ ρ 36 ∧ ρ 36 ≤ 2147483647 := r36
  obtain ⟨f0, f1, f2, f3, f4, f5, -⟩ := hf
  have f0 : (0 : Int) ≤ -ρ 3 + ((-50001) * ρ 1 + ρ 0) + 100002 := f0
  have f1 : (0 : Int) ≤ ρ 32 + -ρ 0 := f1
  have f2 : (0 : Int) ≤ ρ 33 + -ρ 3 := f2
  have f3 : (0 : Int) ≤ ρ 34 + -ρ 6 := f3
  have f4 : (0 : Int) ≤ ρ 35 + -ρ 7 := f4
  have f5 : (0 : Int) ≤ -ρ 33 + (ρ 32 + (ρ 3 + -ρ 0)) + 1 := f5
  obtain ⟨m0, m1, m2, m3, m4, m5, m6, m7, m8, m9, m10, m11, m12, m13, m14, m15, m16, m17, m18, m19, m20, m21, m22, m23, m24, m25, m26, m27, m28, m29, m30, m31, m32, m33, m34, m35, m36, -⟩ := hm
  have m0 : γ 0 6 0 0 = ρ 0 := m0
  have m1 : γ 0 6 0 9 = ρ 1 := m1
  have m2 : γ 0 6 0 6 = ρ 2 := m2
  have m3 : γ 0 8 (ρ 2) 1 = ρ 3 := m3
  have m4 : γ 0 6 0 7 = ρ 4 := m4
  have m5 : γ 0 1 0 10 = ρ 5 := m5
  have m6 : γ 0 4 0 7 = ρ 6 := m6
  have m7 : γ 0 5 0 3 = ρ 7 := m7
  have m8 : γ 0 6 0 8 = ρ 8 := m8
  have m9 : γ 0 6 0 10 = ρ 9 := m9
  have m10 : γ 0 6 0 11 = ρ 10 := m10
  have m11 : γ 0 6 0 12 = ρ 11 := m11
  have m12 : γ 0 6 0 13 = ρ 12 := m12
  have m13 : γ 0 9 (ρ 4) 2 = ρ 13 := m13
  have m14 : γ 0 9 (ρ 4) 3 = ρ 14 := m14
  have m15 : γ 0 10 (9 * ρ 4) 5 = ρ 15 := m15
  have m16 : γ 0 10 (9 * ρ 4) 8 = ρ 16 := m16
  have m17 : γ 0 10 (9 * ρ 4) 12 = ρ 17 := m17
  have m18 : γ 0 10 (9 * ρ 4) 14 = ρ 18 := m18
  have m19 : γ 0 10 (9 * ρ 4 + 7) 4 = ρ 19 := m19
  have m20 : γ 0 10 (9 * ρ 4 + 7) 5 = ρ 20 := m20
  have m21 : γ 0 10 (9 * ρ 4 + 7) 8 = ρ 21 := m21
  have m22 : γ 0 10 (9 * ρ 4 + 7) 9 = ρ 22 := m22
  have m23 : γ 0 10 (9 * ρ 4 + 7) 10 = ρ 23 := m23
  have m24 : γ 0 10 (9 * ρ 4 + 7) 11 = ρ 24 := m24
  have m25 : γ 0 10 (9 * ρ 4 + 8) 4 = ρ 25 := m25
  have m26 : γ 0 10 (9 * ρ 4 + 8) 5 = ρ 26 := m26
  have m27 : γ 0 10 (9 * ρ 4 + 8) 8 = ρ 27 := m27
  have m28 : γ 0 10 (9 * ρ 4 + 8) 9 = ρ 28 := m28
  have m29 : γ 0 10 (9 * ρ 4 + 8) 10 = ρ 29 := m29
  have m30 : γ 0 10 (9 * ρ 4 + 8) 11 = ρ 30 := m30
  have m31 : γ 0 40 0 (ρ 5) = ρ 31 := m31
  have m32 : γ 3 6 0 0 = ρ 32 := m32
  have m33 : γ 3 8 (ρ 2) 1 = ρ 33 := m33
  have m34 : γ 3 4 0 7 = ρ 34 := m34
  have m35 : γ 3 5 0 3 = ρ 35 := m35
  have m36 : γ 3 6 0 13 = ρ 36 := m36
  obtain ⟨⟨⟨-, c1⟩, c2⟩, c3⟩ := hc
  have c1 : ∀ (G : Nat) (k j : Int), ¬ rMdP m0_ G j → γ 1 G k j = γ 0 G k j := c1
  have c2 : ∀ (G : Nat) (k j : Int), ¬ rMdP m0_ G j → γ 2 G k j = γ 1 G k j := c2
  have c3 : ∀ (G : Nat) (k j : Int), ¬ rMdP m140_ G j → γ 3 G k j = γ 2 G k j := c3
  obtain ⟨l0, l1, l2, -⟩ := hl
  have l0 : sn132 [ρ 4, 6] (γ 0) 0 (9 * ρ 4 + 7) (γ 1) := hS132 _ _ _ _ _ l0
  have l1 : sn230 [9 * ρ 4 + 7, ρ 19] (γ 1) 0 1 (γ 2) := hS230 _ _ _ _ _ l1
  have l2 : sn247 [ρ 0, ρ 1, ρ 2, ρ 3, ρ 4, ρ 5, ρ 6, ρ 7, ρ 8, ρ 9, ρ 10, ρ 11, ρ 12, ρ 13, ρ 14, ρ 15, ρ 16, ρ 17, ρ 18, ρ 25, ρ 26, ρ 27, ρ 28, ρ 29, ρ 30] (γ 2) 0 0 (γ 3) := hS247 _ _ _ _ _ l2
  show sn249 [ρ 0, ρ 1, ρ 2, ρ 3, ρ 4, ρ 5, ρ 6, ρ 7, ρ 8, ρ 9, ρ 10, ρ 11, ρ 12, ρ 13, ρ 14, ρ 15, ρ 16, ρ 17, ρ 18, ρ 19, ρ 20, ρ 21, ρ 22, ρ 23, ρ 24, ρ 25, ρ 26, ρ 27, ρ 28, ρ 29, ρ 30] (γ 0) 0 0 (γ 3)
  refine Eq.symm ?_
  show fn249 [] (γ 0) = _
  unfold fn249
  refine (zLet_eq m4).trans ?_
  refine (zLet_eq m13).trans ?_
  refine (zLet_eq m19).trans ?_
  refine (if_neg (show ¬ (6 ≥ ρ 13) by omega)).trans ?_
  refine (zLet_eq (show fn132 [ρ 4, 6] (γ 0) = (0, 9 * ρ 4 + 7, γ 1) from l0.symm)).trans ?_
  refine (zLet_eq (show _ = γ 1 from rfl)).trans ?_
  refine (if_pos (show ρ 19 ≠ 1 by omega)).trans ?_
  refine (if_pos (show 0 ≤ -ρ 19 + 3 by omega)).trans ?_
  refine (if_pos (show ρ 19 ≠ 2 by omega)).trans ?_
  refine (zLet_eq (show fn230 [9 * ρ 4 + 7] (γ 1) = (0, 1, γ 2) from l1.symm)).trans ?_
  refine (zLet_eq (show _ = γ 2 from rfl)).trans ?_
  refine (if_pos (show (1 : Int) ≤ 1 by omega)).trans ?_
  refine (zLet_eq (show fn247 [] (γ 2) = (0, 0, γ 3) from l2.symm)).trans ?_
  refine (zLet_eq (show _ = γ 3 from rfl)).trans ?_
  refine (if_pos (show (0 : Nat) = 0 by decide)).trans ?_
  rfl
theorem vn249_4 {S : Nat → zSpc} (hS132 : ∀ x g o v gz, S 132 x g o v gz → sn132 x g o v gz) (hS228 : ∀ x g o v gz, S 228 x g o v gz → sn228 x g o v gz) (hS229 : ∀ x g o v gz, S 229 x g o v gz → sn229 x g o v gz) (hS230 : ∀ x g o v gz, S 230 x g o v gz → sn230 x g o v gz) (hS231 : ∀ x g o v gz, S 231 x g o v gz → sn231 x g o v gz) (hS244 : ∀ x g o v gz, S 244 x g o v gz → sn244 x g o v gz) (hS247 : ∀ x g o v gz, S 247 x g o v gz → sn247 x g o v gz) (hS248 : ∀ x g o v gz, S 248 x g o v gz → sn248 x g o v gz) {a : List Int} {g : rHp} : ∀ (ρ : Nat → Int) (γ : Nat → rHp), zO 31 S a g q249_4 ρ γ → zGl (fun _ _ _ => True) (sn249 a g) q249_4 ρ γ := by
  intro ρ γ h
  obtain ⟨ha, hg, hr, hf, hm, hc, hl⟩ := h
  have ha : a = [ρ 0, ρ 1, ρ 2, ρ 3, ρ 4, ρ 5, ρ 6, ρ 7, ρ 8, ρ 9, ρ 10, ρ 11, ρ 12, ρ 13, ρ 14, ρ 15, ρ 16, ρ 17, ρ 18, ρ 19, ρ 20, ρ 21, ρ 22, ρ 23, ρ 24, ρ 25, ρ 26, ρ 27, ρ 28, ρ 29, ρ 30] := ha
  subst ha
  subst hg
  obtain ⟨r0, r1, r2, r3, r4, r5, r6, r7, r8, r9, r10, r11, r12, r13, r14, r15, r16, r17, r18, r19, r20, r21, r22, r23, r24, r25, r26, r27, r28, r29, r30, r31, r32, r33, r34, r35, r36, -⟩ := hr
  have r0 : (0 : Int) ≤ ρ 0 ∧ ρ 0 ≤ 50000 := r0
  have r1 : (0 : Int) ≤ ρ 1 ∧ ρ 1 ≤ 1 := r1
  have r2 : (0 : Int) ≤ ρ 2 ∧ ρ 2 ≤ 2 := r2
  have r3 : (0 : Int) ≤ ρ 3 ∧ ρ 3 ≤ 50001 := r3
  have r4 : (0 : Int) ≤ ρ 4 ∧ ρ 4 ≤ 62 := r4
  have r5 : (0 : Int) ≤ ρ 5 ∧ ρ 5 ≤ 60 := r5
  have r6 : (0 : Int) ≤ ρ 6 ∧ ρ 6 ≤ 2000 := r6
  have r7 : (0 : Int) ≤ ρ 7 ∧ ρ 7 ≤ 2000 := r7
  have r8 : ((-2147483648) : Int) ≤ ρ 8 ∧ ρ 8 ≤ 2147483647 := r8
  have r9 : ((-2147483648) : Int) ≤ ρ 9 ∧ ρ 9 ≤ 2147483647 := r9
  have r10 : (0 : Int) ≤ ρ 10 ∧ ρ 10 ≤ 2000 := r10
  have r11 : (0 : Int) ≤ ρ 11 ∧ ρ 11 ≤ 2000 := r11
  have r12 : ((-2147483648) : Int) ≤ ρ 12 ∧ ρ 12 ≤ 2147483647 := r12
  have r13 : (7 : Int) ≤ ρ 13 ∧ ρ 13 ≤ 8 := r13
  have r14 : (0 : Int) ≤ ρ 14 ∧ ρ 14 ≤ 8 := r14
  have r15 : (0 : Int) ≤ ρ 15 ∧ ρ 15 ≤ 4 := r15
  have r16 : ((-1) : Int) ≤ ρ 16 ∧ ρ 16 ≤ 19 := r16
  have r17 : (0 : Int) ≤ ρ 17 ∧ ρ 17 ≤ 4 := r17
  have r18 : ((-1) : Int) ≤ ρ 18 ∧ ρ 18 ≤ 7 := r18
  have r19 : (3 : Int) ≤ ρ 19 ∧ ρ 19 ≤ 3 := r19
  have r20 : (0 : Int) ≤ ρ 20 ∧ ρ 20 ≤ 4 := r20
  have r21 : ((-1) : Int) ≤ ρ 21 ∧ ρ 21 ≤ 19 := r21
  have r22 : ((-1) : Int) ≤ ρ 22 ∧ ρ 22 ≤ 3 := r22
  have r23 : (0 : Int) ≤ ρ 23 ∧ ρ 23 ≤ 7 := r23
  have r24 : ((-1) : Int) ≤ ρ 24 ∧ ρ 24 ≤ 7 := r24
  have r25 : (0 : Int) ≤ ρ 25 ∧ ρ 25 ≤ 8 := r25
  have r26 : (0 : Int) ≤ ρ 26 ∧ ρ 26 ≤ 4 := r26
  have r27 : ((-1) : Int) ≤ ρ 27 ∧ ρ 27 ≤ 19 := r27
  have r28 : ((-1) : Int) ≤ ρ 28 ∧ ρ 28 ≤ 3 := r28
  have r29 : (0 : Int) ≤ ρ 29 ∧ ρ 29 ≤ 7 := r29
  have r30 : ((-1) : Int) ≤ ρ 30 ∧ ρ 30 ≤ 7 := r30
  have r31 : (0 : Int) ≤ ρ 31 ∧ ρ 31 ≤ 60 := r31
  have r32 : (0 : Int) ≤ ρ 32 ∧ ρ 32 ≤ 50000 := r32
  have r33 : (0 : Int) ≤ ρ 33 ∧ ρ 33 ≤ 50001 := r33
  have r34 : (0 : Int) ≤ ρ 34 ∧ ρ 34 ≤ 2000 := r34
  have r35 : (0 : Int) ≤ ρ 35 ∧ ρ 35 ≤ 2000 := r35
  have r36 : ((-2147483648) : Int) ≤ ρ 36 ∧ ρ 36 ≤ 2147483647 := r36
  obtain ⟨f0, f1, f2, f3, f4, f5, -⟩ := hf
  have f0 : (0 : Int) ≤ ρ 32 + -ρ 0 := f0
  have f1 : (0 : Int) ≤ ρ 33 + -ρ 3 := f1
  have f2 : (0 : Int) ≤ ρ 34 + -ρ 6 := f2
  have f3 : (0 : Int) ≤ ρ 35 + -ρ 7 := f3
  have f4 : (0 : Int) ≤ -ρ 33 + (ρ 32 + (ρ 3 + -ρ 0)) + 1 := f4
  have f5 : (0 : Int) ≤ -ρ 3 + ((-50001) * ρ 1 + ρ 0) + 100002 := f5
  obtain ⟨m0, m1, m2, m3, m4, m5, m6, m7, m8, m9, m10, m11, m12, m13, m14, m15, m16, m17, m18, m19, m20, m21, m22, m23, m24, m25, m26, m27, m28, m29, m30, m31, m32, m33, m34, m35, m36, -⟩ := hm
  have m0 : γ 0 6 0 0 = ρ 0 := m0
  have m1 : γ 0 6 0 9 = ρ 1 := m1
  have m2 : γ 0 6 0 6 = ρ 2 := m2
  have m3 : γ 0 8 (ρ 2) 1 = ρ 3 := m3
  have m4 : γ 0 6 0 7 = ρ 4 := m4
  have m5 : γ 0 1 0 10 = ρ 5 := m5
  have m6 : γ 0 4 0 7 = ρ 6 := m6
  have m7 : γ 0 5 0 3 = ρ 7 := m7
  have m8 : γ 0 6 0 8 = ρ 8 := m8
  have m9 : γ 0 6 0 10 = ρ 9 := m9
  have m10 : γ 0 6 0 11 = ρ 10 := m10
  have m11 : γ 0 6 0 12 = ρ 11 := m11
  have m12 : γ 0 6 0 13 = ρ 12 := m12
  have m13 : γ 0 9 (ρ 4) 2 = ρ 13 := m13
  have m14 : γ 0 9 (ρ 4) 3 = ρ 14 := m14
  have m15 : γ 0 10 (9 * ρ 4) 5 = ρ 15 := m15
  have m16 : γ 0 10 (9 * ρ 4) 8 = ρ 16 := m16
  have m17 : γ 0 10 (9 * ρ 4) 12 = ρ 17 := m17
  have m18 : γ 0 10 (9 * ρ 4) 14 = ρ 18 := m18
  have m19 : γ 0 10 (9 * ρ 4 + 7) 4 = ρ 19 := m19
  have m20 : γ 0 10 (9 * ρ 4 + 7) 5 = ρ 20 := m20
  have m21 : γ 0 10 (9 * ρ 4 + 7) 8 = ρ 21 := m21
  have m22 : γ 0 10 (9 * ρ 4 + 7) 9 = ρ 22 := m22
  have m23 : γ 0 10 (9 * ρ 4 + 7) 10 = ρ 23 := m23
  have m24 : γ 0 10 (9 * ρ 4 + 7) 11 = ρ 24 := m24
  have m25 : γ 0 10 (9 * ρ 4 + 8) 4 = ρ 25 := m25
  have m26 : γ 0 10 (9 * ρ 4 + 8) 5 = ρ 26 := m26
  have m27 : γ 0 10 (9 * ρ 4 + 8) 8 = ρ 27 := m27
  have m28 : γ 0 10 (9 * ρ 4 + 8) 9 = ρ 28 := m28
  have m29 : γ 0 10 (9 * ρ 4 + 8) 10 = ρ 29 := m29
  have m30 : γ 0 10 (9 * ρ 4 + 8) 11 = ρ 30 := m30
  have m31 : γ 0 40 0 (ρ 5) = ρ 31 := m31
  have m32 : γ 3 6 0 0 = ρ 32 := m32
  have m33 : γ 3 8 (ρ 2) 1 = ρ 33 := m33
  have m34 : γ 3 4 0 7 = ρ 34 := m34
  have m35 : γ 3 5 0 3 = ρ 35 := m35
  have m36 : γ 3 6 0 13 = ρ 36 := m36
  obtain ⟨⟨⟨-, c1⟩, c2⟩, c3⟩ := hc
  have c1 : ∀ (G : Nat) (k j : Int), ¬ rMdP m0_ G j → γ 1 G k j = γ 0 G k j := c1
  have c2 : ∀ (G : Nat) (k j : Int), ¬ rMdP m0_ G j → γ 2 G k j = γ 1 G k j := c2
  have c3 : ∀ (G : Nat) (k j : Int), ¬ rMdP m140_ G j → γ 3 G k j = γ 2 G k j := c3
  obtain ⟨l0, l1, l2, -⟩ := hl
  have l0 : sn132 [ρ 4, 6] (γ 0) 0 (9 * ρ 4 + 7) (γ 1) := hS132 _ _ _ _ _ l0
  have l1 : sn230 [9 * ρ 4 + 7, ρ 19] (γ 1) 0 1 (γ 2) := hS230 _ _ _ _ _ l1
  have l2 : sn247 [ρ 0, ρ 1, ρ 2, ρ 3, ρ 4, ρ 5, ρ 6, ρ 7, ρ 8, ρ 9, ρ 10, ρ 11, ρ 12, ρ 13, ρ 14, ρ 15, ρ 16, ρ 17, ρ 18, ρ 25, ρ 26, ρ 27, ρ 28, ρ 29, ρ 30] (γ 2) 1 0 (γ 3) := hS247 _ _ _ _ _ l2
  show sn249 [ρ 0, ρ 1, ρ 2, ρ 3, ρ 4, ρ 5, ρ 6, ρ 7, ρ 8, ρ 9, ρ 10, ρ 11, ρ 12, ρ 13, ρ 14, ρ 15, ρ 16, ρ 17, ρ 18, ρ 19, ρ 20, ρ 21, ρ 22, ρ 23, ρ 24, ρ 25, ρ 26, ρ 27, ρ 28, ρ 29, ρ 30] (γ 0) 1 0 (γ 3)
  refine Eq.symm ?_
  show fn249 [] (γ 0) = _
  unfold fn249
  refine (zLet_eq m4).trans ?_
  refine (zLet_eq m13).trans ?_
  refine (zLet_eq m19).trans ?_
  refine (if_neg (show ¬ (6 ≥ ρ 13) by omega)).trans ?_
  refine (zLet_eq (show fn132 [ρ 4, 6] (γ 0) = (0, 9 * ρ 4 + 7, γ 1) from l0.symm)).trans ?_
  refine (zLet_eq (show _ = γ 1 from rfl)).trans ?_
  refine (if_pos (show ρ 19 ≠ 1 by omega)).trans ?_
  refine (if_pos (show 0 ≤ -ρ 19 + 3 by omega)).trans ?_
  refine (if_pos (show ρ 19 ≠ 2 by omega)).trans ?_
  refine (zLet_eq (show fn230 [9 * ρ 4 + 7] (γ 1) = (0, 1, γ 2) from l1.symm)).trans ?_
  refine (zLet_eq (show _ = γ 2 from rfl)).trans ?_
  refine (if_pos (show (1 : Int) ≤ 1 by omega)).trans ?_
  refine (zLet_eq (show fn247 [] (γ 2) = (1, 0, γ 3) from l2.symm)).trans ?_
  refine (zLet_eq (show _ = γ 3 from rfl)).trans ?_
  refine (if_neg (show ¬ (1 : Nat) = 0 by decide)).trans ?_
  refine (if_pos (show (1 : Nat) = 1 by decide)).trans ?_
  rfl
theorem vn249_5 {S : Nat → zSpc} (hS132 : ∀ x g o v gz, S 132 x g o v gz → sn132 x g o v gz) (hS228 : ∀ x g o v gz, S 228 x g o v gz → sn228 x g o v gz) (hS229 : ∀ x g o v gz, S 229 x g o v gz → sn229 x g o v gz) (hS230 : ∀ x g o v gz, S 230 x g o v gz → sn230 x g o v gz) (hS231 : ∀ x g o v gz, S 231 x g o v gz → sn231 x g o v gz) (hS244 : ∀ x g o v gz, S 244 x g o v gz → sn244 x g o v gz) (hS247 : ∀ x g o v gz, S 247 x g o v gz → sn247 x g o v gz) (hS248 : ∀ x g o v gz, S 248 x g o v gz → sn248 x g o v gz) {a : List Int} {g : rHp} : ∀ (ρ : Nat → Int) (γ : Nat → rHp), zO 31 S a g q249_5 ρ γ → zGl (fun _ _ _ => True) (sn249 a g) q249_5 ρ γ := by
  intro ρ γ h
  obtain ⟨ha, hg, hr, hf, hm, hc, hl⟩ := h
  have ha : a = [ρ 0, ρ 1, ρ 2, ρ 3, ρ 4, ρ 5, ρ 6, ρ 7, ρ 8, ρ 9, ρ 10, ρ 11, ρ 12, ρ 13, ρ 14, ρ 15, ρ 16, ρ 17, ρ 18, ρ 19, ρ 20, ρ 21, ρ 22, ρ 23, ρ 24, ρ 25, ρ 26, ρ 27, ρ 28, ρ 29, ρ 30] := ha
  subst ha
  subst hg
  obtain ⟨r0, r1, r2, r3, r4, r5, r6, r7, r8, r9, r10, r11, r12, r13, r14, r15, r16, r17, r18, r19, r20, r21, r22, r23, r24, r25, r26, r27, r28, r29, r30, r31, r32, r33, r34, r35, r36, -⟩ := hr
  have r0 : (0 : Int) ≤ ρ 0 ∧ ρ 0 ≤ 50000 := r0
  have r1 : (0 : Int) ≤ ρ 1 ∧ ρ 1 ≤ 2 := r1
  have r2 : (0 : Int) ≤ ρ 2 ∧ ρ 2 ≤ 2 := r2
  have r3 : (0 : Int) ≤ ρ 3 ∧ ρ 3 ≤ 50001 := r3
  have r4 : (0 : Int) ≤ ρ 4 ∧ ρ 4 ≤ 62 := r4
  have r5 : (0 : Int) ≤ ρ 5 ∧ ρ 5 ≤ 60 := r5
  have r6 : (0 : Int) ≤ ρ 6 ∧ ρ 6 ≤ 2000 := r6
  have r7 : (0 : Int) ≤ ρ 7 ∧ ρ 7 ≤ 2000 := r7
  have r8 : ((-2147483648) : Int) ≤ ρ 8 ∧ ρ 8 ≤ 2147483647 := r8
  have r9 : ((-2147483648) : Int) ≤ ρ 9 ∧ ρ 9 ≤ 2147483647 := r9
  have r10 : (0 : Int) ≤ ρ 10 ∧ ρ 10 ≤ 2000 := r10
  have r11 : (0 : Int) ≤ ρ 11 ∧ ρ 11 ≤ 2000 := r11
  have r12 : ((-2147483648) : Int) ≤ ρ 12 ∧ ρ 12 ≤ 2147483647 := r12
  have r13 : (8 : Int) ≤ ρ 13 ∧ ρ 13 ≤ 8 := r13
  have r14 : (0 : Int) ≤ ρ 14 ∧ ρ 14 ≤ 8 := r14
  have r15 : (0 : Int) ≤ ρ 15 ∧ ρ 15 ≤ 4 := r15
  have r16 : ((-1) : Int) ≤ ρ 16 ∧ ρ 16 ≤ 19 := r16
  have r17 : (0 : Int) ≤ ρ 17 ∧ ρ 17 ≤ 4 := r17
  have r18 : ((-1) : Int) ≤ ρ 18 ∧ ρ 18 ≤ 7 := r18
  have r19 : (3 : Int) ≤ ρ 19 ∧ ρ 19 ≤ 3 := r19
  have r20 : (0 : Int) ≤ ρ 20 ∧ ρ 20 ≤ 4 := r20
  have r21 : ((-1) : Int) ≤ ρ 21 ∧ ρ 21 ≤ 19 := r21
  have r22 : ((-1) : Int) ≤ ρ 22 ∧ ρ 22 ≤ 3 := r22
  have r23 : (0 : Int) ≤ ρ 23 ∧ ρ 23 ≤ 7 := r23
  have r24 : ((-1) : Int) ≤ ρ 24 ∧ ρ 24 ≤ 7 := r24
  have r25 : (1 : Int) ≤ ρ 25 ∧ ρ 25 ≤ 1 := r25
  have r26 : (0 : Int) ≤ ρ 26 ∧ ρ 26 ≤ 4 := r26
  have r27 : ((-1) : Int) ≤ ρ 27 ∧ ρ 27 ≤ 19 := r27
  have r28 : ((-1) : Int) ≤ ρ 28 ∧ ρ 28 ≤ 3 := r28
  have r29 : (0 : Int) ≤ ρ 29 ∧ ρ 29 ≤ 7 := r29
  have r30 : ((-1) : Int) ≤ ρ 30 ∧ ρ 30 ≤ 7 := r30
  have r31 : (0 : Int) ≤ ρ 31 ∧ ρ 31 ≤ 60 := r31
  have r32 : (50001 : Int) ≤ ρ 32 ∧ ρ 32 ≤ 50001 := r32
  have r33 : (0 : Int) ≤ ρ 33 ∧ ρ 33 ≤ 50001 := r33
  have r34 : (0 : Int) ≤ ρ 34 ∧ ρ 34 ≤ 2000 := r34
  have r35 : (0 : Int) ≤ ρ 35 ∧ ρ 35 ≤ 2000 := r35
  have r36 : ((-2147483648) : Int) ≤ ρ 36 ∧ ρ 36 ≤ 2147483647 := r36
  obtain ⟨f0, f1, f2, f3, f4, -⟩ := hf
  have f0 : (0 : Int) ≤ -ρ 3 + ((-50001) * ρ 1 + ρ 0) + 100002 := f0
  have f1 : (0 : Int) ≤ ρ 33 + -ρ 3 := f1
  have f2 : (0 : Int) ≤ ρ 34 + -ρ 6 := f2
  have f3 : (0 : Int) ≤ ρ 35 + -ρ 7 := f3
  have f4 : (0 : Int) ≤ -ρ 33 + (ρ 32 + (ρ 3 + -ρ 0)) + 1 := f4
  obtain ⟨m0, m1, m2, m3, m4, m5, m6, m7, m8, m9, m10, m11, m12, m13, m14, m15, m16, m17, m18, m19, m20, m21, m22, m23, m24, m25, m26, m27, m28, m29, m30, m31, m32, m33, m34, m35, m36, -⟩ := hm
  have m0 : γ 0 6 0 0 = ρ 0 := m0
  have m1 : γ 0 6 0 9 = ρ 1 := m1
  have m2 : γ 0 6 0 6 = ρ 2 := m2
  have m3 : γ 0 8 (ρ 2) 1 = ρ 3 := m3
  have m4 : γ 0 6 0 7 = ρ 4 := m4
  have m5 : γ 0 1 0 10 = ρ 5 := m5
  have m6 : γ 0 4 0 7 = ρ 6 := m6
  have m7 : γ 0 5 0 3 = ρ 7 := m7
  have m8 : γ 0 6 0 8 = ρ 8 := m8
  have m9 : γ 0 6 0 10 = ρ 9 := m9
  have m10 : γ 0 6 0 11 = ρ 10 := m10
  have m11 : γ 0 6 0 12 = ρ 11 := m11
  have m12 : γ 0 6 0 13 = ρ 12 := m12
  have m13 : γ 0 9 (ρ 4) 2 = ρ 13 := m13
  have m14 : γ 0 9 (ρ 4) 3 = ρ 14 := m14
  have m15 : γ 0 10 (9 * ρ 4) 5 = ρ 15 := m15
  have m16 : γ 0 10 (9 * ρ 4) 8 = ρ 16 := m16
  have m17 : γ 0 10 (9 * ρ 4) 12 = ρ 17 := m17
  have m18 : γ 0 10 (9 * ρ 4) 14 = ρ 18 := m18
  have m19 : γ 0 10 (9 * ρ 4 + 7) 4 = ρ 19 := m19
  have m20 : γ 0 10 (9 * ρ 4 + 7) 5 = ρ 20 := m20
  have m21 : γ 0 10 (9 * ρ 4 + 7) 8 = ρ 21 := m21
  have m22 : γ 0 10 (9 * ρ 4 + 7) 9 = ρ 22 := m22
  have m23 : γ 0 10 (9 * ρ 4 + 7) 10 = ρ 23 := m23
  have m24 : γ 0 10 (9 * ρ 4 + 7) 11 = ρ 24 := m24
  have m25 : γ 0 10 (9 * ρ 4 + 8) 4 = ρ 25 := m25
  have m26 : γ 0 10 (9 * ρ 4 + 8) 5 = ρ 26 := m26
  have m27 : γ 0 10 (9 * ρ 4 + 8) 8 = ρ 27 := m27
  have m28 : γ 0 10 (9 * ρ 4 + 8) 9 = ρ 28 := m28
  have m29 : γ 0 10 (9 * ρ 4 + 8) 10 = ρ 29 := m29
  have m30 : γ 0 10 (9 * ρ 4 + 8) 11 = ρ 30 := m30
  have m31 : γ 0 40 0 (ρ 5) = ρ 31 := m31
  have m32 : γ 3 6 0 0 = ρ 32 := m32
  have m33 : γ 3 8 (ρ 2) 1 = ρ 33 := m33
  have m34 : γ 3 4 0 7 = ρ 34 := m34
  have m35 : γ 3 5 0 3 = ρ 35 := m35
  have m36 : γ 3 6 0 13 = ρ 36 := m36
  obtain ⟨⟨⟨-, c1⟩, c2⟩, c3⟩ := hc
  have c1 : ∀ (G : Nat) (k j : Int), ¬ rMdP m0_ G j → γ 1 G k j = γ 0 G k j := c1
  have c2 : ∀ (G : Nat) (k j : Int), ¬ rMdP m0_ G j → γ 2 G k j = γ 1 G k j := c2
  have c3 : ∀ (G : Nat) (k j : Int), ¬ rMdP m140_ G j → γ 3 G k j = γ 2 G k j := c3
  obtain ⟨l0, l1, l2, -⟩ := hl
  have l0 : sn132 [ρ 4, 6] (γ 0) 0 (9 * ρ 4 + 7) (γ 1) := hS132 _ _ _ _ _ l0
  have l1 : sn230 [9 * ρ 4 + 7, ρ 19] (γ 1) 0 1 (γ 2) := hS230 _ _ _ _ _ l1
  have l2 : sn247 [ρ 0, ρ 1, ρ 2, ρ 3, ρ 4, ρ 5, ρ 6, ρ 7, ρ 8, ρ 9, ρ 10, ρ 11, ρ 12, ρ 13, ρ 14, ρ 15, ρ 16, ρ 17, ρ 18, ρ 25, ρ 26, ρ 27, ρ 28, ρ 29, ρ 30] (γ 2) 4 0 (γ 3) := hS247 _ _ _ _ _ l2
  show sn249 [ρ 0, ρ 1, ρ 2, ρ 3, ρ 4, ρ 5, ρ 6, ρ 7, ρ 8, ρ 9, ρ 10, ρ 11, ρ 12, ρ 13, ρ 14, ρ 15, ρ 16, ρ 17, ρ 18, ρ 19, ρ 20, ρ 21, ρ 22, ρ 23, ρ 24, ρ 25, ρ 26, ρ 27, ρ 28, ρ 29, ρ 30] (γ 0) 4 0 (γ 3)
  refine Eq.symm ?_
  show fn249 [] (γ 0) = _
  unfold fn249
  refine (zLet_eq m4).trans ?_
  refine (zLet_eq m13).trans ?_
  refine (zLet_eq m19).trans ?_
  refine (if_neg (show ¬ (6 ≥ ρ 13) by omega)).trans ?_
  refine (zLet_eq (show fn132 [ρ 4, 6] (γ 0) = (0, 9 * ρ 4 + 7, γ 1) from l0.symm)).trans ?_
  refine (zLet_eq (show _ = γ 1 from rfl)).trans ?_
  refine (if_pos (show ρ 19 ≠ 1 by omega)).trans ?_
  refine (if_pos (show 0 ≤ -ρ 19 + 3 by omega)).trans ?_
  refine (if_pos (show ρ 19 ≠ 2 by omega)).trans ?_
  refine (zLet_eq (show fn230 [9 * ρ 4 + 7] (γ 1) = (0, 1, γ 2) from l1.symm)).trans ?_
  refine (zLet_eq (show _ = γ 2 from rfl)).trans ?_
  refine (if_pos (show (1 : Int) ≤ 1 by omega)).trans ?_
  refine (zLet_eq (show fn247 [] (γ 2) = (4, 0, γ 3) from l2.symm)).trans ?_
  refine (zLet_eq (show _ = γ 3 from rfl)).trans ?_
  refine (if_neg (show ¬ (4 : Nat) = 0 by decide)).trans ?_
  refine (if_neg (show ¬ (4 : Nat) = 1 by decide)).trans ?_
  rfl
theorem vn249_6 {S : Nat → zSpc} (hS132 : ∀ x g o v gz, S 132 x g o v gz → sn132 x g o v gz) (hS228 : ∀ x g o v gz, S 228 x g o v gz → sn228 x g o v gz) (hS229 : ∀ x g o v gz, S 229 x g o v gz → sn229 x g o v gz) (hS230 : ∀ x g o v gz, S 230 x g o v gz → sn230 x g o v gz) (hS231 : ∀ x g o v gz, S 231 x g o v gz → sn231 x g o v gz) (hS244 : ∀ x g o v gz, S 244 x g o v gz → sn244 x g o v gz) (hS247 : ∀ x g o v gz, S 247 x g o v gz → sn247 x g o v gz) (hS248 : ∀ x g o v gz, S 248 x g o v gz → sn248 x g o v gz) {a : List Int} {g : rHp} : ∀ (ρ : Nat → Int) (γ : Nat → rHp), zO 31 S a g q249_6 ρ γ → zGl (fun _ _ _ => True) (sn249 a g) q249_6 ρ γ := by
  intro ρ γ h
  obtain ⟨ha, hg, hr, hf, hm, hc, hl⟩ := h
  have ha : a = [ρ 0, ρ 1, ρ 2, ρ 3, ρ 4, ρ 5, ρ 6, ρ 7, ρ 8, ρ 9, ρ 10, ρ 11, ρ 12, ρ 13, ρ 14, ρ 15, ρ 16, ρ 17, ρ 18, ρ 19, ρ 20, ρ 21, ρ 22, ρ 23, ρ 24, ρ 25, ρ 26, ρ 27, ρ 28, ρ 29, ρ 30] := ha
  subst ha
  subst hg
  obtain ⟨r0, r1, r2, r3, r4, r5, r6, r7, r8, r9, r10, r11, r12, r13, r14, r15, r16, r17, r18, r19, r20, r21, r22, r23, r24, r25, r26, r27, r28, r29, r30, r31, r32, r33, r34, r35, r36, -⟩ := hr
  have r0 : (0 : Int) ≤ ρ 0 ∧ ρ 0 ≤ 50000 := r0
  have r1 : (0 : Int) ≤ ρ 1 ∧ ρ 1 ≤ 2 := r1
  have r2 : (0 : Int) ≤ ρ 2 ∧ ρ 2 ≤ 2 := r2
  have r3 : (0 : Int) ≤ ρ 3 ∧ ρ 3 ≤ 50001 := r3
  have r4 : (0 : Int) ≤ ρ 4 ∧ ρ 4 ≤ 62 := r4
  have r5 : (0 : Int) ≤ ρ 5 ∧ ρ 5 ≤ 60 := r5
  have r6 : (0 : Int) ≤ ρ 6 ∧ ρ 6 ≤ 2000 := r6
  have r7 : (0 : Int) ≤ ρ 7 ∧ ρ 7 ≤ 2000 := r7
  have r8 : ((-2147483648) : Int) ≤ ρ 8 ∧ ρ 8 ≤ 2147483647 := r8
  have r9 : ((-2147483648) : Int) ≤ ρ 9 ∧ ρ 9 ≤ 2147483647 := r9
  have r10 : (0 : Int) ≤ ρ 10 ∧ ρ 10 ≤ 2000 := r10
  have r11 : (0 : Int) ≤ ρ 11 ∧ ρ 11 ≤ 2000 := r11
  have r12 : ((-2147483648) : Int) ≤ ρ 12 ∧ ρ 12 ≤ 2147483647 := r12
  have r13 : (7 : Int) ≤ ρ 13 ∧ ρ 13 ≤ 8 := r13
  have r14 : (0 : Int) ≤ ρ 14 ∧ ρ 14 ≤ 8 := r14
  have r15 : (0 : Int) ≤ ρ 15 ∧ ρ 15 ≤ 4 := r15
  have r16 : ((-1) : Int) ≤ ρ 16 ∧ ρ 16 ≤ 19 := r16
  have r17 : (0 : Int) ≤ ρ 17 ∧ ρ 17 ≤ 4 := r17
  have r18 : ((-1) : Int) ≤ ρ 18 ∧ ρ 18 ≤ 7 := r18
  have r19 : (2 : Int) ≤ ρ 19 ∧ ρ 19 ≤ 2 := r19
  have r20 : (0 : Int) ≤ ρ 20 ∧ ρ 20 ≤ 4 := r20
  have r21 : ((-1) : Int) ≤ ρ 21 ∧ ρ 21 ≤ 19 := r21
  have r22 : ((-1) : Int) ≤ ρ 22 ∧ ρ 22 ≤ 3 := r22
  have r23 : (0 : Int) ≤ ρ 23 ∧ ρ 23 ≤ 7 := r23
  have r24 : ((-1) : Int) ≤ ρ 24 ∧ ρ 24 ≤ 7 := r24
  have r25 : (0 : Int) ≤ ρ 25 ∧ ρ 25 ≤ 8 := r25
  have r26 : (0 : Int) ≤ ρ 26 ∧ ρ 26 ≤ 4 := r26
  have r27 : ((-1) : Int) ≤ ρ 27 ∧ ρ 27 ≤ 19 := r27
  have r28 : ((-1) : Int) ≤ ρ 28 ∧ ρ 28 ≤ 3 := r28
  have r29 : (0 : Int) ≤ ρ 29 ∧ ρ 29 ≤ 7 := r29
  have r30 : ((-1) : Int) ≤ ρ 30 ∧ ρ 30 ≤ 7 := r30
  have r31 : (0 : Int) ≤ ρ 31 ∧ ρ 31 ≤ 60 := r31
  have r32 : (0 : Int) ≤ ρ 32 ∧ ρ 32 ≤ 50000 := r32
  have r33 : (0 : Int) ≤ ρ 33 ∧ ρ 33 ≤ 50001 := r33
  have r34 : (0 : Int) ≤ ρ 34 ∧ ρ 34 ≤ 2000 := r34
  have r35 : (0 : Int) ≤ ρ 35 ∧ ρ 35 ≤ 2000 := r35
  have r36 : ((-2147483648) : Int) ≤ ρ 36 ∧ ρ 36 ≤ 2147483647 := r36
  obtain ⟨f0, f1, f2, f3, f4, f5, -⟩ := hf
  have f0 : (0 : Int) ≤ -ρ 3 + ((-50001) * ρ 1 + ρ 0) + 100002 := f0
  have f1 : (0 : Int) ≤ ρ 32 + -ρ 0 := f1
  have f2 : (0 : Int) ≤ ρ 33 + -ρ 3 := f2
  have f3 : (0 : Int) ≤ ρ 34 + -ρ 6 := f3
  have f4 : (0 : Int) ≤ ρ 35 + -ρ 7 := f4
  have f5 : (0 : Int) ≤ -ρ 33 + (ρ 32 + (ρ 3 + -ρ 0)) + 1 := f5
  obtain ⟨m0, m1, m2, m3, m4, m5, m6, m7, m8, m9, m10, m11, m12, m13, m14, m15, m16, m17, m18, m19, m20, m21, m22, m23, m24, m25, m26, m27, m28, m29, m30, m31, m32, m33, m34, m35, m36, -⟩ := hm
  have m0 : γ 0 6 0 0 = ρ 0 := m0
  have m1 : γ 0 6 0 9 = ρ 1 := m1
  have m2 : γ 0 6 0 6 = ρ 2 := m2
  have m3 : γ 0 8 (ρ 2) 1 = ρ 3 := m3
  have m4 : γ 0 6 0 7 = ρ 4 := m4
  have m5 : γ 0 1 0 10 = ρ 5 := m5
  have m6 : γ 0 4 0 7 = ρ 6 := m6
  have m7 : γ 0 5 0 3 = ρ 7 := m7
  have m8 : γ 0 6 0 8 = ρ 8 := m8
  have m9 : γ 0 6 0 10 = ρ 9 := m9
  have m10 : γ 0 6 0 11 = ρ 10 := m10
  have m11 : γ 0 6 0 12 = ρ 11 := m11
  have m12 : γ 0 6 0 13 = ρ 12 := m12
  have m13 : γ 0 9 (ρ 4) 2 = ρ 13 := m13
  have m14 : γ 0 9 (ρ 4) 3 = ρ 14 := m14
  have m15 : γ 0 10 (9 * ρ 4) 5 = ρ 15 := m15
  have m16 : γ 0 10 (9 * ρ 4) 8 = ρ 16 := m16
  have m17 : γ 0 10 (9 * ρ 4) 12 = ρ 17 := m17
  have m18 : γ 0 10 (9 * ρ 4) 14 = ρ 18 := m18
  have m19 : γ 0 10 (9 * ρ 4 + 7) 4 = ρ 19 := m19
  have m20 : γ 0 10 (9 * ρ 4 + 7) 5 = ρ 20 := m20
  have m21 : γ 0 10 (9 * ρ 4 + 7) 8 = ρ 21 := m21
  have m22 : γ 0 10 (9 * ρ 4 + 7) 9 = ρ 22 := m22
  have m23 : γ 0 10 (9 * ρ 4 + 7) 10 = ρ 23 := m23
  have m24 : γ 0 10 (9 * ρ 4 + 7) 11 = ρ 24 := m24
  have m25 : γ 0 10 (9 * ρ 4 + 8) 4 = ρ 25 := m25
  have m26 : γ 0 10 (9 * ρ 4 + 8) 5 = ρ 26 := m26
  have m27 : γ 0 10 (9 * ρ 4 + 8) 8 = ρ 27 := m27
  have m28 : γ 0 10 (9 * ρ 4 + 8) 9 = ρ 28 := m28
  have m29 : γ 0 10 (9 * ρ 4 + 8) 10 = ρ 29 := m29
  have m30 : γ 0 10 (9 * ρ 4 + 8) 11 = ρ 30 := m30
  have m31 : γ 0 40 0 (ρ 5) = ρ 31 := m31
  have m32 : γ 3 6 0 0 = ρ 32 := m32
  have m33 : γ 3 8 (ρ 2) 1 = ρ 33 := m33
  have m34 : γ 3 4 0 7 = ρ 34 := m34
  have m35 : γ 3 5 0 3 = ρ 35 := m35
  have m36 : γ 3 6 0 13 = ρ 36 := m36
  obtain ⟨⟨⟨-, c1⟩, c2⟩, c3⟩ := hc
  have c1 : ∀ (G : Nat) (k j : Int), ¬ rMdP m0_ G j → γ 1 G k j = γ 0 G k j := c1
  have c2 : ∀ (G : Nat) (k j : Int), ¬ rMdP m132_ G j → γ 2 G k j = γ 1 G k j := c2
  have c3 : ∀ (G : Nat) (k j : Int), ¬ rMdP m140_ G j → γ 3 G k j = γ 2 G k j := c3
  obtain ⟨l0, l1, l2, -⟩ := hl
  have l0 : sn132 [ρ 4, 6] (γ 0) 0 (9 * ρ 4 + 7) (γ 1) := hS132 _ _ _ _ _ l0
  have l1 : sn228 [9 * ρ 4 + 7, ρ 6, ρ 10, ρ 20, ρ 21, ρ 22] (γ 1) 0 0 (γ 2) := hS228 _ _ _ _ _ l1
  have l2 : sn247 [ρ 0, ρ 1, ρ 2, ρ 3, ρ 4, ρ 5, ρ 6, ρ 7, ρ 8, ρ 9, ρ 10, ρ 11, ρ 12, ρ 13, ρ 14, ρ 15, ρ 16, ρ 17, ρ 18, ρ 25, ρ 26, ρ 27, ρ 28, ρ 29, ρ 30] (γ 2) 0 0 (γ 3) := hS247 _ _ _ _ _ l2
  show sn249 [ρ 0, ρ 1, ρ 2, ρ 3, ρ 4, ρ 5, ρ 6, ρ 7, ρ 8, ρ 9, ρ 10, ρ 11, ρ 12, ρ 13, ρ 14, ρ 15, ρ 16, ρ 17, ρ 18, ρ 19, ρ 20, ρ 21, ρ 22, ρ 23, ρ 24, ρ 25, ρ 26, ρ 27, ρ 28, ρ 29, ρ 30] (γ 0) 0 0 (γ 3)
  refine Eq.symm ?_
  show fn249 [] (γ 0) = _
  unfold fn249
  refine (zLet_eq m4).trans ?_
  refine (zLet_eq m13).trans ?_
  refine (zLet_eq m19).trans ?_
  refine (if_neg (show ¬ (6 ≥ ρ 13) by omega)).trans ?_
  refine (zLet_eq (show fn132 [ρ 4, 6] (γ 0) = (0, 9 * ρ 4 + 7, γ 1) from l0.symm)).trans ?_
  refine (zLet_eq (show _ = γ 1 from rfl)).trans ?_
  refine (if_pos (show ρ 19 ≠ 1 by omega)).trans ?_
  refine (if_pos (show 0 ≤ -ρ 19 + 3 by omega)).trans ?_
  refine (if_neg (show ¬ (ρ 19 ≠ 2) by omega)).trans ?_
  refine (zLet_eq (show fn228 [9 * ρ 4 + 7] (γ 1) = (0, 0, γ 2) from l1.symm)).trans ?_
  refine (zLet_eq (show _ = γ 2 from rfl)).trans ?_
  refine (if_neg (show ¬ ((1 : Int) ≤ 0) by omega)).trans ?_
  refine (zLet_eq (show fn247 [] (γ 2) = (0, 0, γ 3) from l2.symm)).trans ?_
  refine (zLet_eq (show _ = γ 3 from rfl)).trans ?_
  refine (if_pos (show (0 : Nat) = 0 by decide)).trans ?_
  rfl
theorem vn249_7 {S : Nat → zSpc} (hS132 : ∀ x g o v gz, S 132 x g o v gz → sn132 x g o v gz) (hS228 : ∀ x g o v gz, S 228 x g o v gz → sn228 x g o v gz) (hS229 : ∀ x g o v gz, S 229 x g o v gz → sn229 x g o v gz) (hS230 : ∀ x g o v gz, S 230 x g o v gz → sn230 x g o v gz) (hS231 : ∀ x g o v gz, S 231 x g o v gz → sn231 x g o v gz) (hS244 : ∀ x g o v gz, S 244 x g o v gz → sn244 x g o v gz) (hS247 : ∀ x g o v gz, S 247 x g o v gz → sn247 x g o v gz) (hS248 : ∀ x g o v gz, S 248 x g o v gz → sn248 x g o v gz) {a : List Int} {g : rHp} : ∀ (ρ : Nat → Int) (γ : Nat → rHp), zO 31 S a g q249_7 ρ γ → zGl (fun _ _ _ => True) (sn249 a g) q249_7 ρ γ := by
  intro ρ γ h
  obtain ⟨ha, hg, hr, hf, hm, hc, hl⟩ := h
  have ha : a = [ρ 0, ρ 1, ρ 2, ρ 3, ρ 4, ρ 5, ρ 6, ρ 7, ρ 8, ρ 9, ρ 10, ρ 11, ρ 12, ρ 13, ρ 14, ρ 15, ρ 16, ρ 17, ρ 18, ρ 19, ρ 20, ρ 21, ρ 22, ρ 23, ρ 24, ρ 25, ρ 26, ρ 27, ρ 28, ρ 29, ρ 30] := ha
  subst ha
  subst hg
  obtain ⟨r0, r1, r2, r3, r4, r5, r6, r7, r8, r9, r10, r11, r12, r13, r14, r15, r16, r17, r18, r19, r20, r21, r22, r23, r24, r25, r26, r27, r28, r29, r30, r31, r32, r33, r34, r35, r36, -⟩ := hr
  have r0 : (0 : Int) ≤ ρ 0 ∧ ρ 0 ≤ 50000 := r0
  have r1 : (0 : Int) ≤ ρ 1 ∧ ρ 1 ≤ 1 := r1
  have r2 : (0 : Int) ≤ ρ 2 ∧ ρ 2 ≤ 2 := r2
  have r3 : (0 : Int) ≤ ρ 3 ∧ ρ 3 ≤ 50001 := r3
  have r4 : (0 : Int) ≤ ρ 4 ∧ ρ 4 ≤ 62 := r4
  have r5 : (0 : Int) ≤ ρ 5 ∧ ρ 5 ≤ 60 := r5
  have r6 : (0 : Int) ≤ ρ 6 ∧ ρ 6 ≤ 2000 := r6
  have r7 : (0 : Int) ≤ ρ 7 ∧ ρ 7 ≤ 2000 := r7
  have r8 : ((-2147483648) : Int) ≤ ρ 8 ∧ ρ 8 ≤ 2147483647 := r8
  have r9 : ((-2147483648) : Int) ≤ ρ 9 ∧ ρ 9 ≤ 2147483647 := r9
  have r10 : (0 : Int) ≤ ρ 10 ∧ ρ 10 ≤ 2000 := r10
  have r11 : (0 : Int) ≤ ρ 11 ∧ ρ 11 ≤ 2000 := r11
  have r12 : ((-2147483648) : Int) ≤ ρ 12 ∧ ρ 12 ≤ 2147483647 := r12
  have r13 : (7 : Int) ≤ ρ 13 ∧ ρ 13 ≤ 8 := r13
  have r14 : (0 : Int) ≤ ρ 14 ∧ ρ 14 ≤ 8 := r14
  have r15 : (0 : Int) ≤ ρ 15 ∧ ρ 15 ≤ 4 := r15
  have r16 : ((-1) : Int) ≤ ρ 16 ∧ ρ 16 ≤ 19 := r16
  have r17 : (0 : Int) ≤ ρ 17 ∧ ρ 17 ≤ 4 := r17
  have r18 : ((-1) : Int) ≤ ρ 18 ∧ ρ 18 ≤ 7 := r18
  have r19 : (2 : Int) ≤ ρ 19 ∧ ρ 19 ≤ 2 := r19
  have r20 : (0 : Int) ≤ ρ 20 ∧ ρ 20 ≤ 4 := r20
  have r21 : ((-1) : Int) ≤ ρ 21 ∧ ρ 21 ≤ 19 := r21
  have r22 : ((-1) : Int) ≤ ρ 22 ∧ ρ 22 ≤ 3 := r22
  have r23 : (0 : Int) ≤ ρ 23 ∧ ρ 23 ≤ 7 := r23
  have r24 : ((-1) : Int) ≤ ρ 24 ∧ ρ 24 ≤ 7 := r24
  have r25 : (0 : Int) ≤ ρ 25 ∧ ρ 25 ≤ 8 := r25
  have r26 : (0 : Int) ≤ ρ 26 ∧ ρ 26 ≤ 4 := r26
  have r27 : ((-1) : Int) ≤ ρ 27 ∧ ρ 27 ≤ 19 := r27
  have r28 : ((-1) : Int) ≤ ρ 28 ∧ ρ 28 ≤ 3 := r28
  have r29 : (0 : Int) ≤ ρ 29 ∧ ρ 29 ≤ 7 := r29
  have r30 : ((-1) : Int) ≤ ρ 30 ∧ ρ 30 ≤ 7 := r30
  have r31 : (0 : Int) ≤ ρ 31 ∧ ρ 31 ≤ 60 := r31
  have r32 : (0 : Int) ≤ ρ 32 ∧ ρ 32 ≤ 50000 := r32
  have r33 : (0 : Int) ≤ ρ 33 ∧ ρ 33 ≤ 50001 := r33
  have r34 : (0 : Int) ≤ ρ 34 ∧ ρ 34 ≤ 2000 := r34
  have r35 : (0 : Int) ≤ ρ 35 ∧ ρ 35 ≤ 2000 := r35
  have r36 : ((-2147483648) : Int) ≤ ρ 36 ∧ ρ 36 ≤ 2147483647 := r36
  obtain ⟨f0, f1, f2, f3, f4, f5, -⟩ := hf
  have f0 : (0 : Int) ≤ ρ 32 + -ρ 0 := f0
  have f1 : (0 : Int) ≤ ρ 33 + -ρ 3 := f1
  have f2 : (0 : Int) ≤ ρ 34 + -ρ 6 := f2
  have f3 : (0 : Int) ≤ ρ 35 + -ρ 7 := f3
  have f4 : (0 : Int) ≤ -ρ 33 + (ρ 32 + (ρ 3 + -ρ 0)) + 1 := f4
  have f5 : (0 : Int) ≤ -ρ 3 + ((-50001) * ρ 1 + ρ 0) + 100002 := f5
  obtain ⟨m0, m1, m2, m3, m4, m5, m6, m7, m8, m9, m10, m11, m12, m13, m14, m15, m16, m17, m18, m19, m20, m21, m22, m23, m24, m25, m26, m27, m28, m29, m30, m31, m32, m33, m34, m35, m36, -⟩ := hm
  have m0 : γ 0 6 0 0 = ρ 0 := m0
  have m1 : γ 0 6 0 9 = ρ 1 := m1
  have m2 : γ 0 6 0 6 = ρ 2 := m2
  have m3 : γ 0 8 (ρ 2) 1 = ρ 3 := m3
  have m4 : γ 0 6 0 7 = ρ 4 := m4
  have m5 : γ 0 1 0 10 = ρ 5 := m5
  have m6 : γ 0 4 0 7 = ρ 6 := m6
  have m7 : γ 0 5 0 3 = ρ 7 := m7
  have m8 : γ 0 6 0 8 = ρ 8 := m8
  have m9 : γ 0 6 0 10 = ρ 9 := m9
  have m10 : γ 0 6 0 11 = ρ 10 := m10
  have m11 : γ 0 6 0 12 = ρ 11 := m11
  have m12 : γ 0 6 0 13 = ρ 12 := m12
  have m13 : γ 0 9 (ρ 4) 2 = ρ 13 := m13
  have m14 : γ 0 9 (ρ 4) 3 = ρ 14 := m14
  have m15 : γ 0 10 (9 * ρ 4) 5 = ρ 15 := m15
  have m16 : γ 0 10 (9 * ρ 4) 8 = ρ 16 := m16
  have m17 : γ 0 10 (9 * ρ 4) 12 = ρ 17 := m17
  have m18 : γ 0 10 (9 * ρ 4) 14 = ρ 18 := m18
  have m19 : γ 0 10 (9 * ρ 4 + 7) 4 = ρ 19 := m19
  have m20 : γ 0 10 (9 * ρ 4 + 7) 5 = ρ 20 := m20
  have m21 : γ 0 10 (9 * ρ 4 + 7) 8 = ρ 21 := m21
  have m22 : γ 0 10 (9 * ρ 4 + 7) 9 = ρ 22 := m22
  have m23 : γ 0 10 (9 * ρ 4 + 7) 10 = ρ 23 := m23
  have m24 : γ 0 10 (9 * ρ 4 + 7) 11 = ρ 24 := m24
  have m25 : γ 0 10 (9 * ρ 4 + 8) 4 = ρ 25 := m25
  have m26 : γ 0 10 (9 * ρ 4 + 8) 5 = ρ 26 := m26
  have m27 : γ 0 10 (9 * ρ 4 + 8) 8 = ρ 27 := m27
  have m28 : γ 0 10 (9 * ρ 4 + 8) 9 = ρ 28 := m28
  have m29 : γ 0 10 (9 * ρ 4 + 8) 10 = ρ 29 := m29
  have m30 : γ 0 10 (9 * ρ 4 + 8) 11 = ρ 30 := m30
  have m31 : γ 0 40 0 (ρ 5) = ρ 31 := m31
  have m32 : γ 3 6 0 0 = ρ 32 := m32
  have m33 : γ 3 8 (ρ 2) 1 = ρ 33 := m33
  have m34 : γ 3 4 0 7 = ρ 34 := m34
  have m35 : γ 3 5 0 3 = ρ 35 := m35
  have m36 : γ 3 6 0 13 = ρ 36 := m36
  obtain ⟨⟨⟨-, c1⟩, c2⟩, c3⟩ := hc
  have c1 : ∀ (G : Nat) (k j : Int), ¬ rMdP m0_ G j → γ 1 G k j = γ 0 G k j := c1
  have c2 : ∀ (G : Nat) (k j : Int), ¬ rMdP m132_ G j → γ 2 G k j = γ 1 G k j := c2
  have c3 : ∀ (G : Nat) (k j : Int), ¬ rMdP m140_ G j → γ 3 G k j = γ 2 G k j := c3
  obtain ⟨l0, l1, l2, -⟩ := hl
  have l0 : sn132 [ρ 4, 6] (γ 0) 0 (9 * ρ 4 + 7) (γ 1) := hS132 _ _ _ _ _ l0
  have l1 : sn228 [9 * ρ 4 + 7, ρ 6, ρ 10, ρ 20, ρ 21, ρ 22] (γ 1) 0 0 (γ 2) := hS228 _ _ _ _ _ l1
  have l2 : sn247 [ρ 0, ρ 1, ρ 2, ρ 3, ρ 4, ρ 5, ρ 6, ρ 7, ρ 8, ρ 9, ρ 10, ρ 11, ρ 12, ρ 13, ρ 14, ρ 15, ρ 16, ρ 17, ρ 18, ρ 25, ρ 26, ρ 27, ρ 28, ρ 29, ρ 30] (γ 2) 1 0 (γ 3) := hS247 _ _ _ _ _ l2
  show sn249 [ρ 0, ρ 1, ρ 2, ρ 3, ρ 4, ρ 5, ρ 6, ρ 7, ρ 8, ρ 9, ρ 10, ρ 11, ρ 12, ρ 13, ρ 14, ρ 15, ρ 16, ρ 17, ρ 18, ρ 19, ρ 20, ρ 21, ρ 22, ρ 23, ρ 24, ρ 25, ρ 26, ρ 27, ρ 28, ρ 29, ρ 30] (γ 0) 1 0 (γ 3)
  refine Eq.symm ?_
  show fn249 [] (γ 0) = _
  unfold fn249
  refine (zLet_eq m4).trans ?_
  refine (zLet_eq m13).trans ?_
  refine (zLet_eq m19).trans ?_
  refine (if_neg (show ¬ (6 ≥ ρ 13) by omega)).trans ?_
  refine (zLet_eq (show fn132 [ρ 4, 6] (γ 0) = (0, 9 * ρ 4 + 7, γ 1) from l0.symm)).trans ?_
  refine (zLet_eq (show _ = γ 1 from rfl)).trans ?_
  refine (if_pos (show ρ 19 ≠ 1 by omega)).trans ?_
  refine (if_pos (show 0 ≤ -ρ 19 + 3 by omega)).trans ?_
  refine (if_neg (show ¬ (ρ 19 ≠ 2) by omega)).trans ?_
  refine (zLet_eq (show fn228 [9 * ρ 4 + 7] (γ 1) = (0, 0, γ 2) from l1.symm)).trans ?_
  refine (zLet_eq (show _ = γ 2 from rfl)).trans ?_
  refine (if_neg (show ¬ ((1 : Int) ≤ 0) by omega)).trans ?_
  refine (zLet_eq (show fn247 [] (γ 2) = (1, 0, γ 3) from l2.symm)).trans ?_
  refine (zLet_eq (show _ = γ 3 from rfl)).trans ?_
  refine (if_neg (show ¬ (1 : Nat) = 0 by decide)).trans ?_
  refine (if_pos (show (1 : Nat) = 1 by decide)).trans ?_
  rfl
theorem vn249_8 {S : Nat → zSpc} (hS132 : ∀ x g o v gz, S 132 x g o v gz → sn132 x g o v gz) (hS228 : ∀ x g o v gz, S 228 x g o v gz → sn228 x g o v gz) (hS229 : ∀ x g o v gz, S 229 x g o v gz → sn229 x g o v gz) (hS230 : ∀ x g o v gz, S 230 x g o v gz → sn230 x g o v gz) (hS231 : ∀ x g o v gz, S 231 x g o v gz → sn231 x g o v gz) (hS244 : ∀ x g o v gz, S 244 x g o v gz → sn244 x g o v gz) (hS247 : ∀ x g o v gz, S 247 x g o v gz → sn247 x g o v gz) (hS248 : ∀ x g o v gz, S 248 x g o v gz → sn248 x g o v gz) {a : List Int} {g : rHp} : ∀ (ρ : Nat → Int) (γ : Nat → rHp), zO 31 S a g q249_8 ρ γ → zGl (fun _ _ _ => True) (sn249 a g) q249_8 ρ γ := by
  intro ρ γ h
  obtain ⟨ha, hg, hr, hf, hm, hc, hl⟩ := h
  have ha : a = [ρ 0, ρ 1, ρ 2, ρ 3, ρ 4, ρ 5, ρ 6, ρ 7, ρ 8, ρ 9, ρ 10, ρ 11, ρ 12, ρ 13, ρ 14, ρ 15, ρ 16, ρ 17, ρ 18, ρ 19, ρ 20, ρ 21, ρ 22, ρ 23, ρ 24, ρ 25, ρ 26, ρ 27, ρ 28, ρ 29, ρ 30] := ha
  subst ha
  subst hg
  obtain ⟨r0, r1, r2, r3, r4, r5, r6, r7, r8, r9, r10, r11, r12, r13, r14, r15, r16, r17, r18, r19, r20, r21, r22, r23, r24, r25, r26, r27, r28, r29, r30, r31, r32, r33, r34, r35, r36, -⟩ := hr
  have r0 : (0 : Int) ≤ ρ 0 ∧ ρ 0 ≤ 50000 := r0
  have r1 : (0 : Int) ≤ ρ 1 ∧ ρ 1 ≤ 2 := r1
  have r2 : (0 : Int) ≤ ρ 2 ∧ ρ 2 ≤ 2 := r2
  have r3 : (0 : Int) ≤ ρ 3 ∧ ρ 3 ≤ 50001 := r3
  have r4 : (0 : Int) ≤ ρ 4 ∧ ρ 4 ≤ 62 := r4
  have r5 : (0 : Int) ≤ ρ 5 ∧ ρ 5 ≤ 60 := r5
  have r6 : (0 : Int) ≤ ρ 6 ∧ ρ 6 ≤ 2000 := r6
  have r7 : (0 : Int) ≤ ρ 7 ∧ ρ 7 ≤ 2000 := r7
  have r8 : ((-2147483648) : Int) ≤ ρ 8 ∧ ρ 8 ≤ 2147483647 := r8
  have r9 : ((-2147483648) : Int) ≤ ρ 9 ∧ ρ 9 ≤ 2147483647 := r9
  have r10 : (0 : Int) ≤ ρ 10 ∧ ρ 10 ≤ 2000 := r10
  have r11 : (0 : Int) ≤ ρ 11 ∧ ρ 11 ≤ 2000 := r11
  have r12 : ((-2147483648) : Int) ≤ ρ 12 ∧ ρ 12 ≤ 2147483647 := r12
  have r13 : (8 : Int) ≤ ρ 13 ∧ ρ 13 ≤ 8 := r13
  have r14 : (0 : Int) ≤ ρ 14 ∧ ρ 14 ≤ 8 := r14
  have r15 : (0 : Int) ≤ ρ 15 ∧ ρ 15 ≤ 4 := r15
  have r16 : ((-1) : Int) ≤ ρ 16 ∧ ρ 16 ≤ 19 := r16
  have r17 : (0 : Int) ≤ ρ 17 ∧ ρ 17 ≤ 4 := r17
  have r18 : ((-1) : Int) ≤ ρ 18 ∧ ρ 18 ≤ 7 := r18
  have r19 : (2 : Int) ≤ ρ 19 ∧ ρ 19 ≤ 2 := r19
  have r20 : (0 : Int) ≤ ρ 20 ∧ ρ 20 ≤ 4 := r20
  have r21 : ((-1) : Int) ≤ ρ 21 ∧ ρ 21 ≤ 19 := r21
  have r22 : ((-1) : Int) ≤ ρ 22 ∧ ρ 22 ≤ 3 := r22
  have r23 : (0 : Int) ≤ ρ 23 ∧ ρ 23 ≤ 7 := r23
  have r24 : ((-1) : Int) ≤ ρ 24 ∧ ρ 24 ≤ 7 := r24
  have r25 : (1 : Int) ≤ ρ 25 ∧ ρ 25 ≤ 1 := r25
  have r26 : (0 : Int) ≤ ρ 26 ∧ ρ 26 ≤ 4 := r26
  have r27 : ((-1) : Int) ≤ ρ 27 ∧ ρ 27 ≤ 19 := r27
  have r28 : ((-1) : Int) ≤ ρ 28 ∧ ρ 28 ≤ 3 := r28
  have r29 : (0 : Int) ≤ ρ 29 ∧ ρ 29 ≤ 7 := r29
  have r30 : ((-1) : Int) ≤ ρ 30 ∧ ρ 30 ≤ 7 := r30
  have r31 : (0 : Int) ≤ ρ 31 ∧ ρ 31 ≤ 60 := r31
  have r32 : (50001 : Int) ≤ ρ 32 ∧ ρ 32 ≤ 50001 := r32
  have r33 : (0 : Int) ≤ ρ 33 ∧ ρ 33 ≤ 50001 := r33
  have r34 : (0 : Int) ≤ ρ 34 ∧ ρ 34 ≤ 2000 := r34
  have r35 : (0 : Int) ≤ ρ 35 ∧ ρ 35 ≤ 2000 := r35
  have r36 : ((-2147483648) : Int) ≤ ρ 36 ∧ ρ 36 ≤ 2147483647 := r36
  obtain ⟨f0, f1, f2, f3, f4, -⟩ := hf
  have f0 : (0 : Int) ≤ -ρ 3 + ((-50001) * ρ 1 + ρ 0) + 100002 := f0
  have f1 : (0 : Int) ≤ ρ 33 + -ρ 3 := f1
  have f2 : (0 : Int) ≤ ρ 34 + -ρ 6 := f2
  have f3 : (0 : Int) ≤ ρ 35 + -ρ 7 := f3
  have f4 : (0 : Int) ≤ -ρ 33 + (ρ 32 + (ρ 3 + -ρ 0)) + 1 := f4
  obtain ⟨m0, m1, m2, m3, m4, m5, m6, m7, m8, m9, m10, m11, m12, m13, m14, m15, m16, m17, m18, m19, m20, m21, m22, m23, m24, m25, m26, m27, m28, m29, m30, m31, m32, m33, m34, m35, m36, -⟩ := hm
  have m0 : γ 0 6 0 0 = ρ 0 := m0
  have m1 : γ 0 6 0 9 = ρ 1 := m1
  have m2 : γ 0 6 0 6 = ρ 2 := m2
  have m3 : γ 0 8 (ρ 2) 1 = ρ 3 := m3
  have m4 : γ 0 6 0 7 = ρ 4 := m4
  have m5 : γ 0 1 0 10 = ρ 5 := m5
  have m6 : γ 0 4 0 7 = ρ 6 := m6
  have m7 : γ 0 5 0 3 = ρ 7 := m7
  have m8 : γ 0 6 0 8 = ρ 8 := m8
  have m9 : γ 0 6 0 10 = ρ 9 := m9
  have m10 : γ 0 6 0 11 = ρ 10 := m10
  have m11 : γ 0 6 0 12 = ρ 11 := m11
  have m12 : γ 0 6 0 13 = ρ 12 := m12
  have m13 : γ 0 9 (ρ 4) 2 = ρ 13 := m13
  have m14 : γ 0 9 (ρ 4) 3 = ρ 14 := m14
  have m15 : γ 0 10 (9 * ρ 4) 5 = ρ 15 := m15
  have m16 : γ 0 10 (9 * ρ 4) 8 = ρ 16 := m16
  have m17 : γ 0 10 (9 * ρ 4) 12 = ρ 17 := m17
  have m18 : γ 0 10 (9 * ρ 4) 14 = ρ 18 := m18
  have m19 : γ 0 10 (9 * ρ 4 + 7) 4 = ρ 19 := m19
  have m20 : γ 0 10 (9 * ρ 4 + 7) 5 = ρ 20 := m20
  have m21 : γ 0 10 (9 * ρ 4 + 7) 8 = ρ 21 := m21
  have m22 : γ 0 10 (9 * ρ 4 + 7) 9 = ρ 22 := m22
  have m23 : γ 0 10 (9 * ρ 4 + 7) 10 = ρ 23 := m23
  have m24 : γ 0 10 (9 * ρ 4 + 7) 11 = ρ 24 := m24
  have m25 : γ 0 10 (9 * ρ 4 + 8) 4 = ρ 25 := m25
  have m26 : γ 0 10 (9 * ρ 4 + 8) 5 = ρ 26 := m26
  have m27 : γ 0 10 (9 * ρ 4 + 8) 8 = ρ 27 := m27
  have m28 : γ 0 10 (9 * ρ 4 + 8) 9 = ρ 28 := m28
  have m29 : γ 0 10 (9 * ρ 4 + 8) 10 = ρ 29 := m29
  have m30 : γ 0 10 (9 * ρ 4 + 8) 11 = ρ 30 := m30
  have m31 : γ 0 40 0 (ρ 5) = ρ 31 := m31
  have m32 : γ 3 6 0 0 = ρ 32 := m32
  have m33 : γ 3 8 (ρ 2) 1 = ρ 33 := m33
  have m34 : γ 3 4 0 7 = ρ 34 := m34
  have m35 : γ 3 5 0 3 = ρ 35 := m35
  have m36 : γ 3 6 0 13 = ρ 36 := m36
  obtain ⟨⟨⟨-, c1⟩, c2⟩, c3⟩ := hc
  have c1 : ∀ (G : Nat) (k j : Int), ¬ rMdP m0_ G j → γ 1 G k j = γ 0 G k j := c1
  have c2 : ∀ (G : Nat) (k j : Int), ¬ rMdP m132_ G j → γ 2 G k j = γ 1 G k j := c2
  have c3 : ∀ (G : Nat) (k j : Int), ¬ rMdP m140_ G j → γ 3 G k j = γ 2 G k j := c3
  obtain ⟨l0, l1, l2, -⟩ := hl
  have l0 : sn132 [ρ 4, 6] (γ 0) 0 (9 * ρ 4 + 7) (γ 1) := hS132 _ _ _ _ _ l0
  have l1 : sn228 [9 * ρ 4 + 7, ρ 6, ρ 10, ρ 20, ρ 21, ρ 22] (γ 1) 0 0 (γ 2) := hS228 _ _ _ _ _ l1
  have l2 : sn247 [ρ 0, ρ 1, ρ 2, ρ 3, ρ 4, ρ 5, ρ 6, ρ 7, ρ 8, ρ 9, ρ 10, ρ 11, ρ 12, ρ 13, ρ 14, ρ 15, ρ 16, ρ 17, ρ 18, ρ 25, ρ 26, ρ 27, ρ 28, ρ 29, ρ 30] (γ 2) 4 0 (γ 3) := hS247 _ _ _ _ _ l2
  show sn249 [ρ 0, ρ 1, ρ 2, ρ 3, ρ 4, ρ 5, ρ 6, ρ 7, ρ 8, ρ 9, ρ 10, ρ 11, ρ 12, ρ 13, ρ 14, ρ 15, ρ 16, ρ 17, ρ 18, ρ 19, ρ 20, ρ 21, ρ 22, ρ 23, ρ 24, ρ 25, ρ 26, ρ 27, ρ 28, ρ 29, ρ 30] (γ 0) 4 0 (γ 3)
  refine Eq.symm ?_
  show fn249 [] (γ 0) = _
  unfold fn249
  refine (zLet_eq m4).trans ?_
  refine (zLet_eq m13).trans ?_
  refine (zLet_eq m19).trans ?_
  refine (if_neg (show ¬ (6 ≥ ρ 13) by omega)).trans ?_
  refine (zLet_eq (show fn132 [ρ 4, 6] (γ 0) = (0, 9 * ρ 4 + 7, γ 1) from l0.symm)).trans ?_
  refine (zLet_eq (show _ = γ 1 from rfl)).trans ?_
  refine (if_pos (show ρ 19 ≠ 1 by omega)).trans ?_
  refine (if_pos (show 0 ≤ -ρ 19 + 3 by omega)).trans ?_
  refine (if_neg (show ¬ (ρ 19 ≠ 2) by omega)).trans ?_
  refine (zLet_eq (show fn228 [9 * ρ 4 + 7] (γ 1) = (0, 0, γ 2) from l1.symm)).trans ?_
  refine (zLet_eq (show _ = γ 2 from rfl)).trans ?_
  refine (if_neg (show ¬ ((1 : Int) ≤ 0) by omega)).trans ?_
  refine (zLet_eq (show fn247 [] (γ 2) = (4, 0, γ 3) from l2.symm)).trans ?_
  refine (zLet_eq (show _ = γ 3 from rfl)).trans ?_
  refine (if_neg (show ¬ (4 : Nat) = 0 by decide)).trans ?_
  refine (if_neg (show ¬ (4 : Nat) = 1 by decide)).trans ?_
  rfl
theorem vn249_9 {S : Nat → zSpc} (hS132 : ∀ x g o v gz, S 132 x g o v gz → sn132 x g o v gz) (hS228 : ∀ x g o v gz, S 228 x g o v gz → sn228 x g o v gz) (hS229 : ∀ x g o v gz, S 229 x g o v gz → sn229 x g o v gz) (hS230 : ∀ x g o v gz, S 230 x g o v gz → sn230 x g o v gz) (hS231 : ∀ x g o v gz, S 231 x g o v gz → sn231 x g o v gz) (hS244 : ∀ x g o v gz, S 244 x g o v gz → sn244 x g o v gz) (hS247 : ∀ x g o v gz, S 247 x g o v gz → sn247 x g o v gz) (hS248 : ∀ x g o v gz, S 248 x g o v gz → sn248 x g o v gz) {a : List Int} {g : rHp} : ∀ (ρ : Nat → Int) (γ : Nat → rHp), zO 31 S a g q249_9 ρ γ → zGl (fun _ _ _ => True) (sn249 a g) q249_9 ρ γ := by
  intro ρ γ h
  obtain ⟨ha, hg, hr, hf, hm, hc, hl⟩ := h
  have ha : a = [ρ 0, ρ 1, ρ 2, ρ 3, ρ 4, ρ 5, ρ 6, ρ 7, ρ 8, ρ 9, ρ 10, ρ 11, ρ 12, ρ 13, ρ 14, ρ 15, ρ 16, ρ 17, ρ 18, ρ 19, ρ 20, ρ 21, ρ 22, ρ 23, ρ 24, ρ 25, ρ 26, ρ 27, ρ 28, ρ 29, ρ 30] := ha
  subst ha
  subst hg
  obtain ⟨r0, r1, r2, r3, r4, r5, r6, r7, r8, r9, r10, r11, r12, r13, r14, r15, r16, r17, r18, r19, r20, r21, r22, r23, r24, r25, r26, r27, r28, r29, r30, r31, -⟩ := hr
  have r0 : (0 : Int) ≤ ρ 0 ∧ ρ 0 ≤ 50000 := r0
  have r1 : (0 : Int) ≤ ρ 1 ∧ ρ 1 ≤ 2 := r1
  have r2 : (0 : Int) ≤ ρ 2 ∧ ρ 2 ≤ 2 := r2
  have r3 : (0 : Int) ≤ ρ 3 ∧ ρ 3 ≤ 50001 := r3
  have r4 : (0 : Int) ≤ ρ 4 ∧ ρ 4 ≤ 62 := r4
  have r5 : (0 : Int) ≤ ρ 5 ∧ ρ 5 ≤ 60 := r5
  have r6 : (0 : Int) ≤ ρ 6 ∧ ρ 6 ≤ 2000 := r6
  have r7 : (0 : Int) ≤ ρ 7 ∧ ρ 7 ≤ 2000 := r7
  have r8 : ((-2147483648) : Int) ≤ ρ 8 ∧ ρ 8 ≤ 2147483647 := r8
  have r9 : ((-2147483648) : Int) ≤ ρ 9 ∧ ρ 9 ≤ 2147483647 := r9
  have r10 : (0 : Int) ≤ ρ 10 ∧ ρ 10 ≤ 2000 := r10
  have r11 : (0 : Int) ≤ ρ 11 ∧ ρ 11 ≤ 2000 := r11
  have r12 : ((-2147483648) : Int) ≤ ρ 12 ∧ ρ 12 ≤ 2147483647 := r12
  have r13 : (7 : Int) ≤ ρ 13 ∧ ρ 13 ≤ 8 := r13
  have r14 : (0 : Int) ≤ ρ 14 ∧ ρ 14 ≤ 8 := r14
  have r15 : (0 : Int) ≤ ρ 15 ∧ ρ 15 ≤ 4 := r15
  have r16 : ((-1) : Int) ≤ ρ 16 ∧ ρ 16 ≤ 19 := r16
  have r17 : (0 : Int) ≤ ρ 17 ∧ ρ 17 ≤ 4 := r17
  have r18 : ((-1) : Int) ≤ ρ 18 ∧ ρ 18 ≤ 7 := r18
  have r19 : (2 : Int) ≤ ρ 19 ∧ ρ 19 ≤ 2 := r19
  have r20 : (0 : Int) ≤ ρ 20 ∧ ρ 20 ≤ 4 := r20
  have r21 : ((-1) : Int) ≤ ρ 21 ∧ ρ 21 ≤ 19 := r21
  have r22 : ((-1) : Int) ≤ ρ 22 ∧ ρ 22 ≤ 3 := r22
  have r23 : (0 : Int) ≤ ρ 23 ∧ ρ 23 ≤ 7 := r23
  have r24 : ((-1) : Int) ≤ ρ 24 ∧ ρ 24 ≤ 7 := r24
  have r25 : (0 : Int) ≤ ρ 25 ∧ ρ 25 ≤ 8 := r25
  have r26 : (0 : Int) ≤ ρ 26 ∧ ρ 26 ≤ 4 := r26
  have r27 : ((-1) : Int) ≤ ρ 27 ∧ ρ 27 ≤ 19 := r27
  have r28 : ((-1) : Int) ≤ ρ 28 ∧ ρ 28 ≤ 3 := r28
  have r29 : (0 : Int) ≤ ρ 29 ∧ ρ 29 ≤ 7 := r29
  have r30 : ((-1) : Int) ≤ ρ 30 ∧ ρ 30 ≤ 7 := r30
  have r31 : (0 : Int) ≤ ρ 31 ∧ ρ 31 ≤ 60 := r31
  obtain ⟨f0, -⟩ := hf
  have f0 : (0 : Int) ≤ -ρ 3 + ((-50001) * ρ 1 + ρ 0) + 100002 := f0
  obtain ⟨m0, m1, m2, m3, m4, m5, m6, m7, m8, m9, m10, m11, m12, m13, m14, m15, m16, m17, m18, m19, m20, m21, m22, m23, m24, m25, m26, m27, m28, m29, m30, m31, -⟩ := hm
  have m0 : γ 0 6 0 0 = ρ 0 := m0
  have m1 : γ 0 6 0 9 = ρ 1 := m1
  have m2 : γ 0 6 0 6 = ρ 2 := m2
  have m3 : γ 0 8 (ρ 2) 1 = ρ 3 := m3
  have m4 : γ 0 6 0 7 = ρ 4 := m4
  have m5 : γ 0 1 0 10 = ρ 5 := m5
  have m6 : γ 0 4 0 7 = ρ 6 := m6
  have m7 : γ 0 5 0 3 = ρ 7 := m7
  have m8 : γ 0 6 0 8 = ρ 8 := m8
  have m9 : γ 0 6 0 10 = ρ 9 := m9
  have m10 : γ 0 6 0 11 = ρ 10 := m10
  have m11 : γ 0 6 0 12 = ρ 11 := m11
  have m12 : γ 0 6 0 13 = ρ 12 := m12
  have m13 : γ 0 9 (ρ 4) 2 = ρ 13 := m13
  have m14 : γ 0 9 (ρ 4) 3 = ρ 14 := m14
  have m15 : γ 0 10 (9 * ρ 4) 5 = ρ 15 := m15
  have m16 : γ 0 10 (9 * ρ 4) 8 = ρ 16 := m16
  have m17 : γ 0 10 (9 * ρ 4) 12 = ρ 17 := m17
  have m18 : γ 0 10 (9 * ρ 4) 14 = ρ 18 := m18
  have m19 : γ 0 10 (9 * ρ 4 + 7) 4 = ρ 19 := m19
  have m20 : γ 0 10 (9 * ρ 4 + 7) 5 = ρ 20 := m20
  have m21 : γ 0 10 (9 * ρ 4 + 7) 8 = ρ 21 := m21
  have m22 : γ 0 10 (9 * ρ 4 + 7) 9 = ρ 22 := m22
  have m23 : γ 0 10 (9 * ρ 4 + 7) 10 = ρ 23 := m23
  have m24 : γ 0 10 (9 * ρ 4 + 7) 11 = ρ 24 := m24
  have m25 : γ 0 10 (9 * ρ 4 + 8) 4 = ρ 25 := m25
  have m26 : γ 0 10 (9 * ρ 4 + 8) 5 = ρ 26 := m26
  have m27 : γ 0 10 (9 * ρ 4 + 8) 8 = ρ 27 := m27
  have m28 : γ 0 10 (9 * ρ 4 + 8) 9 = ρ 28 := m28
  have m29 : γ 0 10 (9 * ρ 4 + 8) 10 = ρ 29 := m29
  have m30 : γ 0 10 (9 * ρ 4 + 8) 11 = ρ 30 := m30
  have m31 : γ 0 40 0 (ρ 5) = ρ 31 := m31
  obtain ⟨⟨-, c1⟩, c2⟩ := hc
  have c1 : ∀ (G : Nat) (k j : Int), ¬ rMdP m0_ G j → γ 1 G k j = γ 0 G k j := c1
  have c2 : ∀ (G : Nat) (k j : Int), ¬ rMdP m132_ G j → γ 2 G k j = γ 1 G k j := c2
  obtain ⟨l0, l1, -⟩ := hl
  have l0 : sn132 [ρ 4, 6] (γ 0) 0 (9 * ρ 4 + 7) (γ 1) := hS132 _ _ _ _ _ l0
  have l1 : sn228 [9 * ρ 4 + 7, ρ 6, ρ 10, ρ 20, ρ 21, ρ 22] (γ 1) 0 1 (γ 2) := hS228 _ _ _ _ _ l1
  show sn249 [ρ 0, ρ 1, ρ 2, ρ 3, ρ 4, ρ 5, ρ 6, ρ 7, ρ 8, ρ 9, ρ 10, ρ 11, ρ 12, ρ 13, ρ 14, ρ 15, ρ 16, ρ 17, ρ 18, ρ 19, ρ 20, ρ 21, ρ 22, ρ 23, ρ 24, ρ 25, ρ 26, ρ 27, ρ 28, ρ 29, ρ 30] (γ 0) 0 0 (γ 2)
  refine Eq.symm ?_
  show fn249 [] (γ 0) = _
  unfold fn249
  refine (zLet_eq m4).trans ?_
  refine (zLet_eq m13).trans ?_
  refine (zLet_eq m19).trans ?_
  refine (if_neg (show ¬ (6 ≥ ρ 13) by omega)).trans ?_
  refine (zLet_eq (show fn132 [ρ 4, 6] (γ 0) = (0, 9 * ρ 4 + 7, γ 1) from l0.symm)).trans ?_
  refine (zLet_eq (show _ = γ 1 from rfl)).trans ?_
  refine (if_pos (show ρ 19 ≠ 1 by omega)).trans ?_
  refine (if_pos (show 0 ≤ -ρ 19 + 3 by omega)).trans ?_
  refine (if_neg (show ¬ (ρ 19 ≠ 2) by omega)).trans ?_
  refine (zLet_eq (show fn228 [9 * ρ 4 + 7] (γ 1) = (0, 1, γ 2) from l1.symm)).trans ?_
  refine (zLet_eq (show _ = γ 2 from rfl)).trans ?_
  refine (if_pos (show (1 : Int) ≤ 1 by omega)).trans ?_
  rfl
theorem vn249_10 {S : Nat → zSpc} (hS132 : ∀ x g o v gz, S 132 x g o v gz → sn132 x g o v gz) (hS228 : ∀ x g o v gz, S 228 x g o v gz → sn228 x g o v gz) (hS229 : ∀ x g o v gz, S 229 x g o v gz → sn229 x g o v gz) (hS230 : ∀ x g o v gz, S 230 x g o v gz → sn230 x g o v gz) (hS231 : ∀ x g o v gz, S 231 x g o v gz → sn231 x g o v gz) (hS244 : ∀ x g o v gz, S 244 x g o v gz → sn244 x g o v gz) (hS247 : ∀ x g o v gz, S 247 x g o v gz → sn247 x g o v gz) (hS248 : ∀ x g o v gz, S 248 x g o v gz → sn248 x g o v gz) {a : List Int} {g : rHp} : ∀ (ρ : Nat → Int) (γ : Nat → rHp), zO 31 S a g q249_10 ρ γ → zGl (fun _ _ _ => True) (sn249 a g) q249_10 ρ γ := by
  intro ρ γ h
  obtain ⟨ha, hg, hr, hf, hm, hc, hl⟩ := h
  have ha : a = [ρ 0, ρ 1, ρ 2, ρ 3, ρ 4, ρ 5, ρ 6, ρ 7, ρ 8, ρ 9, ρ 10, ρ 11, ρ 12, ρ 13, ρ 14, ρ 15, ρ 16, ρ 17, ρ 18, ρ 19, ρ 20, ρ 21, ρ 22, ρ 23, ρ 24, ρ 25, ρ 26, ρ 27, ρ 28, ρ 29, ρ 30] := ha
  subst ha
  subst hg
  obtain ⟨r0, r1, r2, r3, r4, r5, r6, r7, r8, r9, r10, r11, r12, r13, r14, r15, r16, r17, r18, r19, r20, r21, r22, r23, r24, r25, r26, r27, r28, r29, r30, r31, -⟩ := hr
  have r0 : (0 : Int) ≤ ρ 0 ∧ ρ 0 ≤ 50000 := r0
  have r1 : (0 : Int) ≤ ρ 1 ∧ ρ 1 ≤ 2 := r1
  have r2 : (0 : Int) ≤ ρ 2 ∧ ρ 2 ≤ 2 := r2
  have r3 : (0 : Int) ≤ ρ 3 ∧ ρ 3 ≤ 50001 := r3
  have r4 : (0 : Int) ≤ ρ 4 ∧ ρ 4 ≤ 62 := r4
  have r5 : (0 : Int) ≤ ρ 5 ∧ ρ 5 ≤ 60 := r5
  have r6 : (0 : Int) ≤ ρ 6 ∧ ρ 6 ≤ 2000 := r6
  have r7 : (0 : Int) ≤ ρ 7 ∧ ρ 7 ≤ 2000 := r7
  have r8 : ((-2147483648) : Int) ≤ ρ 8 ∧ ρ 8 ≤ 2147483647 := r8
  have r9 : ((-2147483648) : Int) ≤ ρ 9 ∧ ρ 9 ≤ 2147483647 := r9
  have r10 : (0 : Int) ≤ ρ 10 ∧ ρ 10 ≤ 2000 := r10
  have r11 : (0 : Int) ≤ ρ 11 ∧ ρ 11 ≤ 2000 := r11
  have r12 : ((-2147483648) : Int) ≤ ρ 12 ∧ ρ 12 ≤ 2147483647 := r12
  have r13 : (7 : Int) ≤ ρ 13 ∧ ρ 13 ≤ 8 := r13
  have r14 : (0 : Int) ≤ ρ 14 ∧ ρ 14 ≤ 8 := r14
  have r15 : (0 : Int) ≤ ρ 15 ∧ ρ 15 ≤ 4 := r15
  have r16 : ((-1) : Int) ≤ ρ 16 ∧ ρ 16 ≤ 19 := r16
  have r17 : (0 : Int) ≤ ρ 17 ∧ ρ 17 ≤ 4 := r17
  have r18 : ((-1) : Int) ≤ ρ 18 ∧ ρ 18 ≤ 7 := r18
  have r19 : (4 : Int) ≤ ρ 19 ∧ ρ 19 ≤ 5 := r19
  have r20 : (0 : Int) ≤ ρ 20 ∧ ρ 20 ≤ 4 := r20
  have r21 : ((-1) : Int) ≤ ρ 21 ∧ ρ 21 ≤ 19 := r21
  have r22 : ((-1) : Int) ≤ ρ 22 ∧ ρ 22 ≤ 3 := r22
  have r23 : (0 : Int) ≤ ρ 23 ∧ ρ 23 ≤ 7 := r23
  have r24 : ((-1) : Int) ≤ ρ 24 ∧ ρ 24 ≤ 7 := r24
  have r25 : (0 : Int) ≤ ρ 25 ∧ ρ 25 ≤ 8 := r25
  have r26 : (0 : Int) ≤ ρ 26 ∧ ρ 26 ≤ 4 := r26
  have r27 : ((-1) : Int) ≤ ρ 27 ∧ ρ 27 ≤ 19 := r27
  have r28 : ((-1) : Int) ≤ ρ 28 ∧ ρ 28 ≤ 3 := r28
  have r29 : (0 : Int) ≤ ρ 29 ∧ ρ 29 ≤ 7 := r29
  have r30 : ((-1) : Int) ≤ ρ 30 ∧ ρ 30 ≤ 7 := r30
  have r31 : (0 : Int) ≤ ρ 31 ∧ ρ 31 ≤ 60 := r31
  obtain ⟨f0, -⟩ := hf
  have f0 : (0 : Int) ≤ -ρ 3 + ((-50001) * ρ 1 + ρ 0) + 100002 := f0
  obtain ⟨m0, m1, m2, m3, m4, m5, m6, m7, m8, m9, m10, m11, m12, m13, m14, m15, m16, m17, m18, m19, m20, m21, m22, m23, m24, m25, m26, m27, m28, m29, m30, m31, -⟩ := hm
  have m0 : γ 0 6 0 0 = ρ 0 := m0
  have m1 : γ 0 6 0 9 = ρ 1 := m1
  have m2 : γ 0 6 0 6 = ρ 2 := m2
  have m3 : γ 0 8 (ρ 2) 1 = ρ 3 := m3
  have m4 : γ 0 6 0 7 = ρ 4 := m4
  have m5 : γ 0 1 0 10 = ρ 5 := m5
  have m6 : γ 0 4 0 7 = ρ 6 := m6
  have m7 : γ 0 5 0 3 = ρ 7 := m7
  have m8 : γ 0 6 0 8 = ρ 8 := m8
  have m9 : γ 0 6 0 10 = ρ 9 := m9
  have m10 : γ 0 6 0 11 = ρ 10 := m10
  have m11 : γ 0 6 0 12 = ρ 11 := m11
  have m12 : γ 0 6 0 13 = ρ 12 := m12
  have m13 : γ 0 9 (ρ 4) 2 = ρ 13 := m13
  have m14 : γ 0 9 (ρ 4) 3 = ρ 14 := m14
  have m15 : γ 0 10 (9 * ρ 4) 5 = ρ 15 := m15
  have m16 : γ 0 10 (9 * ρ 4) 8 = ρ 16 := m16
  have m17 : γ 0 10 (9 * ρ 4) 12 = ρ 17 := m17
  have m18 : γ 0 10 (9 * ρ 4) 14 = ρ 18 := m18
  have m19 : γ 0 10 (9 * ρ 4 + 7) 4 = ρ 19 := m19
  have m20 : γ 0 10 (9 * ρ 4 + 7) 5 = ρ 20 := m20
  have m21 : γ 0 10 (9 * ρ 4 + 7) 8 = ρ 21 := m21
  have m22 : γ 0 10 (9 * ρ 4 + 7) 9 = ρ 22 := m22
  have m23 : γ 0 10 (9 * ρ 4 + 7) 10 = ρ 23 := m23
  have m24 : γ 0 10 (9 * ρ 4 + 7) 11 = ρ 24 := m24
  have m25 : γ 0 10 (9 * ρ 4 + 8) 4 = ρ 25 := m25
  have m26 : γ 0 10 (9 * ρ 4 + 8) 5 = ρ 26 := m26
  have m27 : γ 0 10 (9 * ρ 4 + 8) 8 = ρ 27 := m27
  have m28 : γ 0 10 (9 * ρ 4 + 8) 9 = ρ 28 := m28
  have m29 : γ 0 10 (9 * ρ 4 + 8) 10 = ρ 29 := m29
  have m30 : γ 0 10 (9 * ρ 4 + 8) 11 = ρ 30 := m30
  have m31 : γ 0 40 0 (ρ 5) = ρ 31 := m31
  obtain ⟨⟨-, c1⟩, c2⟩ := hc
  have c1 : ∀ (G : Nat) (k j : Int), ¬ rMdP m0_ G j → γ 1 G k j = γ 0 G k j := c1
  have c2 : ∀ (G : Nat) (k j : Int), ¬ rMdP m0_ G j → γ 2 G k j = γ 1 G k j := c2
  obtain ⟨l0, l1, -⟩ := hl
  have l0 : sn132 [ρ 4, 6] (γ 0) 0 (9 * ρ 4 + 7) (γ 1) := hS132 _ _ _ _ _ l0
  have l1 : sn229 [9 * ρ 4 + 7, ρ 19] (γ 1) 0 0 (γ 2) := hS229 _ _ _ _ _ l1
  show sn249 [ρ 0, ρ 1, ρ 2, ρ 3, ρ 4, ρ 5, ρ 6, ρ 7, ρ 8, ρ 9, ρ 10, ρ 11, ρ 12, ρ 13, ρ 14, ρ 15, ρ 16, ρ 17, ρ 18, ρ 19, ρ 20, ρ 21, ρ 22, ρ 23, ρ 24, ρ 25, ρ 26, ρ 27, ρ 28, ρ 29, ρ 30] (γ 0) 0 0 (γ 2)
  refine Eq.symm ?_
  show fn249 [] (γ 0) = _
  unfold fn249
  refine (zLet_eq m4).trans ?_
  refine (zLet_eq m13).trans ?_
  refine (zLet_eq m19).trans ?_
  refine (if_neg (show ¬ (6 ≥ ρ 13) by omega)).trans ?_
  refine (zLet_eq (show fn132 [ρ 4, 6] (γ 0) = (0, 9 * ρ 4 + 7, γ 1) from l0.symm)).trans ?_
  refine (zLet_eq (show _ = γ 1 from rfl)).trans ?_
  refine (if_pos (show ρ 19 ≠ 1 by omega)).trans ?_
  refine (if_neg (show ¬ (0 ≤ -ρ 19 + 3) by omega)).trans ?_
  refine (if_pos (show 0 ≤ -ρ 19 + 5 by omega)).trans ?_
  refine (zLet_eq (show fn229 [9 * ρ 4 + 7] (γ 1) = (0, 0, γ 2) from l1.symm)).trans ?_
  refine (zLet_eq (show _ = γ 2 from rfl)).trans ?_
  refine (if_neg (show ¬ ((1 : Int) ≤ 0) by omega)).trans ?_
  rfl
theorem vn249_11 {S : Nat → zSpc} (hS132 : ∀ x g o v gz, S 132 x g o v gz → sn132 x g o v gz) (hS228 : ∀ x g o v gz, S 228 x g o v gz → sn228 x g o v gz) (hS229 : ∀ x g o v gz, S 229 x g o v gz → sn229 x g o v gz) (hS230 : ∀ x g o v gz, S 230 x g o v gz → sn230 x g o v gz) (hS231 : ∀ x g o v gz, S 231 x g o v gz → sn231 x g o v gz) (hS244 : ∀ x g o v gz, S 244 x g o v gz → sn244 x g o v gz) (hS247 : ∀ x g o v gz, S 247 x g o v gz → sn247 x g o v gz) (hS248 : ∀ x g o v gz, S 248 x g o v gz → sn248 x g o v gz) {a : List Int} {g : rHp} : ∀ (ρ : Nat → Int) (γ : Nat → rHp), zO 31 S a g q249_11 ρ γ → zGl (fun _ _ _ => True) (sn249 a g) q249_11 ρ γ := by
  intro ρ γ h
  obtain ⟨ha, hg, hr, hf, hm, hc, hl⟩ := h
  have ha : a = [ρ 0, ρ 1, ρ 2, ρ 3, ρ 4, ρ 5, ρ 6, ρ 7, ρ 8, ρ 9, ρ 10, ρ 11, ρ 12, ρ 13, ρ 14, ρ 15, ρ 16, ρ 17, ρ 18, ρ 19, ρ 20, ρ 21, ρ 22, ρ 23, ρ 24, ρ 25, ρ 26, ρ 27, ρ 28, ρ 29, ρ 30] := ha
  subst ha
  subst hg
  obtain ⟨r0, r1, r2, r3, r4, r5, r6, r7, r8, r9, r10, r11, r12, r13, r14, r15, r16, r17, r18, r19, r20, r21, r22, r23, r24, r25, r26, r27, r28, r29, r30, r31, r32, r33, r34, r35, r36, -⟩ := hr
  have r0 : (0 : Int) ≤ ρ 0 ∧ ρ 0 ≤ 50000 := r0
  have r1 : (0 : Int) ≤ ρ 1 ∧ ρ 1 ≤ 2 := r1
  have r2 : (0 : Int) ≤ ρ 2 ∧ ρ 2 ≤ 2 := r2
  have r3 : (0 : Int) ≤ ρ 3 ∧ ρ 3 ≤ 50001 := r3
  have r4 : (0 : Int) ≤ ρ 4 ∧ ρ 4 ≤ 62 := r4
  have r5 : (0 : Int) ≤ ρ 5 ∧ ρ 5 ≤ 60 := r5
  have r6 : (0 : Int) ≤ ρ 6 ∧ ρ 6 ≤ 2000 := r6
  have r7 : (0 : Int) ≤ ρ 7 ∧ ρ 7 ≤ 2000 := r7
  have r8 : ((-2147483648) : Int) ≤ ρ 8 ∧ ρ 8 ≤ 2147483647 := r8
  have r9 : ((-2147483648) : Int) ≤ ρ 9 ∧ ρ 9 ≤ 2147483647 := r9
  have r10 : (0 : Int) ≤ ρ 10 ∧ ρ 10 ≤ 2000 := r10
  have r11 : (0 : Int) ≤ ρ 11 ∧ ρ 11 ≤ 2000 := r11
  have r12 : ((-2147483648) : Int) ≤ ρ 12 ∧ ρ 12 ≤ 2147483647 := r12
  have r13 : (7 : Int) ≤ ρ 13 ∧ ρ 13 ≤ 8 := r13
  have r14 : (0 : Int) ≤ ρ 14 ∧ ρ 14 ≤ 8 := r14
  have r15 : (0 : Int) ≤ ρ 15 ∧ ρ 15 ≤ 4 := r15
  have r16 : ((-1) : Int) ≤ ρ 16 ∧ ρ 16 ≤ 19 := r16
  have r17 : (0 : Int) ≤ ρ 17 ∧ ρ 17 ≤ 4 := r17
  have r18 : ((-1) : Int) ≤ ρ 18 ∧ ρ 18 ≤ 7 := r18
  have r19 : (4 : Int) ≤ ρ 19 ∧ ρ 19 ≤ 5 := r19
  have r20 : (0 : Int) ≤ ρ 20 ∧ ρ 20 ≤ 4 := r20
  have r21 : ((-1) : Int) ≤ ρ 21 ∧ ρ 21 ≤ 19 := r21
  have r22 : ((-1) : Int) ≤ ρ 22 ∧ ρ 22 ≤ 3 := r22
  have r23 : (0 : Int) ≤ ρ 23 ∧ ρ 23 ≤ 7 := r23
  have r24 : ((-1) : Int) ≤ ρ 24 ∧ ρ 24 ≤ 7 := r24
  have r25 : (0 : Int) ≤ ρ 25 ∧ ρ 25 ≤ 8 := r25
  have r26 : (0 : Int) ≤ ρ 26 ∧ ρ 26 ≤ 4 := r26
  have r27 : ((-1) : Int) ≤ ρ 27 ∧ ρ 27 ≤ 19 := r27
  have r28 : ((-1) : Int) ≤ ρ 28 ∧ ρ 28 ≤ 3 := r28
  have r29 : (0 : Int) ≤ ρ 29 ∧ ρ 29 ≤ 7 := r29
  have r30 : ((-1) : Int) ≤ ρ 30 ∧ ρ 30 ≤ 7 := r30
  have r31 : (0 : Int) ≤ ρ 31 ∧ ρ 31 ≤ 60 := r31
  have r32 : (0 : Int) ≤ ρ 32 ∧ ρ 32 ≤ 50000 := r32
  have r33 : (0 : Int) ≤ ρ 33 ∧ ρ 33 ≤ 50001 := r33
  have r34 : (0 : Int) ≤ ρ 34 ∧ ρ 34 ≤ 2000 := r34
  have r35 : (0 : Int) ≤ ρ 35 ∧ ρ 35 ≤ 2000 := r35
  have r36 : ((-2147483648) : Int) ≤ ρ 36 ∧ ρ 36 ≤ 2147483647 := r36
  obtain ⟨f0, f1, f2, f3, f4, f5, -⟩ := hf
  have f0 : (0 : Int) ≤ -ρ 3 + ((-50001) * ρ 1 + ρ 0) + 100002 := f0
  have f1 : (0 : Int) ≤ ρ 32 + -ρ 0 := f1
  have f2 : (0 : Int) ≤ ρ 33 + -ρ 3 := f2
  have f3 : (0 : Int) ≤ ρ 34 + -ρ 6 := f3
  have f4 : (0 : Int) ≤ ρ 35 + -ρ 7 := f4
  have f5 : (0 : Int) ≤ -ρ 33 + (ρ 32 + (ρ 3 + -ρ 0)) + 1 := f5
  obtain ⟨m0, m1, m2, m3, m4, m5, m6, m7, m8, m9, m10, m11, m12, m13, m14, m15, m16, m17, m18, m19, m20, m21, m22, m23, m24, m25, m26, m27, m28, m29, m30, m31, m32, m33, m34, m35, m36, -⟩ := hm
  have m0 : γ 0 6 0 0 = ρ 0 := m0
  have m1 : γ 0 6 0 9 = ρ 1 := m1
  have m2 : γ 0 6 0 6 = ρ 2 := m2
  have m3 : γ 0 8 (ρ 2) 1 = ρ 3 := m3
  have m4 : γ 0 6 0 7 = ρ 4 := m4
  have m5 : γ 0 1 0 10 = ρ 5 := m5
  have m6 : γ 0 4 0 7 = ρ 6 := m6
  have m7 : γ 0 5 0 3 = ρ 7 := m7
  have m8 : γ 0 6 0 8 = ρ 8 := m8
  have m9 : γ 0 6 0 10 = ρ 9 := m9
  have m10 : γ 0 6 0 11 = ρ 10 := m10
  have m11 : γ 0 6 0 12 = ρ 11 := m11
  have m12 : γ 0 6 0 13 = ρ 12 := m12
  have m13 : γ 0 9 (ρ 4) 2 = ρ 13 := m13
  have m14 : γ 0 9 (ρ 4) 3 = ρ 14 := m14
  have m15 : γ 0 10 (9 * ρ 4) 5 = ρ 15 := m15
  have m16 : γ 0 10 (9 * ρ 4) 8 = ρ 16 := m16
  have m17 : γ 0 10 (9 * ρ 4) 12 = ρ 17 := m17
  have m18 : γ 0 10 (9 * ρ 4) 14 = ρ 18 := m18
  have m19 : γ 0 10 (9 * ρ 4 + 7) 4 = ρ 19 := m19
  have m20 : γ 0 10 (9 * ρ 4 + 7) 5 = ρ 20 := m20
  have m21 : γ 0 10 (9 * ρ 4 + 7) 8 = ρ 21 := m21
  have m22 : γ 0 10 (9 * ρ 4 + 7) 9 = ρ 22 := m22
  have m23 : γ 0 10 (9 * ρ 4 + 7) 10 = ρ 23 := m23
  have m24 : γ 0 10 (9 * ρ 4 + 7) 11 = ρ 24 := m24
  have m25 : γ 0 10 (9 * ρ 4 + 8) 4 = ρ 25 := m25
  have m26 : γ 0 10 (9 * ρ 4 + 8) 5 = ρ 26 := m26
  have m27 : γ 0 10 (9 * ρ 4 + 8) 8 = ρ 27 := m27
  have m28 : γ 0 10 (9 * ρ 4 + 8) 9 = ρ 28 := m28
  have m29 : γ 0 10 (9 * ρ 4 + 8) 10 = ρ 29 := m29
  have m30 : γ 0 10 (9 * ρ 4 + 8) 11 = ρ 30 := m30
  have m31 : γ 0 40 0 (ρ 5) = ρ 31 := m31
  have m32 : γ 3 6 0 0 = ρ 32 := m32
  have m33 : γ 3 8 (ρ 2) 1 = ρ 33 := m33
  have m34 : γ 3 4 0 7 = ρ 34 := m34
  have m35 : γ 3 5 0 3 = ρ 35 := m35
  have m36 : γ 3 6 0 13 = ρ 36 := m36
  obtain ⟨⟨⟨-, c1⟩, c2⟩, c3⟩ := hc
  have c1 : ∀ (G : Nat) (k j : Int), ¬ rMdP m0_ G j → γ 1 G k j = γ 0 G k j := c1
  have c2 : ∀ (G : Nat) (k j : Int), ¬ rMdP m0_ G j → γ 2 G k j = γ 1 G k j := c2
  have c3 : ∀ (G : Nat) (k j : Int), ¬ rMdP m140_ G j → γ 3 G k j = γ 2 G k j := c3
  obtain ⟨l0, l1, l2, -⟩ := hl
  have l0 : sn132 [ρ 4, 6] (γ 0) 0 (9 * ρ 4 + 7) (γ 1) := hS132 _ _ _ _ _ l0
  have l1 : sn229 [9 * ρ 4 + 7, ρ 19] (γ 1) 0 1 (γ 2) := hS229 _ _ _ _ _ l1
  have l2 : sn247 [ρ 0, ρ 1, ρ 2, ρ 3, ρ 4, ρ 5, ρ 6, ρ 7, ρ 8, ρ 9, ρ 10, ρ 11, ρ 12, ρ 13, ρ 14, ρ 15, ρ 16, ρ 17, ρ 18, ρ 25, ρ 26, ρ 27, ρ 28, ρ 29, ρ 30] (γ 2) 0 0 (γ 3) := hS247 _ _ _ _ _ l2
  show sn249 [ρ 0, ρ 1, ρ 2, ρ 3, ρ 4, ρ 5, ρ 6, ρ 7, ρ 8, ρ 9, ρ 10, ρ 11, ρ 12, ρ 13, ρ 14, ρ 15, ρ 16, ρ 17, ρ 18, ρ 19, ρ 20, ρ 21, ρ 22, ρ 23, ρ 24, ρ 25, ρ 26, ρ 27, ρ 28, ρ 29, ρ 30] (γ 0) 0 0 (γ 3)
  refine Eq.symm ?_
  show fn249 [] (γ 0) = _
  unfold fn249
  refine (zLet_eq m4).trans ?_
  refine (zLet_eq m13).trans ?_
  refine (zLet_eq m19).trans ?_
  refine (if_neg (show ¬ (6 ≥ ρ 13) by omega)).trans ?_
  refine (zLet_eq (show fn132 [ρ 4, 6] (γ 0) = (0, 9 * ρ 4 + 7, γ 1) from l0.symm)).trans ?_
  refine (zLet_eq (show _ = γ 1 from rfl)).trans ?_
  refine (if_pos (show ρ 19 ≠ 1 by omega)).trans ?_
  refine (if_neg (show ¬ (0 ≤ -ρ 19 + 3) by omega)).trans ?_
  refine (if_pos (show 0 ≤ -ρ 19 + 5 by omega)).trans ?_
  refine (zLet_eq (show fn229 [9 * ρ 4 + 7] (γ 1) = (0, 1, γ 2) from l1.symm)).trans ?_
  refine (zLet_eq (show _ = γ 2 from rfl)).trans ?_
  refine (if_pos (show (1 : Int) ≤ 1 by omega)).trans ?_
  refine (zLet_eq (show fn247 [] (γ 2) = (0, 0, γ 3) from l2.symm)).trans ?_
  refine (zLet_eq (show _ = γ 3 from rfl)).trans ?_
  refine (if_pos (show (0 : Nat) = 0 by decide)).trans ?_
  rfl
theorem vn249_12 {S : Nat → zSpc} (hS132 : ∀ x g o v gz, S 132 x g o v gz → sn132 x g o v gz) (hS228 : ∀ x g o v gz, S 228 x g o v gz → sn228 x g o v gz) (hS229 : ∀ x g o v gz, S 229 x g o v gz → sn229 x g o v gz) (hS230 : ∀ x g o v gz, S 230 x g o v gz → sn230 x g o v gz) (hS231 : ∀ x g o v gz, S 231 x g o v gz → sn231 x g o v gz) (hS244 : ∀ x g o v gz, S 244 x g o v gz → sn244 x g o v gz) (hS247 : ∀ x g o v gz, S 247 x g o v gz → sn247 x g o v gz) (hS248 : ∀ x g o v gz, S 248 x g o v gz → sn248 x g o v gz) {a : List Int} {g : rHp} : ∀ (ρ : Nat → Int) (γ : Nat → rHp), zO 31 S a g q249_12 ρ γ → zGl (fun _ _ _ => True) (sn249 a g) q249_12 ρ γ := by
  intro ρ γ h
  obtain ⟨ha, hg, hr, hf, hm, hc, hl⟩ := h
  have ha : a = [ρ 0, ρ 1, ρ 2, ρ 3, ρ 4, ρ 5, ρ 6, ρ 7, ρ 8, ρ 9, ρ 10, ρ 11, ρ 12, ρ 13, ρ 14, ρ 15, ρ 16, ρ 17, ρ 18, ρ 19, ρ 20, ρ 21, ρ 22, ρ 23, ρ 24, ρ 25, ρ 26, ρ 27, ρ 28, ρ 29, ρ 30] := ha
  subst ha
  subst hg
  obtain ⟨r0, r1, r2, r3, r4, r5, r6, r7, r8, r9, r10, r11, r12, r13, r14, r15, r16, r17, r18, r19, r20, r21, r22, r23, r24, r25, r26, r27, r28, r29, r30, r31, r32, r33, r34, r35, r36, -⟩ := hr
  have r0 : (0 : Int) ≤ ρ 0 ∧ ρ 0 ≤ 50000 := r0
  have r1 : (0 : Int) ≤ ρ 1 ∧ ρ 1 ≤ 1 := r1
  have r2 : (0 : Int) ≤ ρ 2 ∧ ρ 2 ≤ 2 := r2
  have r3 : (0 : Int) ≤ ρ 3 ∧ ρ 3 ≤ 50001 := r3
  have r4 : (0 : Int) ≤ ρ 4 ∧ ρ 4 ≤ 62 := r4
  have r5 : (0 : Int) ≤ ρ 5 ∧ ρ 5 ≤ 60 := r5
  have r6 : (0 : Int) ≤ ρ 6 ∧ ρ 6 ≤ 2000 := r6
  have r7 : (0 : Int) ≤ ρ 7 ∧ ρ 7 ≤ 2000 := r7
  have r8 : ((-2147483648) : Int) ≤ ρ 8 ∧ ρ 8 ≤ 2147483647 := r8
  have r9 : ((-2147483648) : Int) ≤ ρ 9 ∧ ρ 9 ≤ 2147483647 := r9
  have r10 : (0 : Int) ≤ ρ 10 ∧ ρ 10 ≤ 2000 := r10
  have r11 : (0 : Int) ≤ ρ 11 ∧ ρ 11 ≤ 2000 := r11
  have r12 : ((-2147483648) : Int) ≤ ρ 12 ∧ ρ 12 ≤ 2147483647 := r12
  have r13 : (7 : Int) ≤ ρ 13 ∧ ρ 13 ≤ 8 := r13
  have r14 : (0 : Int) ≤ ρ 14 ∧ ρ 14 ≤ 8 := r14
  have r15 : (0 : Int) ≤ ρ 15 ∧ ρ 15 ≤ 4 := r15
  have r16 : ((-1) : Int) ≤ ρ 16 ∧ ρ 16 ≤ 19 := r16
  have r17 : (0 : Int) ≤ ρ 17 ∧ ρ 17 ≤ 4 := r17
  have r18 : ((-1) : Int) ≤ ρ 18 ∧ ρ 18 ≤ 7 := r18
  have r19 : (4 : Int) ≤ ρ 19 ∧ ρ 19 ≤ 5 := r19
  have r20 : (0 : Int) ≤ ρ 20 ∧ ρ 20 ≤ 4 := r20
  have r21 : ((-1) : Int) ≤ ρ 21 ∧ ρ 21 ≤ 19 := r21
  have r22 : ((-1) : Int) ≤ ρ 22 ∧ ρ 22 ≤ 3 := r22
  have r23 : (0 : Int) ≤ ρ 23 ∧ ρ 23 ≤ 7 := r23
  have r24 : ((-1) : Int) ≤ ρ 24 ∧ ρ 24 ≤ 7 := r24
  have r25 : (0 : Int) ≤ ρ 25 ∧ ρ 25 ≤ 8 := r25
  have r26 : (0 : Int) ≤ ρ 26 ∧ ρ 26 ≤ 4 := r26
  have r27 : ((-1) : Int) ≤ ρ 27 ∧ ρ 27 ≤ 19 := r27
  have r28 : ((-1) : Int) ≤ ρ 28 ∧ ρ 28 ≤ 3 := r28
  have r29 : (0 : Int) ≤ ρ 29 ∧ ρ 29 ≤ 7 := r29
  have r30 : ((-1) : Int) ≤ ρ 30 ∧ ρ 30 ≤ 7 := r30
  have r31 : (0 : Int) ≤ ρ 31 ∧ ρ 31 ≤ 60 := r31
  have r32 : (0 : Int) ≤ ρ 32 ∧ ρ 32 ≤ 50000 := r32
  have r33 : (0 : Int) ≤ ρ 33 ∧ ρ 33 ≤ 50001 := r33
  have r34 : (0 : Int) ≤ ρ 34 ∧ ρ 34 ≤ 2000 := r34
  have r35 : (0 : Int) ≤ ρ 35 ∧ ρ 35 ≤ 2000 := r35
  have r36 : ((-2147483648) : Int) ≤ ρ 36 ∧ ρ 36 ≤ 2147483647 := r36
  obtain ⟨f0, f1, f2, f3, f4, f5, -⟩ := hf
  have f0 : (0 : Int) ≤ ρ 32 + -ρ 0 := f0
  have f1 : (0 : Int) ≤ ρ 33 + -ρ 3 := f1
  have f2 : (0 : Int) ≤ ρ 34 + -ρ 6 := f2
  have f3 : (0 : Int) ≤ ρ 35 + -ρ 7 := f3
  have f4 : (0 : Int) ≤ -ρ 33 + (ρ 32 + (ρ 3 + -ρ 0)) + 1 := f4
  have f5 : (0 : Int) ≤ -ρ 3 + ((-50001) * ρ 1 + ρ 0) + 100002 := f5
  obtain ⟨m0, m1, m2, m3, m4, m5, m6, m7, m8, m9, m10, m11, m12, m13, m14, m15, m16, m17, m18, m19, m20, m21, m22, m23, m24, m25, m26, m27, m28, m29, m30, m31, m32, m33, m34, m35, m36, -⟩ := hm
  have m0 : γ 0 6 0 0 = ρ 0 := m0
  have m1 : γ 0 6 0 9 = ρ 1 := m1
  have m2 : γ 0 6 0 6 = ρ 2 := m2
  have m3 : γ 0 8 (ρ 2) 1 = ρ 3 := m3
  have m4 : γ 0 6 0 7 = ρ 4 := m4
  have m5 : γ 0 1 0 10 = ρ 5 := m5
  have m6 : γ 0 4 0 7 = ρ 6 := m6
  have m7 : γ 0 5 0 3 = ρ 7 := m7
  have m8 : γ 0 6 0 8 = ρ 8 := m8
  have m9 : γ 0 6 0 10 = ρ 9 := m9
  have m10 : γ 0 6 0 11 = ρ 10 := m10
  have m11 : γ 0 6 0 12 = ρ 11 := m11
  have m12 : γ 0 6 0 13 = ρ 12 := m12
  have m13 : γ 0 9 (ρ 4) 2 = ρ 13 := m13
  have m14 : γ 0 9 (ρ 4) 3 = ρ 14 := m14
  have m15 : γ 0 10 (9 * ρ 4) 5 = ρ 15 := m15
  have m16 : γ 0 10 (9 * ρ 4) 8 = ρ 16 := m16
  have m17 : γ 0 10 (9 * ρ 4) 12 = ρ 17 := m17
  have m18 : γ 0 10 (9 * ρ 4) 14 = ρ 18 := m18
  have m19 : γ 0 10 (9 * ρ 4 + 7) 4 = ρ 19 := m19
  have m20 : γ 0 10 (9 * ρ 4 + 7) 5 = ρ 20 := m20
  have m21 : γ 0 10 (9 * ρ 4 + 7) 8 = ρ 21 := m21
  have m22 : γ 0 10 (9 * ρ 4 + 7) 9 = ρ 22 := m22
  have m23 : γ 0 10 (9 * ρ 4 + 7) 10 = ρ 23 := m23
  have m24 : γ 0 10 (9 * ρ 4 + 7) 11 = ρ 24 := m24
  have m25 : γ 0 10 (9 * ρ 4 + 8) 4 = ρ 25 := m25
  have m26 : γ 0 10 (9 * ρ 4 + 8) 5 = ρ 26 := m26
  have m27 : γ 0 10 (9 * ρ 4 + 8) 8 = ρ 27 := m27
  have m28 : γ 0 10 (9 * ρ 4 + 8) 9 = ρ 28 := m28
  have m29 : γ 0 10 (9 * ρ 4 + 8) 10 = ρ 29 := m29
  have m30 : γ 0 10 (9 * ρ 4 + 8) 11 = ρ 30 := m30
  have m31 : γ 0 40 0 (ρ 5) = ρ 31 := m31
  have m32 : γ 3 6 0 0 = ρ 32 := m32
  have m33 : γ 3 8 (ρ 2) 1 = ρ 33 := m33
  have m34 : γ 3 4 0 7 = ρ 34 := m34
  have m35 : γ 3 5 0 3 = ρ 35 := m35
  have m36 : γ 3 6 0 13 = ρ 36 := m36
  obtain ⟨⟨⟨-, c1⟩, c2⟩, c3⟩ := hc
  have c1 : ∀ (G : Nat) (k j : Int), ¬ rMdP m0_ G j → γ 1 G k j = γ 0 G k j := c1
  have c2 : ∀ (G : Nat) (k j : Int), ¬ rMdP m0_ G j → γ 2 G k j = γ 1 G k j := c2
  have c3 : ∀ (G : Nat) (k j : Int), ¬ rMdP m140_ G j → γ 3 G k j = γ 2 G k j := c3
  obtain ⟨l0, l1, l2, -⟩ := hl
  have l0 : sn132 [ρ 4, 6] (γ 0) 0 (9 * ρ 4 + 7) (γ 1) := hS132 _ _ _ _ _ l0
  have l1 : sn229 [9 * ρ 4 + 7, ρ 19] (γ 1) 0 1 (γ 2) := hS229 _ _ _ _ _ l1
  have l2 : sn247 [ρ 0, ρ 1, ρ 2, ρ 3, ρ 4, ρ 5, ρ 6, ρ 7, ρ 8, ρ 9, ρ 10, ρ 11, ρ 12, ρ 13, ρ 14, ρ 15, ρ 16, ρ 17, ρ 18, ρ 25, ρ 26, ρ 27, ρ 28, ρ 29, ρ 30] (γ 2) 1 0 (γ 3) := hS247 _ _ _ _ _ l2
  show sn249 [ρ 0, ρ 1, ρ 2, ρ 3, ρ 4, ρ 5, ρ 6, ρ 7, ρ 8, ρ 9, ρ 10, ρ 11, ρ 12, ρ 13, ρ 14, ρ 15, ρ 16, ρ 17, ρ 18, ρ 19, ρ 20, ρ 21, ρ 22, ρ 23, ρ 24, ρ 25, ρ 26, ρ 27, ρ 28, ρ 29, ρ 30] (γ 0) 1 0 (γ 3)
  refine Eq.symm ?_
  show fn249 [] (γ 0) = _
  unfold fn249
  refine (zLet_eq m4).trans ?_
  refine (zLet_eq m13).trans ?_
  refine (zLet_eq m19).trans ?_
  refine (if_neg (show ¬ (6 ≥ ρ 13) by omega)).trans ?_
  refine (zLet_eq (show fn132 [ρ 4, 6] (γ 0) = (0, 9 * ρ 4 + 7, γ 1) from l0.symm)).trans ?_
  refine (zLet_eq (show _ = γ 1 from rfl)).trans ?_
  refine (if_pos (show ρ 19 ≠ 1 by omega)).trans ?_
  refine (if_neg (show ¬ (0 ≤ -ρ 19 + 3) by omega)).trans ?_
  refine (if_pos (show 0 ≤ -ρ 19 + 5 by omega)).trans ?_
  refine (zLet_eq (show fn229 [9 * ρ 4 + 7] (γ 1) = (0, 1, γ 2) from l1.symm)).trans ?_
  refine (zLet_eq (show _ = γ 2 from rfl)).trans ?_
  refine (if_pos (show (1 : Int) ≤ 1 by omega)).trans ?_
  refine (zLet_eq (show fn247 [] (γ 2) = (1, 0, γ 3) from l2.symm)).trans ?_
  refine (zLet_eq (show _ = γ 3 from rfl)).trans ?_
  refine (if_neg (show ¬ (1 : Nat) = 0 by decide)).trans ?_
  refine (if_pos (show (1 : Nat) = 1 by decide)).trans ?_
  rfl
theorem vn249_13 {S : Nat → zSpc} (hS132 : ∀ x g o v gz, S 132 x g o v gz → sn132 x g o v gz) (hS228 : ∀ x g o v gz, S 228 x g o v gz → sn228 x g o v gz) (hS229 : ∀ x g o v gz, S 229 x g o v gz → sn229 x g o v gz) (hS230 : ∀ x g o v gz, S 230 x g o v gz → sn230 x g o v gz) (hS231 : ∀ x g o v gz, S 231 x g o v gz → sn231 x g o v gz) (hS244 : ∀ x g o v gz, S 244 x g o v gz → sn244 x g o v gz) (hS247 : ∀ x g o v gz, S 247 x g o v gz → sn247 x g o v gz) (hS248 : ∀ x g o v gz, S 248 x g o v gz → sn248 x g o v gz) {a : List Int} {g : rHp} : ∀ (ρ : Nat → Int) (γ : Nat → rHp), zO 31 S a g q249_13 ρ γ → zGl (fun _ _ _ => True) (sn249 a g) q249_13 ρ γ := by
  intro ρ γ h
  obtain ⟨ha, hg, hr, hf, hm, hc, hl⟩ := h
  have ha : a = [ρ 0, ρ 1, ρ 2, ρ 3, ρ 4, ρ 5, ρ 6, ρ 7, ρ 8, ρ 9, ρ 10, ρ 11, ρ 12, ρ 13, ρ 14, ρ 15, ρ 16, ρ 17, ρ 18, ρ 19, ρ 20, ρ 21, ρ 22, ρ 23, ρ 24, ρ 25, ρ 26, ρ 27, ρ 28, ρ 29, ρ 30] := ha
  subst ha
  subst hg
  obtain ⟨r0, r1, r2, r3, r4, r5, r6, r7, r8, r9, r10, r11, r12, r13, r14, r15, r16, r17, r18, r19, r20, r21, r22, r23, r24, r25, r26, r27, r28, r29, r30, r31, r32, r33, r34, r35, r36, -⟩ := hr
  have r0 : (0 : Int) ≤ ρ 0 ∧ ρ 0 ≤ 50000 := r0
  have r1 : (0 : Int) ≤ ρ 1 ∧ ρ 1 ≤ 2 := r1
  have r2 : (0 : Int) ≤ ρ 2 ∧ ρ 2 ≤ 2 := r2
  have r3 : (0 : Int) ≤ ρ 3 ∧ ρ 3 ≤ 50001 := r3
  have r4 : (0 : Int) ≤ ρ 4 ∧ ρ 4 ≤ 62 := r4
  have r5 : (0 : Int) ≤ ρ 5 ∧ ρ 5 ≤ 60 := r5
  have r6 : (0 : Int) ≤ ρ 6 ∧ ρ 6 ≤ 2000 := r6
  have r7 : (0 : Int) ≤ ρ 7 ∧ ρ 7 ≤ 2000 := r7
  have r8 : ((-2147483648) : Int) ≤ ρ 8 ∧ ρ 8 ≤ 2147483647 := r8
  have r9 : ((-2147483648) : Int) ≤ ρ 9 ∧ ρ 9 ≤ 2147483647 := r9
  have r10 : (0 : Int) ≤ ρ 10 ∧ ρ 10 ≤ 2000 := r10
  have r11 : (0 : Int) ≤ ρ 11 ∧ ρ 11 ≤ 2000 := r11
  have r12 : ((-2147483648) : Int) ≤ ρ 12 ∧ ρ 12 ≤ 2147483647 := r12
  have r13 : (8 : Int) ≤ ρ 13 ∧ ρ 13 ≤ 8 := r13
  have r14 : (0 : Int) ≤ ρ 14 ∧ ρ 14 ≤ 8 := r14
  have r15 : (0 : Int) ≤ ρ 15 ∧ ρ 15 ≤ 4 := r15
  have r16 : ((-1) : Int) ≤ ρ 16 ∧ ρ 16 ≤ 19 := r16
  have r17 : (0 : Int) ≤ ρ 17 ∧ ρ 17 ≤ 4 := r17
  have r18 : ((-1) : Int) ≤ ρ 18 ∧ ρ 18 ≤ 7 := r18
  have r19 : (4 : Int) ≤ ρ 19 ∧ ρ 19 ≤ 5 := r19
  have r20 : (0 : Int) ≤ ρ 20 ∧ ρ 20 ≤ 4 := r20
  have r21 : ((-1) : Int) ≤ ρ 21 ∧ ρ 21 ≤ 19 := r21
  have r22 : ((-1) : Int) ≤ ρ 22 ∧ ρ 22 ≤ 3 := r22
  have r23 : (0 : Int) ≤ ρ 23 ∧ ρ 23 ≤ 7 := r23
  have r24 : ((-1) : Int) ≤ ρ 24 ∧ ρ 24 ≤ 7 := r24
  have r25 : (1 : Int) ≤ ρ 25 ∧ ρ 25 ≤ 1 := r25
  have r26 : (0 : Int) ≤ ρ 26 ∧ ρ 26 ≤ 4 := r26
  have r27 : ((-1) : Int) ≤ ρ 27 ∧ ρ 27 ≤ 19 := r27
  have r28 : ((-1) : Int) ≤ ρ 28 ∧ ρ 28 ≤ 3 := r28
  have r29 : (0 : Int) ≤ ρ 29 ∧ ρ 29 ≤ 7 := r29
  have r30 : ((-1) : Int) ≤ ρ 30 ∧ ρ 30 ≤ 7 := r30
  have r31 : (0 : Int) ≤ ρ 31 ∧ ρ 31 ≤ 60 := r31
  have r32 : (50001 : Int) ≤ ρ 32 ∧ ρ 32 ≤ 50001 := r32
  have r33 : (0 : Int) ≤ ρ 33 ∧ ρ 33 ≤ 50001 := r33
  have r34 : (0 : Int) ≤ ρ 34 ∧ ρ 34 ≤ 2000 := r34
  have r35 : (0 : Int) ≤ ρ 35 ∧ ρ 35 ≤ 2000 := r35
  have r36 : ((-2147483648) : Int) ≤ ρ 36 ∧ ρ 36 ≤ 2147483647 := r36
  obtain ⟨f0, f1, f2, f3, f4, -⟩ := hf
  have f0 : (0 : Int) ≤ -ρ 3 + ((-50001) * ρ 1 + ρ 0) + 100002 := f0
  have f1 : (0 : Int) ≤ ρ 33 + -ρ 3 := f1
  have f2 : (0 : Int) ≤ ρ 34 + -ρ 6 := f2
  have f3 : (0 : Int) ≤ ρ 35 + -ρ 7 := f3
  have f4 : (0 : Int) ≤ -ρ 33 + (ρ 32 + (ρ 3 + -ρ 0)) + 1 := f4
  obtain ⟨m0, m1, m2, m3, m4, m5, m6, m7, m8, m9, m10, m11, m12, m13, m14, m15, m16, m17, m18, m19, m20, m21, m22, m23, m24, m25, m26, m27, m28, m29, m30, m31, m32, m33, m34, m35, m36, -⟩ := hm
  have m0 : γ 0 6 0 0 = ρ 0 := m0
  have m1 : γ 0 6 0 9 = ρ 1 := m1
  have m2 : γ 0 6 0 6 = ρ 2 := m2
  have m3 : γ 0 8 (ρ 2) 1 = ρ 3 := m3
  have m4 : γ 0 6 0 7 = ρ 4 := m4
  have m5 : γ 0 1 0 10 = ρ 5 := m5
  have m6 : γ 0 4 0 7 = ρ 6 := m6
  have m7 : γ 0 5 0 3 = ρ 7 := m7
  have m8 : γ 0 6 0 8 = ρ 8 := m8
  have m9 : γ 0 6 0 10 = ρ 9 := m9
  have m10 : γ 0 6 0 11 = ρ 10 := m10
  have m11 : γ 0 6 0 12 = ρ 11 := m11
  have m12 : γ 0 6 0 13 = ρ 12 := m12
  have m13 : γ 0 9 (ρ 4) 2 = ρ 13 := m13
  have m14 : γ 0 9 (ρ 4) 3 = ρ 14 := m14
  have m15 : γ 0 10 (9 * ρ 4) 5 = ρ 15 := m15
  have m16 : γ 0 10 (9 * ρ 4) 8 = ρ 16 := m16
  have m17 : γ 0 10 (9 * ρ 4) 12 = ρ 17 := m17
  have m18 : γ 0 10 (9 * ρ 4) 14 = ρ 18 := m18
  have m19 : γ 0 10 (9 * ρ 4 + 7) 4 = ρ 19 := m19
  have m20 : γ 0 10 (9 * ρ 4 + 7) 5 = ρ 20 := m20
  have m21 : γ 0 10 (9 * ρ 4 + 7) 8 = ρ 21 := m21
  have m22 : γ 0 10 (9 * ρ 4 + 7) 9 = ρ 22 := m22
  have m23 : γ 0 10 (9 * ρ 4 + 7) 10 = ρ 23 := m23
  have m24 : γ 0 10 (9 * ρ 4 + 7) 11 = ρ 24 := m24
  have m25 : γ 0 10 (9 * ρ 4 + 8) 4 = ρ 25 := m25
  have m26 : γ 0 10 (9 * ρ 4 + 8) 5 = ρ 26 := m26
  have m27 : γ 0 10 (9 * ρ 4 + 8) 8 = ρ 27 := m27
  have m28 : γ 0 10 (9 * ρ 4 + 8) 9 = ρ 28 := m28
  have m29 : γ 0 10 (9 * ρ 4 + 8) 10 = ρ 29 := m29
  have m30 : γ 0 10 (9 * ρ 4 + 8) 11 = ρ 30 := m30
  have m31 : γ 0 40 0 (ρ 5) = ρ 31 := m31
  have m32 : γ 3 6 0 0 = ρ 32 := m32
  have m33 : γ 3 8 (ρ 2) 1 = ρ 33 := m33
  have m34 : γ 3 4 0 7 = ρ 34 := m34
  have m35 : γ 3 5 0 3 = ρ 35 := m35
  have m36 : γ 3 6 0 13 = ρ 36 := m36
  obtain ⟨⟨⟨-, c1⟩, c2⟩, c3⟩ := hc
  have c1 : ∀ (G : Nat) (k j : Int), ¬ rMdP m0_ G j → γ 1 G k j = γ 0 G k j := c1
  have c2 : ∀ (G : Nat) (k j : Int), ¬ rMdP m0_ G j → γ 2 G k j = γ 1 G k j := c2
  have c3 : ∀ (G : Nat) (k j : Int), ¬ rMdP m140_ G j → γ 3 G k j = γ 2 G k j := c3
  obtain ⟨l0, l1, l2, -⟩ := hl
  have l0 : sn132 [ρ 4, 6] (γ 0) 0 (9 * ρ 4 + 7) (γ 1) := hS132 _ _ _ _ _ l0
  have l1 : sn229 [9 * ρ 4 + 7, ρ 19] (γ 1) 0 1 (γ 2) := hS229 _ _ _ _ _ l1
  have l2 : sn247 [ρ 0, ρ 1, ρ 2, ρ 3, ρ 4, ρ 5, ρ 6, ρ 7, ρ 8, ρ 9, ρ 10, ρ 11, ρ 12, ρ 13, ρ 14, ρ 15, ρ 16, ρ 17, ρ 18, ρ 25, ρ 26, ρ 27, ρ 28, ρ 29, ρ 30] (γ 2) 4 0 (γ 3) := hS247 _ _ _ _ _ l2
  show sn249 [ρ 0, ρ 1, ρ 2, ρ 3, ρ 4, ρ 5, ρ 6, ρ 7, ρ 8, ρ 9, ρ 10, ρ 11, ρ 12, ρ 13, ρ 14, ρ 15, ρ 16, ρ 17, ρ 18, ρ 19, ρ 20, ρ 21, ρ 22, ρ 23, ρ 24, ρ 25, ρ 26, ρ 27, ρ 28, ρ 29, ρ 30] (γ 0) 4 0 (γ 3)
  refine Eq.symm ?_
  show fn249 [] (γ 0) = _
  unfold fn249
  refine (zLet_eq m4).trans ?_
  refine (zLet_eq m13).trans ?_
  refine (zLet_eq m19).trans ?_
  refine (if_neg (show ¬ (6 ≥ ρ 13) by omega)).trans ?_
  refine (zLet_eq (show fn132 [ρ 4, 6] (γ 0) = (0, 9 * ρ 4 + 7, γ 1) from l0.symm)).trans ?_
  refine (zLet_eq (show _ = γ 1 from rfl)).trans ?_
  refine (if_pos (show ρ 19 ≠ 1 by omega)).trans ?_
  refine (if_neg (show ¬ (0 ≤ -ρ 19 + 3) by omega)).trans ?_
  refine (if_pos (show 0 ≤ -ρ 19 + 5 by omega)).trans ?_
  refine (zLet_eq (show fn229 [9 * ρ 4 + 7] (γ 1) = (0, 1, γ 2) from l1.symm)).trans ?_
  refine (zLet_eq (show _ = γ 2 from rfl)).trans ?_
  refine (if_pos (show (1 : Int) ≤ 1 by omega)).trans ?_
  refine (zLet_eq (show fn247 [] (γ 2) = (4, 0, γ 3) from l2.symm)).trans ?_
  refine (zLet_eq (show _ = γ 3 from rfl)).trans ?_
  refine (if_neg (show ¬ (4 : Nat) = 0 by decide)).trans ?_
  refine (if_neg (show ¬ (4 : Nat) = 1 by decide)).trans ?_
  rfl
theorem vn249_14 {S : Nat → zSpc} (hS132 : ∀ x g o v gz, S 132 x g o v gz → sn132 x g o v gz) (hS228 : ∀ x g o v gz, S 228 x g o v gz → sn228 x g o v gz) (hS229 : ∀ x g o v gz, S 229 x g o v gz → sn229 x g o v gz) (hS230 : ∀ x g o v gz, S 230 x g o v gz → sn230 x g o v gz) (hS231 : ∀ x g o v gz, S 231 x g o v gz → sn231 x g o v gz) (hS244 : ∀ x g o v gz, S 244 x g o v gz → sn244 x g o v gz) (hS247 : ∀ x g o v gz, S 247 x g o v gz → sn247 x g o v gz) (hS248 : ∀ x g o v gz, S 248 x g o v gz → sn248 x g o v gz) {a : List Int} {g : rHp} : ∀ (ρ : Nat → Int) (γ : Nat → rHp), zO 31 S a g q249_14 ρ γ → zGl (fun _ _ _ => True) (sn249 a g) q249_14 ρ γ := by
  intro ρ γ h
  obtain ⟨ha, hg, hr, hf, hm, hc, hl⟩ := h
  have ha : a = [ρ 0, ρ 1, ρ 2, ρ 3, ρ 4, ρ 5, ρ 6, ρ 7, ρ 8, ρ 9, ρ 10, ρ 11, ρ 12, ρ 13, ρ 14, ρ 15, ρ 16, ρ 17, ρ 18, ρ 19, ρ 20, ρ 21, ρ 22, ρ 23, ρ 24, ρ 25, ρ 26, ρ 27, ρ 28, ρ 29, ρ 30] := ha
  subst ha
  subst hg
  obtain ⟨r0, r1, r2, r3, r4, r5, r6, r7, r8, r9, r10, r11, r12, r13, r14, r15, r16, r17, r18, r19, r20, r21, r22, r23, r24, r25, r26, r27, r28, r29, r30, r31, -⟩ := hr
  have r0 : (0 : Int) ≤ ρ 0 ∧ ρ 0 ≤ 50000 := r0
  have r1 : (0 : Int) ≤ ρ 1 ∧ ρ 1 ≤ 2 := r1
  have r2 : (0 : Int) ≤ ρ 2 ∧ ρ 2 ≤ 2 := r2
  have r3 : (0 : Int) ≤ ρ 3 ∧ ρ 3 ≤ 50001 := r3
  have r4 : (0 : Int) ≤ ρ 4 ∧ ρ 4 ≤ 62 := r4
  have r5 : (0 : Int) ≤ ρ 5 ∧ ρ 5 ≤ 60 := r5
  have r6 : (0 : Int) ≤ ρ 6 ∧ ρ 6 ≤ 2000 := r6
  have r7 : (0 : Int) ≤ ρ 7 ∧ ρ 7 ≤ 2000 := r7
  have r8 : ((-2147483648) : Int) ≤ ρ 8 ∧ ρ 8 ≤ 2147483647 := r8
  have r9 : ((-2147483648) : Int) ≤ ρ 9 ∧ ρ 9 ≤ 2147483647 := r9
  have r10 : (0 : Int) ≤ ρ 10 ∧ ρ 10 ≤ 2000 := r10
  have r11 : (0 : Int) ≤ ρ 11 ∧ ρ 11 ≤ 2000 := r11
  have r12 : ((-2147483648) : Int) ≤ ρ 12 ∧ ρ 12 ≤ 2147483647 := r12
  have r13 : (7 : Int) ≤ ρ 13 ∧ ρ 13 ≤ 8 := r13
  have r14 : (0 : Int) ≤ ρ 14 ∧ ρ 14 ≤ 8 := r14
  have r15 : (0 : Int) ≤ ρ 15 ∧ ρ 15 ≤ 4 := r15
  have r16 : ((-1) : Int) ≤ ρ 16 ∧ ρ 16 ≤ 19 := r16
  have r17 : (0 : Int) ≤ ρ 17 ∧ ρ 17 ≤ 4 := r17
  have r18 : ((-1) : Int) ≤ ρ 18 ∧ ρ 18 ≤ 7 := r18
  have r19 : (6 : Int) ≤ ρ 19 ∧ ρ 19 ≤ 8 := r19
  have r20 : (0 : Int) ≤ ρ 20 ∧ ρ 20 ≤ 4 := r20
  have r21 : ((-1) : Int) ≤ ρ 21 ∧ ρ 21 ≤ 19 := r21
  have r22 : ((-1) : Int) ≤ ρ 22 ∧ ρ 22 ≤ 3 := r22
  have r23 : (0 : Int) ≤ ρ 23 ∧ ρ 23 ≤ 7 := r23
  have r24 : (0 : Int) ≤ ρ 24 ∧ ρ 24 ≤ 7 := r24
  have r25 : (0 : Int) ≤ ρ 25 ∧ ρ 25 ≤ 8 := r25
  have r26 : (0 : Int) ≤ ρ 26 ∧ ρ 26 ≤ 4 := r26
  have r27 : ((-1) : Int) ≤ ρ 27 ∧ ρ 27 ≤ 19 := r27
  have r28 : ((-1) : Int) ≤ ρ 28 ∧ ρ 28 ≤ 3 := r28
  have r29 : (0 : Int) ≤ ρ 29 ∧ ρ 29 ≤ 7 := r29
  have r30 : ((-1) : Int) ≤ ρ 30 ∧ ρ 30 ≤ 7 := r30
  have r31 : (0 : Int) ≤ ρ 31 ∧ ρ 31 ≤ 60 := r31
  obtain ⟨f0, -⟩ := hf
  have f0 : (0 : Int) ≤ -ρ 3 + ((-50001) * ρ 1 + ρ 0) + 100002 := f0
  obtain ⟨m0, m1, m2, m3, m4, m5, m6, m7, m8, m9, m10, m11, m12, m13, m14, m15, m16, m17, m18, m19, m20, m21, m22, m23, m24, m25, m26, m27, m28, m29, m30, m31, -⟩ := hm
  have m0 : γ 0 6 0 0 = ρ 0 := m0
  have m1 : γ 0 6 0 9 = ρ 1 := m1
  have m2 : γ 0 6 0 6 = ρ 2 := m2
  have m3 : γ 0 8 (ρ 2) 1 = ρ 3 := m3
  have m4 : γ 0 6 0 7 = ρ 4 := m4
  have m5 : γ 0 1 0 10 = ρ 5 := m5
  have m6 : γ 0 4 0 7 = ρ 6 := m6
  have m7 : γ 0 5 0 3 = ρ 7 := m7
  have m8 : γ 0 6 0 8 = ρ 8 := m8
  have m9 : γ 0 6 0 10 = ρ 9 := m9
  have m10 : γ 0 6 0 11 = ρ 10 := m10
  have m11 : γ 0 6 0 12 = ρ 11 := m11
  have m12 : γ 0 6 0 13 = ρ 12 := m12
  have m13 : γ 0 9 (ρ 4) 2 = ρ 13 := m13
  have m14 : γ 0 9 (ρ 4) 3 = ρ 14 := m14
  have m15 : γ 0 10 (9 * ρ 4) 5 = ρ 15 := m15
  have m16 : γ 0 10 (9 * ρ 4) 8 = ρ 16 := m16
  have m17 : γ 0 10 (9 * ρ 4) 12 = ρ 17 := m17
  have m18 : γ 0 10 (9 * ρ 4) 14 = ρ 18 := m18
  have m19 : γ 0 10 (9 * ρ 4 + 7) 4 = ρ 19 := m19
  have m20 : γ 0 10 (9 * ρ 4 + 7) 5 = ρ 20 := m20
  have m21 : γ 0 10 (9 * ρ 4 + 7) 8 = ρ 21 := m21
  have m22 : γ 0 10 (9 * ρ 4 + 7) 9 = ρ 22 := m22
  have m23 : γ 0 10 (9 * ρ 4 + 7) 10 = ρ 23 := m23
  have m24 : γ 0 10 (9 * ρ 4 + 7) 11 = ρ 24 := m24
  have m25 : γ 0 10 (9 * ρ 4 + 8) 4 = ρ 25 := m25
  have m26 : γ 0 10 (9 * ρ 4 + 8) 5 = ρ 26 := m26
  have m27 : γ 0 10 (9 * ρ 4 + 8) 8 = ρ 27 := m27
  have m28 : γ 0 10 (9 * ρ 4 + 8) 9 = ρ 28 := m28
  have m29 : γ 0 10 (9 * ρ 4 + 8) 10 = ρ 29 := m29
  have m30 : γ 0 10 (9 * ρ 4 + 8) 11 = ρ 30 := m30
  have m31 : γ 0 40 0 (ρ 5) = ρ 31 := m31
  obtain ⟨⟨-, c1⟩, c2⟩ := hc
  have c1 : ∀ (G : Nat) (k j : Int), ¬ rMdP m0_ G j → γ 1 G k j = γ 0 G k j := c1
  have c2 : ∀ (G : Nat) (k j : Int), ¬ rMdP m132_ G j → γ 2 G k j = γ 1 G k j := c2
  obtain ⟨l0, l1, -⟩ := hl
  have l0 : sn132 [ρ 4, 6] (γ 0) 0 (9 * ρ 4 + 7) (γ 1) := hS132 _ _ _ _ _ l0
  have l1 : sn231 [9 * ρ 4 + 7, ρ 19, ρ 24] (γ 1) 0 0 (γ 2) := hS231 _ _ _ _ _ l1
  show sn249 [ρ 0, ρ 1, ρ 2, ρ 3, ρ 4, ρ 5, ρ 6, ρ 7, ρ 8, ρ 9, ρ 10, ρ 11, ρ 12, ρ 13, ρ 14, ρ 15, ρ 16, ρ 17, ρ 18, ρ 19, ρ 20, ρ 21, ρ 22, ρ 23, ρ 24, ρ 25, ρ 26, ρ 27, ρ 28, ρ 29, ρ 30] (γ 0) 0 0 (γ 2)
  refine Eq.symm ?_
  show fn249 [] (γ 0) = _
  unfold fn249
  refine (zLet_eq m4).trans ?_
  refine (zLet_eq m13).trans ?_
  refine (zLet_eq m19).trans ?_
  refine (if_neg (show ¬ (6 ≥ ρ 13) by omega)).trans ?_
  refine (zLet_eq (show fn132 [ρ 4, 6] (γ 0) = (0, 9 * ρ 4 + 7, γ 1) from l0.symm)).trans ?_
  refine (zLet_eq (show _ = γ 1 from rfl)).trans ?_
  refine (if_pos (show ρ 19 ≠ 1 by omega)).trans ?_
  refine (if_neg (show ¬ (0 ≤ -ρ 19 + 3) by omega)).trans ?_
  refine (if_neg (show ¬ (0 ≤ -ρ 19 + 5) by omega)).trans ?_
  refine (zLet_eq (show fn231 [9 * ρ 4 + 7] (γ 1) = (0, 0, γ 2) from l1.symm)).trans ?_
  refine (zLet_eq (show _ = γ 2 from rfl)).trans ?_
  refine (if_neg (show ¬ ((1 : Int) ≤ 0) by omega)).trans ?_
  rfl
theorem vn249_15 {S : Nat → zSpc} (hS132 : ∀ x g o v gz, S 132 x g o v gz → sn132 x g o v gz) (hS228 : ∀ x g o v gz, S 228 x g o v gz → sn228 x g o v gz) (hS229 : ∀ x g o v gz, S 229 x g o v gz → sn229 x g o v gz) (hS230 : ∀ x g o v gz, S 230 x g o v gz → sn230 x g o v gz) (hS231 : ∀ x g o v gz, S 231 x g o v gz → sn231 x g o v gz) (hS244 : ∀ x g o v gz, S 244 x g o v gz → sn244 x g o v gz) (hS247 : ∀ x g o v gz, S 247 x g o v gz → sn247 x g o v gz) (hS248 : ∀ x g o v gz, S 248 x g o v gz → sn248 x g o v gz) {a : List Int} {g : rHp} : ∀ (ρ : Nat → Int) (γ : Nat → rHp), zO 31 S a g q249_15 ρ γ → zGl (fun _ _ _ => True) (sn249 a g) q249_15 ρ γ := by
  intro ρ γ h
  obtain ⟨ha, hg, hr, hf, hm, hc, hl⟩ := h
  have ha : a = [ρ 0, ρ 1, ρ 2, ρ 3, ρ 4, ρ 5, ρ 6, ρ 7, ρ 8, ρ 9, ρ 10, ρ 11, ρ 12, ρ 13, ρ 14, ρ 15, ρ 16, ρ 17, ρ 18, ρ 19, ρ 20, ρ 21, ρ 22, ρ 23, ρ 24, ρ 25, ρ 26, ρ 27, ρ 28, ρ 29, ρ 30] := ha
  subst ha
  subst hg
  obtain ⟨r0, r1, r2, r3, r4, r5, r6, r7, r8, r9, r10, r11, r12, r13, r14, r15, r16, r17, r18, r19, r20, r21, r22, r23, r24, r25, r26, r27, r28, r29, r30, r31, r32, r33, r34, r35, r36, -⟩ := hr
  have r0 : (0 : Int) ≤ ρ 0 ∧ ρ 0 ≤ 50000 := r0
  have r1 : (0 : Int) ≤ ρ 1 ∧ ρ 1 ≤ 2 := r1
  have r2 : (0 : Int) ≤ ρ 2 ∧ ρ 2 ≤ 2 := r2
  have r3 : (0 : Int) ≤ ρ 3 ∧ ρ 3 ≤ 50001 := r3
  have r4 : (0 : Int) ≤ ρ 4 ∧ ρ 4 ≤ 62 := r4
  have r5 : (0 : Int) ≤ ρ 5 ∧ ρ 5 ≤ 60 := r5
  have r6 : (0 : Int) ≤ ρ 6 ∧ ρ 6 ≤ 2000 := r6
  have r7 : (0 : Int) ≤ ρ 7 ∧ ρ 7 ≤ 2000 := r7
  have r8 : ((-2147483648) : Int) ≤ ρ 8 ∧ ρ 8 ≤ 2147483647 := r8
  have r9 : ((-2147483648) : Int) ≤ ρ 9 ∧ ρ 9 ≤ 2147483647 := r9
  have r10 : (0 : Int) ≤ ρ 10 ∧ ρ 10 ≤ 2000 := r10
  have r11 : (0 : Int) ≤ ρ 11 ∧ ρ 11 ≤ 2000 := r11
  have r12 : ((-2147483648) : Int) ≤ ρ 12 ∧ ρ 12 ≤ 2147483647 := r12
  have r13 : (7 : Int) ≤ ρ 13 ∧ ρ 13 ≤ 8 := r13
  have r14 : (0 : Int) ≤ ρ 14 ∧ ρ 14 ≤ 8 := r14
  have r15 : (0 : Int) ≤ ρ 15 ∧ ρ 15 ≤ 4 := r15
  have r16 : ((-1) : Int) ≤ ρ 16 ∧ ρ 16 ≤ 19 := r16
  have r17 : (0 : Int) ≤ ρ 17 ∧ ρ 17 ≤ 4 := r17
  have r18 : ((-1) : Int) ≤ ρ 18 ∧ ρ 18 ≤ 7 := r18
  have r19 : (6 : Int) ≤ ρ 19 ∧ ρ 19 ≤ 8 := r19
  have r20 : (0 : Int) ≤ ρ 20 ∧ ρ 20 ≤ 4 := r20
  have r21 : ((-1) : Int) ≤ ρ 21 ∧ ρ 21 ≤ 19 := r21
  have r22 : ((-1) : Int) ≤ ρ 22 ∧ ρ 22 ≤ 3 := r22
  have r23 : (0 : Int) ≤ ρ 23 ∧ ρ 23 ≤ 7 := r23
  have r24 : (0 : Int) ≤ ρ 24 ∧ ρ 24 ≤ 7 := r24
  have r25 : (0 : Int) ≤ ρ 25 ∧ ρ 25 ≤ 8 := r25
  have r26 : (0 : Int) ≤ ρ 26 ∧ ρ 26 ≤ 4 := r26
  have r27 : ((-1) : Int) ≤ ρ 27 ∧ ρ 27 ≤ 19 := r27
  have r28 : ((-1) : Int) ≤ ρ 28 ∧ ρ 28 ≤ 3 := r28
  have r29 : (0 : Int) ≤ ρ 29 ∧ ρ 29 ≤ 7 := r29
  have r30 : ((-1) : Int) ≤ ρ 30 ∧ ρ 30 ≤ 7 := r30
  have r31 : (0 : Int) ≤ ρ 31 ∧ ρ 31 ≤ 60 := r31
  have r32 : (0 : Int) ≤ ρ 32 ∧ ρ 32 ≤ 50000 := r32
  have r33 : (0 : Int) ≤ ρ 33 ∧ ρ 33 ≤ 50001 := r33
  have r34 : (0 : Int) ≤ ρ 34 ∧ ρ 34 ≤ 2000 := r34
  have r35 : (0 : Int) ≤ ρ 35 ∧ ρ 35 ≤ 2000 := r35
  have r36 : ((-2147483648) : Int) ≤ ρ 36 ∧ ρ 36 ≤ 2147483647 := r36
  obtain ⟨f0, f1, f2, f3, f4, f5, -⟩ := hf
  have f0 : (0 : Int) ≤ -ρ 3 + ((-50001) * ρ 1 + ρ 0) + 100002 := f0
  have f1 : (0 : Int) ≤ ρ 32 + -ρ 0 := f1
  have f2 : (0 : Int) ≤ ρ 33 + -ρ 3 := f2
  have f3 : (0 : Int) ≤ ρ 34 + -ρ 6 := f3
  have f4 : (0 : Int) ≤ ρ 35 + -ρ 7 := f4
  have f5 : (0 : Int) ≤ -ρ 33 + (ρ 32 + (ρ 3 + -ρ 0)) + 1 := f5
  obtain ⟨m0, m1, m2, m3, m4, m5, m6, m7, m8, m9, m10, m11, m12, m13, m14, m15, m16, m17, m18, m19, m20, m21, m22, m23, m24, m25, m26, m27, m28, m29, m30, m31, m32, m33, m34, m35, m36, -⟩ := hm
  have m0 : γ 0 6 0 0 = ρ 0 := m0
  have m1 : γ 0 6 0 9 = ρ 1 := m1
  have m2 : γ 0 6 0 6 = ρ 2 := m2
  have m3 : γ 0 8 (ρ 2) 1 = ρ 3 := m3
  have m4 : γ 0 6 0 7 = ρ 4 := m4
  have m5 : γ 0 1 0 10 = ρ 5 := m5
  have m6 : γ 0 4 0 7 = ρ 6 := m6
  have m7 : γ 0 5 0 3 = ρ 7 := m7
  have m8 : γ 0 6 0 8 = ρ 8 := m8
  have m9 : γ 0 6 0 10 = ρ 9 := m9
  have m10 : γ 0 6 0 11 = ρ 10 := m10
  have m11 : γ 0 6 0 12 = ρ 11 := m11
  have m12 : γ 0 6 0 13 = ρ 12 := m12
  have m13 : γ 0 9 (ρ 4) 2 = ρ 13 := m13
  have m14 : γ 0 9 (ρ 4) 3 = ρ 14 := m14
  have m15 : γ 0 10 (9 * ρ 4) 5 = ρ 15 := m15
  have m16 : γ 0 10 (9 * ρ 4) 8 = ρ 16 := m16
  have m17 : γ 0 10 (9 * ρ 4) 12 = ρ 17 := m17
  have m18 : γ 0 10 (9 * ρ 4) 14 = ρ 18 := m18
  have m19 : γ 0 10 (9 * ρ 4 + 7) 4 = ρ 19 := m19
  have m20 : γ 0 10 (9 * ρ 4 + 7) 5 = ρ 20 := m20
  have m21 : γ 0 10 (9 * ρ 4 + 7) 8 = ρ 21 := m21
  have m22 : γ 0 10 (9 * ρ 4 + 7) 9 = ρ 22 := m22
  have m23 : γ 0 10 (9 * ρ 4 + 7) 10 = ρ 23 := m23
  have m24 : γ 0 10 (9 * ρ 4 + 7) 11 = ρ 24 := m24
  have m25 : γ 0 10 (9 * ρ 4 + 8) 4 = ρ 25 := m25
  have m26 : γ 0 10 (9 * ρ 4 + 8) 5 = ρ 26 := m26
  have m27 : γ 0 10 (9 * ρ 4 + 8) 8 = ρ 27 := m27
  have m28 : γ 0 10 (9 * ρ 4 + 8) 9 = ρ 28 := m28
  have m29 : γ 0 10 (9 * ρ 4 + 8) 10 = ρ 29 := m29
  have m30 : γ 0 10 (9 * ρ 4 + 8) 11 = ρ 30 := m30
  have m31 : γ 0 40 0 (ρ 5) = ρ 31 := m31
  have m32 : γ 3 6 0 0 = ρ 32 := m32
  have m33 : γ 3 8 (ρ 2) 1 = ρ 33 := m33
  have m34 : γ 3 4 0 7 = ρ 34 := m34
  have m35 : γ 3 5 0 3 = ρ 35 := m35
  have m36 : γ 3 6 0 13 = ρ 36 := m36
  obtain ⟨⟨⟨-, c1⟩, c2⟩, c3⟩ := hc
  have c1 : ∀ (G : Nat) (k j : Int), ¬ rMdP m0_ G j → γ 1 G k j = γ 0 G k j := c1
  have c2 : ∀ (G : Nat) (k j : Int), ¬ rMdP m132_ G j → γ 2 G k j = γ 1 G k j := c2
  have c3 : ∀ (G : Nat) (k j : Int), ¬ rMdP m140_ G j → γ 3 G k j = γ 2 G k j := c3
  obtain ⟨l0, l1, l2, -⟩ := hl
  have l0 : sn132 [ρ 4, 6] (γ 0) 0 (9 * ρ 4 + 7) (γ 1) := hS132 _ _ _ _ _ l0
  have l1 : sn231 [9 * ρ 4 + 7, ρ 19, ρ 24] (γ 1) 0 1 (γ 2) := hS231 _ _ _ _ _ l1
  have l2 : sn247 [ρ 0, ρ 1, ρ 2, ρ 3, ρ 4, ρ 5, ρ 6, ρ 7, ρ 8, ρ 9, ρ 10, ρ 11, ρ 12, ρ 13, ρ 14, ρ 15, ρ 16, ρ 17, ρ 18, ρ 25, ρ 26, ρ 27, ρ 28, ρ 29, ρ 30] (γ 2) 0 0 (γ 3) := hS247 _ _ _ _ _ l2
  show sn249 [ρ 0, ρ 1, ρ 2, ρ 3, ρ 4, ρ 5, ρ 6, ρ 7, ρ 8, ρ 9, ρ 10, ρ 11, ρ 12, ρ 13, ρ 14, ρ 15, ρ 16, ρ 17, ρ 18, ρ 19, ρ 20, ρ 21, ρ 22, ρ 23, ρ 24, ρ 25, ρ 26, ρ 27, ρ 28, ρ 29, ρ 30] (γ 0) 0 0 (γ 3)
  refine Eq.symm ?_
  show fn249 [] (γ 0) = _
  unfold fn249
  refine (zLet_eq m4).trans ?_
  refine (zLet_eq m13).trans ?_
  refine (zLet_eq m19).trans ?_
  refine (if_neg (show ¬ (6 ≥ ρ 13) by omega)).trans ?_
  refine (zLet_eq (show fn132 [ρ 4, 6] (γ 0) = (0, 9 * ρ 4 + 7, γ 1) from l0.symm)).trans ?_
  refine (zLet_eq (show _ = γ 1 from rfl)).trans ?_
  refine (if_pos (show ρ 19 ≠ 1 by omega)).trans ?_
  refine (if_neg (show ¬ (0 ≤ -ρ 19 + 3) by omega)).trans ?_
  refine (if_neg (show ¬ (0 ≤ -ρ 19 + 5) by omega)).trans ?_
  refine (zLet_eq (show fn231 [9 * ρ 4 + 7] (γ 1) = (0, 1, γ 2) from l1.symm)).trans ?_
  refine (zLet_eq (show _ = γ 2 from rfl)).trans ?_
  refine (if_pos (show (1 : Int) ≤ 1 by omega)).trans ?_
  refine (zLet_eq (show fn247 [] (γ 2) = (0, 0, γ 3) from l2.symm)).trans ?_
  refine (zLet_eq (show _ = γ 3 from rfl)).trans ?_
  refine (if_pos (show (0 : Nat) = 0 by decide)).trans ?_
  rfl
theorem vn249_16 {S : Nat → zSpc} (hS132 : ∀ x g o v gz, S 132 x g o v gz → sn132 x g o v gz) (hS228 : ∀ x g o v gz, S 228 x g o v gz → sn228 x g o v gz) (hS229 : ∀ x g o v gz, S 229 x g o v gz → sn229 x g o v gz) (hS230 : ∀ x g o v gz, S 230 x g o v gz → sn230 x g o v gz) (hS231 : ∀ x g o v gz, S 231 x g o v gz → sn231 x g o v gz) (hS244 : ∀ x g o v gz, S 244 x g o v gz → sn244 x g o v gz) (hS247 : ∀ x g o v gz, S 247 x g o v gz → sn247 x g o v gz) (hS248 : ∀ x g o v gz, S 248 x g o v gz → sn248 x g o v gz) {a : List Int} {g : rHp} : ∀ (ρ : Nat → Int) (γ : Nat → rHp), zO 31 S a g q249_16 ρ γ → zGl (fun _ _ _ => True) (sn249 a g) q249_16 ρ γ := by
  intro ρ γ h
  obtain ⟨ha, hg, hr, hf, hm, hc, hl⟩ := h
  have ha : a = [ρ 0, ρ 1, ρ 2, ρ 3, ρ 4, ρ 5, ρ 6, ρ 7, ρ 8, ρ 9, ρ 10, ρ 11, ρ 12, ρ 13, ρ 14, ρ 15, ρ 16, ρ 17, ρ 18, ρ 19, ρ 20, ρ 21, ρ 22, ρ 23, ρ 24, ρ 25, ρ 26, ρ 27, ρ 28, ρ 29, ρ 30] := ha
  subst ha
  subst hg
  obtain ⟨r0, r1, r2, r3, r4, r5, r6, r7, r8, r9, r10, r11, r12, r13, r14, r15, r16, r17, r18, r19, r20, r21, r22, r23, r24, r25, r26, r27, r28, r29, r30, r31, r32, r33, r34, r35, r36, -⟩ := hr
  have r0 : (0 : Int) ≤ ρ 0 ∧ ρ 0 ≤ 50000 := r0
  have r1 : (0 : Int) ≤ ρ 1 ∧ ρ 1 ≤ 1 := r1
  have r2 : (0 : Int) ≤ ρ 2 ∧ ρ 2 ≤ 2 := r2
  have r3 : (0 : Int) ≤ ρ 3 ∧ ρ 3 ≤ 50001 := r3
  have r4 : (0 : Int) ≤ ρ 4 ∧ ρ 4 ≤ 62 := r4
  have r5 : (0 : Int) ≤ ρ 5 ∧ ρ 5 ≤ 60 := r5
  have r6 : (0 : Int) ≤ ρ 6 ∧ ρ 6 ≤ 2000 := r6
  have r7 : (0 : Int) ≤ ρ 7 ∧ ρ 7 ≤ 2000 := r7
  have r8 : ((-2147483648) : Int) ≤ ρ 8 ∧ ρ 8 ≤ 2147483647 := r8
  have r9 : ((-2147483648) : Int) ≤ ρ 9 ∧ ρ 9 ≤ 2147483647 := r9
  have r10 : (0 : Int) ≤ ρ 10 ∧ ρ 10 ≤ 2000 := r10
  have r11 : (0 : Int) ≤ ρ 11 ∧ ρ 11 ≤ 2000 := r11
  have r12 : ((-2147483648) : Int) ≤ ρ 12 ∧ ρ 12 ≤ 2147483647 := r12
  have r13 : (7 : Int) ≤ ρ 13 ∧ ρ 13 ≤ 8 := r13
  have r14 : (0 : Int) ≤ ρ 14 ∧ ρ 14 ≤ 8 := r14
  have r15 : (0 : Int) ≤ ρ 15 ∧ ρ 15 ≤ 4 := r15
  have r16 : ((-1) : Int) ≤ ρ 16 ∧ ρ 16 ≤ 19 := r16
  have r17 : (0 : Int) ≤ ρ 17 ∧ ρ 17 ≤ 4 := r17
  have r18 : ((-1) : Int) ≤ ρ 18 ∧ ρ 18 ≤ 7 := r18
  have r19 : (6 : Int) ≤ ρ 19 ∧ ρ 19 ≤ 8 := r19
  have r20 : (0 : Int) ≤ ρ 20 ∧ ρ 20 ≤ 4 := r20
  have r21 : ((-1) : Int) ≤ ρ 21 ∧ ρ 21 ≤ 19 := r21
  have r22 : ((-1) : Int) ≤ ρ 22 ∧ ρ 22 ≤ 3 := r22
  have r23 : (0 : Int) ≤ ρ 23 ∧ ρ 23 ≤ 7 := r23
  have r24 : (0 : Int) ≤ ρ 24 ∧ ρ 24 ≤ 7 := r24
  have r25 : (0 : Int) ≤ ρ 25 ∧ ρ 25 ≤ 8 := r25
  have r26 : (0 : Int) ≤ ρ 26 ∧ ρ 26 ≤ 4 := r26
  have r27 : ((-1) : Int) ≤ ρ 27 ∧ ρ 27 ≤ 19 := r27
  have r28 : ((-1) : Int) ≤ ρ 28 ∧ ρ 28 ≤ 3 := r28
  have r29 : (0 : Int) ≤ ρ 29 ∧ ρ 29 ≤ 7 := r29
  have r30 : ((-1) : Int) ≤ ρ 30 ∧ ρ 30 ≤ 7 := r30
  have r31 : (0 : Int) ≤ ρ 31 ∧ ρ 31 ≤ 60 := r31
  have r32 : (0 : Int) ≤ ρ 32 ∧ ρ 32 ≤ 50000 := r32
  have r33 : (0 : Int) ≤ ρ 33 ∧ ρ 33 ≤ 50001 := r33
  have r34 : (0 : Int) ≤ ρ 34 ∧ ρ 34 ≤ 2000 := r34
  have r35 : (0 : Int) ≤ ρ 35 ∧ ρ 35 ≤ 2000 := r35
  have r36 : ((-2147483648) : Int) ≤ ρ 36 ∧ ρ 36 ≤ 2147483647 := r36
  obtain ⟨f0, f1, f2, f3, f4, f5, -⟩ := hf
  have f0 : (0 : Int) ≤ ρ 32 + -ρ 0 := f0
  have f1 : (0 : Int) ≤ ρ 33 + -ρ 3 := f1
  have f2 : (0 : Int) ≤ ρ 34 + -ρ 6 := f2
  have f3 : (0 : Int) ≤ ρ 35 + -ρ 7 := f3
  have f4 : (0 : Int) ≤ -ρ 33 + (ρ 32 + (ρ 3 + -ρ 0)) + 1 := f4
  have f5 : (0 : Int) ≤ -ρ 3 + ((-50001) * ρ 1 + ρ 0) + 100002 := f5
  obtain ⟨m0, m1, m2, m3, m4, m5, m6, m7, m8, m9, m10, m11, m12, m13, m14, m15, m16, m17, m18, m19, m20, m21, m22, m23, m24, m25, m26, m27, m28, m29, m30, m31, m32, m33, m34, m35, m36, -⟩ := hm
  have m0 : γ 0 6 0 0 = ρ 0 := m0
  have m1 : γ 0 6 0 9 = ρ 1 := m1
  have m2 : γ 0 6 0 6 = ρ 2 := m2
  have m3 : γ 0 8 (ρ 2) 1 = ρ 3 := m3
  have m4 : γ 0 6 0 7 = ρ 4 := m4
  have m5 : γ 0 1 0 10 = ρ 5 := m5
  have m6 : γ 0 4 0 7 = ρ 6 := m6
  have m7 : γ 0 5 0 3 = ρ 7 := m7
  have m8 : γ 0 6 0 8 = ρ 8 := m8
  have m9 : γ 0 6 0 10 = ρ 9 := m9
  have m10 : γ 0 6 0 11 = ρ 10 := m10
  have m11 : γ 0 6 0 12 = ρ 11 := m11
  have m12 : γ 0 6 0 13 = ρ 12 := m12
  have m13 : γ 0 9 (ρ 4) 2 = ρ 13 := m13
  have m14 : γ 0 9 (ρ 4) 3 = ρ 14 := m14
  have m15 : γ 0 10 (9 * ρ 4) 5 = ρ 15 := m15
  have m16 : γ 0 10 (9 * ρ 4) 8 = ρ 16 := m16
  have m17 : γ 0 10 (9 * ρ 4) 12 = ρ 17 := m17
  have m18 : γ 0 10 (9 * ρ 4) 14 = ρ 18 := m18
  have m19 : γ 0 10 (9 * ρ 4 + 7) 4 = ρ 19 := m19
  have m20 : γ 0 10 (9 * ρ 4 + 7) 5 = ρ 20 := m20
  have m21 : γ 0 10 (9 * ρ 4 + 7) 8 = ρ 21 := m21
  have m22 : γ 0 10 (9 * ρ 4 + 7) 9 = ρ 22 := m22
  have m23 : γ 0 10 (9 * ρ 4 + 7) 10 = ρ 23 := m23
  have m24 : γ 0 10 (9 * ρ 4 + 7) 11 = ρ 24 := m24
  have m25 : γ 0 10 (9 * ρ 4 + 8) 4 = ρ 25 := m25
  have m26 : γ 0 10 (9 * ρ 4 + 8) 5 = ρ 26 := m26
  have m27 : γ 0 10 (9 * ρ 4 + 8) 8 = ρ 27 := m27
  have m28 : γ 0 10 (9 * ρ 4 + 8) 9 = ρ 28 := m28
  have m29 : γ 0 10 (9 * ρ 4 + 8) 10 = ρ 29 := m29
  have m30 : γ 0 10 (9 * ρ 4 + 8) 11 = ρ 30 := m30
  have m31 : γ 0 40 0 (ρ 5) = ρ 31 := m31
  have m32 : γ 3 6 0 0 = ρ 32 := m32
  have m33 : γ 3 8 (ρ 2) 1 = ρ 33 := m33
  have m34 : γ 3 4 0 7 = ρ 34 := m34
  have m35 : γ 3 5 0 3 = ρ 35 := m35
  have m36 : γ 3 6 0 13 = ρ 36 := m36
  obtain ⟨⟨⟨-, c1⟩, c2⟩, c3⟩ := hc
  have c1 : ∀ (G : Nat) (k j : Int), ¬ rMdP m0_ G j → γ 1 G k j = γ 0 G k j := c1
  have c2 : ∀ (G : Nat) (k j : Int), ¬ rMdP m132_ G j → γ 2 G k j = γ 1 G k j := c2
  have c3 : ∀ (G : Nat) (k j : Int), ¬ rMdP m140_ G j → γ 3 G k j = γ 2 G k j := c3
  obtain ⟨l0, l1, l2, -⟩ := hl
  have l0 : sn132 [ρ 4, 6] (γ 0) 0 (9 * ρ 4 + 7) (γ 1) := hS132 _ _ _ _ _ l0
  have l1 : sn231 [9 * ρ 4 + 7, ρ 19, ρ 24] (γ 1) 0 1 (γ 2) := hS231 _ _ _ _ _ l1
  have l2 : sn247 [ρ 0, ρ 1, ρ 2, ρ 3, ρ 4, ρ 5, ρ 6, ρ 7, ρ 8, ρ 9, ρ 10, ρ 11, ρ 12, ρ 13, ρ 14, ρ 15, ρ 16, ρ 17, ρ 18, ρ 25, ρ 26, ρ 27, ρ 28, ρ 29, ρ 30] (γ 2) 1 0 (γ 3) := hS247 _ _ _ _ _ l2
  show sn249 [ρ 0, ρ 1, ρ 2, ρ 3, ρ 4, ρ 5, ρ 6, ρ 7, ρ 8, ρ 9, ρ 10, ρ 11, ρ 12, ρ 13, ρ 14, ρ 15, ρ 16, ρ 17, ρ 18, ρ 19, ρ 20, ρ 21, ρ 22, ρ 23, ρ 24, ρ 25, ρ 26, ρ 27, ρ 28, ρ 29, ρ 30] (γ 0) 1 0 (γ 3)
  refine Eq.symm ?_
  show fn249 [] (γ 0) = _
  unfold fn249
  refine (zLet_eq m4).trans ?_
  refine (zLet_eq m13).trans ?_
  refine (zLet_eq m19).trans ?_
  refine (if_neg (show ¬ (6 ≥ ρ 13) by omega)).trans ?_
  refine (zLet_eq (show fn132 [ρ 4, 6] (γ 0) = (0, 9 * ρ 4 + 7, γ 1) from l0.symm)).trans ?_
  refine (zLet_eq (show _ = γ 1 from rfl)).trans ?_
  refine (if_pos (show ρ 19 ≠ 1 by omega)).trans ?_
  refine (if_neg (show ¬ (0 ≤ -ρ 19 + 3) by omega)).trans ?_
  refine (if_neg (show ¬ (0 ≤ -ρ 19 + 5) by omega)).trans ?_
  refine (zLet_eq (show fn231 [9 * ρ 4 + 7] (γ 1) = (0, 1, γ 2) from l1.symm)).trans ?_
  refine (zLet_eq (show _ = γ 2 from rfl)).trans ?_
  refine (if_pos (show (1 : Int) ≤ 1 by omega)).trans ?_
  refine (zLet_eq (show fn247 [] (γ 2) = (1, 0, γ 3) from l2.symm)).trans ?_
  refine (zLet_eq (show _ = γ 3 from rfl)).trans ?_
  refine (if_neg (show ¬ (1 : Nat) = 0 by decide)).trans ?_
  refine (if_pos (show (1 : Nat) = 1 by decide)).trans ?_
  rfl
theorem vn249_17 {S : Nat → zSpc} (hS132 : ∀ x g o v gz, S 132 x g o v gz → sn132 x g o v gz) (hS228 : ∀ x g o v gz, S 228 x g o v gz → sn228 x g o v gz) (hS229 : ∀ x g o v gz, S 229 x g o v gz → sn229 x g o v gz) (hS230 : ∀ x g o v gz, S 230 x g o v gz → sn230 x g o v gz) (hS231 : ∀ x g o v gz, S 231 x g o v gz → sn231 x g o v gz) (hS244 : ∀ x g o v gz, S 244 x g o v gz → sn244 x g o v gz) (hS247 : ∀ x g o v gz, S 247 x g o v gz → sn247 x g o v gz) (hS248 : ∀ x g o v gz, S 248 x g o v gz → sn248 x g o v gz) {a : List Int} {g : rHp} : ∀ (ρ : Nat → Int) (γ : Nat → rHp), zO 31 S a g q249_17 ρ γ → zGl (fun _ _ _ => True) (sn249 a g) q249_17 ρ γ := by
  intro ρ γ h
  obtain ⟨ha, hg, hr, hf, hm, hc, hl⟩ := h
  have ha : a = [ρ 0, ρ 1, ρ 2, ρ 3, ρ 4, ρ 5, ρ 6, ρ 7, ρ 8, ρ 9, ρ 10, ρ 11, ρ 12, ρ 13, ρ 14, ρ 15, ρ 16, ρ 17, ρ 18, ρ 19, ρ 20, ρ 21, ρ 22, ρ 23, ρ 24, ρ 25, ρ 26, ρ 27, ρ 28, ρ 29, ρ 30] := ha
  subst ha
  subst hg
  obtain ⟨r0, r1, r2, r3, r4, r5, r6, r7, r8, r9, r10, r11, r12, r13, r14, r15, r16, r17, r18, r19, r20, r21, r22, r23, r24, r25, r26, r27, r28, r29, r30, r31, r32, r33, r34, r35, r36, -⟩ := hr
  have r0 : (0 : Int) ≤ ρ 0 ∧ ρ 0 ≤ 50000 := r0
  have r1 : (0 : Int) ≤ ρ 1 ∧ ρ 1 ≤ 2 := r1
  have r2 : (0 : Int) ≤ ρ 2 ∧ ρ 2 ≤ 2 := r2
  have r3 : (0 : Int) ≤ ρ 3 ∧ ρ 3 ≤ 50001 := r3
  have r4 : (0 : Int) ≤ ρ 4 ∧ ρ 4 ≤ 62 := r4
  have r5 : (0 : Int) ≤ ρ 5 ∧ ρ 5 ≤ 60 := r5
  have r6 : (0 : Int) ≤ ρ 6 ∧ ρ 6 ≤ 2000 := r6
  have r7 : (0 : Int) ≤ ρ 7 ∧ ρ 7 ≤ 2000 := r7
  have r8 : ((-2147483648) : Int) ≤ ρ 8 ∧ ρ 8 ≤ 2147483647 := r8
  have r9 : ((-2147483648) : Int) ≤ ρ 9 ∧ ρ 9 ≤ 2147483647 := r9
  have r10 : (0 : Int) ≤ ρ 10 ∧ ρ 10 ≤ 2000 := r10
  have r11 : (0 : Int) ≤ ρ 11 ∧ ρ 11 ≤ 2000 := r11
  have r12 : ((-2147483648) : Int) ≤ ρ 12 ∧ ρ 12 ≤ 2147483647 := r12
  have r13 : (8 : Int) ≤ ρ 13 ∧ ρ 13 ≤ 8 := r13
  have r14 : (0 : Int) ≤ ρ 14 ∧ ρ 14 ≤ 8 := r14
  have r15 : (0 : Int) ≤ ρ 15 ∧ ρ 15 ≤ 4 := r15
  have r16 : ((-1) : Int) ≤ ρ 16 ∧ ρ 16 ≤ 19 := r16
  have r17 : (0 : Int) ≤ ρ 17 ∧ ρ 17 ≤ 4 := r17
  have r18 : ((-1) : Int) ≤ ρ 18 ∧ ρ 18 ≤ 7 := r18
  have r19 : (6 : Int) ≤ ρ 19 ∧ ρ 19 ≤ 8 := r19
  have r20 : (0 : Int) ≤ ρ 20 ∧ ρ 20 ≤ 4 := r20
  have r21 : ((-1) : Int) ≤ ρ 21 ∧ ρ 21 ≤ 19 := r21
  have r22 : ((-1) : Int) ≤ ρ 22 ∧ ρ 22 ≤ 3 := r22
  have r23 : (0 : Int) ≤ ρ 23 ∧ ρ 23 ≤ 7 := r23
  have r24 : (0 : Int) ≤ ρ 24 ∧ ρ 24 ≤ 7 := r24
  have r25 : (1 : Int) ≤ ρ 25 ∧ ρ 25 ≤ 1 := r25
  have r26 : (0 : Int) ≤ ρ 26 ∧ ρ 26 ≤ 4 := r26
  have r27 : ((-1) : Int) ≤ ρ 27 ∧ ρ 27 ≤ 19 := r27
  have r28 : ((-1) : Int) ≤ ρ 28 ∧ ρ 28 ≤ 3 := r28
  have r29 : (0 : Int) ≤ ρ 29 ∧ ρ 29 ≤ 7 := r29
  have r30 : ((-1) : Int) ≤ ρ 30 ∧ ρ 30 ≤ 7 := r30
  have r31 : (0 : Int) ≤ ρ 31 ∧ ρ 31 ≤ 60 := r31
  have r32 : (50001 : Int) ≤ ρ 32 ∧ ρ 32 ≤ 50001 := r32
  have r33 : (0 : Int) ≤ ρ 33 ∧ ρ 33 ≤ 50001 := r33
  have r34 : (0 : Int) ≤ ρ 34 ∧ ρ 34 ≤ 2000 := r34
  have r35 : (0 : Int) ≤ ρ 35 ∧ ρ 35 ≤ 2000 := r35
  have r36 : ((-2147483648) : Int) ≤ ρ 36 ∧ ρ 36 ≤ 2147483647 := r36
  obtain ⟨f0, f1, f2, f3, f4, -⟩ := hf
  have f0 : (0 : Int) ≤ -ρ 3 + ((-50001) * ρ 1 + ρ 0) + 100002 := f0
  have f1 : (0 : Int) ≤ ρ 33 + -ρ 3 := f1
  have f2 : (0 : Int) ≤ ρ 34 + -ρ 6 := f2
  have f3 : (0 : Int) ≤ ρ 35 + -ρ 7 := f3
  have f4 : (0 : Int) ≤ -ρ 33 + (ρ 32 + (ρ 3 + -ρ 0)) + 1 := f4
  obtain ⟨m0, m1, m2, m3, m4, m5, m6, m7, m8, m9, m10, m11, m12, m13, m14, m15, m16, m17, m18, m19, m20, m21, m22, m23, m24, m25, m26, m27, m28, m29, m30, m31, m32, m33, m34, m35, m36, -⟩ := hm
  have m0 : γ 0 6 0 0 = ρ 0 := m0
  have m1 : γ 0 6 0 9 = ρ 1 := m1
  have m2 : γ 0 6 0 6 = ρ 2 := m2
  have m3 : γ 0 8 (ρ 2) 1 = ρ 3 := m3
  have m4 : γ 0 6 0 7 = ρ 4 := m4
  have m5 : γ 0 1 0 10 = ρ 5 := m5
  have m6 : γ 0 4 0 7 = ρ 6 := m6
  have m7 : γ 0 5 0 3 = ρ 7 := m7
  have m8 : γ 0 6 0 8 = ρ 8 := m8
  have m9 : γ 0 6 0 10 = ρ 9 := m9
  have m10 : γ 0 6 0 11 = ρ 10 := m10
  have m11 : γ 0 6 0 12 = ρ 11 := m11
  have m12 : γ 0 6 0 13 = ρ 12 := m12
  have m13 : γ 0 9 (ρ 4) 2 = ρ 13 := m13
  have m14 : γ 0 9 (ρ 4) 3 = ρ 14 := m14
  have m15 : γ 0 10 (9 * ρ 4) 5 = ρ 15 := m15
  have m16 : γ 0 10 (9 * ρ 4) 8 = ρ 16 := m16
  have m17 : γ 0 10 (9 * ρ 4) 12 = ρ 17 := m17
  have m18 : γ 0 10 (9 * ρ 4) 14 = ρ 18 := m18
  have m19 : γ 0 10 (9 * ρ 4 + 7) 4 = ρ 19 := m19
  have m20 : γ 0 10 (9 * ρ 4 + 7) 5 = ρ 20 := m20
  have m21 : γ 0 10 (9 * ρ 4 + 7) 8 = ρ 21 := m21
  have m22 : γ 0 10 (9 * ρ 4 + 7) 9 = ρ 22 := m22
  have m23 : γ 0 10 (9 * ρ 4 + 7) 10 = ρ 23 := m23
  have m24 : γ 0 10 (9 * ρ 4 + 7) 11 = ρ 24 := m24
  have m25 : γ 0 10 (9 * ρ 4 + 8) 4 = ρ 25 := m25
  have m26 : γ 0 10 (9 * ρ 4 + 8) 5 = ρ 26 := m26
  have m27 : γ 0 10 (9 * ρ 4 + 8) 8 = ρ 27 := m27
  have m28 : γ 0 10 (9 * ρ 4 + 8) 9 = ρ 28 := m28
  have m29 : γ 0 10 (9 * ρ 4 + 8) 10 = ρ 29 := m29
  have m30 : γ 0 10 (9 * ρ 4 + 8) 11 = ρ 30 := m30
  have m31 : γ 0 40 0 (ρ 5) = ρ 31 := m31
  have m32 : γ 3 6 0 0 = ρ 32 := m32
  have m33 : γ 3 8 (ρ 2) 1 = ρ 33 := m33
  have m34 : γ 3 4 0 7 = ρ 34 := m34
  have m35 : γ 3 5 0 3 = ρ 35 := m35
  have m36 : γ 3 6 0 13 = ρ 36 := m36
  obtain ⟨⟨⟨-, c1⟩, c2⟩, c3⟩ := hc
  have c1 : ∀ (G : Nat) (k j : Int), ¬ rMdP m0_ G j → γ 1 G k j = γ 0 G k j := c1
  have c2 : ∀ (G : Nat) (k j : Int), ¬ rMdP m132_ G j → γ 2 G k j = γ 1 G k j := c2
  have c3 : ∀ (G : Nat) (k j : Int), ¬ rMdP m140_ G j → γ 3 G k j = γ 2 G k j := c3
  obtain ⟨l0, l1, l2, -⟩ := hl
  have l0 : sn132 [ρ 4, 6] (γ 0) 0 (9 * ρ 4 + 7) (γ 1) := hS132 _ _ _ _ _ l0
  have l1 : sn231 [9 * ρ 4 + 7, ρ 19, ρ 24] (γ 1) 0 1 (γ 2) := hS231 _ _ _ _ _ l1
  have l2 : sn247 [ρ 0, ρ 1, ρ 2, ρ 3, ρ 4, ρ 5, ρ 6, ρ 7, ρ 8, ρ 9, ρ 10, ρ 11, ρ 12, ρ 13, ρ 14, ρ 15, ρ 16, ρ 17, ρ 18, ρ 25, ρ 26, ρ 27, ρ 28, ρ 29, ρ 30] (γ 2) 4 0 (γ 3) := hS247 _ _ _ _ _ l2
  show sn249 [ρ 0, ρ 1, ρ 2, ρ 3, ρ 4, ρ 5, ρ 6, ρ 7, ρ 8, ρ 9, ρ 10, ρ 11, ρ 12, ρ 13, ρ 14, ρ 15, ρ 16, ρ 17, ρ 18, ρ 19, ρ 20, ρ 21, ρ 22, ρ 23, ρ 24, ρ 25, ρ 26, ρ 27, ρ 28, ρ 29, ρ 30] (γ 0) 4 0 (γ 3)
  refine Eq.symm ?_
  show fn249 [] (γ 0) = _
  unfold fn249
  refine (zLet_eq m4).trans ?_
  refine (zLet_eq m13).trans ?_
  refine (zLet_eq m19).trans ?_
  refine (if_neg (show ¬ (6 ≥ ρ 13) by omega)).trans ?_
  refine (zLet_eq (show fn132 [ρ 4, 6] (γ 0) = (0, 9 * ρ 4 + 7, γ 1) from l0.symm)).trans ?_
  refine (zLet_eq (show _ = γ 1 from rfl)).trans ?_
  refine (if_pos (show ρ 19 ≠ 1 by omega)).trans ?_
  refine (if_neg (show ¬ (0 ≤ -ρ 19 + 3) by omega)).trans ?_
  refine (if_neg (show ¬ (0 ≤ -ρ 19 + 5) by omega)).trans ?_
  refine (zLet_eq (show fn231 [9 * ρ 4 + 7] (γ 1) = (0, 1, γ 2) from l1.symm)).trans ?_
  refine (zLet_eq (show _ = γ 2 from rfl)).trans ?_
  refine (if_pos (show (1 : Int) ≤ 1 by omega)).trans ?_
  refine (zLet_eq (show fn247 [] (γ 2) = (4, 0, γ 3) from l2.symm)).trans ?_
  refine (zLet_eq (show _ = γ 3 from rfl)).trans ?_
  refine (if_neg (show ¬ (4 : Nat) = 0 by decide)).trans ?_
  refine (if_neg (show ¬ (4 : Nat) = 1 by decide)).trans ?_
  rfl
theorem vn249_18 {S : Nat → zSpc} (hS132 : ∀ x g o v gz, S 132 x g o v gz → sn132 x g o v gz) (hS228 : ∀ x g o v gz, S 228 x g o v gz → sn228 x g o v gz) (hS229 : ∀ x g o v gz, S 229 x g o v gz → sn229 x g o v gz) (hS230 : ∀ x g o v gz, S 230 x g o v gz → sn230 x g o v gz) (hS231 : ∀ x g o v gz, S 231 x g o v gz → sn231 x g o v gz) (hS244 : ∀ x g o v gz, S 244 x g o v gz → sn244 x g o v gz) (hS247 : ∀ x g o v gz, S 247 x g o v gz → sn247 x g o v gz) (hS248 : ∀ x g o v gz, S 248 x g o v gz → sn248 x g o v gz) {a : List Int} {g : rHp} : ∀ (ρ : Nat → Int) (γ : Nat → rHp), zO 31 S a g q249_18 ρ γ → zGl (fun _ _ _ => True) (sn249 a g) q249_18 ρ γ := by
  intro ρ γ h
  obtain ⟨ha, hg, hr, hf, hm, hc, hl⟩ := h
  have ha : a = [ρ 0, ρ 1, ρ 2, ρ 3, ρ 4, ρ 5, ρ 6, ρ 7, ρ 8, ρ 9, ρ 10, ρ 11, ρ 12, ρ 13, ρ 14, ρ 15, ρ 16, ρ 17, ρ 18, ρ 19, ρ 20, ρ 21, ρ 22, ρ 23, ρ 24, ρ 25, ρ 26, ρ 27, ρ 28, ρ 29, ρ 30] := ha
  subst ha
  subst hg
  obtain ⟨r0, r1, r2, r3, r4, r5, r6, r7, r8, r9, r10, r11, r12, r13, r14, r15, r16, r17, r18, r19, r20, r21, r22, r23, r24, r25, r26, r27, r28, r29, r30, r31, r32, r33, r34, r35, r36, -⟩ := hr
  have r0 : (0 : Int) ≤ ρ 0 ∧ ρ 0 ≤ 50000 := r0
  have r1 : (0 : Int) ≤ ρ 1 ∧ ρ 1 ≤ 2 := r1
  have r2 : (0 : Int) ≤ ρ 2 ∧ ρ 2 ≤ 2 := r2
  have r3 : (0 : Int) ≤ ρ 3 ∧ ρ 3 ≤ 50001 := r3
  have r4 : (0 : Int) ≤ ρ 4 ∧ ρ 4 ≤ 62 := r4
  have r5 : (0 : Int) ≤ ρ 5 ∧ ρ 5 ≤ 60 := r5
  have r6 : (0 : Int) ≤ ρ 6 ∧ ρ 6 ≤ 2000 := r6
  have r7 : (0 : Int) ≤ ρ 7 ∧ ρ 7 ≤ 2000 := r7
  have r8 : ((-2147483648) : Int) ≤ ρ 8 ∧ ρ 8 ≤ 2147483647 := r8
  have r9 : ((-2147483648) : Int) ≤ ρ 9 ∧ ρ 9 ≤ 2147483647 := r9
  have r10 : (0 : Int) ≤ ρ 10 ∧ ρ 10 ≤ 2000 := r10
  have r11 : (0 : Int) ≤ ρ 11 ∧ ρ 11 ≤ 2000 := r11
  have r12 : ((-2147483648) : Int) ≤ ρ 12 ∧ ρ 12 ≤ 2147483647 := r12
  have r13 : (7 : Int) ≤ ρ 13 ∧ ρ 13 ≤ 8 := r13
  have r14 : (0 : Int) ≤ ρ 14 ∧ ρ 14 ≤ 8 := r14
  have r15 : (0 : Int) ≤ ρ 15 ∧ ρ 15 ≤ 4 := r15
  have r16 : ((-1) : Int) ≤ ρ 16 ∧ ρ 16 ≤ 19 := r16
  have r17 : (0 : Int) ≤ ρ 17 ∧ ρ 17 ≤ 4 := r17
  have r18 : ((-1) : Int) ≤ ρ 18 ∧ ρ 18 ≤ 7 := r18
  have r19 : (1 : Int) ≤ ρ 19 ∧ ρ 19 ≤ 1 := r19
  have r20 : (0 : Int) ≤ ρ 20 ∧ ρ 20 ≤ 4 := r20
  have r21 : ((-1) : Int) ≤ ρ 21 ∧ ρ 21 ≤ 19 := r21
  have r22 : ((-1) : Int) ≤ ρ 22 ∧ ρ 22 ≤ 3 := r22
  have r23 : (0 : Int) ≤ ρ 23 ∧ ρ 23 ≤ 7 := r23
  have r24 : ((-1) : Int) ≤ ρ 24 ∧ ρ 24 ≤ 7 := r24
  have r25 : (0 : Int) ≤ ρ 25 ∧ ρ 25 ≤ 8 := r25
  have r26 : (0 : Int) ≤ ρ 26 ∧ ρ 26 ≤ 4 := r26
  have r27 : ((-1) : Int) ≤ ρ 27 ∧ ρ 27 ≤ 19 := r27
  have r28 : ((-1) : Int) ≤ ρ 28 ∧ ρ 28 ≤ 3 := r28
  have r29 : (0 : Int) ≤ ρ 29 ∧ ρ 29 ≤ 7 := r29
  have r30 : ((-1) : Int) ≤ ρ 30 ∧ ρ 30 ≤ 7 := r30
  have r31 : (0 : Int) ≤ ρ 31 ∧ ρ 31 ≤ 60 := r31
  have r32 : (0 : Int) ≤ ρ 32 ∧ ρ 32 ≤ 50000 := r32
  have r33 : (0 : Int) ≤ ρ 33 ∧ ρ 33 ≤ 50001 := r33
  have r34 : (0 : Int) ≤ ρ 34 ∧ ρ 34 ≤ 2000 := r34
  have r35 : (0 : Int) ≤ ρ 35 ∧ ρ 35 ≤ 2000 := r35
  have r36 : ((-2147483648) : Int) ≤ ρ 36 ∧ ρ 36 ≤ 2147483647 := r36
  obtain ⟨f0, f1, f2, f3, f4, f5, -⟩ := hf
  have f0 : (0 : Int) ≤ -ρ 3 + ((-50001) * ρ 1 + ρ 0) + 100002 := f0
  have f1 : (0 : Int) ≤ ρ 32 + -ρ 0 := f1
  have f2 : (0 : Int) ≤ ρ 33 + -ρ 3 := f2
  have f3 : (0 : Int) ≤ ρ 34 + -ρ 6 := f3
  have f4 : (0 : Int) ≤ ρ 35 + -ρ 7 := f4
  have f5 : (0 : Int) ≤ -ρ 33 + (ρ 32 + (ρ 3 + -ρ 0)) := f5
  obtain ⟨m0, m1, m2, m3, m4, m5, m6, m7, m8, m9, m10, m11, m12, m13, m14, m15, m16, m17, m18, m19, m20, m21, m22, m23, m24, m25, m26, m27, m28, m29, m30, m31, m32, m33, m34, m35, m36, -⟩ := hm
  have m0 : γ 0 6 0 0 = ρ 0 := m0
  have m1 : γ 0 6 0 9 = ρ 1 := m1
  have m2 : γ 0 6 0 6 = ρ 2 := m2
  have m3 : γ 0 8 (ρ 2) 1 = ρ 3 := m3
  have m4 : γ 0 6 0 7 = ρ 4 := m4
  have m5 : γ 0 1 0 10 = ρ 5 := m5
  have m6 : γ 0 4 0 7 = ρ 6 := m6
  have m7 : γ 0 5 0 3 = ρ 7 := m7
  have m8 : γ 0 6 0 8 = ρ 8 := m8
  have m9 : γ 0 6 0 10 = ρ 9 := m9
  have m10 : γ 0 6 0 11 = ρ 10 := m10
  have m11 : γ 0 6 0 12 = ρ 11 := m11
  have m12 : γ 0 6 0 13 = ρ 12 := m12
  have m13 : γ 0 9 (ρ 4) 2 = ρ 13 := m13
  have m14 : γ 0 9 (ρ 4) 3 = ρ 14 := m14
  have m15 : γ 0 10 (9 * ρ 4) 5 = ρ 15 := m15
  have m16 : γ 0 10 (9 * ρ 4) 8 = ρ 16 := m16
  have m17 : γ 0 10 (9 * ρ 4) 12 = ρ 17 := m17
  have m18 : γ 0 10 (9 * ρ 4) 14 = ρ 18 := m18
  have m19 : γ 0 10 (9 * ρ 4 + 7) 4 = ρ 19 := m19
  have m20 : γ 0 10 (9 * ρ 4 + 7) 5 = ρ 20 := m20
  have m21 : γ 0 10 (9 * ρ 4 + 7) 8 = ρ 21 := m21
  have m22 : γ 0 10 (9 * ρ 4 + 7) 9 = ρ 22 := m22
  have m23 : γ 0 10 (9 * ρ 4 + 7) 10 = ρ 23 := m23
  have m24 : γ 0 10 (9 * ρ 4 + 7) 11 = ρ 24 := m24
  have m25 : γ 0 10 (9 * ρ 4 + 8) 4 = ρ 25 := m25
  have m26 : γ 0 10 (9 * ρ 4 + 8) 5 = ρ 26 := m26
  have m27 : γ 0 10 (9 * ρ 4 + 8) 8 = ρ 27 := m27
  have m28 : γ 0 10 (9 * ρ 4 + 8) 9 = ρ 28 := m28
  have m29 : γ 0 10 (9 * ρ 4 + 8) 10 = ρ 29 := m29
  have m30 : γ 0 10 (9 * ρ 4 + 8) 11 = ρ 30 := m30
  have m31 : γ 0 40 0 (ρ 5) = ρ 31 := m31
  have m32 : γ 2 6 0 0 = ρ 32 := m32
  have m33 : γ 2 8 (ρ 2) 1 = ρ 33 := m33
  have m34 : γ 2 4 0 7 = ρ 34 := m34
  have m35 : γ 2 5 0 3 = ρ 35 := m35
  have m36 : γ 2 6 0 13 = ρ 36 := m36
  obtain ⟨⟨-, c1⟩, c2⟩ := hc
  have c1 : ∀ (G : Nat) (k j : Int), ¬ rMdP m0_ G j → γ 1 G k j = γ 0 G k j := c1
  have c2 : ∀ (G : Nat) (k j : Int), ¬ rMdP m140_ G j → γ 2 G k j = γ 1 G k j := c2
  obtain ⟨l0, l1, -⟩ := hl
  have l0 : sn132 [ρ 4, 6] (γ 0) 0 (9 * ρ 4 + 7) (γ 1) := hS132 _ _ _ _ _ l0
  have l1 : sn248 [ρ 0, ρ 1, ρ 2, ρ 3, ρ 4, ρ 5, ρ 6, ρ 7, ρ 8, ρ 9, ρ 10, ρ 11, ρ 12, ρ 13, ρ 14, ρ 15, ρ 16, ρ 17, ρ 18, ρ 20, ρ 21, ρ 22, ρ 23, ρ 25, ρ 26, ρ 27, ρ 28, ρ 29, ρ 30] (γ 1) 0 0 (γ 2) := hS248 _ _ _ _ _ l1
  show sn249 [ρ 0, ρ 1, ρ 2, ρ 3, ρ 4, ρ 5, ρ 6, ρ 7, ρ 8, ρ 9, ρ 10, ρ 11, ρ 12, ρ 13, ρ 14, ρ 15, ρ 16, ρ 17, ρ 18, ρ 19, ρ 20, ρ 21, ρ 22, ρ 23, ρ 24, ρ 25, ρ 26, ρ 27, ρ 28, ρ 29, ρ 30] (γ 0) 0 0 (γ 2)
  refine Eq.symm ?_
  show fn249 [] (γ 0) = _
  unfold fn249
  refine (zLet_eq m4).trans ?_
  refine (zLet_eq m13).trans ?_
  refine (zLet_eq m19).trans ?_
  refine (if_neg (show ¬ (6 ≥ ρ 13) by omega)).trans ?_
  refine (zLet_eq (show fn132 [ρ 4, 6] (γ 0) = (0, 9 * ρ 4 + 7, γ 1) from l0.symm)).trans ?_
  refine (zLet_eq (show _ = γ 1 from rfl)).trans ?_
  refine (if_neg (show ¬ (ρ 19 ≠ 1) by omega)).trans ?_
  refine (zLet_eq (show fn248 [] (γ 1) = (0, 0, γ 2) from l1.symm)).trans ?_
  refine (zLet_eq (show _ = γ 2 from rfl)).trans ?_
  refine (if_pos (show (0 : Nat) = 0 by decide)).trans ?_
  rfl
theorem vn249_19 {S : Nat → zSpc} (hS132 : ∀ x g o v gz, S 132 x g o v gz → sn132 x g o v gz) (hS228 : ∀ x g o v gz, S 228 x g o v gz → sn228 x g o v gz) (hS229 : ∀ x g o v gz, S 229 x g o v gz → sn229 x g o v gz) (hS230 : ∀ x g o v gz, S 230 x g o v gz → sn230 x g o v gz) (hS231 : ∀ x g o v gz, S 231 x g o v gz → sn231 x g o v gz) (hS244 : ∀ x g o v gz, S 244 x g o v gz → sn244 x g o v gz) (hS247 : ∀ x g o v gz, S 247 x g o v gz → sn247 x g o v gz) (hS248 : ∀ x g o v gz, S 248 x g o v gz → sn248 x g o v gz) {a : List Int} {g : rHp} : ∀ (ρ : Nat → Int) (γ : Nat → rHp), zO 31 S a g q249_19 ρ γ → zGl (fun _ _ _ => True) (sn249 a g) q249_19 ρ γ := by
  intro ρ γ h
  obtain ⟨ha, hg, hr, hf, hm, hc, hl⟩ := h
  have ha : a = [ρ 0, ρ 1, ρ 2, ρ 3, ρ 4, ρ 5, ρ 6, ρ 7, ρ 8, ρ 9, ρ 10, ρ 11, ρ 12, ρ 13, ρ 14, ρ 15, ρ 16, ρ 17, ρ 18, ρ 19, ρ 20, ρ 21, ρ 22, ρ 23, ρ 24, ρ 25, ρ 26, ρ 27, ρ 28, ρ 29, ρ 30] := ha
  subst ha
  subst hg
  obtain ⟨r0, r1, r2, r3, r4, r5, r6, r7, r8, r9, r10, r11, r12, r13, r14, r15, r16, r17, r18, r19, r20, r21, r22, r23, r24, r25, r26, r27, r28, r29, r30, r31, r32, r33, r34, r35, r36, -⟩ := hr
  have r0 : (0 : Int) ≤ ρ 0 ∧ ρ 0 ≤ 50000 := r0
  have r1 : (0 : Int) ≤ ρ 1 ∧ ρ 1 ≤ 1 := r1
  have r2 : (0 : Int) ≤ ρ 2 ∧ ρ 2 ≤ 2 := r2
  have r3 : (0 : Int) ≤ ρ 3 ∧ ρ 3 ≤ 50001 := r3
  have r4 : (0 : Int) ≤ ρ 4 ∧ ρ 4 ≤ 62 := r4
  have r5 : (0 : Int) ≤ ρ 5 ∧ ρ 5 ≤ 60 := r5
  have r6 : (0 : Int) ≤ ρ 6 ∧ ρ 6 ≤ 2000 := r6
  have r7 : (0 : Int) ≤ ρ 7 ∧ ρ 7 ≤ 2000 := r7
  have r8 : ((-2147483648) : Int) ≤ ρ 8 ∧ ρ 8 ≤ 2147483647 := r8
  have r9 : ((-2147483648) : Int) ≤ ρ 9 ∧ ρ 9 ≤ 2147483647 := r9
  have r10 : (0 : Int) ≤ ρ 10 ∧ ρ 10 ≤ 2000 := r10
  have r11 : (0 : Int) ≤ ρ 11 ∧ ρ 11 ≤ 2000 := r11
  have r12 : ((-2147483648) : Int) ≤ ρ 12 ∧ ρ 12 ≤ 2147483647 := r12
  have r13 : (7 : Int) ≤ ρ 13 ∧ ρ 13 ≤ 8 := r13
  have r14 : (0 : Int) ≤ ρ 14 ∧ ρ 14 ≤ 8 := r14
  have r15 : (0 : Int) ≤ ρ 15 ∧ ρ 15 ≤ 4 := r15
  have r16 : ((-1) : Int) ≤ ρ 16 ∧ ρ 16 ≤ 19 := r16
  have r17 : (0 : Int) ≤ ρ 17 ∧ ρ 17 ≤ 4 := r17
  have r18 : ((-1) : Int) ≤ ρ 18 ∧ ρ 18 ≤ 7 := r18
  have r19 : (1 : Int) ≤ ρ 19 ∧ ρ 19 ≤ 1 := r19
  have r20 : (0 : Int) ≤ ρ 20 ∧ ρ 20 ≤ 4 := r20
  have r21 : ((-1) : Int) ≤ ρ 21 ∧ ρ 21 ≤ 19 := r21
  have r22 : ((-1) : Int) ≤ ρ 22 ∧ ρ 22 ≤ 3 := r22
  have r23 : (0 : Int) ≤ ρ 23 ∧ ρ 23 ≤ 7 := r23
  have r24 : ((-1) : Int) ≤ ρ 24 ∧ ρ 24 ≤ 7 := r24
  have r25 : (0 : Int) ≤ ρ 25 ∧ ρ 25 ≤ 8 := r25
  have r26 : (0 : Int) ≤ ρ 26 ∧ ρ 26 ≤ 4 := r26
  have r27 : ((-1) : Int) ≤ ρ 27 ∧ ρ 27 ≤ 19 := r27
  have r28 : ((-1) : Int) ≤ ρ 28 ∧ ρ 28 ≤ 3 := r28
  have r29 : (0 : Int) ≤ ρ 29 ∧ ρ 29 ≤ 7 := r29
  have r30 : ((-1) : Int) ≤ ρ 30 ∧ ρ 30 ≤ 7 := r30
  have r31 : (0 : Int) ≤ ρ 31 ∧ ρ 31 ≤ 60 := r31
  have r32 : (1 : Int) ≤ ρ 32 ∧ ρ 32 ≤ 50000 := r32
  have r33 : (0 : Int) ≤ ρ 33 ∧ ρ 33 ≤ 50001 := r33
  have r34 : (0 : Int) ≤ ρ 34 ∧ ρ 34 ≤ 2000 := r34
  have r35 : (0 : Int) ≤ ρ 35 ∧ ρ 35 ≤ 2000 := r35
  have r36 : ((-2147483648) : Int) ≤ ρ 36 ∧ ρ 36 ≤ 2147483647 := r36
  obtain ⟨f0, f1, f2, f3, f4, f5, f6, -⟩ := hf
  have f0 : (0 : Int) ≤ ρ 32 + -ρ 0 + (-1) := f0
  have f1 : (0 : Int) ≤ ρ 33 + -ρ 3 := f1
  have f2 : (0 : Int) ≤ ρ 34 + -ρ 6 := f2
  have f3 : (0 : Int) ≤ ρ 35 + -ρ 7 := f3
  have f4 : (0 : Int) ≤ ρ 10 + -ρ 1 := f4
  have f5 : (0 : Int) ≤ -ρ 33 + (ρ 32 + (ρ 3 + -ρ 0)) := f5
  have f6 : (0 : Int) ≤ -ρ 3 + ((-50001) * ρ 1 + ρ 0) + 100002 := f6
  obtain ⟨m0, m1, m2, m3, m4, m5, m6, m7, m8, m9, m10, m11, m12, m13, m14, m15, m16, m17, m18, m19, m20, m21, m22, m23, m24, m25, m26, m27, m28, m29, m30, m31, m32, m33, m34, m35, m36, -⟩ := hm
  have m0 : γ 0 6 0 0 = ρ 0 := m0
  have m1 : γ 0 6 0 9 = ρ 1 := m1
  have m2 : γ 0 6 0 6 = ρ 2 := m2
  have m3 : γ 0 8 (ρ 2) 1 = ρ 3 := m3
  have m4 : γ 0 6 0 7 = ρ 4 := m4
  have m5 : γ 0 1 0 10 = ρ 5 := m5
  have m6 : γ 0 4 0 7 = ρ 6 := m6
  have m7 : γ 0 5 0 3 = ρ 7 := m7
  have m8 : γ 0 6 0 8 = ρ 8 := m8
  have m9 : γ 0 6 0 10 = ρ 9 := m9
  have m10 : γ 0 6 0 11 = ρ 10 := m10
  have m11 : γ 0 6 0 12 = ρ 11 := m11
  have m12 : γ 0 6 0 13 = ρ 12 := m12
  have m13 : γ 0 9 (ρ 4) 2 = ρ 13 := m13
  have m14 : γ 0 9 (ρ 4) 3 = ρ 14 := m14
  have m15 : γ 0 10 (9 * ρ 4) 5 = ρ 15 := m15
  have m16 : γ 0 10 (9 * ρ 4) 8 = ρ 16 := m16
  have m17 : γ 0 10 (9 * ρ 4) 12 = ρ 17 := m17
  have m18 : γ 0 10 (9 * ρ 4) 14 = ρ 18 := m18
  have m19 : γ 0 10 (9 * ρ 4 + 7) 4 = ρ 19 := m19
  have m20 : γ 0 10 (9 * ρ 4 + 7) 5 = ρ 20 := m20
  have m21 : γ 0 10 (9 * ρ 4 + 7) 8 = ρ 21 := m21
  have m22 : γ 0 10 (9 * ρ 4 + 7) 9 = ρ 22 := m22
  have m23 : γ 0 10 (9 * ρ 4 + 7) 10 = ρ 23 := m23
  have m24 : γ 0 10 (9 * ρ 4 + 7) 11 = ρ 24 := m24
  have m25 : γ 0 10 (9 * ρ 4 + 8) 4 = ρ 25 := m25
  have m26 : γ 0 10 (9 * ρ 4 + 8) 5 = ρ 26 := m26
  have m27 : γ 0 10 (9 * ρ 4 + 8) 8 = ρ 27 := m27
  have m28 : γ 0 10 (9 * ρ 4 + 8) 9 = ρ 28 := m28
  have m29 : γ 0 10 (9 * ρ 4 + 8) 10 = ρ 29 := m29
  have m30 : γ 0 10 (9 * ρ 4 + 8) 11 = ρ 30 := m30
  have m31 : γ 0 40 0 (ρ 5) = ρ 31 := m31
  have m32 : γ 2 6 0 0 = ρ 32 := m32
  have m33 : γ 2 8 (ρ 2) 1 = ρ 33 := m33
  have m34 : γ 2 4 0 7 = ρ 34 := m34
  have m35 : γ 2 5 0 3 = ρ 35 := m35
  have m36 : γ 2 6 0 13 = ρ 36 := m36
  obtain ⟨⟨-, c1⟩, c2⟩ := hc
  have c1 : ∀ (G : Nat) (k j : Int), ¬ rMdP m0_ G j → γ 1 G k j = γ 0 G k j := c1
  have c2 : ∀ (G : Nat) (k j : Int), ¬ rMdP m140_ G j → γ 2 G k j = γ 1 G k j := c2
  obtain ⟨l0, l1, -⟩ := hl
  have l0 : sn132 [ρ 4, 6] (γ 0) 0 (9 * ρ 4 + 7) (γ 1) := hS132 _ _ _ _ _ l0
  have l1 : sn248 [ρ 0, ρ 1, ρ 2, ρ 3, ρ 4, ρ 5, ρ 6, ρ 7, ρ 8, ρ 9, ρ 10, ρ 11, ρ 12, ρ 13, ρ 14, ρ 15, ρ 16, ρ 17, ρ 18, ρ 20, ρ 21, ρ 22, ρ 23, ρ 25, ρ 26, ρ 27, ρ 28, ρ 29, ρ 30] (γ 1) 1 0 (γ 2) := hS248 _ _ _ _ _ l1
  show sn249 [ρ 0, ρ 1, ρ 2, ρ 3, ρ 4, ρ 5, ρ 6, ρ 7, ρ 8, ρ 9, ρ 10, ρ 11, ρ 12, ρ 13, ρ 14, ρ 15, ρ 16, ρ 17, ρ 18, ρ 19, ρ 20, ρ 21, ρ 22, ρ 23, ρ 24, ρ 25, ρ 26, ρ 27, ρ 28, ρ 29, ρ 30] (γ 0) 1 0 (γ 2)
  refine Eq.symm ?_
  show fn249 [] (γ 0) = _
  unfold fn249
  refine (zLet_eq m4).trans ?_
  refine (zLet_eq m13).trans ?_
  refine (zLet_eq m19).trans ?_
  refine (if_neg (show ¬ (6 ≥ ρ 13) by omega)).trans ?_
  refine (zLet_eq (show fn132 [ρ 4, 6] (γ 0) = (0, 9 * ρ 4 + 7, γ 1) from l0.symm)).trans ?_
  refine (zLet_eq (show _ = γ 1 from rfl)).trans ?_
  refine (if_neg (show ¬ (ρ 19 ≠ 1) by omega)).trans ?_
  refine (zLet_eq (show fn248 [] (γ 1) = (1, 0, γ 2) from l1.symm)).trans ?_
  refine (zLet_eq (show _ = γ 2 from rfl)).trans ?_
  refine (if_neg (show ¬ (1 : Nat) = 0 by decide)).trans ?_
  refine (if_pos (show (1 : Nat) = 1 by decide)).trans ?_
  rfl
theorem vn249_20 {S : Nat → zSpc} (hS132 : ∀ x g o v gz, S 132 x g o v gz → sn132 x g o v gz) (hS228 : ∀ x g o v gz, S 228 x g o v gz → sn228 x g o v gz) (hS229 : ∀ x g o v gz, S 229 x g o v gz → sn229 x g o v gz) (hS230 : ∀ x g o v gz, S 230 x g o v gz → sn230 x g o v gz) (hS231 : ∀ x g o v gz, S 231 x g o v gz → sn231 x g o v gz) (hS244 : ∀ x g o v gz, S 244 x g o v gz → sn244 x g o v gz) (hS247 : ∀ x g o v gz, S 247 x g o v gz → sn247 x g o v gz) (hS248 : ∀ x g o v gz, S 248 x g o v gz → sn248 x g o v gz) {a : List Int} {g : rHp} : ∀ (ρ : Nat → Int) (γ : Nat → rHp), zO 31 S a g q249_20 ρ γ → zGl (fun _ _ _ => True) (sn249 a g) q249_20 ρ γ := by
  intro ρ γ h
  obtain ⟨ha, hg, hr, hf, hm, hc, hl⟩ := h
  have ha : a = [ρ 0, ρ 1, ρ 2, ρ 3, ρ 4, ρ 5, ρ 6, ρ 7, ρ 8, ρ 9, ρ 10, ρ 11, ρ 12, ρ 13, ρ 14, ρ 15, ρ 16, ρ 17, ρ 18, ρ 19, ρ 20, ρ 21, ρ 22, ρ 23, ρ 24, ρ 25, ρ 26, ρ 27, ρ 28, ρ 29, ρ 30] := ha
  subst ha
  subst hg
  obtain ⟨r0, r1, r2, r3, r4, r5, r6, r7, r8, r9, r10, r11, r12, r13, r14, r15, r16, r17, r18, r19, r20, r21, r22, r23, r24, r25, r26, r27, r28, r29, r30, r31, r32, r33, r34, r35, r36, -⟩ := hr
  have r0 : (0 : Int) ≤ ρ 0 ∧ ρ 0 ≤ 50000 := r0
  have r1 : (0 : Int) ≤ ρ 1 ∧ ρ 1 ≤ 2 := r1
  have r2 : (0 : Int) ≤ ρ 2 ∧ ρ 2 ≤ 2 := r2
  have r3 : (0 : Int) ≤ ρ 3 ∧ ρ 3 ≤ 50001 := r3
  have r4 : (0 : Int) ≤ ρ 4 ∧ ρ 4 ≤ 62 := r4
  have r5 : (0 : Int) ≤ ρ 5 ∧ ρ 5 ≤ 60 := r5
  have r6 : (0 : Int) ≤ ρ 6 ∧ ρ 6 ≤ 2000 := r6
  have r7 : (0 : Int) ≤ ρ 7 ∧ ρ 7 ≤ 2000 := r7
  have r8 : ((-2147483648) : Int) ≤ ρ 8 ∧ ρ 8 ≤ 2147483647 := r8
  have r9 : ((-2147483648) : Int) ≤ ρ 9 ∧ ρ 9 ≤ 2147483647 := r9
  have r10 : (0 : Int) ≤ ρ 10 ∧ ρ 10 ≤ 2000 := r10
  have r11 : (0 : Int) ≤ ρ 11 ∧ ρ 11 ≤ 2000 := r11
  have r12 : ((-2147483648) : Int) ≤ ρ 12 ∧ ρ 12 ≤ 2147483647 := r12
  have r13 : (7 : Int) ≤ ρ 13 ∧ ρ 13 ≤ 8 := r13
  have r14 : (0 : Int) ≤ ρ 14 ∧ ρ 14 ≤ 8 := r14
  have r15 : (0 : Int) ≤ ρ 15 ∧ ρ 15 ≤ 4 := r15
  have r16 : ((-1) : Int) ≤ ρ 16 ∧ ρ 16 ≤ 19 := r16
  have r17 : (0 : Int) ≤ ρ 17 ∧ ρ 17 ≤ 4 := r17
  have r18 : ((-1) : Int) ≤ ρ 18 ∧ ρ 18 ≤ 7 := r18
  have r19 : (1 : Int) ≤ ρ 19 ∧ ρ 19 ≤ 1 := r19
  have r20 : (0 : Int) ≤ ρ 20 ∧ ρ 20 ≤ 4 := r20
  have r21 : ((-1) : Int) ≤ ρ 21 ∧ ρ 21 ≤ 19 := r21
  have r22 : ((-1) : Int) ≤ ρ 22 ∧ ρ 22 ≤ 3 := r22
  have r23 : (0 : Int) ≤ ρ 23 ∧ ρ 23 ≤ 7 := r23
  have r24 : ((-1) : Int) ≤ ρ 24 ∧ ρ 24 ≤ 7 := r24
  have r25 : (0 : Int) ≤ ρ 25 ∧ ρ 25 ≤ 8 := r25
  have r26 : (0 : Int) ≤ ρ 26 ∧ ρ 26 ≤ 4 := r26
  have r27 : ((-1) : Int) ≤ ρ 27 ∧ ρ 27 ≤ 19 := r27
  have r28 : ((-1) : Int) ≤ ρ 28 ∧ ρ 28 ≤ 3 := r28
  have r29 : (0 : Int) ≤ ρ 29 ∧ ρ 29 ≤ 7 := r29
  have r30 : ((-1) : Int) ≤ ρ 30 ∧ ρ 30 ≤ 7 := r30
  have r31 : (0 : Int) ≤ ρ 31 ∧ ρ 31 ≤ 60 := r31
  have r32 : (50001 : Int) ≤ ρ 32 ∧ ρ 32 ≤ 50001 := r32
  have r33 : (0 : Int) ≤ ρ 33 ∧ ρ 33 ≤ 50001 := r33
  have r34 : (0 : Int) ≤ ρ 34 ∧ ρ 34 ≤ 2000 := r34
  have r35 : (0 : Int) ≤ ρ 35 ∧ ρ 35 ≤ 2000 := r35
  have r36 : ((-2147483648) : Int) ≤ ρ 36 ∧ ρ 36 ≤ 2147483647 := r36
  obtain ⟨f0, f1, f2, f3, f4, -⟩ := hf
  have f0 : (0 : Int) ≤ -ρ 3 + ((-50001) * ρ 1 + ρ 0) + 100002 := f0
  have f1 : (0 : Int) ≤ ρ 33 + -ρ 3 := f1
  have f2 : (0 : Int) ≤ ρ 34 + -ρ 6 := f2
  have f3 : (0 : Int) ≤ ρ 35 + -ρ 7 := f3
  have f4 : (0 : Int) ≤ -ρ 33 + (ρ 32 + (ρ 3 + -ρ 0)) := f4
  obtain ⟨m0, m1, m2, m3, m4, m5, m6, m7, m8, m9, m10, m11, m12, m13, m14, m15, m16, m17, m18, m19, m20, m21, m22, m23, m24, m25, m26, m27, m28, m29, m30, m31, m32, m33, m34, m35, m36, -⟩ := hm
  have m0 : γ 0 6 0 0 = ρ 0 := m0
  have m1 : γ 0 6 0 9 = ρ 1 := m1
  have m2 : γ 0 6 0 6 = ρ 2 := m2
  have m3 : γ 0 8 (ρ 2) 1 = ρ 3 := m3
  have m4 : γ 0 6 0 7 = ρ 4 := m4
  have m5 : γ 0 1 0 10 = ρ 5 := m5
  have m6 : γ 0 4 0 7 = ρ 6 := m6
  have m7 : γ 0 5 0 3 = ρ 7 := m7
  have m8 : γ 0 6 0 8 = ρ 8 := m8
  have m9 : γ 0 6 0 10 = ρ 9 := m9
  have m10 : γ 0 6 0 11 = ρ 10 := m10
  have m11 : γ 0 6 0 12 = ρ 11 := m11
  have m12 : γ 0 6 0 13 = ρ 12 := m12
  have m13 : γ 0 9 (ρ 4) 2 = ρ 13 := m13
  have m14 : γ 0 9 (ρ 4) 3 = ρ 14 := m14
  have m15 : γ 0 10 (9 * ρ 4) 5 = ρ 15 := m15
  have m16 : γ 0 10 (9 * ρ 4) 8 = ρ 16 := m16
  have m17 : γ 0 10 (9 * ρ 4) 12 = ρ 17 := m17
  have m18 : γ 0 10 (9 * ρ 4) 14 = ρ 18 := m18
  have m19 : γ 0 10 (9 * ρ 4 + 7) 4 = ρ 19 := m19
  have m20 : γ 0 10 (9 * ρ 4 + 7) 5 = ρ 20 := m20
  have m21 : γ 0 10 (9 * ρ 4 + 7) 8 = ρ 21 := m21
  have m22 : γ 0 10 (9 * ρ 4 + 7) 9 = ρ 22 := m22
  have m23 : γ 0 10 (9 * ρ 4 + 7) 10 = ρ 23 := m23
  have m24 : γ 0 10 (9 * ρ 4 + 7) 11 = ρ 24 := m24
  have m25 : γ 0 10 (9 * ρ 4 + 8) 4 = ρ 25 := m25
  have m26 : γ 0 10 (9 * ρ 4 + 8) 5 = ρ 26 := m26
  have m27 : γ 0 10 (9 * ρ 4 + 8) 8 = ρ 27 := m27
  have m28 : γ 0 10 (9 * ρ 4 + 8) 9 = ρ 28 := m28
  have m29 : γ 0 10 (9 * ρ 4 + 8) 10 = ρ 29 := m29
  have m30 : γ 0 10 (9 * ρ 4 + 8) 11 = ρ 30 := m30
  have m31 : γ 0 40 0 (ρ 5) = ρ 31 := m31
  have m32 : γ 2 6 0 0 = ρ 32 := m32
  have m33 : γ 2 8 (ρ 2) 1 = ρ 33 := m33
  have m34 : γ 2 4 0 7 = ρ 34 := m34
  have m35 : γ 2 5 0 3 = ρ 35 := m35
  have m36 : γ 2 6 0 13 = ρ 36 := m36
  obtain ⟨⟨-, c1⟩, c2⟩ := hc
  have c1 : ∀ (G : Nat) (k j : Int), ¬ rMdP m0_ G j → γ 1 G k j = γ 0 G k j := c1
  have c2 : ∀ (G : Nat) (k j : Int), ¬ rMdP m140_ G j → γ 2 G k j = γ 1 G k j := c2
  obtain ⟨l0, l1, -⟩ := hl
  have l0 : sn132 [ρ 4, 6] (γ 0) 0 (9 * ρ 4 + 7) (γ 1) := hS132 _ _ _ _ _ l0
  have l1 : sn248 [ρ 0, ρ 1, ρ 2, ρ 3, ρ 4, ρ 5, ρ 6, ρ 7, ρ 8, ρ 9, ρ 10, ρ 11, ρ 12, ρ 13, ρ 14, ρ 15, ρ 16, ρ 17, ρ 18, ρ 20, ρ 21, ρ 22, ρ 23, ρ 25, ρ 26, ρ 27, ρ 28, ρ 29, ρ 30] (γ 1) 4 0 (γ 2) := hS248 _ _ _ _ _ l1
  show sn249 [ρ 0, ρ 1, ρ 2, ρ 3, ρ 4, ρ 5, ρ 6, ρ 7, ρ 8, ρ 9, ρ 10, ρ 11, ρ 12, ρ 13, ρ 14, ρ 15, ρ 16, ρ 17, ρ 18, ρ 19, ρ 20, ρ 21, ρ 22, ρ 23, ρ 24, ρ 25, ρ 26, ρ 27, ρ 28, ρ 29, ρ 30] (γ 0) 4 0 (γ 2)
  refine Eq.symm ?_
  show fn249 [] (γ 0) = _
  unfold fn249
  refine (zLet_eq m4).trans ?_
  refine (zLet_eq m13).trans ?_
  refine (zLet_eq m19).trans ?_
  refine (if_neg (show ¬ (6 ≥ ρ 13) by omega)).trans ?_
  refine (zLet_eq (show fn132 [ρ 4, 6] (γ 0) = (0, 9 * ρ 4 + 7, γ 1) from l0.symm)).trans ?_
  refine (zLet_eq (show _ = γ 1 from rfl)).trans ?_
  refine (if_neg (show ¬ (ρ 19 ≠ 1) by omega)).trans ?_
  refine (zLet_eq (show fn248 [] (γ 1) = (4, 0, γ 2) from l1.symm)).trans ?_
  refine (zLet_eq (show _ = γ 2 from rfl)).trans ?_
  refine (if_neg (show ¬ (4 : Nat) = 0 by decide)).trans ?_
  refine (if_neg (show ¬ (4 : Nat) = 1 by decide)).trans ?_
  rfl
theorem yn249 {S : Nat → zSpc} (hS132 : ∀ x g o v gz, S 132 x g o v gz → sn132 x g o v gz) (hS228 : ∀ x g o v gz, S 228 x g o v gz → sn228 x g o v gz) (hS229 : ∀ x g o v gz, S 229 x g o v gz → sn229 x g o v gz) (hS230 : ∀ x g o v gz, S 230 x g o v gz → sn230 x g o v gz) (hS231 : ∀ x g o v gz, S 231 x g o v gz → sn231 x g o v gz) (hS244 : ∀ x g o v gz, S 244 x g o v gz → sn244 x g o v gz) (hS247 : ∀ x g o v gz, S 247 x g o v gz → sn247 x g o v gz) (hS248 : ∀ x g o v gz, S 248 x g o v gz → sn248 x g o v gz) : ∀ x g o v gz, zSem uW uT w249_.2.2.2.1 w249_.2.2.1.1.length S q249 (fun i => q249a.getD i []) (zNA a249_) x g o v gz → sn249 x g o v gz := by
  intro a g o v gz h
  exact zSem_all (l0 := q249) (las := q249a) (S := S) (J := (fun _ _ _ => True)) (P := sn249 a g) (fun _ => (show zAll _ [q249_0, q249_1, q249_2, q249_3, q249_4, q249_5, q249_6, q249_7, q249_8, q249_9, q249_10, q249_11, q249_12, q249_13, q249_14, q249_15, q249_16, q249_17, q249_18, q249_19, q249_20] from (zAll_c (vn249_0 hS132 hS228 hS229 hS230 hS231 hS244 hS247 hS248) (zAll_c (vn249_1 hS132 hS228 hS229 hS230 hS231 hS244 hS247 hS248) (zAll_c (vn249_2 hS132 hS228 hS229 hS230 hS231 hS244 hS247 hS248) (zAll_c (vn249_3 hS132 hS228 hS229 hS230 hS231 hS244 hS247 hS248) (zAll_c (vn249_4 hS132 hS228 hS229 hS230 hS231 hS244 hS247 hS248) (zAll_c (vn249_5 hS132 hS228 hS229 hS230 hS231 hS244 hS247 hS248) (zAll_c (vn249_6 hS132 hS228 hS229 hS230 hS231 hS244 hS247 hS248) (zAll_c (vn249_7 hS132 hS228 hS229 hS230 hS231 hS244 hS247 hS248) (zAll_c (vn249_8 hS132 hS228 hS229 hS230 hS231 hS244 hS247 hS248) (zAll_c (vn249_9 hS132 hS228 hS229 hS230 hS231 hS244 hS247 hS248) (zAll_c (vn249_10 hS132 hS228 hS229 hS230 hS231 hS244 hS247 hS248) (zAll_c (vn249_11 hS132 hS228 hS229 hS230 hS231 hS244 hS247 hS248) (zAll_c (vn249_12 hS132 hS228 hS229 hS230 hS231 hS244 hS247 hS248) (zAll_c (vn249_13 hS132 hS228 hS229 hS230 hS231 hS244 hS247 hS248) (zAll_c (vn249_14 hS132 hS228 hS229 hS230 hS231 hS244 hS247 hS248) (zAll_c (vn249_15 hS132 hS228 hS229 hS230 hS231 hS244 hS247 hS248) (zAll_c (vn249_16 hS132 hS228 hS229 hS230 hS231 hS244 hS247 hS248) (zAll_c (vn249_17 hS132 hS228 hS229 hS230 hS231 hS244 hS247 hS248) (zAll_c (vn249_18 hS132 hS228 hS229 hS230 hS231 hS244 hS247 hS248) (zAll_c (vn249_19 hS132 hS228 hS229 hS230 hS231 hS244 hS247 hS248) (zAll_c (vn249_20 hS132 hS228 hS229 hS230 hS231 hS244 hS247 hS248) zAll_n))))))))))))))))))))))) (fun _ => (show zAllI _ 0 [] from trivial)) h
