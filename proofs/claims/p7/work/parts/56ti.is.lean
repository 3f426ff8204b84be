/-! ===== the runs are the functions ===== -/
theorem vn250_0 {S : Nat → zSpc} (hS225 : ∀ x g o v gz, S 225 x g o v gz → sn225 x g o v gz) (hS226 : ∀ x g o v gz, S 226 x g o v gz → sn226 x g o v gz) (hS227 : ∀ x g o v gz, S 227 x g o v gz → sn227 x g o v gz) (hS232 : ∀ x g o v gz, S 232 x g o v gz → sn232 x g o v gz) (hS249 : ∀ x g o v gz, S 249 x g o v gz → sn249 x g o v gz) {a : List Int} {g : rHp} : ∀ (ρ : Nat → Int) (γ : Nat → rHp), zO 35 S a g q250_0 ρ γ → zGl (fun i vs g1 => jn250 a g i vs g1) (sn250 a g) q250_0 ρ γ := by
  intro ρ γ h
  obtain ⟨ha, hg, hr, hf, hm, hc, hl⟩ := h
  have ha : a = [ρ 0, ρ 1, ρ 2, ρ 3, ρ 4, ρ 5, ρ 6, ρ 7, ρ 8, ρ 9, ρ 10, ρ 11, ρ 12, ρ 13, ρ 14, ρ 15, ρ 16, ρ 17, ρ 18, ρ 19, ρ 20, ρ 21, ρ 22, ρ 23, ρ 24, ρ 25, ρ 26, ρ 27, ρ 28, ρ 29, ρ 30, ρ 31, ρ 32, ρ 33, ρ 34] := ha
  subst ha
  subst hg
  obtain ⟨r0, r1, r2, r3, r4, r5, r6, r7, r8, r9, r10, r11, r12, r13, r14, r15, r16, r17, r18, r19, r20, r21, r22, r23, r24, r25, r26, r27, r28, r29, r30, r31, r32, r33, r34, r35, -⟩ := hr
  have r0 : (0 : Int) ≤ ρ 0 ∧ ρ 0 ≤ 50000 := r0
  have r1 : (0 : Int) ≤ ρ 1 ∧ ρ 1 ≤ 2 := r1
  have r2 : (0 : Int) ≤ ρ 2 ∧ ρ 2 ≤ 2 := r2
  have r3 : (0 : Int) ≤ ρ 3 ∧ ρ 3 ≤ 50001 := r3
  have r4 : (0 : Int) ≤ ρ 4 ∧ ρ 4 ≤ 62 := r4
  have r5 : (0 : Int) ≤ ρ 5 ∧ ρ 5 ≤ 60 := r5
  have r6 : (0 : Int) ≤ ρ 6 ∧ ρ 6 ≤ 2000 := r6
  have r7 : (0 : Int) ≤ ρ 7 ∧ ρ 7 ≤ 2000 := r7
  have r8 : ((-2147483648) : Int) ≤ ρ 8 ∧ ρ 8 ≤ 2147483647 := r8
  have r9 : ((-2147483648) : Int) ≤ ρ 9 ∧ ρ 9 ≤ 1 := r9
  have r10 : (0 : Int) ≤ ρ 10 ∧ ρ 10 ≤ 2000 := r10
  have r11 : (0 : Int) ≤ ρ 11 ∧ ρ 11 ≤ 2000 := r11
  have r12 : ((-2147483648) : Int) ≤ ρ 12 ∧ ρ 12 ≤ 2147483647 := r12
  have r13 : (0 : Int) ≤ ρ 13 ∧ ρ 13 ≤ 8 := r13
  have r14 : (0 : Int) ≤ ρ 14 ∧ ρ 14 ≤ 8 := r14
  have r15 : (0 : Int) ≤ ρ 15 ∧ ρ 15 ≤ 4 := r15
  have r16 : ((-1) : Int) ≤ ρ 16 ∧ ρ 16 ≤ 19 := r16
  have r17 : (0 : Int) ≤ ρ 17 ∧ ρ 17 ≤ 4 := r17
  have r18 : ((-1) : Int) ≤ ρ 18 ∧ ρ 18 ≤ 7 := r18
  have r19 : (0 : Int) ≤ ρ 19 ∧ ρ 19 ≤ 4 := r19
  have r20 : ((-1) : Int) ≤ ρ 20 ∧ ρ 20 ≤ 19 := r20
  have r21 : ((-1) : Int) ≤ ρ 21 ∧ ρ 21 ≤ 3 := r21
  have r22 : (0 : Int) ≤ ρ 22 ∧ ρ 22 ≤ 7 := r22
  have r23 : (0 : Int) ≤ ρ 23 ∧ ρ 23 ≤ 8 := r23
  have r24 : (0 : Int) ≤ ρ 24 ∧ ρ 24 ≤ 4 := r24
  have r25 : ((-1) : Int) ≤ ρ 25 ∧ ρ 25 ≤ 19 := r25
  have r26 : ((-1) : Int) ≤ ρ 26 ∧ ρ 26 ≤ 3 := r26
  have r27 : (0 : Int) ≤ ρ 27 ∧ ρ 27 ≤ 7 := r27
  have r28 : ((-1) : Int) ≤ ρ 28 ∧ ρ 28 ≤ 7 := r28
  have r29 : (0 : Int) ≤ ρ 29 ∧ ρ 29 ≤ 8 := r29
  have r30 : (0 : Int) ≤ ρ 30 ∧ ρ 30 ≤ 4 := r30
  have r31 : ((-1) : Int) ≤ ρ 31 ∧ ρ 31 ≤ 19 := r31
  have r32 : ((-1) : Int) ≤ ρ 32 ∧ ρ 32 ≤ 3 := r32
  have r33 : (0 : Int) ≤ ρ 33 ∧ ρ 33 ≤ 7 := r33
  have r34 : ((-1) : Int) ≤ ρ 34 ∧ ρ 34 ≤ 7 := r34
  have r35 : ((-1) : Int) ≤ ρ 35 ∧ ρ 35 ≤ 2000 := r35
  obtain ⟨f0, -⟩ := hf
  have f0 : (0 : Int) ≤ -ρ 3 + ((-50001) * ρ 1 + ρ 0) + 100002 := f0
  obtain ⟨m0, m1, m2, m3, m4, m5, m6, m7, m8, m9, m10, m11, m12, m13, m14, m15, m16, m17, m18, m19, m20, m21, m22, m23, m24, m25, m26, m27, m28, m29, m30, m31, m32, m33, m34, -⟩ := hm
  have m0 : γ 0 6 0 0 = ρ 0 := m0
  have m1 : γ 0 6 0 9 = ρ 1 := m1
  have m2 : γ 0 6 0 6 = ρ 2 := m2
  have m3 : γ 0 8 (ρ 2) 1 = ρ 3 := m3
  have m4 : γ 0 6 0 7 = ρ 4 := m4
  have m5 : γ 0 1 0 10 = ρ 5 := m5
  have m6 : γ 0 4 0 7 = ρ 6 := m6
  have m7 : γ 0 5 0 3 = ρ 7 := m7
  have m8 : γ 0 6 0 8 = ρ 8 := m8
  have m9 : γ 0 6 0 10 = ρ 9 := m9
  have m10 : γ 0 6 0 11 = ρ 10 := m10
  have m11 : γ 0 6 0 12 = ρ 11 := m11
  have m12 : γ 0 6 0 13 = ρ 12 := m12
  have m13 : γ 0 9 (ρ 4) 2 = ρ 13 := m13
  have m14 : γ 0 9 (ρ 4) 3 = ρ 14 := m14
  have m15 : γ 0 10 (9 * ρ 4) 5 = ρ 15 := m15
  have m16 : γ 0 10 (9 * ρ 4) 8 = ρ 16 := m16
  have m17 : γ 0 10 (9 * ρ 4) 12 = ρ 17 := m17
  have m18 : γ 0 10 (9 * ρ 4) 14 = ρ 18 := m18
  have m19 : γ 0 10 (9 * ρ 4 + 6) 5 = ρ 19 := m19
  have m20 : γ 0 10 (9 * ρ 4 + 6) 8 = ρ 20 := m20
  have m21 : γ 0 10 (9 * ρ 4 + 6) 9 = ρ 21 := m21
  have m22 : γ 0 10 (9 * ρ 4 + 6) 10 = ρ 22 := m22
  have m23 : γ 0 10 (9 * ρ 4 + 7) 4 = ρ 23 := m23
  have m24 : γ 0 10 (9 * ρ 4 + 7) 5 = ρ 24 := m24
  have m25 : γ 0 10 (9 * ρ 4 + 7) 8 = ρ 25 := m25
  have m26 : γ 0 10 (9 * ρ 4 + 7) 9 = ρ 26 := m26
  have m27 : γ 0 10 (9 * ρ 4 + 7) 10 = ρ 27 := m27
  have m28 : γ 0 10 (9 * ρ 4 + 7) 11 = ρ 28 := m28
  have m29 : γ 0 10 (9 * ρ 4 + 8) 4 = ρ 29 := m29
  have m30 : γ 0 10 (9 * ρ 4 + 8) 5 = ρ 30 := m30
  have m31 : γ 0 10 (9 * ρ 4 + 8) 8 = ρ 31 := m31
  have m32 : γ 0 10 (9 * ρ 4 + 8) 9 = ρ 32 := m32
  have m33 : γ 0 10 (9 * ρ 4 + 8) 10 = ρ 33 := m33
  have m34 : γ 0 10 (9 * ρ 4 + 8) 11 = ρ 34 := m34
  obtain ⟨-, c1⟩ := hc
  have c1 : ∀ (G : Nat) (k j : Int), ¬ rMdP m0_ G j → γ 1 G k j = γ 0 G k j := c1
  obtain ⟨l0, -⟩ := hl
  have l0 : sn226 [9 * ρ 4 + 6, 0, ρ 6, ρ 20, ρ 21] (γ 0) 0 (ρ 35) (γ 1) := hS226 _ _ _ _ _ l0
  show jn250 [ρ 0, ρ 1, ρ 2, ρ 3, ρ 4, ρ 5, ρ 6, ρ 7, ρ 8, ρ 9, ρ 10, ρ 11, ρ 12, ρ 13, ρ 14, ρ 15, ρ 16, ρ 17, ρ 18, ρ 19, ρ 20, ρ 21, ρ 22, ρ 23, ρ 24, ρ 25, ρ 26, ρ 27, ρ 28, ρ 29, ρ 30, ρ 31, ρ 32, ρ 33, ρ 34] (γ 0) 0 [ρ 0, ρ 1, ρ 2, ρ 3, ρ 4, ρ 5, ρ 6, ρ 7, ρ 8, ρ 9, ρ 10, ρ 11, ρ 12, ρ 13, ρ 14, ρ 15, ρ 16, ρ 17, ρ 18, ρ 19, ρ 20, ρ 21, ρ 22, ρ 23, ρ 24, ρ 25, ρ 26, ρ 27, ρ 28, ρ 29, ρ 30, ρ 31, ρ 32, ρ 33, ρ 34, 0, ρ 35, 0, 0, ρ 0, ρ 3, ρ 6, ρ 7, ρ 12] (γ 1)
  have hD : dn250 [] (γ 0) = .inl (0, [0, ρ 35, 0, 0], γ 1) := by
    unfold dn250
    refine (zLet_eq m4).trans ?_
    refine (zLet_eq m9).trans ?_
    refine (zLet_eq m11).trans ?_
    refine (zLet_eq m12).trans ?_
    refine (zLet_eq m14).trans ?_
    refine (zLet_eq m22).trans ?_
    refine (if_pos (show ρ 9 ≤ 1 by omega)).trans ?_
    refine (zLet_eq (show fn226 [9 * ρ 4 + 6, 0] (γ 0) = (0, ρ 35, γ 1) from l0.symm)).trans ?_
    refine (zLet_eq (show _ = γ 1 from rfl)).trans ?_
    refine (zLet_eq (show _ = ρ 35 from rfl)).trans ?_
    rfl
  exact zGoo_to hD
theorem vn250_1 {S : Nat → zSpc} (hS225 : ∀ x g o v gz, S 225 x g o v gz → sn225 x g o v gz) (hS226 : ∀ x g o v gz, S 226 x g o v gz → sn226 x g o v gz) (hS227 : ∀ x g o v gz, S 227 x g o v gz → sn227 x g o v gz) (hS232 : ∀ x g o v gz, S 232 x g o v gz → sn232 x g o v gz) (hS249 : ∀ x g o v gz, S 249 x g o v gz → sn249 x g o v gz) {a : List Int} {g : rHp} : ∀ (ρ : Nat → Int) (γ : Nat → rHp), zO 35 S a g q250_1 ρ γ → zGl (fun i vs g1 => jn250 a g i vs g1) (sn250 a g) q250_1 ρ γ := by
  intro ρ γ h
  obtain ⟨ha, hg, hr, hf, hm, hc, hl⟩ := h
  have ha : a = [ρ 0, ρ 1, ρ 2, ρ 3, ρ 4, ρ 5, ρ 6, ρ 7, ρ 8, ρ 9, ρ 10, ρ 11, ρ 12, ρ 13, ρ 14, ρ 15, ρ 16, ρ 17, ρ 18, ρ 19, ρ 20, ρ 21, ρ 22, ρ 23, ρ 24, ρ 25, ρ 26, ρ 27, ρ 28, ρ 29, ρ 30, ρ 31, ρ 32, ρ 33, ρ 34] := ha
  subst ha
  subst hg
  obtain ⟨r0, r1, r2, r3, r4, r5, r6, r7, r8, r9, r10, r11, r12, r13, r14, r15, r16, r17, r18, r19, r20, r21, r22, r23, r24, r25, r26, r27, r28, r29, r30, r31, r32, r33, r34, r35, -⟩ := hr
  have r0 : (0 : Int) ≤ ρ 0 ∧ ρ 0 ≤ 50000 := r0
  have r1 : (0 : Int) ≤ ρ 1 ∧ ρ 1 ≤ 2 := r1
  have r2 : (0 : Int) ≤ ρ 2 ∧ ρ 2 ≤ 2 := r2
  have r3 : (0 : Int) ≤ ρ 3 ∧ ρ 3 ≤ 50001 := r3
  have r4 : (0 : Int) ≤ ρ 4 ∧ ρ 4 ≤ 62 := r4
  have r5 : (0 : Int) ≤ ρ 5 ∧ ρ 5 ≤ 60 := r5
  have r6 : (0 : Int) ≤ ρ 6 ∧ ρ 6 ≤ 2000 := r6
  have r7 : (0 : Int) ≤ ρ 7 ∧ ρ 7 ≤ 2000 := r7
  have r8 : ((-2147483648) : Int) ≤ ρ 8 ∧ ρ 8 ≤ 2147483647 := r8
  have r9 : (2 : Int) ≤ ρ 9 ∧ ρ 9 ≤ 2147483647 := r9
  have r10 : (0 : Int) ≤ ρ 10 ∧ ρ 10 ≤ 2000 := r10
  have r11 : (0 : Int) ≤ ρ 11 ∧ ρ 11 ≤ 2000 := r11
  have r12 : ((-2147483648) : Int) ≤ ρ 12 ∧ ρ 12 ≤ 2147483647 := r12
  have r13 : (0 : Int) ≤ ρ 13 ∧ ρ 13 ≤ 8 := r13
  have r14 : (0 : Int) ≤ ρ 14 ∧ ρ 14 ≤ 8 := r14
  have r15 : (0 : Int) ≤ ρ 15 ∧ ρ 15 ≤ 4 := r15
  have r16 : ((-1) : Int) ≤ ρ 16 ∧ ρ 16 ≤ 19 := r16
  have r17 : (0 : Int) ≤ ρ 17 ∧ ρ 17 ≤ 4 := r17
  have r18 : ((-1) : Int) ≤ ρ 18 ∧ ρ 18 ≤ 7 := r18
  have r19 : (0 : Int) ≤ ρ 19 ∧ ρ 19 ≤ 4 := r19
  have r20 : ((-1) : Int) ≤ ρ 20 ∧ ρ 20 ≤ 19 := r20
  have r21 : ((-1) : Int) ≤ ρ 21 ∧ ρ 21 ≤ 3 := r21
  have r22 : (0 : Int) ≤ ρ 22 ∧ ρ 22 ≤ 7 := r22
  have r23 : (0 : Int) ≤ ρ 23 ∧ ρ 23 ≤ 8 := r23
  have r24 : (0 : Int) ≤ ρ 24 ∧ ρ 24 ≤ 4 := r24
  have r25 : ((-1) : Int) ≤ ρ 25 ∧ ρ 25 ≤ 19 := r25
  have r26 : ((-1) : Int) ≤ ρ 26 ∧ ρ 26 ≤ 3 := r26
  have r27 : (0 : Int) ≤ ρ 27 ∧ ρ 27 ≤ 7 := r27
  have r28 : ((-1) : Int) ≤ ρ 28 ∧ ρ 28 ≤ 7 := r28
  have r29 : (0 : Int) ≤ ρ 29 ∧ ρ 29 ≤ 8 := r29
  have r30 : (0 : Int) ≤ ρ 30 ∧ ρ 30 ≤ 4 := r30
  have r31 : ((-1) : Int) ≤ ρ 31 ∧ ρ 31 ≤ 19 := r31
  have r32 : ((-1) : Int) ≤ ρ 32 ∧ ρ 32 ≤ 3 := r32
  have r33 : (0 : Int) ≤ ρ 33 ∧ ρ 33 ≤ 7 := r33
  have r34 : ((-1) : Int) ≤ ρ 34 ∧ ρ 34 ≤ 7 := r34
  have r35 : ((-1) : Int) ≤ ρ 35 ∧ ρ 35 ≤ 2000 := r35
  obtain ⟨f0, -⟩ := hf
  have f0 : (0 : Int) ≤ -ρ 3 + ((-50001) * ρ 1 + ρ 0) + 100002 := f0
  obtain ⟨m0, m1, m2, m3, m4, m5, m6, m7, m8, m9, m10, m11, m12, m13, m14, m15, m16, m17, m18, m19, m20, m21, m22, m23, m24, m25, m26, m27, m28, m29, m30, m31, m32, m33, m34, -⟩ := hm
  have m0 : γ 0 6 0 0 = ρ 0 := m0
  have m1 : γ 0 6 0 9 = ρ 1 := m1
  have m2 : γ 0 6 0 6 = ρ 2 := m2
  have m3 : γ 0 8 (ρ 2) 1 = ρ 3 := m3
  have m4 : γ 0 6 0 7 = ρ 4 := m4
  have m5 : γ 0 1 0 10 = ρ 5 := m5
  have m6 : γ 0 4 0 7 = ρ 6 := m6
  have m7 : γ 0 5 0 3 = ρ 7 := m7
  have m8 : γ 0 6 0 8 = ρ 8 := m8
  have m9 : γ 0 6 0 10 = ρ 9 := m9
  have m10 : γ 0 6 0 11 = ρ 10 := m10
  have m11 : γ 0 6 0 12 = ρ 11 := m11
  have m12 : γ 0 6 0 13 = ρ 12 := m12
  have m13 : γ 0 9 (ρ 4) 2 = ρ 13 := m13
  have m14 : γ 0 9 (ρ 4) 3 = ρ 14 := m14
  have m15 : γ 0 10 (9 * ρ 4) 5 = ρ 15 := m15
  have m16 : γ 0 10 (9 * ρ 4) 8 = ρ 16 := m16
  have m17 : γ 0 10 (9 * ρ 4) 12 = ρ 17 := m17
  have m18 : γ 0 10 (9 * ρ 4) 14 = ρ 18 := m18
  have m19 : γ 0 10 (9 * ρ 4 + 6) 5 = ρ 19 := m19
  have m20 : γ 0 10 (9 * ρ 4 + 6) 8 = ρ 20 := m20
  have m21 : γ 0 10 (9 * ρ 4 + 6) 9 = ρ 21 := m21
  have m22 : γ 0 10 (9 * ρ 4 + 6) 10 = ρ 22 := m22
  have m23 : γ 0 10 (9 * ρ 4 + 7) 4 = ρ 23 := m23
  have m24 : γ 0 10 (9 * ρ 4 + 7) 5 = ρ 24 := m24
  have m25 : γ 0 10 (9 * ρ 4 + 7) 8 = ρ 25 := m25
  have m26 : γ 0 10 (9 * ρ 4 + 7) 9 = ρ 26 := m26
  have m27 : γ 0 10 (9 * ρ 4 + 7) 10 = ρ 27 := m27
  have m28 : γ 0 10 (9 * ρ 4 + 7) 11 = ρ 28 := m28
  have m29 : γ 0 10 (9 * ρ 4 + 8) 4 = ρ 29 := m29
  have m30 : γ 0 10 (9 * ρ 4 + 8) 5 = ρ 30 := m30
  have m31 : γ 0 10 (9 * ρ 4 + 8) 8 = ρ 31 := m31
  have m32 : γ 0 10 (9 * ρ 4 + 8) 9 = ρ 32 := m32
  have m33 : γ 0 10 (9 * ρ 4 + 8) 10 = ρ 33 := m33
  have m34 : γ 0 10 (9 * ρ 4 + 8) 11 = ρ 34 := m34
  obtain ⟨-, c1⟩ := hc
  have c1 : ∀ (G : Nat) (k j : Int), ¬ rMdP m0_ G j → γ 1 G k j = γ 0 G k j := c1
  obtain ⟨l0, l1, -⟩ := hl
  have l0 : ρ 12 ≠ 0 := l0
  have l1 : sn226 [9 * ρ 4 + 6, 0, ρ 6, ρ 20, ρ 21] (γ 0) 0 (ρ 35) (γ 1) := hS226 _ _ _ _ _ l1
  show jn250 [ρ 0, ρ 1, ρ 2, ρ 3, ρ 4, ρ 5, ρ 6, ρ 7, ρ 8, ρ 9, ρ 10, ρ 11, ρ 12, ρ 13, ρ 14, ρ 15, ρ 16, ρ 17, ρ 18, ρ 19, ρ 20, ρ 21, ρ 22, ρ 23, ρ 24, ρ 25, ρ 26, ρ 27, ρ 28, ρ 29, ρ 30, ρ 31, ρ 32, ρ 33, ρ 34] (γ 0) 0 [ρ 0, ρ 1, ρ 2, ρ 3, ρ 4, ρ 5, ρ 6, ρ 7, ρ 8, ρ 9, ρ 10, ρ 11, ρ 12, ρ 13, ρ 14, ρ 15, ρ 16, ρ 17, ρ 18, ρ 19, ρ 20, ρ 21, ρ 22, ρ 23, ρ 24, ρ 25, ρ 26, ρ 27, ρ 28, ρ 29, ρ 30, ρ 31, ρ 32, ρ 33, ρ 34, 0, ρ 35, 0, 0, ρ 0, ρ 3, ρ 6, ρ 7, ρ 12] (γ 1)
  have hD : dn250 [] (γ 0) = .inl (0, [0, ρ 35, 0, 0], γ 1) := by
    unfold dn250
    refine (zLet_eq m4).trans ?_
    refine (zLet_eq m9).trans ?_
    refine (zLet_eq m11).trans ?_
    refine (zLet_eq m12).trans ?_
    refine (zLet_eq m14).trans ?_
    refine (zLet_eq m22).trans ?_
    refine (if_neg (show ¬ (ρ 9 ≤ 1) by omega)).trans ?_
    refine (if_pos (show ρ 12 ≠ 0 by omega)).trans ?_
    refine (zLet_eq (show fn226 [9 * ρ 4 + 6, 0] (γ 0) = (0, ρ 35, γ 1) from l1.symm)).trans ?_
    refine (zLet_eq (show _ = γ 1 from rfl)).trans ?_
    refine (zLet_eq (show _ = ρ 35 from rfl)).trans ?_
    rfl
  exact zGoo_to hD
theorem vn250_2 {S : Nat → zSpc} (hS225 : ∀ x g o v gz, S 225 x g o v gz → sn225 x g o v gz) (hS226 : ∀ x g o v gz, S 226 x g o v gz → sn226 x g o v gz) (hS227 : ∀ x g o v gz, S 227 x g o v gz → sn227 x g o v gz) (hS232 : ∀ x g o v gz, S 232 x g o v gz → sn232 x g o v gz) (hS249 : ∀ x g o v gz, S 249 x g o v gz → sn249 x g o v gz) {a : List Int} {g : rHp} : ∀ (ρ : Nat → Int) (γ : Nat → rHp), zO 35 S a g q250_2 ρ γ → zGl (fun i vs g1 => jn250 a g i vs g1) (sn250 a g) q250_2 ρ γ := by
  intro ρ γ h
  obtain ⟨ha, hg, hr, hf, hm, hc, hl⟩ := h
  have ha : a = [ρ 0, ρ 1, ρ 2, ρ 3, ρ 4, ρ 5, ρ 6, ρ 7, ρ 8, ρ 9, ρ 10, ρ 11, ρ 12, ρ 13, ρ 14, ρ 15, ρ 16, ρ 17, ρ 18, ρ 19, ρ 20, ρ 21, ρ 22, ρ 23, ρ 24, ρ 25, ρ 26, ρ 27, ρ 28, ρ 29, ρ 30, ρ 31, ρ 32, ρ 33, ρ 34] := ha
  subst ha
  subst hg
  obtain ⟨r0, r1, r2, r3, r4, r5, r6, r7, r8, r9, r10, r11, r12, r13, r14, r15, r16, r17, r18, r19, r20, r21, r22, r23, r24, r25, r26, r27, r28, r29, r30, r31, r32, r33, r34, r35, -⟩ := hr
  have r0 : (0 : Int) ≤ ρ 0 ∧ ρ 0 ≤ 50000 := r0
  have r1 : (0 : Int) ≤ ρ 1 ∧ ρ 1 ≤ 2 := r1
  have r2 : (0 : Int) ≤ ρ 2 ∧ ρ 2 ≤ 2 := r2
  have r3 : (0 : Int) ≤ ρ 3 ∧ ρ 3 ≤ 50001 := r3
  have r4 : (0 : Int) ≤ ρ 4 ∧ ρ 4 ≤ 62 := r4
  have r5 : (0 : Int) ≤ ρ 5 ∧ ρ 5 ≤ 60 := r5
  have r6 : (0 : Int) ≤ ρ 6 ∧ ρ 6 ≤ 2000 := r6
  have r7 : (0 : Int) ≤ ρ 7 ∧ ρ 7 ≤ 2000 := r7
  have r8 : ((-2147483648) : Int) ≤ ρ 8 ∧ ρ 8 ≤ 2147483647 := r8
  have r9 : (2 : Int) ≤ ρ 9 ∧ ρ 9 ≤ 2147483647 := r9
  have r10 : (0 : Int) ≤ ρ 10 ∧ ρ 10 ≤ 2000 := r10
  have r11 : (0 : Int) ≤ ρ 11 ∧ ρ 11 ≤ 2000 := r11
  have r12 : (0 : Int) ≤ ρ 12 ∧ ρ 12 ≤ 0 := r12
  have r13 : (0 : Int) ≤ ρ 13 ∧ ρ 13 ≤ 8 := r13
  have r14 : (0 : Int) ≤ ρ 14 ∧ ρ 14 ≤ 8 := r14
  have r15 : (0 : Int) ≤ ρ 15 ∧ ρ 15 ≤ 4 := r15
  have r16 : ((-1) : Int) ≤ ρ 16 ∧ ρ 16 ≤ 19 := r16
  have r17 : (0 : Int) ≤ ρ 17 ∧ ρ 17 ≤ 4 := r17
  have r18 : ((-1) : Int) ≤ ρ 18 ∧ ρ 18 ≤ 7 := r18
  have r19 : (0 : Int) ≤ ρ 19 ∧ ρ 19 ≤ 4 := r19
  have r20 : ((-1) : Int) ≤ ρ 20 ∧ ρ 20 ≤ 19 := r20
  have r21 : ((-1) : Int) ≤ ρ 21 ∧ ρ 21 ≤ 3 := r21
  have r22 : (0 : Int) ≤ ρ 22 ∧ ρ 22 ≤ 7 := r22
  have r23 : (0 : Int) ≤ ρ 23 ∧ ρ 23 ≤ 8 := r23
  have r24 : (0 : Int) ≤ ρ 24 ∧ ρ 24 ≤ 4 := r24
  have r25 : ((-1) : Int) ≤ ρ 25 ∧ ρ 25 ≤ 19 := r25
  have r26 : ((-1) : Int) ≤ ρ 26 ∧ ρ 26 ≤ 3 := r26
  have r27 : (0 : Int) ≤ ρ 27 ∧ ρ 27 ≤ 7 := r27
  have r28 : ((-1) : Int) ≤ ρ 28 ∧ ρ 28 ≤ 7 := r28
  have r29 : (0 : Int) ≤ ρ 29 ∧ ρ 29 ≤ 8 := r29
  have r30 : (0 : Int) ≤ ρ 30 ∧ ρ 30 ≤ 4 := r30
  have r31 : ((-1) : Int) ≤ ρ 31 ∧ ρ 31 ≤ 19 := r31
  have r32 : ((-1) : Int) ≤ ρ 32 ∧ ρ 32 ≤ 3 := r32
  have r33 : (0 : Int) ≤ ρ 33 ∧ ρ 33 ≤ 7 := r33
  have r34 : ((-1) : Int) ≤ ρ 34 ∧ ρ 34 ≤ 7 := r34
  have r35 : ((-1) : Int) ≤ ρ 35 ∧ ρ 35 ≤ 2000 := r35
  obtain ⟨f0, -⟩ := hf
  have f0 : (0 : Int) ≤ -ρ 3 + ((-50001) * ρ 1 + ρ 0) + 100002 := f0
  obtain ⟨m0, m1, m2, m3, m4, m5, m6, m7, m8, m9, m10, m11, m12, m13, m14, m15, m16, m17, m18, m19, m20, m21, m22, m23, m24, m25, m26, m27, m28, m29, m30, m31, m32, m33, m34, -⟩ := hm
  have m0 : γ 0 6 0 0 = ρ 0 := m0
  have m1 : γ 0 6 0 9 = ρ 1 := m1
  have m2 : γ 0 6 0 6 = ρ 2 := m2
  have m3 : γ 0 8 (ρ 2) 1 = ρ 3 := m3
  have m4 : γ 0 6 0 7 = ρ 4 := m4
  have m5 : γ 0 1 0 10 = ρ 5 := m5
  have m6 : γ 0 4 0 7 = ρ 6 := m6
  have m7 : γ 0 5 0 3 = ρ 7 := m7
  have m8 : γ 0 6 0 8 = ρ 8 := m8
  have m9 : γ 0 6 0 10 = ρ 9 := m9
  have m10 : γ 0 6 0 11 = ρ 10 := m10
  have m11 : γ 0 6 0 12 = ρ 11 := m11
  have m12 : γ 0 6 0 13 = ρ 12 := m12
  have m13 : γ 0 9 (ρ 4) 2 = ρ 13 := m13
  have m14 : γ 0 9 (ρ 4) 3 = ρ 14 := m14
  have m15 : γ 0 10 (9 * ρ 4) 5 = ρ 15 := m15
  have m16 : γ 0 10 (9 * ρ 4) 8 = ρ 16 := m16
  have m17 : γ 0 10 (9 * ρ 4) 12 = ρ 17 := m17
  have m18 : γ 0 10 (9 * ρ 4) 14 = ρ 18 := m18
  have m19 : γ 0 10 (9 * ρ 4 + 6) 5 = ρ 19 := m19
  have m20 : γ 0 10 (9 * ρ 4 + 6) 8 = ρ 20 := m20
  have m21 : γ 0 10 (9 * ρ 4 + 6) 9 = ρ 21 := m21
  have m22 : γ 0 10 (9 * ρ 4 + 6) 10 = ρ 22 := m22
  have m23 : γ 0 10 (9 * ρ 4 + 7) 4 = ρ 23 := m23
  have m24 : γ 0 10 (9 * ρ 4 + 7) 5 = ρ 24 := m24
  have m25 : γ 0 10 (9 * ρ 4 + 7) 8 = ρ 25 := m25
  have m26 : γ 0 10 (9 * ρ 4 + 7) 9 = ρ 26 := m26
  have m27 : γ 0 10 (9 * ρ 4 + 7) 10 = ρ 27 := m27
  have m28 : γ 0 10 (9 * ρ 4 + 7) 11 = ρ 28 := m28
  have m29 : γ 0 10 (9 * ρ 4 + 8) 4 = ρ 29 := m29
  have m30 : γ 0 10 (9 * ρ 4 + 8) 5 = ρ 30 := m30
  have m31 : γ 0 10 (9 * ρ 4 + 8) 8 = ρ 31 := m31
  have m32 : γ 0 10 (9 * ρ 4 + 8) 9 = ρ 32 := m32
  have m33 : γ 0 10 (9 * ρ 4 + 8) 10 = ρ 33 := m33
  have m34 : γ 0 10 (9 * ρ 4 + 8) 11 = ρ 34 := m34
  obtain ⟨-, c1⟩ := hc
  have c1 : ∀ (G : Nat) (k j : Int), ¬ rMdP m0_ G j → γ 1 G k j = γ 0 G k j := c1
  obtain ⟨l0, l1, -⟩ := hl
  have l0 : ρ 22 ≠ ρ 14 + (-1) := l0
  have l1 : sn226 [9 * ρ 4 + 6, 0, ρ 6, ρ 20, ρ 21] (γ 0) 0 (ρ 35) (γ 1) := hS226 _ _ _ _ _ l1
  show jn250 [ρ 0, ρ 1, ρ 2, ρ 3, ρ 4, ρ 5, ρ 6, ρ 7, ρ 8, ρ 9, ρ 10, ρ 11, ρ 12, ρ 13, ρ 14, ρ 15, ρ 16, ρ 17, ρ 18, ρ 19, ρ 20, ρ 21, ρ 22, ρ 23, ρ 24, ρ 25, ρ 26, ρ 27, ρ 28, ρ 29, ρ 30, ρ 31, ρ 32, ρ 33, ρ 34] (γ 0) 0 [ρ 0, ρ 1, ρ 2, ρ 3, ρ 4, ρ 5, ρ 6, ρ 7, ρ 8, ρ 9, ρ 10, ρ 11, ρ 12, ρ 13, ρ 14, ρ 15, ρ 16, ρ 17, ρ 18, ρ 19, ρ 20, ρ 21, ρ 22, ρ 23, ρ 24, ρ 25, ρ 26, ρ 27, ρ 28, ρ 29, ρ 30, ρ 31, ρ 32, ρ 33, ρ 34, 0, ρ 35, 0, 0, ρ 0, ρ 3, ρ 6, ρ 7, ρ 12] (γ 1)
  have hD : dn250 [] (γ 0) = .inl (0, [0, ρ 35, 0, 0], γ 1) := by
    unfold dn250
    refine (zLet_eq m4).trans ?_
    refine (zLet_eq m9).trans ?_
    refine (zLet_eq m11).trans ?_
    refine (zLet_eq m12).trans ?_
    refine (zLet_eq m14).trans ?_
    refine (zLet_eq m22).trans ?_
    refine (if_neg (show ¬ (ρ 9 ≤ 1) by omega)).trans ?_
    refine (if_neg (show ¬ (ρ 12 ≠ 0) by omega)).trans ?_
    refine (if_pos (show ρ 22 ≠ ρ 14 + (-1) by omega)).trans ?_
    refine (zLet_eq (show fn226 [9 * ρ 4 + 6, 0] (γ 0) = (0, ρ 35, γ 1) from l1.symm)).trans ?_
    refine (zLet_eq (show _ = γ 1 from rfl)).trans ?_
    refine (zLet_eq (show _ = ρ 35 from rfl)).trans ?_
    rfl
  exact zGoo_to hD
theorem vn250_3 {S : Nat → zSpc} (hS225 : ∀ x g o v gz, S 225 x g o v gz → sn225 x g o v gz) (hS226 : ∀ x g o v gz, S 226 x g o v gz → sn226 x g o v gz) (hS227 : ∀ x g o v gz, S 227 x g o v gz → sn227 x g o v gz) (hS232 : ∀ x g o v gz, S 232 x g o v gz → sn232 x g o v gz) (hS249 : ∀ x g o v gz, S 249 x g o v gz → sn249 x g o v gz) {a : List Int} {g : rHp} : ∀ (ρ : Nat → Int) (γ : Nat → rHp), zO 35 S a g q250_3 ρ γ → zGl (fun i vs g1 => jn250 a g i vs g1) (sn250 a g) q250_3 ρ γ := by
  intro ρ γ h
  obtain ⟨ha, hg, hr, hf, hm, hc, hl⟩ := h
  have ha : a = [ρ 0, ρ 1, ρ 2, ρ 3, ρ 4, ρ 5, ρ 6, ρ 7, ρ 8, ρ 9, ρ 10, ρ 11, ρ 12, ρ 13, ρ 14, ρ 15, ρ 16, ρ 17, ρ 18, ρ 19, ρ 20, ρ 21, ρ 22, ρ 23, ρ 24, ρ 25, ρ 26, ρ 27, ρ 28, ρ 29, ρ 30, ρ 31, ρ 32, ρ 33, ρ 34] := ha
  subst ha
  subst hg
  obtain ⟨r0, r1, r2, r3, r4, r5, r6, r7, r8, r9, r10, r11, r12, r13, r14, r15, r16, r17, r18, r19, r20, r21, r22, r23, r24, r25, r26, r27, r28, r29, r30, r31, r32, r33, r34, r35, -⟩ := hr
  have r0 : (0 : Int) ≤ ρ 0 ∧ ρ 0 ≤ 50000 := r0
  have r1 : (0 : Int) ≤ ρ 1 ∧ ρ 1 ≤ 2 := r1
  have r2 : (0 : Int) ≤ ρ 2 ∧ ρ 2 ≤ 2 := r2
  have r3 : (0 : Int) ≤ ρ 3 ∧ ρ 3 ≤ 50001 := r3
  have r4 : (0 : Int) ≤ ρ 4 ∧ ρ 4 ≤ 62 := r4
  have r5 : (0 : Int) ≤ ρ 5 ∧ ρ 5 ≤ 60 := r5
  have r6 : (0 : Int) ≤ ρ 6 ∧ ρ 6 ≤ 2000 := r6
  have r7 : (0 : Int) ≤ ρ 7 ∧ ρ 7 ≤ 2000 := r7
  have r8 : ((-2147483648) : Int) ≤ ρ 8 ∧ ρ 8 ≤ 2147483647 := r8
  have r9 : (2 : Int) ≤ ρ 9 ∧ ρ 9 ≤ 2147483647 := r9
  have r10 : (0 : Int) ≤ ρ 10 ∧ ρ 10 ≤ 2000 := r10
  have r11 : (0 : Int) ≤ ρ 11 ∧ ρ 11 ≤ 2000 := r11
  have r12 : (0 : Int) ≤ ρ 12 ∧ ρ 12 ≤ 0 := r12
  have r13 : (0 : Int) ≤ ρ 13 ∧ ρ 13 ≤ 8 := r13
  have r14 : (0 : Int) ≤ ρ 14 ∧ ρ 14 ≤ 8 := r14
  have r15 : (0 : Int) ≤ ρ 15 ∧ ρ 15 ≤ 4 := r15
  have r16 : ((-1) : Int) ≤ ρ 16 ∧ ρ 16 ≤ 19 := r16
  have r17 : (0 : Int) ≤ ρ 17 ∧ ρ 17 ≤ 4 := r17
  have r18 : ((-1) : Int) ≤ ρ 18 ∧ ρ 18 ≤ 7 := r18
  have r19 : (0 : Int) ≤ ρ 19 ∧ ρ 19 ≤ 4 := r19
  have r20 : ((-1) : Int) ≤ ρ 20 ∧ ρ 20 ≤ 19 := r20
  have r21 : ((-1) : Int) ≤ ρ 21 ∧ ρ 21 ≤ 3 := r21
  have r22 : (0 : Int) ≤ ρ 22 ∧ ρ 22 ≤ 7 := r22
  have r23 : (0 : Int) ≤ ρ 23 ∧ ρ 23 ≤ 8 := r23
  have r24 : (0 : Int) ≤ ρ 24 ∧ ρ 24 ≤ 4 := r24
  have r25 : ((-1) : Int) ≤ ρ 25 ∧ ρ 25 ≤ 19 := r25
  have r26 : ((-1) : Int) ≤ ρ 26 ∧ ρ 26 ≤ 3 := r26
  have r27 : (0 : Int) ≤ ρ 27 ∧ ρ 27 ≤ 7 := r27
  have r28 : ((-1) : Int) ≤ ρ 28 ∧ ρ 28 ≤ 7 := r28
  have r29 : (0 : Int) ≤ ρ 29 ∧ ρ 29 ≤ 8 := r29
  have r30 : (0 : Int) ≤ ρ 30 ∧ ρ 30 ≤ 4 := r30
  have r31 : ((-1) : Int) ≤ ρ 31 ∧ ρ 31 ≤ 19 := r31
  have r32 : ((-1) : Int) ≤ ρ 32 ∧ ρ 32 ≤ 3 := r32
  have r33 : (0 : Int) ≤ ρ 33 ∧ ρ 33 ≤ 7 := r33
  have r34 : ((-1) : Int) ≤ ρ 34 ∧ ρ 34 ≤ 7 := r34
  have r35 : ((-1) : Int) ≤ ρ 35 ∧ ρ 35 ≤ 2000 := r35
  obtain ⟨f0, f1, f2, -⟩ := hf
  have f0 : (0 : Int) ≤ -ρ 22 + ρ 14 + (-1) := f0
  have f1 : (0 : Int) ≤ ρ 22 + -ρ 14 + 1 := f1
  have f2 : (0 : Int) ≤ -ρ 3 + ((-50001) * ρ 1 + ρ 0) + 100002 := f2
  obtain ⟨m0, m1, m2, m3, m4, m5, m6, m7, m8, m9, m10, m11, m12, m13, m14, m15, m16, m17, m18, m19, m20, m21, m22, m23, m24, m25, m26, m27, m28, m29, m30, m31, m32, m33, m34, -⟩ := hm
  have m0 : γ 0 6 0 0 = ρ 0 := m0
  have m1 : γ 0 6 0 9 = ρ 1 := m1
  have m2 : γ 0 6 0 6 = ρ 2 := m2
  have m3 : γ 0 8 (ρ 2) 1 = ρ 3 := m3
  have m4 : γ 0 6 0 7 = ρ 4 := m4
  have m5 : γ 0 1 0 10 = ρ 5 := m5
  have m6 : γ 0 4 0 7 = ρ 6 := m6
  have m7 : γ 0 5 0 3 = ρ 7 := m7
  have m8 : γ 0 6 0 8 = ρ 8 := m8
  have m9 : γ 0 6 0 10 = ρ 9 := m9
  have m10 : γ 0 6 0 11 = ρ 10 := m10
  have m11 : γ 0 6 0 12 = ρ 11 := m11
  have m12 : γ 0 6 0 13 = ρ 12 := m12
  have m13 : γ 0 9 (ρ 4) 2 = ρ 13 := m13
  have m14 : γ 0 9 (ρ 4) 3 = ρ 14 := m14
  have m15 : γ 0 10 (9 * ρ 4) 5 = ρ 15 := m15
  have m16 : γ 0 10 (9 * ρ 4) 8 = ρ 16 := m16
  have m17 : γ 0 10 (9 * ρ 4) 12 = ρ 17 := m17
  have m18 : γ 0 10 (9 * ρ 4) 14 = ρ 18 := m18
  have m19 : γ 0 10 (9 * ρ 4 + 6) 5 = ρ 19 := m19
  have m20 : γ 0 10 (9 * ρ 4 + 6) 8 = ρ 20 := m20
  have m21 : γ 0 10 (9 * ρ 4 + 6) 9 = ρ 21 := m21
  have m22 : γ 0 10 (9 * ρ 4 + 6) 10 = ρ 22 := m22
  have m23 : γ 0 10 (9 * ρ 4 + 7) 4 = ρ 23 := m23
  have m24 : γ 0 10 (9 * ρ 4 + 7) 5 = ρ 24 := m24
  have m25 : γ 0 10 (9 * ρ 4 + 7) 8 = ρ 25 := m25
  have m26 : γ 0 10 (9 * ρ 4 + 7) 9 = ρ 26 := m26
  have m27 : γ 0 10 (9 * ρ 4 + 7) 10 = ρ 27 := m27
  have m28 : γ 0 10 (9 * ρ 4 + 7) 11 = ρ 28 := m28
  have m29 : γ 0 10 (9 * ρ 4 + 8) 4 = ρ 29 := m29
  have m30 : γ 0 10 (9 * ρ 4 + 8) 5 = ρ 30 := m30
  have m31 : γ 0 10 (9 * ρ 4 + 8) 8 = ρ 31 := m31
  have m32 : γ 0 10 (9 * ρ 4 + 8) 9 = ρ 32 := m32
  have m33 : γ 0 10 (9 * ρ 4 + 8) 10 = ρ 33 := m33
  have m34 : γ 0 10 (9 * ρ 4 + 8) 11 = ρ 34 := m34
  obtain ⟨-, c1⟩ := hc
  have c1 : ∀ (G : Nat) (k j : Int), ¬ rMdP m0_ G j → γ 1 G k j = γ 0 G k j := c1
  obtain ⟨l0, -⟩ := hl
  have l0 : sn226 [9 * ρ 4 + 6, ρ 11, ρ 6, ρ 20, ρ 21] (γ 0) 0 (ρ 35) (γ 1) := hS226 _ _ _ _ _ l0
  show jn250 [ρ 0, ρ 1, ρ 2, ρ 3, ρ 4, ρ 5, ρ 6, ρ 7, ρ 8, ρ 9, ρ 10, ρ 11, ρ 12, ρ 13, ρ 14, ρ 15, ρ 16, ρ 17, ρ 18, ρ 19, ρ 20, ρ 21, ρ 22, ρ 23, ρ 24, ρ 25, ρ 26, ρ 27, ρ 28, ρ 29, ρ 30, ρ 31, ρ 32, ρ 33, ρ 34] (γ 0) 0 [ρ 0, ρ 1, ρ 2, ρ 3, ρ 4, ρ 5, ρ 6, ρ 7, ρ 8, ρ 9, ρ 10, ρ 11, ρ 12, ρ 13, ρ 14, ρ 15, ρ 16, ρ 17, ρ 18, ρ 19, ρ 20, ρ 21, ρ 22, ρ 23, ρ 24, ρ 25, ρ 26, ρ 27, ρ 28, ρ 29, ρ 30, ρ 31, ρ 32, ρ 33, ρ 34, 0, ρ 35, ρ 11, 1, ρ 0, ρ 3, ρ 6, ρ 7, ρ 12] (γ 1)
  have hD : dn250 [] (γ 0) = .inl (0, [0, ρ 35, ρ 11, 1], γ 1) := by
    unfold dn250
    refine (zLet_eq m4).trans ?_
    refine (zLet_eq m9).trans ?_
    refine (zLet_eq m11).trans ?_
    refine (zLet_eq m12).trans ?_
    refine (zLet_eq m14).trans ?_
    refine (zLet_eq m22).trans ?_
    refine (if_neg (show ¬ (ρ 9 ≤ 1) by omega)).trans ?_
    refine (if_neg (show ¬ (ρ 12 ≠ 0) by omega)).trans ?_
    refine (if_neg (show ¬ (ρ 22 ≠ ρ 14 + (-1)) by omega)).trans ?_
    refine (zLet_eq (show fn226 [9 * ρ 4 + 6, ρ 11] (γ 0) = (0, ρ 35, γ 1) from l0.symm)).trans ?_
    refine (zLet_eq (show _ = γ 1 from rfl)).trans ?_
    refine (zLet_eq (show _ = ρ 35 from rfl)).trans ?_
    rfl
  exact zGoo_to hD
theorem vn250a0_0 {S : Nat → zSpc} (hS225 : ∀ x g o v gz, S 225 x g o v gz → sn225 x g o v gz) (hS226 : ∀ x g o v gz, S 226 x g o v gz → sn226 x g o v gz) (hS227 : ∀ x g o v gz, S 227 x g o v gz → sn227 x g o v gz) (hS232 : ∀ x g o v gz, S 232 x g o v gz → sn232 x g o v gz) (hS249 : ∀ x g o v gz, S 249 x g o v gz → sn249 x g o v gz) {a : List Int} {g : rHp} : ∀ (ρ : Nat → Int) (γ : Nat → rHp), jn250 a g 0 (zAg (zNA a250_ 0) ρ) (γ 1) → zO 35 S a g q250a0_0 ρ γ → zGl (fun i vs g1 => jn250 a g i vs g1) (sn250 a g) q250a0_0 ρ γ := by
  intro ρ γ hJ h
  obtain ⟨ha, hg, hr, hf, hm, hc, hl⟩ := h
  have ha : a = [ρ 0, ρ 1, ρ 2, ρ 3, ρ 4, ρ 5, ρ 6, ρ 7, ρ 8, ρ 9, ρ 10, ρ 11, ρ 12, ρ 13, ρ 14, ρ 15, ρ 16, ρ 17, ρ 18, ρ 19, ρ 20, ρ 21, ρ 22, ρ 23, ρ 24, ρ 25, ρ 26, ρ 27, ρ 28, ρ 29, ρ 30, ρ 31, ρ 32, ρ 33, ρ 34] := ha
  subst ha
  subst hg
  have hJ : jn250 [ρ 0, ρ 1, ρ 2, ρ 3, ρ 4, ρ 5, ρ 6, ρ 7, ρ 8, ρ 9, ρ 10, ρ 11, ρ 12, ρ 13, ρ 14, ρ 15, ρ 16, ρ 17, ρ 18, ρ 19, ρ 20, ρ 21, ρ 22, ρ 23, ρ 24, ρ 25, ρ 26, ρ 27, ρ 28, ρ 29, ρ 30, ρ 31, ρ 32, ρ 33, ρ 34] (γ 0) 0 [ρ 0, ρ 1, ρ 2, ρ 3, ρ 4, ρ 5, ρ 6, ρ 7, ρ 8, ρ 9, ρ 10, ρ 11, ρ 12, ρ 13, ρ 14, ρ 15, ρ 16, ρ 17, ρ 18, ρ 19, ρ 20, ρ 21, ρ 22, ρ 23, ρ 24, ρ 25, ρ 26, ρ 27, ρ 28, ρ 29, ρ 30, ρ 31, ρ 32, ρ 33, ρ 34, ρ 35, ρ 36, ρ 37, ρ 38, ρ 39, ρ 40, ρ 41, ρ 42, ρ 43] (γ 1) := hJ
  obtain ⟨r0, r1, r2, r3, r4, r5, r6, r7, r8, r9, r10, r11, r12, r13, r14, r15, r16, r17, r18, r19, r20, r21, r22, r23, r24, r25, r26, r27, r28, r29, r30, r31, r32, r33, r34, r35, r36, r37, r38, r39, r40, r41, r42, r43, -⟩ := hr
  have r0 : (0 : Int) ≤ ρ 0 ∧ ρ 0 ≤ 50000 := r0
  have r1 : (0 : Int) ≤ ρ 1 ∧ ρ 1 ≤ 2 := r1
  have r2 : (0 : Int) ≤ ρ 2 ∧ ρ 2 ≤ 2 := r2
  have r3 : (0 : Int) ≤ ρ 3 ∧ ρ 3 ≤ 50001 := r3
  have r4 : (0 : Int) ≤ ρ 4 ∧ ρ 4 ≤ 62 := r4
  have r5 : (0 : Int) ≤ ρ 5 ∧ ρ 5 ≤ 60 := r5
  have r6 : (0 : Int) ≤ ρ 6 ∧ ρ 6 ≤ 2000 := r6
  have r7 : (0 : Int) ≤ ρ 7 ∧ ρ 7 ≤ 2000 := r7
  have r8 : ((-2147483648) : Int) ≤ ρ 8 ∧ ρ 8 ≤ 2147483647 := r8
  have r9 : ((-2147483648) : Int) ≤ ρ 9 ∧ ρ 9 ≤ 2147483647 := r9
  have r10 : (0 : Int) ≤ ρ 10 ∧ ρ 10 ≤ 2000 := r10
  have r11 : (0 : Int) ≤ ρ 11 ∧ ρ 11 ≤ 2000 := r11
  have r12 : ((-2147483648) : Int) ≤ ρ 12 ∧ ρ 12 ≤ 2147483647 := r12
  have r13 : (0 : Int) ≤ ρ 13 ∧ ρ 13 ≤ 8 := r13
  have r14 : (0 : Int) ≤ ρ 14 ∧ ρ 14 ≤ 8 := r14
  have r15 : (0 : Int) ≤ ρ 15 ∧ ρ 15 ≤ 4 := r15
  have r16 : ((-1) : Int) ≤ ρ 16 ∧ ρ 16 ≤ 19 := r16
  have r17 : (0 : Int) ≤ ρ 17 ∧ ρ 17 ≤ 4 := r17
  have r18 : ((-1) : Int) ≤ ρ 18 ∧ ρ 18 ≤ 7 := r18
  have r19 : (0 : Int) ≤ ρ 19 ∧ ρ 19 ≤ 4 := r19
  have r20 : ((-1) : Int) ≤ ρ 20 ∧ ρ 20 ≤ 19 := r20
  have r21 : ((-1) : Int) ≤ ρ 21 ∧ ρ 21 ≤ 3 := r21
  have r22 : (0 : Int) ≤ ρ 22 ∧ ρ 22 ≤ 7 := r22
  have r23 : (0 : Int) ≤ ρ 23 ∧ ρ 23 ≤ 8 := r23
  have r24 : (0 : Int) ≤ ρ 24 ∧ ρ 24 ≤ 4 := r24
  have r25 : ((-1) : Int) ≤ ρ 25 ∧ ρ 25 ≤ 19 := r25
  have r26 : ((-1) : Int) ≤ ρ 26 ∧ ρ 26 ≤ 3 := r26
  have r27 : (0 : Int) ≤ ρ 27 ∧ ρ 27 ≤ 7 := r27
  have r28 : ((-1) : Int) ≤ ρ 28 ∧ ρ 28 ≤ 7 := r28
  have r29 : (0 : Int) ≤ ρ 29 ∧ ρ 29 ≤ 8 := r29
  have r30 : (0 : Int) ≤ ρ 30 ∧ ρ 30 ≤ 4 := r30
  have r31 : ((-1) : Int) ≤ ρ 31 ∧ ρ 31 ≤ 19 := r31
  have r32 : ((-1) : Int) ≤ ρ 32 ∧ ρ 32 ≤ 3 := r32
  have r33 : (0 : Int) ≤ ρ 33 ∧ ρ 33 ≤ 7 := r33
  have r34 : ((-1) : Int) ≤ ρ 34 ∧ ρ 34 ≤ 7 := r34
  have r35 : (0 : Int) ≤ ρ 35 ∧ ρ 35 ≤ 2000 := r35
  have r36 : ((-1) : Int) ≤ ρ 36 ∧ ρ 36 ≤ (-1) := r36
  have r37 : (0 : Int) ≤ ρ 37 ∧ ρ 37 ≤ 2000 := r37
  have r38 : (0 : Int) ≤ ρ 38 ∧ ρ 38 ≤ 1 := r38
  have r39 : (0 : Int) ≤ ρ 39 ∧ ρ 39 ≤ 50000 := r39
  have r40 : (0 : Int) ≤ ρ 40 ∧ ρ 40 ≤ 50001 := r40
  have r41 : (0 : Int) ≤ ρ 41 ∧ ρ 41 ≤ 2000 := r41
  have r42 : (0 : Int) ≤ ρ 42 ∧ ρ 42 ≤ 2000 := r42
  have r43 : ((-2147483648) : Int) ≤ ρ 43 ∧ ρ 43 ≤ 2147483647 := r43
  obtain ⟨f0, f1, f2, f3, f4, f5, f6, f7, f8, -⟩ := hf
  have f0 : (0 : Int) ≤ -ρ 40 + (ρ 39 + (ρ 3 + -ρ 0)) := f0
  have f1 : (0 : Int) ≤ -ρ 40 + (ρ 39 + (-50001) * ρ 1) + 100002 := f1
  have f2 : (0 : Int) ≤ -ρ 38 + ρ 14 := f2
  have f3 : (0 : Int) ≤ -ρ 37 + ρ 11 := f3
  have f4 : (0 : Int) ≤ ρ 42 + -ρ 7 := f4
  have f5 : (0 : Int) ≤ ρ 41 + -ρ 6 := f5
  have f6 : (0 : Int) ≤ ρ 40 + -ρ 3 := f6
  have f7 : (0 : Int) ≤ ρ 39 + -ρ 0 := f7
  have f8 : (0 : Int) ≤ -ρ 3 + ((-50001) * ρ 1 + ρ 0) + 100002 := f8
  obtain ⟨m0, m1, m2, m3, m4, m5, m6, m7, m8, m9, m10, m11, m12, m13, m14, m15, m16, m17, m18, m19, m20, m21, m22, m23, m24, m25, m26, m27, m28, m29, m30, m31, m32, m33, m34, m35, m36, m37, m38, m39, -⟩ := hm
  have m0 : γ 0 6 0 0 = ρ 0 := m0
  have m1 : γ 0 6 0 9 = ρ 1 := m1
  have m2 : γ 0 6 0 6 = ρ 2 := m2
  have m3 : γ 0 8 (ρ 2) 1 = ρ 3 := m3
  have m4 : γ 0 6 0 7 = ρ 4 := m4
  have m5 : γ 0 1 0 10 = ρ 5 := m5
  have m6 : γ 0 4 0 7 = ρ 6 := m6
  have m7 : γ 0 5 0 3 = ρ 7 := m7
  have m8 : γ 0 6 0 8 = ρ 8 := m8
  have m9 : γ 0 6 0 10 = ρ 9 := m9
  have m10 : γ 0 6 0 11 = ρ 10 := m10
  have m11 : γ 0 6 0 12 = ρ 11 := m11
  have m12 : γ 0 6 0 13 = ρ 12 := m12
  have m13 : γ 0 9 (ρ 4) 2 = ρ 13 := m13
  have m14 : γ 0 9 (ρ 4) 3 = ρ 14 := m14
  have m15 : γ 0 10 (9 * ρ 4) 5 = ρ 15 := m15
  have m16 : γ 0 10 (9 * ρ 4) 8 = ρ 16 := m16
  have m17 : γ 0 10 (9 * ρ 4) 12 = ρ 17 := m17
  have m18 : γ 0 10 (9 * ρ 4) 14 = ρ 18 := m18
  have m19 : γ 0 10 (9 * ρ 4 + 6) 5 = ρ 19 := m19
  have m20 : γ 0 10 (9 * ρ 4 + 6) 8 = ρ 20 := m20
  have m21 : γ 0 10 (9 * ρ 4 + 6) 9 = ρ 21 := m21
  have m22 : γ 0 10 (9 * ρ 4 + 6) 10 = ρ 22 := m22
  have m23 : γ 0 10 (9 * ρ 4 + 7) 4 = ρ 23 := m23
  have m24 : γ 0 10 (9 * ρ 4 + 7) 5 = ρ 24 := m24
  have m25 : γ 0 10 (9 * ρ 4 + 7) 8 = ρ 25 := m25
  have m26 : γ 0 10 (9 * ρ 4 + 7) 9 = ρ 26 := m26
  have m27 : γ 0 10 (9 * ρ 4 + 7) 10 = ρ 27 := m27
  have m28 : γ 0 10 (9 * ρ 4 + 7) 11 = ρ 28 := m28
  have m29 : γ 0 10 (9 * ρ 4 + 8) 4 = ρ 29 := m29
  have m30 : γ 0 10 (9 * ρ 4 + 8) 5 = ρ 30 := m30
  have m31 : γ 0 10 (9 * ρ 4 + 8) 8 = ρ 31 := m31
  have m32 : γ 0 10 (9 * ρ 4 + 8) 9 = ρ 32 := m32
  have m33 : γ 0 10 (9 * ρ 4 + 8) 10 = ρ 33 := m33
  have m34 : γ 0 10 (9 * ρ 4 + 8) 11 = ρ 34 := m34
  have m35 : γ 1 6 0 0 = ρ 39 := m35
  have m36 : γ 1 8 (ρ 2) 1 = ρ 40 := m36
  have m37 : γ 1 4 0 7 = ρ 41 := m37
  have m38 : γ 1 5 0 3 = ρ 42 := m38
  have m39 : γ 1 6 0 13 = ρ 43 := m39
  obtain ⟨-, c1⟩ := hc
  have c1 : ∀ (G : Nat) (k j : Int), ¬ rMdP m140_ G j → γ 1 G k j = γ 0 G k j := c1
  show sn250 [ρ 0, ρ 1, ρ 2, ρ 3, ρ 4, ρ 5, ρ 6, ρ 7, ρ 8, ρ 9, ρ 10, ρ 11, ρ 12, ρ 13, ρ 14, ρ 15, ρ 16, ρ 17, ρ 18, ρ 19, ρ 20, ρ 21, ρ 22, ρ 23, ρ 24, ρ 25, ρ 26, ρ 27, ρ 28, ρ 29, ρ 30, ρ 31, ρ 32, ρ 33, ρ 34] (γ 0) 0 0 (γ 1)
  have hD : en250 (γ 0) (0, [ρ 35, ρ 36, ρ 37, ρ 38], γ 1) = .inr (0, 0, γ 1) := by
    unfold en250
    refine (if_pos (show (0 : Nat) = 0 by decide)).trans ?_
    refine (zLet_eq (show _ = γ 1 from rfl)).trans ?_
    refine (zLet_eq (show _ = ρ 35 from rfl)).trans ?_
    refine (zLet_eq (show _ = ρ 36 from rfl)).trans ?_
    refine (zLet_eq (show _ = ρ 37 from rfl)).trans ?_
    refine (zLet_eq (show _ = ρ 38 from rfl)).trans ?_
    refine (zLet_eq m4).trans ?_
    refine (zLet_eq m10).trans ?_
    refine (zLet_eq m11).trans ?_
    refine (zLet_eq m39).trans ?_
    refine (if_pos (show ρ 36 < 0 by omega)).trans ?_
    rfl
  exact zGoo_aend hJ hD
theorem vn250a0_1 {S : Nat → zSpc} (hS225 : ∀ x g o v gz, S 225 x g o v gz → sn225 x g o v gz) (hS226 : ∀ x g o v gz, S 226 x g o v gz → sn226 x g o v gz) (hS227 : ∀ x g o v gz, S 227 x g o v gz → sn227 x g o v gz) (hS232 : ∀ x g o v gz, S 232 x g o v gz → sn232 x g o v gz) (hS249 : ∀ x g o v gz, S 249 x g o v gz → sn249 x g o v gz) {a : List Int} {g : rHp} : ∀ (ρ : Nat → Int) (γ : Nat → rHp), jn250 a g 0 (zAg (zNA a250_ 0) ρ) (γ 1) → zO 35 S a g q250a0_1 ρ γ → zGl (fun i vs g1 => jn250 a g i vs g1) (sn250 a g) q250a0_1 ρ γ := by
  intro ρ γ hJ h
  obtain ⟨ha, hg, hr, hf, hm, hc, hl⟩ := h
  have ha : a = [ρ 0, ρ 1, ρ 2, ρ 3, ρ 4, ρ 5, ρ 6, ρ 7, ρ 8, ρ 9, ρ 10, ρ 11, ρ 12, ρ 13, ρ 14, ρ 15, ρ 16, ρ 17, ρ 18, ρ 19, ρ 20, ρ 21, ρ 22, ρ 23, ρ 24, ρ 25, ρ 26, ρ 27, ρ 28, ρ 29, ρ 30, ρ 31, ρ 32, ρ 33, ρ 34] := ha
  subst ha
  subst hg
  have hJ : jn250 [ρ 0, ρ 1, ρ 2, ρ 3, ρ 4, ρ 5, ρ 6, ρ 7, ρ 8, ρ 9, ρ 10, ρ 11, ρ 12, ρ 13, ρ 14, ρ 15, ρ 16, ρ 17, ρ 18, ρ 19, ρ 20, ρ 21, ρ 22, ρ 23, ρ 24, ρ 25, ρ 26, ρ 27, ρ 28, ρ 29, ρ 30, ρ 31, ρ 32, ρ 33, ρ 34] (γ 0) 0 [ρ 0, ρ 1, ρ 2, ρ 3, ρ 4, ρ 5, ρ 6, ρ 7, ρ 8, ρ 9, ρ 10, ρ 11, ρ 12, ρ 13, ρ 14, ρ 15, ρ 16, ρ 17, ρ 18, ρ 19, ρ 20, ρ 21, ρ 22, ρ 23, ρ 24, ρ 25, ρ 26, ρ 27, ρ 28, ρ 29, ρ 30, ρ 31, ρ 32, ρ 33, ρ 34, ρ 35, ρ 36, ρ 37, ρ 38, ρ 39, ρ 40, ρ 41, ρ 42, ρ 43] (γ 1) := hJ
  obtain ⟨r0, r1, r2, r3, r4, r5, r6, r7, r8, r9, r10, r11, r12, r13, r14, r15, r16, r17, r18, r19, r20, r21, r22, r23, r24, r25, r26, r27, r28, r29, r30, r31, r32, r33, r34, r35, r36, r37, r38, r39, r40, r41, r42, r43, -⟩ := hr
  have r0 : (0 : Int) ≤ ρ 0 ∧ ρ 0 ≤ 50000 := r0
  have r1 : (0 : Int) ≤ ρ 1 ∧ ρ 1 ≤ 2 := r1
  have r2 : (0 : Int) ≤ ρ 2 ∧ ρ 2 ≤ 2 := r2
  have r3 : (0 : Int) ≤ ρ 3 ∧ ρ 3 ≤ 50001 := r3
  have r4 : (0 : Int) ≤ ρ 4 ∧ ρ 4 ≤ 62 := r4
  have r5 : (0 : Int) ≤ ρ 5 ∧ ρ 5 ≤ 60 := r5
  have r6 : (0 : Int) ≤ ρ 6 ∧ ρ 6 ≤ 2000 := r6
  have r7 : (0 : Int) ≤ ρ 7 ∧ ρ 7 ≤ 2000 := r7
  have r8 : ((-2147483648) : Int) ≤ ρ 8 ∧ ρ 8 ≤ 2147483647 := r8
  have r9 : ((-2147483648) : Int) ≤ ρ 9 ∧ ρ 9 ≤ 2147483647 := r9
  have r10 : (0 : Int) ≤ ρ 10 ∧ ρ 10 ≤ 2000 := r10
  have r11 : (0 : Int) ≤ ρ 11 ∧ ρ 11 ≤ 2000 := r11
  have r12 : ((-2147483648) : Int) ≤ ρ 12 ∧ ρ 12 ≤ 2147483647 := r12
  have r13 : (0 : Int) ≤ ρ 13 ∧ ρ 13 ≤ 8 := r13
  have r14 : (0 : Int) ≤ ρ 14 ∧ ρ 14 ≤ 8 := r14
  have r15 : (0 : Int) ≤ ρ 15 ∧ ρ 15 ≤ 4 := r15
  have r16 : ((-1) : Int) ≤ ρ 16 ∧ ρ 16 ≤ 19 := r16
  have r17 : (0 : Int) ≤ ρ 17 ∧ ρ 17 ≤ 4 := r17
  have r18 : ((-1) : Int) ≤ ρ 18 ∧ ρ 18 ≤ 7 := r18
  have r19 : (0 : Int) ≤ ρ 19 ∧ ρ 19 ≤ 4 := r19
  have r20 : ((-1) : Int) ≤ ρ 20 ∧ ρ 20 ≤ 19 := r20
  have r21 : ((-1) : Int) ≤ ρ 21 ∧ ρ 21 ≤ 3 := r21
  have r22 : (0 : Int) ≤ ρ 22 ∧ ρ 22 ≤ 7 := r22
  have r23 : (0 : Int) ≤ ρ 23 ∧ ρ 23 ≤ 8 := r23
  have r24 : (0 : Int) ≤ ρ 24 ∧ ρ 24 ≤ 4 := r24
  have r25 : ((-1) : Int) ≤ ρ 25 ∧ ρ 25 ≤ 19 := r25
  have r26 : ((-1) : Int) ≤ ρ 26 ∧ ρ 26 ≤ 3 := r26
  have r27 : (0 : Int) ≤ ρ 27 ∧ ρ 27 ≤ 7 := r27
  have r28 : ((-1) : Int) ≤ ρ 28 ∧ ρ 28 ≤ 7 := r28
  have r29 : (0 : Int) ≤ ρ 29 ∧ ρ 29 ≤ 8 := r29
  have r30 : (0 : Int) ≤ ρ 30 ∧ ρ 30 ≤ 4 := r30
  have r31 : ((-1) : Int) ≤ ρ 31 ∧ ρ 31 ≤ 19 := r31
  have r32 : ((-1) : Int) ≤ ρ 32 ∧ ρ 32 ≤ 3 := r32
  have r33 : (0 : Int) ≤ ρ 33 ∧ ρ 33 ≤ 7 := r33
  have r34 : ((-1) : Int) ≤ ρ 34 ∧ ρ 34 ≤ 7 := r34
  have r35 : (0 : Int) ≤ ρ 35 ∧ ρ 35 ≤ 2000 := r35
  have r36 : (0 : Int) ≤ ρ 36 ∧ ρ 36 ≤ 2000 := r36
  have r37 : (0 : Int) ≤ ρ 37 ∧ ρ 37 ≤ 2000 := r37
  have r38 : (0 : Int) ≤ ρ 38 ∧ ρ 38 ≤ 1 := r38
  have r39 : (0 : Int) ≤ ρ 39 ∧ ρ 39 ≤ 50000 := r39
  have r40 : (0 : Int) ≤ ρ 40 ∧ ρ 40 ≤ 50001 := r40
  have r41 : (0 : Int) ≤ ρ 41 ∧ ρ 41 ≤ 2000 := r41
  have r42 : (0 : Int) ≤ ρ 42 ∧ ρ 42 ≤ 2000 := r42
  have r43 : ((-2147483648) : Int) ≤ ρ 43 ∧ ρ 43 ≤ 2147483647 := r43
  obtain ⟨f0, f1, f2, f3, f4, f5, f6, f7, f8, f9, -⟩ := hf
  have f0 : (0 : Int) ≤ ρ 36 + -ρ 10 := f0
  have f1 : (0 : Int) ≤ -ρ 40 + (ρ 39 + (ρ 3 + -ρ 0)) := f1
  have f2 : (0 : Int) ≤ -ρ 40 + (ρ 39 + (-50001) * ρ 1) + 100002 := f2
  have f3 : (0 : Int) ≤ -ρ 38 + ρ 14 := f3
  have f4 : (0 : Int) ≤ -ρ 37 + ρ 11 := f4
  have f5 : (0 : Int) ≤ ρ 42 + -ρ 7 := f5
  have f6 : (0 : Int) ≤ ρ 41 + -ρ 6 := f6
  have f7 : (0 : Int) ≤ ρ 40 + -ρ 3 := f7
  have f8 : (0 : Int) ≤ ρ 39 + -ρ 0 := f8
  have f9 : (0 : Int) ≤ -ρ 3 + ((-50001) * ρ 1 + ρ 0) + 100002 := f9
  obtain ⟨m0, m1, m2, m3, m4, m5, m6, m7, m8, m9, m10, m11, m12, m13, m14, m15, m16, m17, m18, m19, m20, m21, m22, m23, m24, m25, m26, m27, m28, m29, m30, m31, m32, m33, m34, m35, m36, m37, m38, m39, -⟩ := hm
  have m0 : γ 0 6 0 0 = ρ 0 := m0
  have m1 : γ 0 6 0 9 = ρ 1 := m1
  have m2 : γ 0 6 0 6 = ρ 2 := m2
  have m3 : γ 0 8 (ρ 2) 1 = ρ 3 := m3
  have m4 : γ 0 6 0 7 = ρ 4 := m4
  have m5 : γ 0 1 0 10 = ρ 5 := m5
  have m6 : γ 0 4 0 7 = ρ 6 := m6
  have m7 : γ 0 5 0 3 = ρ 7 := m7
  have m8 : γ 0 6 0 8 = ρ 8 := m8
  have m9 : γ 0 6 0 10 = ρ 9 := m9
  have m10 : γ 0 6 0 11 = ρ 10 := m10
  have m11 : γ 0 6 0 12 = ρ 11 := m11
  have m12 : γ 0 6 0 13 = ρ 12 := m12
  have m13 : γ 0 9 (ρ 4) 2 = ρ 13 := m13
  have m14 : γ 0 9 (ρ 4) 3 = ρ 14 := m14
  have m15 : γ 0 10 (9 * ρ 4) 5 = ρ 15 := m15
  have m16 : γ 0 10 (9 * ρ 4) 8 = ρ 16 := m16
  have m17 : γ 0 10 (9 * ρ 4) 12 = ρ 17 := m17
  have m18 : γ 0 10 (9 * ρ 4) 14 = ρ 18 := m18
  have m19 : γ 0 10 (9 * ρ 4 + 6) 5 = ρ 19 := m19
  have m20 : γ 0 10 (9 * ρ 4 + 6) 8 = ρ 20 := m20
  have m21 : γ 0 10 (9 * ρ 4 + 6) 9 = ρ 21 := m21
  have m22 : γ 0 10 (9 * ρ 4 + 6) 10 = ρ 22 := m22
  have m23 : γ 0 10 (9 * ρ 4 + 7) 4 = ρ 23 := m23
  have m24 : γ 0 10 (9 * ρ 4 + 7) 5 = ρ 24 := m24
  have m25 : γ 0 10 (9 * ρ 4 + 7) 8 = ρ 25 := m25
  have m26 : γ 0 10 (9 * ρ 4 + 7) 9 = ρ 26 := m26
  have m27 : γ 0 10 (9 * ρ 4 + 7) 10 = ρ 27 := m27
  have m28 : γ 0 10 (9 * ρ 4 + 7) 11 = ρ 28 := m28
  have m29 : γ 0 10 (9 * ρ 4 + 8) 4 = ρ 29 := m29
  have m30 : γ 0 10 (9 * ρ 4 + 8) 5 = ρ 30 := m30
  have m31 : γ 0 10 (9 * ρ 4 + 8) 8 = ρ 31 := m31
  have m32 : γ 0 10 (9 * ρ 4 + 8) 9 = ρ 32 := m32
  have m33 : γ 0 10 (9 * ρ 4 + 8) 10 = ρ 33 := m33
  have m34 : γ 0 10 (9 * ρ 4 + 8) 11 = ρ 34 := m34
  have m35 : γ 1 6 0 0 = ρ 39 := m35
  have m36 : γ 1 8 (ρ 2) 1 = ρ 40 := m36
  have m37 : γ 1 4 0 7 = ρ 41 := m37
  have m38 : γ 1 5 0 3 = ρ 42 := m38
  have m39 : γ 1 6 0 13 = ρ 43 := m39
  obtain ⟨-, c1⟩ := hc
  have c1 : ∀ (G : Nat) (k j : Int), ¬ rMdP m140_ G j → γ 1 G k j = γ 0 G k j := c1
  show sn250 [ρ 0, ρ 1, ρ 2, ρ 3, ρ 4, ρ 5, ρ 6, ρ 7, ρ 8, ρ 9, ρ 10, ρ 11, ρ 12, ρ 13, ρ 14, ρ 15, ρ 16, ρ 17, ρ 18, ρ 19, ρ 20, ρ 21, ρ 22, ρ 23, ρ 24, ρ 25, ρ 26, ρ 27, ρ 28, ρ 29, ρ 30, ρ 31, ρ 32, ρ 33, ρ 34] (γ 0) 0 0 (γ 1)
  have hD : en250 (γ 0) (0, [ρ 35, ρ 36, ρ 37, ρ 38], γ 1) = .inr (0, 0, γ 1) := by
    unfold en250
    refine (if_pos (show (0 : Nat) = 0 by decide)).trans ?_
    refine (zLet_eq (show _ = γ 1 from rfl)).trans ?_
    refine (zLet_eq (show _ = ρ 35 from rfl)).trans ?_
    refine (zLet_eq (show _ = ρ 36 from rfl)).trans ?_
    refine (zLet_eq (show _ = ρ 37 from rfl)).trans ?_
    refine (zLet_eq (show _ = ρ 38 from rfl)).trans ?_
    refine (zLet_eq m4).trans ?_
    refine (zLet_eq m10).trans ?_
    refine (zLet_eq m11).trans ?_
    refine (zLet_eq m39).trans ?_
    refine (if_neg (show ¬ (ρ 36 < 0) by omega)).trans ?_
    refine (if_pos (show ρ 36 ≥ ρ 10 by omega)).trans ?_
    rfl
  exact zGoo_aend hJ hD
theorem vn250a0_2 {S : Nat → zSpc} (hS225 : ∀ x g o v gz, S 225 x g o v gz → sn225 x g o v gz) (hS226 : ∀ x g o v gz, S 226 x g o v gz → sn226 x g o v gz) (hS227 : ∀ x g o v gz, S 227 x g o v gz → sn227 x g o v gz) (hS232 : ∀ x g o v gz, S 232 x g o v gz → sn232 x g o v gz) (hS249 : ∀ x g o v gz, S 249 x g o v gz → sn249 x g o v gz) {a : List Int} {g : rHp} : ∀ (ρ : Nat → Int) (γ : Nat → rHp), jn250 a g 0 (zAg (zNA a250_ 0) ρ) (γ 1) → zO 35 S a g q250a0_2 ρ γ → zGl (fun i vs g1 => jn250 a g i vs g1) (sn250 a g) q250a0_2 ρ γ := by
  intro ρ γ hJ h
  obtain ⟨ha, hg, hr, hf, hm, hc, hl⟩ := h
  have ha : a = [ρ 0, ρ 1, ρ 2, ρ 3, ρ 4, ρ 5, ρ 6, ρ 7, ρ 8, ρ 9, ρ 10, ρ 11, ρ 12, ρ 13, ρ 14, ρ 15, ρ 16, ρ 17, ρ 18, ρ 19, ρ 20, ρ 21, ρ 22, ρ 23, ρ 24, ρ 25, ρ 26, ρ 27, ρ 28, ρ 29, ρ 30, ρ 31, ρ 32, ρ 33, ρ 34] := ha
  subst ha
  subst hg
  have hJ : jn250 [ρ 0, ρ 1, ρ 2, ρ 3, ρ 4, ρ 5, ρ 6, ρ 7, ρ 8, ρ 9, ρ 10, ρ 11, ρ 12, ρ 13, ρ 14, ρ 15, ρ 16, ρ 17, ρ 18, ρ 19, ρ 20, ρ 21, ρ 22, ρ 23, ρ 24, ρ 25, ρ 26, ρ 27, ρ 28, ρ 29, ρ 30, ρ 31, ρ 32, ρ 33, ρ 34] (γ 0) 0 [ρ 0, ρ 1, ρ 2, ρ 3, ρ 4, ρ 5, ρ 6, ρ 7, ρ 8, ρ 9, ρ 10, ρ 11, ρ 12, ρ 13, ρ 14, ρ 15, ρ 16, ρ 17, ρ 18, ρ 19, ρ 20, ρ 21, ρ 22, ρ 23, ρ 24, ρ 25, ρ 26, ρ 27, ρ 28, ρ 29, ρ 30, ρ 31, ρ 32, ρ 33, ρ 34, ρ 35, ρ 36, ρ 37, ρ 38, ρ 39, ρ 40, ρ 41, ρ 42, ρ 43] (γ 1) := hJ
  obtain ⟨r0, r1, r2, r3, r4, r5, r6, r7, r8, r9, r10, r11, r12, r13, r14, r15, r16, r17, r18, r19, r20, r21, r22, r23, r24, r25, r26, r27, r28, r29, r30, r31, r32, r33, r34, r35, r36, r37, r38, r39, r40, r41, r42, r43, -⟩ := hr
  have r0 : (0 : Int) ≤ ρ 0 ∧ ρ 0 ≤ 50000 := r0
  have r1 : (0 : Int) ≤ ρ 1 ∧ ρ 1 ≤ 2 := r1
  have r2 : (0 : Int) ≤ ρ 2 ∧ ρ 2 ≤ 2 := r2
  have r3 : (0 : Int) ≤ ρ 3 ∧ ρ 3 ≤ 50001 := r3
  have r4 : (0 : Int) ≤ ρ 4 ∧ ρ 4 ≤ 62 := r4
  have r5 : (0 : Int) ≤ ρ 5 ∧ ρ 5 ≤ 60 := r5
  have r6 : (0 : Int) ≤ ρ 6 ∧ ρ 6 ≤ 2000 := r6
  have r7 : (0 : Int) ≤ ρ 7 ∧ ρ 7 ≤ 2000 := r7
  have r8 : ((-2147483648) : Int) ≤ ρ 8 ∧ ρ 8 ≤ 2147483647 := r8
  have r9 : ((-2147483648) : Int) ≤ ρ 9 ∧ ρ 9 ≤ 2147483647 := r9
  have r10 : (0 : Int) ≤ ρ 10 ∧ ρ 10 ≤ 2000 := r10
  have r11 : (0 : Int) ≤ ρ 11 ∧ ρ 11 ≤ 2000 := r11
  have r12 : ((-2147483648) : Int) ≤ ρ 12 ∧ ρ 12 ≤ 2147483647 := r12
  have r13 : (0 : Int) ≤ ρ 13 ∧ ρ 13 ≤ 8 := r13
  have r14 : (0 : Int) ≤ ρ 14 ∧ ρ 14 ≤ 8 := r14
  have r15 : (0 : Int) ≤ ρ 15 ∧ ρ 15 ≤ 4 := r15
  have r16 : ((-1) : Int) ≤ ρ 16 ∧ ρ 16 ≤ 19 := r16
  have r17 : (0 : Int) ≤ ρ 17 ∧ ρ 17 ≤ 4 := r17
  have r18 : ((-1) : Int) ≤ ρ 18 ∧ ρ 18 ≤ 7 := r18
  have r19 : (0 : Int) ≤ ρ 19 ∧ ρ 19 ≤ 4 := r19
  have r20 : ((-1) : Int) ≤ ρ 20 ∧ ρ 20 ≤ 19 := r20
  have r21 : ((-1) : Int) ≤ ρ 21 ∧ ρ 21 ≤ 3 := r21
  have r22 : (0 : Int) ≤ ρ 22 ∧ ρ 22 ≤ 7 := r22
  have r23 : (0 : Int) ≤ ρ 23 ∧ ρ 23 ≤ 8 := r23
  have r24 : (0 : Int) ≤ ρ 24 ∧ ρ 24 ≤ 4 := r24
  have r25 : ((-1) : Int) ≤ ρ 25 ∧ ρ 25 ≤ 19 := r25
  have r26 : ((-1) : Int) ≤ ρ 26 ∧ ρ 26 ≤ 3 := r26
  have r27 : (0 : Int) ≤ ρ 27 ∧ ρ 27 ≤ 7 := r27
  have r28 : ((-1) : Int) ≤ ρ 28 ∧ ρ 28 ≤ 7 := r28
  have r29 : (0 : Int) ≤ ρ 29 ∧ ρ 29 ≤ 8 := r29
  have r30 : (0 : Int) ≤ ρ 30 ∧ ρ 30 ≤ 4 := r30
  have r31 : ((-1) : Int) ≤ ρ 31 ∧ ρ 31 ≤ 19 := r31
  have r32 : ((-1) : Int) ≤ ρ 32 ∧ ρ 32 ≤ 3 := r32
  have r33 : (0 : Int) ≤ ρ 33 ∧ ρ 33 ≤ 7 := r33
  have r34 : ((-1) : Int) ≤ ρ 34 ∧ ρ 34 ≤ 7 := r34
  have r35 : (2000 : Int) ≤ ρ 35 ∧ ρ 35 ≤ 2000 := r35
  have r36 : (0 : Int) ≤ ρ 36 ∧ ρ 36 ≤ 2000 := r36
  have r37 : (0 : Int) ≤ ρ 37 ∧ ρ 37 ≤ 2000 := r37
  have r38 : (0 : Int) ≤ ρ 38 ∧ ρ 38 ≤ 1 := r38
  have r39 : (0 : Int) ≤ ρ 39 ∧ ρ 39 ≤ 50000 := r39
  have r40 : (0 : Int) ≤ ρ 40 ∧ ρ 40 ≤ 50001 := r40
  have r41 : (0 : Int) ≤ ρ 41 ∧ ρ 41 ≤ 2000 := r41
  have r42 : (0 : Int) ≤ ρ 42 ∧ ρ 42 ≤ 2000 := r42
  have r43 : ((-2147483648) : Int) ≤ ρ 43 ∧ ρ 43 ≤ 2147483647 := r43
  obtain ⟨f0, f1, f2, f3, f4, f5, f6, f7, f8, f9, -⟩ := hf
  have f0 : (0 : Int) ≤ -ρ 36 + ρ 10 + (-1) := f0
  have f1 : (0 : Int) ≤ -ρ 40 + (ρ 39 + (ρ 3 + -ρ 0)) := f1
  have f2 : (0 : Int) ≤ -ρ 40 + (ρ 39 + (-50001) * ρ 1) + 100002 := f2
  have f3 : (0 : Int) ≤ -ρ 38 + ρ 14 := f3
  have f4 : (0 : Int) ≤ -ρ 37 + ρ 11 := f4
  have f5 : (0 : Int) ≤ ρ 42 + -ρ 7 := f5
  have f6 : (0 : Int) ≤ ρ 41 + -ρ 6 := f6
  have f7 : (0 : Int) ≤ ρ 40 + -ρ 3 := f7
  have f8 : (0 : Int) ≤ ρ 39 + -ρ 0 := f8
  have f9 : (0 : Int) ≤ -ρ 3 + ((-50001) * ρ 1 + ρ 0) + 100002 := f9
  obtain ⟨m0, m1, m2, m3, m4, m5, m6, m7, m8, m9, m10, m11, m12, m13, m14, m15, m16, m17, m18, m19, m20, m21, m22, m23, m24, m25, m26, m27, m28, m29, m30, m31, m32, m33, m34, m35, m36, m37, m38, m39, -⟩ := hm
  have m0 : γ 0 6 0 0 = ρ 0 := m0
  have m1 : γ 0 6 0 9 = ρ 1 := m1
  have m2 : γ 0 6 0 6 = ρ 2 := m2
  have m3 : γ 0 8 (ρ 2) 1 = ρ 3 := m3
  have m4 : γ 0 6 0 7 = ρ 4 := m4
  have m5 : γ 0 1 0 10 = ρ 5 := m5
  have m6 : γ 0 4 0 7 = ρ 6 := m6
  have m7 : γ 0 5 0 3 = ρ 7 := m7
  have m8 : γ 0 6 0 8 = ρ 8 := m8
  have m9 : γ 0 6 0 10 = ρ 9 := m9
  have m10 : γ 0 6 0 11 = ρ 10 := m10
  have m11 : γ 0 6 0 12 = ρ 11 := m11
  have m12 : γ 0 6 0 13 = ρ 12 := m12
  have m13 : γ 0 9 (ρ 4) 2 = ρ 13 := m13
  have m14 : γ 0 9 (ρ 4) 3 = ρ 14 := m14
  have m15 : γ 0 10 (9 * ρ 4) 5 = ρ 15 := m15
  have m16 : γ 0 10 (9 * ρ 4) 8 = ρ 16 := m16
  have m17 : γ 0 10 (9 * ρ 4) 12 = ρ 17 := m17
  have m18 : γ 0 10 (9 * ρ 4) 14 = ρ 18 := m18
  have m19 : γ 0 10 (9 * ρ 4 + 6) 5 = ρ 19 := m19
  have m20 : γ 0 10 (9 * ρ 4 + 6) 8 = ρ 20 := m20
  have m21 : γ 0 10 (9 * ρ 4 + 6) 9 = ρ 21 := m21
  have m22 : γ 0 10 (9 * ρ 4 + 6) 10 = ρ 22 := m22
  have m23 : γ 0 10 (9 * ρ 4 + 7) 4 = ρ 23 := m23
  have m24 : γ 0 10 (9 * ρ 4 + 7) 5 = ρ 24 := m24
  have m25 : γ 0 10 (9 * ρ 4 + 7) 8 = ρ 25 := m25
  have m26 : γ 0 10 (9 * ρ 4 + 7) 9 = ρ 26 := m26
  have m27 : γ 0 10 (9 * ρ 4 + 7) 10 = ρ 27 := m27
  have m28 : γ 0 10 (9 * ρ 4 + 7) 11 = ρ 28 := m28
  have m29 : γ 0 10 (9 * ρ 4 + 8) 4 = ρ 29 := m29
  have m30 : γ 0 10 (9 * ρ 4 + 8) 5 = ρ 30 := m30
  have m31 : γ 0 10 (9 * ρ 4 + 8) 8 = ρ 31 := m31
  have m32 : γ 0 10 (9 * ρ 4 + 8) 9 = ρ 32 := m32
  have m33 : γ 0 10 (9 * ρ 4 + 8) 10 = ρ 33 := m33
  have m34 : γ 0 10 (9 * ρ 4 + 8) 11 = ρ 34 := m34
  have m35 : γ 1 6 0 0 = ρ 39 := m35
  have m36 : γ 1 8 (ρ 2) 1 = ρ 40 := m36
  have m37 : γ 1 4 0 7 = ρ 41 := m37
  have m38 : γ 1 5 0 3 = ρ 42 := m38
  have m39 : γ 1 6 0 13 = ρ 43 := m39
  obtain ⟨-, c1⟩ := hc
  have c1 : ∀ (G : Nat) (k j : Int), ¬ rMdP m140_ G j → γ 1 G k j = γ 0 G k j := c1
  show sn250 [ρ 0, ρ 1, ρ 2, ρ 3, ρ 4, ρ 5, ρ 6, ρ 7, ρ 8, ρ 9, ρ 10, ρ 11, ρ 12, ρ 13, ρ 14, ρ 15, ρ 16, ρ 17, ρ 18, ρ 19, ρ 20, ρ 21, ρ 22, ρ 23, ρ 24, ρ 25, ρ 26, ρ 27, ρ 28, ρ 29, ρ 30, ρ 31, ρ 32, ρ 33, ρ 34] (γ 0) 0 0 (γ 1)
  have hD : en250 (γ 0) (0, [ρ 35, ρ 36, ρ 37, ρ 38], γ 1) = .inr (0, 0, γ 1) := by
    unfold en250
    refine (if_pos (show (0 : Nat) = 0 by decide)).trans ?_
    refine (zLet_eq (show _ = γ 1 from rfl)).trans ?_
    refine (zLet_eq (show _ = ρ 35 from rfl)).trans ?_
    refine (zLet_eq (show _ = ρ 36 from rfl)).trans ?_
    refine (zLet_eq (show _ = ρ 37 from rfl)).trans ?_
    refine (zLet_eq (show _ = ρ 38 from rfl)).trans ?_
    refine (zLet_eq m4).trans ?_
    refine (zLet_eq m10).trans ?_
    refine (zLet_eq m11).trans ?_
    refine (zLet_eq m39).trans ?_
    refine (if_neg (show ¬ (ρ 36 < 0) by omega)).trans ?_
    refine (if_neg (show ¬ (ρ 36 ≥ ρ 10) by omega)).trans ?_
    refine (if_pos (show ρ 35 ≥ 2000 by omega)).trans ?_
    rfl
  exact zGoo_aend hJ hD
theorem vn250a0_3 {S : Nat → zSpc} (hS225 : ∀ x g o v gz, S 225 x g o v gz → sn225 x g o v gz) (hS226 : ∀ x g o v gz, S 226 x g o v gz → sn226 x g o v gz) (hS227 : ∀ x g o v gz, S 227 x g o v gz → sn227 x g o v gz) (hS232 : ∀ x g o v gz, S 232 x g o v gz → sn232 x g o v gz) (hS249 : ∀ x g o v gz, S 249 x g o v gz → sn249 x g o v gz) {a : List Int} {g : rHp} : ∀ (ρ : Nat → Int) (γ : Nat → rHp), jn250 a g 0 (zAg (zNA a250_ 0) ρ) (γ 1) → zO 35 S a g q250a0_3 ρ γ → zGl (fun i vs g1 => jn250 a g i vs g1) (sn250 a g) q250a0_3 ρ γ := by
  intro ρ γ hJ h
  obtain ⟨ha, hg, hr, hf, hm, hc, hl⟩ := h
  have ha : a = [ρ 0, ρ 1, ρ 2, ρ 3, ρ 4, ρ 5, ρ 6, ρ 7, ρ 8, ρ 9, ρ 10, ρ 11, ρ 12, ρ 13, ρ 14, ρ 15, ρ 16, ρ 17, ρ 18, ρ 19, ρ 20, ρ 21, ρ 22, ρ 23, ρ 24, ρ 25, ρ 26, ρ 27, ρ 28, ρ 29, ρ 30, ρ 31, ρ 32, ρ 33, ρ 34] := ha
  subst ha
  subst hg
  have hJ : jn250 [ρ 0, ρ 1, ρ 2, ρ 3, ρ 4, ρ 5, ρ 6, ρ 7, ρ 8, ρ 9, ρ 10, ρ 11, ρ 12, ρ 13, ρ 14, ρ 15, ρ 16, ρ 17, ρ 18, ρ 19, ρ 20, ρ 21, ρ 22, ρ 23, ρ 24, ρ 25, ρ 26, ρ 27, ρ 28, ρ 29, ρ 30, ρ 31, ρ 32, ρ 33, ρ 34] (γ 0) 0 [ρ 0, ρ 1, ρ 2, ρ 3, ρ 4, ρ 5, ρ 6, ρ 7, ρ 8, ρ 9, ρ 10, ρ 11, ρ 12, ρ 13, ρ 14, ρ 15, ρ 16, ρ 17, ρ 18, ρ 19, ρ 20, ρ 21, ρ 22, ρ 23, ρ 24, ρ 25, ρ 26, ρ 27, ρ 28, ρ 29, ρ 30, ρ 31, ρ 32, ρ 33, ρ 34, ρ 35, ρ 36, ρ 37, ρ 38, ρ 39, ρ 40, ρ 41, ρ 42, ρ 43] (γ 1) := hJ
  obtain ⟨r0, r1, r2, r3, r4, r5, r6, r7, r8, r9, r10, r11, r12, r13, r14, r15, r16, r17, r18, r19, r20, r21, r22, r23, r24, r25, r26, r27, r28, r29, r30, r31, r32, r33, r34, r35, r36, r37, r38, r39, r40, r41, r42, r43, r44, -⟩ := hr
  have r0 : (0 : Int) ≤ ρ 0 ∧ ρ 0 ≤ 50000 := r0
  have r1 : (0 : Int) ≤ ρ 1 ∧ ρ 1 ≤ 2 := r1
  have r2 : (0 : Int) ≤ ρ 2 ∧ ρ 2 ≤ 2 := r2
  have r3 : (0 : Int) ≤ ρ 3 ∧ ρ 3 ≤ 50001 := r3
  have r4 : (0 : Int) ≤ ρ 4 ∧ ρ 4 ≤ 62 := r4
  have r5 : (0 : Int) ≤ ρ 5 ∧ ρ 5 ≤ 60 := r5
  have r6 : (0 : Int) ≤ ρ 6 ∧ ρ 6 ≤ 2000 := r6
  have r7 : (0 : Int) ≤ ρ 7 ∧ ρ 7 ≤ 2000 := r7
  have r8 : ((-2147483648) : Int) ≤ ρ 8 ∧ ρ 8 ≤ 2147483647 := r8
  have r9 : ((-2147483648) : Int) ≤ ρ 9 ∧ ρ 9 ≤ 2147483647 := r9
  have r10 : (0 : Int) ≤ ρ 10 ∧ ρ 10 ≤ 2000 := r10
  have r11 : (0 : Int) ≤ ρ 11 ∧ ρ 11 ≤ 2000 := r11
  have r12 : ((-2147483648) : Int) ≤ ρ 12 ∧ ρ 12 ≤ 2147483647 := r12
  have r13 : (0 : Int) ≤ ρ 13 ∧ ρ 13 ≤ 8 := r13
  have r14 : (0 : Int) ≤ ρ 14 ∧ ρ 14 ≤ 8 := r14
  have r15 : (0 : Int) ≤ ρ 15 ∧ ρ 15 ≤ 4 := r15
  have r16 : ((-1) : Int) ≤ ρ 16 ∧ ρ 16 ≤ 19 := r16
  have r17 : (0 : Int) ≤ ρ 17 ∧ ρ 17 ≤ 4 := r17
  have r18 : ((-1) : Int) ≤ ρ 18 ∧ ρ 18 ≤ 7 := r18
  have r19 : (0 : Int) ≤ ρ 19 ∧ ρ 19 ≤ 4 := r19
  have r20 : ((-1) : Int) ≤ ρ 20 ∧ ρ 20 ≤ 19 := r20
  have r21 : ((-1) : Int) ≤ ρ 21 ∧ ρ 21 ≤ 3 := r21
  have r22 : (0 : Int) ≤ ρ 22 ∧ ρ 22 ≤ 7 := r22
  have r23 : (0 : Int) ≤ ρ 23 ∧ ρ 23 ≤ 8 := r23
  have r24 : (0 : Int) ≤ ρ 24 ∧ ρ 24 ≤ 4 := r24
  have r25 : ((-1) : Int) ≤ ρ 25 ∧ ρ 25 ≤ 19 := r25
  have r26 : ((-1) : Int) ≤ ρ 26 ∧ ρ 26 ≤ 3 := r26
  have r27 : (0 : Int) ≤ ρ 27 ∧ ρ 27 ≤ 7 := r27
  have r28 : ((-1) : Int) ≤ ρ 28 ∧ ρ 28 ≤ 7 := r28
  have r29 : (0 : Int) ≤ ρ 29 ∧ ρ 29 ≤ 8 := r29
  have r30 : (0 : Int) ≤ ρ 30 ∧ ρ 30 ≤ 4 := r30
  have r31 : ((-1) : Int) ≤ ρ 31 ∧ ρ 31 ≤ 19 := r31
  have r32 : ((-1) : Int) ≤ ρ 32 ∧ ρ 32 ≤ 3 := r32
  have r33 : (0 : Int) ≤ ρ 33 ∧ ρ 33 ≤ 7 := r33
  have r34 : ((-1) : Int) ≤ ρ 34 ∧ ρ 34 ≤ 7 := r34
  have r35 : (0 : Int) ≤ ρ 35 ∧ ρ 35 ≤ 1999 := r35
  have r36 : (0 : Int) ≤ ρ 36 ∧ ρ 36 ≤ 2000 := r36
  have r37 : (0 : Int) ≤ ρ 37 ∧ ρ 37 ≤ 2000 := r37
  have r38 : (0 : Int) ≤ ρ 38 ∧ ρ 38 ≤ 1 := r38
  have r39 : (0 : Int) ≤ ρ 39 ∧ ρ 39 ≤ 50000 := r39
  have r40 : (0 : Int) ≤ ρ 40 ∧ ρ 40 ≤ 50001 := r40
  have r41 : (0 : Int) ≤ ρ 41 ∧ ρ 41 ≤ 2000 := r41
  have r42 : (0 : Int) ≤ ρ 42 ∧ ρ 42 ≤ 2000 := r42
  have r43 : ((-2147483648) : Int) ≤ ρ 43 ∧ ρ 43 ≤ 2147483647 := r43
  have r44 : ((-1) : Int) ≤ ρ 44 ∧ ρ 44 ≤ 1999 := r44
  obtain ⟨f0, f1, f2, f3, f4, f5, f6, f7, f8, f9, f10, -⟩ := hf
  have f0 : (0 : Int) ≤ ρ 37 + -ρ 36 + (-1) := f0
  have f1 : (0 : Int) ≤ -ρ 36 + ρ 10 + (-1) := f1
  have f2 : (0 : Int) ≤ -ρ 40 + (ρ 39 + (ρ 3 + -ρ 0)) := f2
  have f3 : (0 : Int) ≤ -ρ 40 + (ρ 39 + (-50001) * ρ 1) + 100002 := f3
  have f4 : (0 : Int) ≤ -ρ 38 + ρ 14 := f4
  have f5 : (0 : Int) ≤ -ρ 37 + ρ 11 := f5
  have f6 : (0 : Int) ≤ ρ 42 + -ρ 7 := f6
  have f7 : (0 : Int) ≤ ρ 41 + -ρ 6 := f7
  have f8 : (0 : Int) ≤ ρ 40 + -ρ 3 := f8
  have f9 : (0 : Int) ≤ ρ 39 + -ρ 0 := f9
  have f10 : (0 : Int) ≤ -ρ 3 + ((-50001) * ρ 1 + ρ 0) + 100002 := f10
  obtain ⟨m0, m1, m2, m3, m4, m5, m6, m7, m8, m9, m10, m11, m12, m13, m14, m15, m16, m17, m18, m19, m20, m21, m22, m23, m24, m25, m26, m27, m28, m29, m30, m31, m32, m33, m34, m35, m36, m37, m38, m39, -⟩ := hm
  have m0 : γ 0 6 0 0 = ρ 0 := m0
  have m1 : γ 0 6 0 9 = ρ 1 := m1
  have m2 : γ 0 6 0 6 = ρ 2 := m2
  have m3 : γ 0 8 (ρ 2) 1 = ρ 3 := m3
  have m4 : γ 0 6 0 7 = ρ 4 := m4
  have m5 : γ 0 1 0 10 = ρ 5 := m5
  have m6 : γ 0 4 0 7 = ρ 6 := m6
  have m7 : γ 0 5 0 3 = ρ 7 := m7
  have m8 : γ 0 6 0 8 = ρ 8 := m8
  have m9 : γ 0 6 0 10 = ρ 9 := m9
  have m10 : γ 0 6 0 11 = ρ 10 := m10
  have m11 : γ 0 6 0 12 = ρ 11 := m11
  have m12 : γ 0 6 0 13 = ρ 12 := m12
  have m13 : γ 0 9 (ρ 4) 2 = ρ 13 := m13
  have m14 : γ 0 9 (ρ 4) 3 = ρ 14 := m14
  have m15 : γ 0 10 (9 * ρ 4) 5 = ρ 15 := m15
  have m16 : γ 0 10 (9 * ρ 4) 8 = ρ 16 := m16
  have m17 : γ 0 10 (9 * ρ 4) 12 = ρ 17 := m17
  have m18 : γ 0 10 (9 * ρ 4) 14 = ρ 18 := m18
  have m19 : γ 0 10 (9 * ρ 4 + 6) 5 = ρ 19 := m19
  have m20 : γ 0 10 (9 * ρ 4 + 6) 8 = ρ 20 := m20
  have m21 : γ 0 10 (9 * ρ 4 + 6) 9 = ρ 21 := m21
  have m22 : γ 0 10 (9 * ρ 4 + 6) 10 = ρ 22 := m22
  have m23 : γ 0 10 (9 * ρ 4 + 7) 4 = ρ 23 := m23
  have m24 : γ 0 10 (9 * ρ 4 + 7) 5 = ρ 24 := m24
  have m25 : γ 0 10 (9 * ρ 4 + 7) 8 = ρ 25 := m25
  have m26 : γ 0 10 (9 * ρ 4 + 7) 9 = ρ 26 := m26
  have m27 : γ 0 10 (9 * ρ 4 + 7) 10 = ρ 27 := m27
  have m28 : γ 0 10 (9 * ρ 4 + 7) 11 = ρ 28 := m28
  have m29 : γ 0 10 (9 * ρ 4 + 8) 4 = ρ 29 := m29
  have m30 : γ 0 10 (9 * ρ 4 + 8) 5 = ρ 30 := m30
  have m31 : γ 0 10 (9 * ρ 4 + 8) 8 = ρ 31 := m31
  have m32 : γ 0 10 (9 * ρ 4 + 8) 9 = ρ 32 := m32
  have m33 : γ 0 10 (9 * ρ 4 + 8) 10 = ρ 33 := m33
  have m34 : γ 0 10 (9 * ρ 4 + 8) 11 = ρ 34 := m34
  have m35 : γ 1 6 0 0 = ρ 39 := m35
  have m36 : γ 1 8 (ρ 2) 1 = ρ 40 := m36
  have m37 : γ 1 4 0 7 = ρ 41 := m37
  have m38 : γ 1 5 0 3 = ρ 42 := m38
  have m39 : γ 1 6 0 13 = ρ 43 := m39
  obtain ⟨⟨-, c1⟩, c2⟩ := hc
  have c1 : ∀ (G : Nat) (k j : Int), ¬ rMdP m140_ G j → γ 1 G k j = γ 0 G k j := c1
  have c2 : ∀ (G : Nat) (k j : Int), ¬ rMdP m0_ G j → γ 2 G k j = γ 1 G k j := c2
  obtain ⟨l0, -⟩ := hl
  have l0 : sn227 [9 * ρ 4 + 6, ρ 36, ρ 21] (γ 1) 0 (ρ 44) (γ 2) := hS227 _ _ _ _ _ l0
  show jn250 [ρ 0, ρ 1, ρ 2, ρ 3, ρ 4, ρ 5, ρ 6, ρ 7, ρ 8, ρ 9, ρ 10, ρ 11, ρ 12, ρ 13, ρ 14, ρ 15, ρ 16, ρ 17, ρ 18, ρ 19, ρ 20, ρ 21, ρ 22, ρ 23, ρ 24, ρ 25, ρ 26, ρ 27, ρ 28, ρ 29, ρ 30, ρ 31, ρ 32, ρ 33, ρ 34] (γ 0) 0 [ρ 0, ρ 1, ρ 2, ρ 3, ρ 4, ρ 5, ρ 6, ρ 7, ρ 8, ρ 9, ρ 10, ρ 11, ρ 12, ρ 13, ρ 14, ρ 15, ρ 16, ρ 17, ρ 18, ρ 19, ρ 20, ρ 21, ρ 22, ρ 23, ρ 24, ρ 25, ρ 26, ρ 27, ρ 28, ρ 29, ρ 30, ρ 31, ρ 32, ρ 33, ρ 34, ρ 35 + 1, ρ 44, ρ 37, ρ 38, ρ 39, ρ 40, ρ 41, ρ 42, ρ 43] (γ 2)
  have hD : en250 (γ 0) (0, [ρ 35, ρ 36, ρ 37, ρ 38], γ 1) = .inl (0, [ρ 35 + 1, ρ 44, ρ 37, ρ 38], γ 2) := by
    unfold en250
    refine (if_pos (show (0 : Nat) = 0 by decide)).trans ?_
    refine (zLet_eq (show _ = γ 1 from rfl)).trans ?_
    refine (zLet_eq (show _ = ρ 35 from rfl)).trans ?_
    refine (zLet_eq (show _ = ρ 36 from rfl)).trans ?_
    refine (zLet_eq (show _ = ρ 37 from rfl)).trans ?_
    refine (zLet_eq (show _ = ρ 38 from rfl)).trans ?_
    refine (zLet_eq m4).trans ?_
    refine (zLet_eq m10).trans ?_
    refine (zLet_eq m11).trans ?_
    refine (zLet_eq m39).trans ?_
    refine (if_neg (show ¬ (ρ 36 < 0) by omega)).trans ?_
    refine (if_neg (show ¬ (ρ 36 ≥ ρ 10) by omega)).trans ?_
    refine (if_neg (show ¬ (ρ 35 ≥ 2000) by omega)).trans ?_
    refine (if_pos (show ρ 36 < ρ 37 by omega)).trans ?_
    refine (zLet_eq (show fn227 [9 * ρ 4 + 6, ρ 36] (γ 1) = (0, ρ 44, γ 2) from l0.symm)).trans ?_
    refine (zLet_eq (show _ = γ 2 from rfl)).trans ?_
    refine (zLet_eq (show _ = ρ 44 from rfl)).trans ?_
    rfl
  exact zGoo_ato hJ hD
theorem vn250a0_4 {S : Nat → zSpc} (hS225 : ∀ x g o v gz, S 225 x g o v gz → sn225 x g o v gz) (hS226 : ∀ x g o v gz, S 226 x g o v gz → sn226 x g o v gz) (hS227 : ∀ x g o v gz, S 227 x g o v gz → sn227 x g o v gz) (hS232 : ∀ x g o v gz, S 232 x g o v gz → sn232 x g o v gz) (hS249 : ∀ x g o v gz, S 249 x g o v gz → sn249 x g o v gz) {a : List Int} {g : rHp} : ∀ (ρ : Nat → Int) (γ : Nat → rHp), jn250 a g 0 (zAg (zNA a250_ 0) ρ) (γ 1) → zO 35 S a g q250a0_4 ρ γ → zGl (fun i vs g1 => jn250 a g i vs g1) (sn250 a g) q250a0_4 ρ γ := by
  intro ρ γ hJ h
  obtain ⟨ha, hg, hr, hf, hm, hc, hl⟩ := h
  have ha : a = [ρ 0, ρ 1, ρ 2, ρ 3, ρ 4, ρ 5, ρ 6, ρ 7, ρ 8, ρ 9, ρ 10, ρ 11, ρ 12, ρ 13, ρ 14, ρ 15, ρ 16, ρ 17, ρ 18, ρ 19, ρ 20, ρ 21, ρ 22, ρ 23, ρ 24, ρ 25, ρ 26, ρ 27, ρ 28, ρ 29, ρ 30, ρ 31, ρ 32, ρ 33, ρ 34] := ha
  subst ha
  subst hg
  have hJ : jn250 [ρ 0, ρ 1, ρ 2, ρ 3, ρ 4, ρ 5, ρ 6, ρ 7, ρ 8, ρ 9, ρ 10, ρ 11, ρ 12, ρ 13, ρ 14, ρ 15, ρ 16, ρ 17, ρ 18, ρ 19, ρ 20, ρ 21, ρ 22, ρ 23, ρ 24, ρ 25, ρ 26, ρ 27, ρ 28, ρ 29, ρ 30, ρ 31, ρ 32, ρ 33, ρ 34] (γ 0) 0 [ρ 0, ρ 1, ρ 2, ρ 3, ρ 4, ρ 5, ρ 6, ρ 7, ρ 8, ρ 9, ρ 10, ρ 11, ρ 12, ρ 13, ρ 14, ρ 15, ρ 16, ρ 17, ρ 18, ρ 19, ρ 20, ρ 21, ρ 22, ρ 23, ρ 24, ρ 25, ρ 26, ρ 27, ρ 28, ρ 29, ρ 30, ρ 31, ρ 32, ρ 33, ρ 34, ρ 35, ρ 36, ρ 37, ρ 38, ρ 39, ρ 40, ρ 41, ρ 42, ρ 43] (γ 1) := hJ
  obtain ⟨r0, r1, r2, r3, r4, r5, r6, r7, r8, r9, r10, r11, r12, r13, r14, r15, r16, r17, r18, r19, r20, r21, r22, r23, r24, r25, r26, r27, r28, r29, r30, r31, r32, r33, r34, r35, r36, r37, r38, r39, r40, r41, r42, r43, r44, -⟩ := hr
  have r0 : (0 : Int) ≤ ρ 0 ∧ ρ 0 ≤ 50000 := r0
  have r1 : (0 : Int) ≤ ρ 1 ∧ ρ 1 ≤ 2 := r1
  have r2 : (0 : Int) ≤ ρ 2 ∧ ρ 2 ≤ 2 := r2
  have r3 : (0 : Int) ≤ ρ 3 ∧ ρ 3 ≤ 50001 := r3
  have r4 : (0 : Int) ≤ ρ 4 ∧ ρ 4 ≤ 62 := r4
  have r5 : (0 : Int) ≤ ρ 5 ∧ ρ 5 ≤ 60 := r5
  have r6 : (0 : Int) ≤ ρ 6 ∧ ρ 6 ≤ 2000 := r6
  have r7 : (0 : Int) ≤ ρ 7 ∧ ρ 7 ≤ 2000 := r7
  have r8 : ((-2147483648) : Int) ≤ ρ 8 ∧ ρ 8 ≤ 2147483647 := r8
  have r9 : ((-2147483648) : Int) ≤ ρ 9 ∧ ρ 9 ≤ 2147483647 := r9
  have r10 : (0 : Int) ≤ ρ 10 ∧ ρ 10 ≤ 2000 := r10
  have r11 : (0 : Int) ≤ ρ 11 ∧ ρ 11 ≤ 2000 := r11
  have r12 : ((-2147483648) : Int) ≤ ρ 12 ∧ ρ 12 ≤ 2147483647 := r12
  have r13 : (0 : Int) ≤ ρ 13 ∧ ρ 13 ≤ 8 := r13
  have r14 : (0 : Int) ≤ ρ 14 ∧ ρ 14 ≤ 8 := r14
  have r15 : (0 : Int) ≤ ρ 15 ∧ ρ 15 ≤ 4 := r15
  have r16 : ((-1) : Int) ≤ ρ 16 ∧ ρ 16 ≤ 19 := r16
  have r17 : (0 : Int) ≤ ρ 17 ∧ ρ 17 ≤ 4 := r17
  have r18 : ((-1) : Int) ≤ ρ 18 ∧ ρ 18 ≤ 7 := r18
  have r19 : (0 : Int) ≤ ρ 19 ∧ ρ 19 ≤ 4 := r19
  have r20 : ((-1) : Int) ≤ ρ 20 ∧ ρ 20 ≤ 19 := r20
  have r21 : ((-1) : Int) ≤ ρ 21 ∧ ρ 21 ≤ 3 := r21
  have r22 : (0 : Int) ≤ ρ 22 ∧ ρ 22 ≤ 7 := r22
  have r23 : (0 : Int) ≤ ρ 23 ∧ ρ 23 ≤ 8 := r23
  have r24 : (0 : Int) ≤ ρ 24 ∧ ρ 24 ≤ 4 := r24
  have r25 : ((-1) : Int) ≤ ρ 25 ∧ ρ 25 ≤ 19 := r25
  have r26 : ((-1) : Int) ≤ ρ 26 ∧ ρ 26 ≤ 3 := r26
  have r27 : (0 : Int) ≤ ρ 27 ∧ ρ 27 ≤ 7 := r27
  have r28 : ((-1) : Int) ≤ ρ 28 ∧ ρ 28 ≤ 7 := r28
  have r29 : (0 : Int) ≤ ρ 29 ∧ ρ 29 ≤ 8 := r29
  have r30 : (0 : Int) ≤ ρ 30 ∧ ρ 30 ≤ 4 := r30
  have r31 : ((-1) : Int) ≤ ρ 31 ∧ ρ 31 ≤ 19 := r31
  have r32 : ((-1) : Int) ≤ ρ 32 ∧ ρ 32 ≤ 3 := r32
  have r33 : (0 : Int) ≤ ρ 33 ∧ ρ 33 ≤ 7 := r33
  have r34 : ((-1) : Int) ≤ ρ 34 ∧ ρ 34 ≤ 7 := r34
  have r35 : (0 : Int) ≤ ρ 35 ∧ ρ 35 ≤ 1999 := r35
  have r36 : (0 : Int) ≤ ρ 36 ∧ ρ 36 ≤ 2000 := r36
  have r37 : (0 : Int) ≤ ρ 37 ∧ ρ 37 ≤ 2000 := r37
  have r38 : (0 : Int) ≤ ρ 38 ∧ ρ 38 ≤ 1 := r38
  have r39 : (0 : Int) ≤ ρ 39 ∧ ρ 39 ≤ 50000 := r39
  have r40 : (0 : Int) ≤ ρ 40 ∧ ρ 40 ≤ 50001 := r40
  have r41 : (0 : Int) ≤ ρ 41 ∧ ρ 41 ≤ 2000 := r41
  have r42 : (0 : Int) ≤ ρ 42 ∧ ρ 42 ≤ 2000 := r42
  have r43 : ((-2147483648) : Int) ≤ ρ 43 ∧ ρ 43 ≤ 2147483647 := r43
  have r44 : ((-1) : Int) ≤ ρ 44 ∧ ρ 44 ≤ 1999 := r44
  obtain ⟨f0, f1, f2, f3, f4, f5, f6, f7, f8, f9, f10, -⟩ := hf
  have f0 : (0 : Int) ≤ -ρ 37 + ρ 36 := f0
  have f1 : (0 : Int) ≤ -ρ 36 + ρ 10 + (-1) := f1
  have f2 : (0 : Int) ≤ -ρ 40 + (ρ 39 + (ρ 3 + -ρ 0)) := f2
  have f3 : (0 : Int) ≤ -ρ 40 + (ρ 39 + (-50001) * ρ 1) + 100002 := f3
  have f4 : (0 : Int) ≤ -ρ 38 + ρ 14 := f4
  have f5 : (0 : Int) ≤ -ρ 37 + ρ 11 := f5
  have f6 : (0 : Int) ≤ ρ 42 + -ρ 7 := f6
  have f7 : (0 : Int) ≤ ρ 41 + -ρ 6 := f7
  have f8 : (0 : Int) ≤ ρ 40 + -ρ 3 := f8
  have f9 : (0 : Int) ≤ ρ 39 + -ρ 0 := f9
  have f10 : (0 : Int) ≤ -ρ 3 + ((-50001) * ρ 1 + ρ 0) + 100002 := f10
  obtain ⟨m0, m1, m2, m3, m4, m5, m6, m7, m8, m9, m10, m11, m12, m13, m14, m15, m16, m17, m18, m19, m20, m21, m22, m23, m24, m25, m26, m27, m28, m29, m30, m31, m32, m33, m34, m35, m36, m37, m38, m39, -⟩ := hm
  have m0 : γ 0 6 0 0 = ρ 0 := m0
  have m1 : γ 0 6 0 9 = ρ 1 := m1
  have m2 : γ 0 6 0 6 = ρ 2 := m2
  have m3 : γ 0 8 (ρ 2) 1 = ρ 3 := m3
  have m4 : γ 0 6 0 7 = ρ 4 := m4
  have m5 : γ 0 1 0 10 = ρ 5 := m5
  have m6 : γ 0 4 0 7 = ρ 6 := m6
  have m7 : γ 0 5 0 3 = ρ 7 := m7
  have m8 : γ 0 6 0 8 = ρ 8 := m8
  have m9 : γ 0 6 0 10 = ρ 9 := m9
  have m10 : γ 0 6 0 11 = ρ 10 := m10
  have m11 : γ 0 6 0 12 = ρ 11 := m11
  have m12 : γ 0 6 0 13 = ρ 12 := m12
  have m13 : γ 0 9 (ρ 4) 2 = ρ 13 := m13
  have m14 : γ 0 9 (ρ 4) 3 = ρ 14 := m14
  have m15 : γ 0 10 (9 * ρ 4) 5 = ρ 15 := m15
  have m16 : γ 0 10 (9 * ρ 4) 8 = ρ 16 := m16
  have m17 : γ 0 10 (9 * ρ 4) 12 = ρ 17 := m17
  have m18 : γ 0 10 (9 * ρ 4) 14 = ρ 18 := m18
  have m19 : γ 0 10 (9 * ρ 4 + 6) 5 = ρ 19 := m19
  have m20 : γ 0 10 (9 * ρ 4 + 6) 8 = ρ 20 := m20
  have m21 : γ 0 10 (9 * ρ 4 + 6) 9 = ρ 21 := m21
  have m22 : γ 0 10 (9 * ρ 4 + 6) 10 = ρ 22 := m22
  have m23 : γ 0 10 (9 * ρ 4 + 7) 4 = ρ 23 := m23
  have m24 : γ 0 10 (9 * ρ 4 + 7) 5 = ρ 24 := m24
  have m25 : γ 0 10 (9 * ρ 4 + 7) 8 = ρ 25 := m25
  have m26 : γ 0 10 (9 * ρ 4 + 7) 9 = ρ 26 := m26
  have m27 : γ 0 10 (9 * ρ 4 + 7) 10 = ρ 27 := m27
  have m28 : γ 0 10 (9 * ρ 4 + 7) 11 = ρ 28 := m28
  have m29 : γ 0 10 (9 * ρ 4 + 8) 4 = ρ 29 := m29
  have m30 : γ 0 10 (9 * ρ 4 + 8) 5 = ρ 30 := m30
  have m31 : γ 0 10 (9 * ρ 4 + 8) 8 = ρ 31 := m31
  have m32 : γ 0 10 (9 * ρ 4 + 8) 9 = ρ 32 := m32
  have m33 : γ 0 10 (9 * ρ 4 + 8) 10 = ρ 33 := m33
  have m34 : γ 0 10 (9 * ρ 4 + 8) 11 = ρ 34 := m34
  have m35 : γ 1 6 0 0 = ρ 39 := m35
  have m36 : γ 1 8 (ρ 2) 1 = ρ 40 := m36
  have m37 : γ 1 4 0 7 = ρ 41 := m37
  have m38 : γ 1 5 0 3 = ρ 42 := m38
  have m39 : γ 1 6 0 13 = ρ 43 := m39
  obtain ⟨⟨⟨-, c1⟩, c2⟩, c3⟩ := hc
  have c1 : ∀ (G : Nat) (k j : Int), ¬ rMdP m140_ G j → γ 1 G k j = γ 0 G k j := c1
  have c2 : ∀ (G : Nat) (k j : Int), ¬ rMdP m132_ G j → γ 2 G k j = γ 1 G k j := c2
  have c3 : ∀ (G : Nat) (k j : Int), ¬ rMdP m0_ G j → γ 3 G k j = γ 2 G k j := c3
  obtain ⟨l0, l1, -⟩ := hl
  have l0 : sn225 [9 * ρ 4 + 6, ρ 36, ρ 19, ρ 20] (γ 1) 0 0 (γ 2) := hS225 _ _ _ _ _ l0
  have l1 : sn227 [9 * ρ 4 + 6, ρ 36, ρ 21] (γ 2) 0 (ρ 44) (γ 3) := hS227 _ _ _ _ _ l1
  show jn250 [ρ 0, ρ 1, ρ 2, ρ 3, ρ 4, ρ 5, ρ 6, ρ 7, ρ 8, ρ 9, ρ 10, ρ 11, ρ 12, ρ 13, ρ 14, ρ 15, ρ 16, ρ 17, ρ 18, ρ 19, ρ 20, ρ 21, ρ 22, ρ 23, ρ 24, ρ 25, ρ 26, ρ 27, ρ 28, ρ 29, ρ 30, ρ 31, ρ 32, ρ 33, ρ 34] (γ 0) 0 [ρ 0, ρ 1, ρ 2, ρ 3, ρ 4, ρ 5, ρ 6, ρ 7, ρ 8, ρ 9, ρ 10, ρ 11, ρ 12, ρ 13, ρ 14, ρ 15, ρ 16, ρ 17, ρ 18, ρ 19, ρ 20, ρ 21, ρ 22, ρ 23, ρ 24, ρ 25, ρ 26, ρ 27, ρ 28, ρ 29, ρ 30, ρ 31, ρ 32, ρ 33, ρ 34, ρ 35 + 1, ρ 44, ρ 37, ρ 38, ρ 39, ρ 40, ρ 41, ρ 42, ρ 43] (γ 3)
  have hD : en250 (γ 0) (0, [ρ 35, ρ 36, ρ 37, ρ 38], γ 1) = .inl (0, [ρ 35 + 1, ρ 44, ρ 37, ρ 38], γ 3) := by
    unfold en250
    refine (if_pos (show (0 : Nat) = 0 by decide)).trans ?_
    refine (zLet_eq (show _ = γ 1 from rfl)).trans ?_
    refine (zLet_eq (show _ = ρ 35 from rfl)).trans ?_
    refine (zLet_eq (show _ = ρ 36 from rfl)).trans ?_
    refine (zLet_eq (show _ = ρ 37 from rfl)).trans ?_
    refine (zLet_eq (show _ = ρ 38 from rfl)).trans ?_
    refine (zLet_eq m4).trans ?_
    refine (zLet_eq m10).trans ?_
    refine (zLet_eq m11).trans ?_
    refine (zLet_eq m39).trans ?_
    refine (if_neg (show ¬ (ρ 36 < 0) by omega)).trans ?_
    refine (if_neg (show ¬ (ρ 36 ≥ ρ 10) by omega)).trans ?_
    refine (if_neg (show ¬ (ρ 35 ≥ 2000) by omega)).trans ?_
    refine (if_neg (show ¬ (ρ 36 < ρ 37) by omega)).trans ?_
    refine (zLet_eq (show fn225 [9 * ρ 4 + 6, ρ 36] (γ 1) = (0, 0, γ 2) from l0.symm)).trans ?_
    refine (zLet_eq (show _ = γ 2 from rfl)).trans ?_
    refine (if_neg (show ¬ ((1 : Int) ≤ 0) by omega)).trans ?_
    refine (zLet_eq (show fn227 [9 * ρ 4 + 6, ρ 36] (γ 2) = (0, ρ 44, γ 3) from l1.symm)).trans ?_
    refine (zLet_eq (show _ = γ 3 from rfl)).trans ?_
    refine (zLet_eq (show _ = ρ 44 from rfl)).trans ?_
    rfl
  exact zGoo_ato hJ hD
theorem vn250a0_5 {S : Nat → zSpc} (hS225 : ∀ x g o v gz, S 225 x g o v gz → sn225 x g o v gz) (hS226 : ∀ x g o v gz, S 226 x g o v gz → sn226 x g o v gz) (hS227 : ∀ x g o v gz, S 227 x g o v gz → sn227 x g o v gz) (hS232 : ∀ x g o v gz, S 232 x g o v gz → sn232 x g o v gz) (hS249 : ∀ x g o v gz, S 249 x g o v gz → sn249 x g o v gz) {a : List Int} {g : rHp} : ∀ (ρ : Nat → Int) (γ : Nat → rHp), jn250 a g 0 (zAg (zNA a250_ 0) ρ) (γ 1) → zO 35 S a g q250a0_5 ρ γ → zGl (fun i vs g1 => jn250 a g i vs g1) (sn250 a g) q250a0_5 ρ γ := by
  intro ρ γ hJ h
  obtain ⟨ha, hg, hr, hf, hm, hc, hl⟩ := h
  have ha : a = [ρ 0, ρ 1, ρ 2, ρ 3, ρ 4, ρ 5, ρ 6, ρ 7, ρ 8, ρ 9, ρ 10, ρ 11, ρ 12, ρ 13, ρ 14, ρ 15, ρ 16, ρ 17, ρ 18, ρ 19, ρ 20, ρ 21, ρ 22, ρ 23, ρ 24, ρ 25, ρ 26, ρ 27, ρ 28, ρ 29, ρ 30, ρ 31, ρ 32, ρ 33, ρ 34] := ha
  subst ha
  subst hg
  have hJ : jn250 [ρ 0, ρ 1, ρ 2, ρ 3, ρ 4, ρ 5, ρ 6, ρ 7, ρ 8, ρ 9, ρ 10, ρ 11, ρ 12, ρ 13, ρ 14, ρ 15, ρ 16, ρ 17, ρ 18, ρ 19, ρ 20, ρ 21, ρ 22, ρ 23, ρ 24, ρ 25, ρ 26, ρ 27, ρ 28, ρ 29, ρ 30, ρ 31, ρ 32, ρ 33, ρ 34] (γ 0) 0 [ρ 0, ρ 1, ρ 2, ρ 3, ρ 4, ρ 5, ρ 6, ρ 7, ρ 8, ρ 9, ρ 10, ρ 11, ρ 12, ρ 13, ρ 14, ρ 15, ρ 16, ρ 17, ρ 18, ρ 19, ρ 20, ρ 21, ρ 22, ρ 23, ρ 24, ρ 25, ρ 26, ρ 27, ρ 28, ρ 29, ρ 30, ρ 31, ρ 32, ρ 33, ρ 34, ρ 35, ρ 36, ρ 37, ρ 38, ρ 39, ρ 40, ρ 41, ρ 42, ρ 43] (γ 1) := hJ
  obtain ⟨r0, r1, r2, r3, r4, r5, r6, r7, r8, r9, r10, r11, r12, r13, r14, r15, r16, r17, r18, r19, r20, r21, r22, r23, r24, r25, r26, r27, r28, r29, r30, r31, r32, r33, r34, r35, r36, r37, r38, r39, r40, r41, r42, r43, r44, r45, r46, r47, r48, r49, -⟩ := hr
  have r0 : (0 : Int) ≤ ρ 0 ∧ ρ 0 ≤ 50000 := r0
  have r1 : (0 : Int) ≤ ρ 1 ∧ ρ 1 ≤ 2 := r1
  have r2 : (0 : Int) ≤ ρ 2 ∧ ρ 2 ≤ 2 := r2
  have r3 : (0 : Int) ≤ ρ 3 ∧ ρ 3 ≤ 50001 := r3
  have r4 : (0 : Int) ≤ ρ 4 ∧ ρ 4 ≤ 62 := r4
  have r5 : (0 : Int) ≤ ρ 5 ∧ ρ 5 ≤ 60 := r5
  have r6 : (0 : Int) ≤ ρ 6 ∧ ρ 6 ≤ 2000 := r6
  have r7 : (0 : Int) ≤ ρ 7 ∧ ρ 7 ≤ 2000 := r7
  have r8 : ((-2147483648) : Int) ≤ ρ 8 ∧ ρ 8 ≤ 2147483647 := r8
  have r9 : ((-2147483648) : Int) ≤ ρ 9 ∧ ρ 9 ≤ 2147483647 := r9
  have r10 : (0 : Int) ≤ ρ 10 ∧ ρ 10 ≤ 2000 := r10
  have r11 : (0 : Int) ≤ ρ 11 ∧ ρ 11 ≤ 2000 := r11
  have r12 : ((-2147483648) : Int) ≤ ρ 12 ∧ ρ 12 ≤ 2147483647 := r12
  have r13 : (0 : Int) ≤ ρ 13 ∧ ρ 13 ≤ 8 := r13
  have r14 : (0 : Int) ≤ ρ 14 ∧ ρ 14 ≤ 8 := r14
  have r15 : (0 : Int) ≤ ρ 15 ∧ ρ 15 ≤ 4 := r15
  have r16 : ((-1) : Int) ≤ ρ 16 ∧ ρ 16 ≤ 19 := r16
  have r17 : (0 : Int) ≤ ρ 17 ∧ ρ 17 ≤ 4 := r17
  have r18 : ((-1) : Int) ≤ ρ 18 ∧ ρ 18 ≤ 7 := r18
  have r19 : (0 : Int) ≤ ρ 19 ∧ ρ 19 ≤ 4 := r19
  have r20 : ((-1) : Int) ≤ ρ 20 ∧ ρ 20 ≤ 19 := r20
  have r21 : ((-1) : Int) ≤ ρ 21 ∧ ρ 21 ≤ 3 := r21
  have r22 : (0 : Int) ≤ ρ 22 ∧ ρ 22 ≤ 7 := r22
  have r23 : (0 : Int) ≤ ρ 23 ∧ ρ 23 ≤ 8 := r23
  have r24 : (0 : Int) ≤ ρ 24 ∧ ρ 24 ≤ 4 := r24
  have r25 : ((-1) : Int) ≤ ρ 25 ∧ ρ 25 ≤ 19 := r25
  have r26 : ((-1) : Int) ≤ ρ 26 ∧ ρ 26 ≤ 3 := r26
  have r27 : (0 : Int) ≤ ρ 27 ∧ ρ 27 ≤ 7 := r27
  have r28 : ((-1) : Int) ≤ ρ 28 ∧ ρ 28 ≤ 7 := r28
  have r29 : (0 : Int) ≤ ρ 29 ∧ ρ 29 ≤ 8 := r29
  have r30 : (0 : Int) ≤ ρ 30 ∧ ρ 30 ≤ 4 := r30
  have r31 : ((-1) : Int) ≤ ρ 31 ∧ ρ 31 ≤ 19 := r31
  have r32 : ((-1) : Int) ≤ ρ 32 ∧ ρ 32 ≤ 3 := r32
  have r33 : (0 : Int) ≤ ρ 33 ∧ ρ 33 ≤ 7 := r33
  have r34 : ((-1) : Int) ≤ ρ 34 ∧ ρ 34 ≤ 7 := r34
  have r35 : (0 : Int) ≤ ρ 35 ∧ ρ 35 ≤ 1999 := r35
  have r36 : (0 : Int) ≤ ρ 36 ∧ ρ 36 ≤ 2000 := r36
  have r37 : (0 : Int) ≤ ρ 37 ∧ ρ 37 ≤ 2000 := r37
  have r38 : (0 : Int) ≤ ρ 38 ∧ ρ 38 ≤ 1 := r38
  have r39 : (0 : Int) ≤ ρ 39 ∧ ρ 39 ≤ 49999 := r39
  have r40 : (0 : Int) ≤ ρ 40 ∧ ρ 40 ≤ 50001 := r40
  have r41 : (0 : Int) ≤ ρ 41 ∧ ρ 41 ≤ 2000 := r41
  have r42 : (0 : Int) ≤ ρ 42 ∧ ρ 42 ≤ 2000 := r42
  have r43 : ((-2147483648) : Int) ≤ ρ 43 ∧ ρ 43 ≤ 2147483647 := r43
  have r44 : (0 : Int) ≤ ρ 44 ∧ ρ 44 ≤ 50000 := r44
  have r45 : (0 : Int) ≤ ρ 45 ∧ ρ 45 ≤ 50001 := r45
  have r46 : (0 : Int) ≤ ρ 46 ∧ ρ 46 ≤ 2000 := r46
  have r47 : (0 : Int) ≤ ρ 47 ∧ ρ 47 ≤ 2000 := r47
  have r48 : ((-2147483648) : Int) ≤ ρ 48 ∧ ρ 48 ≤ 2147483647 := r48
  have r49 : ((-1) : Int) ≤ ρ 49 ∧ ρ 49 ≤ 1999 := r49
  obtain ⟨f0, f1, f2, f3, f4, f5, f6, f7, f8, f9, f10, f11, f12, f13, f14, f15, f16, f17, -⟩ := hf
  have f0 : (0 : Int) ≤ -ρ 40 + (ρ 39 + (-50001) * ρ 1) + 100003 := f0
  have f1 : (0 : Int) ≤ ρ 44 + -ρ 39 + (-1) := f1
  have f2 : (0 : Int) ≤ ρ 45 + -ρ 40 := f2
  have f3 : (0 : Int) ≤ ρ 46 + -ρ 41 := f3
  have f4 : (0 : Int) ≤ ρ 47 + -ρ 42 := f4
  have f5 : (0 : Int) ≤ -ρ 45 + (ρ 44 + (ρ 40 + -ρ 39)) := f5
  have f6 : (0 : Int) ≤ -ρ 36 + ρ 11 + (-1) := f6
  have f7 : (0 : Int) ≤ -ρ 37 + ρ 36 := f7
  have f8 : (0 : Int) ≤ -ρ 36 + ρ 10 + (-1) := f8
  have f9 : (0 : Int) ≤ -ρ 40 + (ρ 39 + (ρ 3 + -ρ 0)) := f9
  have f10 : (0 : Int) ≤ -ρ 40 + (ρ 39 + (-50001) * ρ 1) + 100002 := f10
  have f11 : (0 : Int) ≤ -ρ 38 + ρ 14 := f11
  have f12 : (0 : Int) ≤ -ρ 37 + ρ 11 := f12
  have f13 : (0 : Int) ≤ ρ 42 + -ρ 7 := f13
  have f14 : (0 : Int) ≤ ρ 41 + -ρ 6 := f14
  have f15 : (0 : Int) ≤ ρ 40 + -ρ 3 := f15
  have f16 : (0 : Int) ≤ ρ 39 + -ρ 0 := f16
  have f17 : (0 : Int) ≤ -ρ 3 + ((-50001) * ρ 1 + ρ 0) + 100002 := f17
  obtain ⟨m0, m1, m2, m3, m4, m5, m6, m7, m8, m9, m10, m11, m12, m13, m14, m15, m16, m17, m18, m19, m20, m21, m22, m23, m24, m25, m26, m27, m28, m29, m30, m31, m32, m33, m34, m35, m36, m37, m38, m39, m40, m41, m42, m43, m44, m45, -⟩ := hm
  have m0 : γ 0 6 0 0 = ρ 0 := m0
  have m1 : γ 0 6 0 9 = ρ 1 := m1
  have m2 : γ 0 6 0 6 = ρ 2 := m2
  have m3 : γ 0 8 (ρ 2) 1 = ρ 3 := m3
  have m4 : γ 0 6 0 7 = ρ 4 := m4
  have m5 : γ 0 1 0 10 = ρ 5 := m5
  have m6 : γ 0 4 0 7 = ρ 6 := m6
  have m7 : γ 0 5 0 3 = ρ 7 := m7
  have m8 : γ 0 6 0 8 = ρ 8 := m8
  have m9 : γ 0 6 0 10 = ρ 9 := m9
  have m10 : γ 0 6 0 11 = ρ 10 := m10
  have m11 : γ 0 6 0 12 = ρ 11 := m11
  have m12 : γ 0 6 0 13 = ρ 12 := m12
  have m13 : γ 0 9 (ρ 4) 2 = ρ 13 := m13
  have m14 : γ 0 9 (ρ 4) 3 = ρ 14 := m14
  have m15 : γ 0 10 (9 * ρ 4) 5 = ρ 15 := m15
  have m16 : γ 0 10 (9 * ρ 4) 8 = ρ 16 := m16
  have m17 : γ 0 10 (9 * ρ 4) 12 = ρ 17 := m17
  have m18 : γ 0 10 (9 * ρ 4) 14 = ρ 18 := m18
  have m19 : γ 0 10 (9 * ρ 4 + 6) 5 = ρ 19 := m19
  have m20 : γ 0 10 (9 * ρ 4 + 6) 8 = ρ 20 := m20
  have m21 : γ 0 10 (9 * ρ 4 + 6) 9 = ρ 21 := m21
  have m22 : γ 0 10 (9 * ρ 4 + 6) 10 = ρ 22 := m22
  have m23 : γ 0 10 (9 * ρ 4 + 7) 4 = ρ 23 := m23
  have m24 : γ 0 10 (9 * ρ 4 + 7) 5 = ρ 24 := m24
  have m25 : γ 0 10 (9 * ρ 4 + 7) 8 = ρ 25 := m25
  have m26 : γ 0 10 (9 * ρ 4 + 7) 9 = ρ 26 := m26
  have m27 : γ 0 10 (9 * ρ 4 + 7) 10 = ρ 27 := m27
  have m28 : γ 0 10 (9 * ρ 4 + 7) 11 = ρ 28 := m28
  have m29 : γ 0 10 (9 * ρ 4 + 8) 4 = ρ 29 := m29
  have m30 : γ 0 10 (9 * ρ 4 + 8) 5 = ρ 30 := m30
  have m31 : γ 0 10 (9 * ρ 4 + 8) 8 = ρ 31 := m31
  have m32 : γ 0 10 (9 * ρ 4 + 8) 9 = ρ 32 := m32
  have m33 : γ 0 10 (9 * ρ 4 + 8) 10 = ρ 33 := m33
  have m34 : γ 0 10 (9 * ρ 4 + 8) 11 = ρ 34 := m34
  have m35 : γ 1 6 0 0 = ρ 39 := m35
  have m36 : γ 1 8 (ρ 2) 1 = ρ 40 := m36
  have m37 : γ 1 4 0 7 = ρ 41 := m37
  have m38 : γ 1 5 0 3 = ρ 42 := m38
  have m39 : γ 1 6 0 13 = ρ 43 := m39
  have m40 : γ 3 6 0 0 = ρ 39 + 1 := m40
  have m41 : γ 5 6 0 0 = ρ 44 := m41
  have m42 : γ 5 8 (ρ 2) 1 = ρ 45 := m42
  have m43 : γ 5 4 0 7 = ρ 46 := m43
  have m44 : γ 5 5 0 3 = ρ 47 := m44
  have m45 : γ 5 6 0 13 = ρ 48 := m45
  obtain ⟨⟨⟨⟨⟨⟨⟨-, c1⟩, c2⟩, c3⟩, c4⟩, c5⟩, c6⟩, c7⟩ := hc
  have c1 : ∀ (G : Nat) (k j : Int), ¬ rMdP m140_ G j → γ 1 G k j = γ 0 G k j := c1
  have c2 : ∀ (G : Nat) (k j : Int), ¬ rMdP m132_ G j → γ 2 G k j = γ 1 G k j := c2
  have c3 : ∀ (G : Nat) (k j : Int), ¬ rMdP m133_ G j → γ 3 G k j = γ 2 G k j := c3
  have c4 : γ 4 = rUp (γ 3) 6 0 13 (ρ 43) := c4
  have c5 : ∀ (G : Nat) (k j : Int), ¬ rMdP m140_ G j → γ 5 G k j = γ 4 G k j := c5
  have c6 : γ 6 = rUp (γ 5) 6 0 13 (ρ 48) := c6
  have c7 : ∀ (G : Nat) (k j : Int), ¬ rMdP m0_ G j → γ 7 G k j = γ 6 G k j := c7
  obtain ⟨l0, l1, l2, l3, -⟩ := hl
  have l0 : sn225 [9 * ρ 4 + 6, ρ 36, ρ 19, ρ 20] (γ 1) 0 1 (γ 2) := hS225 _ _ _ _ _ l0
  have l1 : sn232 [9 * ρ 4 + 6, ρ 36, ρ 39, ρ 22] (γ 2) 0 0 (γ 3) := hS232 _ _ _ _ _ l1
  have l2 : sn249 [ρ 39 + 1, ρ 1, ρ 2, ρ 40, ρ 4, ρ 5, ρ 41, ρ 42, ρ 8, ρ 9, ρ 10, ρ 11, ρ 43, ρ 13, ρ 14, ρ 15, ρ 16, ρ 17, ρ 18, ρ 23, ρ 24, ρ 25, ρ 26, ρ 27, ρ 28, ρ 29, ρ 30, ρ 31, ρ 32, ρ 33, ρ 34] (γ 4) 0 0 (γ 5) := hS249 _ _ _ _ _ l2
  have l3 : sn227 [9 * ρ 4 + 6, ρ 36, ρ 21] (γ 6) 0 (ρ 49) (γ 7) := hS227 _ _ _ _ _ l3
  show jn250 [ρ 0, ρ 1, ρ 2, ρ 3, ρ 4, ρ 5, ρ 6, ρ 7, ρ 8, ρ 9, ρ 10, ρ 11, ρ 12, ρ 13, ρ 14, ρ 15, ρ 16, ρ 17, ρ 18, ρ 19, ρ 20, ρ 21, ρ 22, ρ 23, ρ 24, ρ 25, ρ 26, ρ 27, ρ 28, ρ 29, ρ 30, ρ 31, ρ 32, ρ 33, ρ 34] (γ 0) 0 [ρ 0, ρ 1, ρ 2, ρ 3, ρ 4, ρ 5, ρ 6, ρ 7, ρ 8, ρ 9, ρ 10, ρ 11, ρ 12, ρ 13, ρ 14, ρ 15, ρ 16, ρ 17, ρ 18, ρ 19, ρ 20, ρ 21, ρ 22, ρ 23, ρ 24, ρ 25, ρ 26, ρ 27, ρ 28, ρ 29, ρ 30, ρ 31, ρ 32, ρ 33, ρ 34, ρ 35 + 1, ρ 49, ρ 37, ρ 38, ρ 44, ρ 45, ρ 46, ρ 47, ρ 48] (γ 7)
  have hD : en250 (γ 0) (0, [ρ 35, ρ 36, ρ 37, ρ 38], γ 1) = .inl (0, [ρ 35 + 1, ρ 49, ρ 37, ρ 38], γ 7) := by
    unfold en250
    refine (if_pos (show (0 : Nat) = 0 by decide)).trans ?_
    refine (zLet_eq (show _ = γ 1 from rfl)).trans ?_
    refine (zLet_eq (show _ = ρ 35 from rfl)).trans ?_
    refine (zLet_eq (show _ = ρ 36 from rfl)).trans ?_
    refine (zLet_eq (show _ = ρ 37 from rfl)).trans ?_
    refine (zLet_eq (show _ = ρ 38 from rfl)).trans ?_
    refine (zLet_eq m4).trans ?_
    refine (zLet_eq m10).trans ?_
    refine (zLet_eq m11).trans ?_
    refine (zLet_eq m39).trans ?_
    refine (if_neg (show ¬ (ρ 36 < 0) by omega)).trans ?_
    refine (if_neg (show ¬ (ρ 36 ≥ ρ 10) by omega)).trans ?_
    refine (if_neg (show ¬ (ρ 35 ≥ 2000) by omega)).trans ?_
    refine (if_neg (show ¬ (ρ 36 < ρ 37) by omega)).trans ?_
    refine (zLet_eq (show fn225 [9 * ρ 4 + 6, ρ 36] (γ 1) = (0, 1, γ 2) from l0.symm)).trans ?_
    refine (zLet_eq (show _ = γ 2 from rfl)).trans ?_
    refine (if_pos (show (1 : Int) ≤ 1 by omega)).trans ?_
    refine (zLet_eq (show fn232 [9 * ρ 4 + 6, ρ 36] (γ 2) = (0, 0, γ 3) from l1.symm)).trans ?_
    refine (zLet_eq (show _ = γ 3 from rfl)).trans ?_
    refine (if_pos (show (0 : Nat) = 0 by decide)).trans ?_
    refine (if_pos (show ρ 36 < ρ 11 by omega)).trans ?_
    refine (zLet_eq c4.symm).trans ?_
    refine (zLet_eq (show fn249 [] (γ 4) = (0, 0, γ 5) from l2.symm)).trans ?_
    refine (zLet_eq (show _ = γ 5 from rfl)).trans ?_
    refine (if_pos (show (0 : Nat) = 0 by decide)).trans ?_
    refine (zLet_eq m45).trans ?_
    refine (zLet_eq c6.symm).trans ?_
    refine (zLet_eq (show fn227 [9 * ρ 4 + 6, ρ 36] (γ 6) = (0, ρ 49, γ 7) from l3.symm)).trans ?_
    refine (zLet_eq (show _ = γ 7 from rfl)).trans ?_
    refine (zLet_eq (show _ = ρ 49 from rfl)).trans ?_
    rfl
  exact zGoo_ato hJ hD
theorem vn250a0_6 {S : Nat → zSpc} (hS225 : ∀ x g o v gz, S 225 x g o v gz → sn225 x g o v gz) (hS226 : ∀ x g o v gz, S 226 x g o v gz → sn226 x g o v gz) (hS227 : ∀ x g o v gz, S 227 x g o v gz → sn227 x g o v gz) (hS232 : ∀ x g o v gz, S 232 x g o v gz → sn232 x g o v gz) (hS249 : ∀ x g o v gz, S 249 x g o v gz → sn249 x g o v gz) {a : List Int} {g : rHp} : ∀ (ρ : Nat → Int) (γ : Nat → rHp), jn250 a g 0 (zAg (zNA a250_ 0) ρ) (γ 1) → zO 35 S a g q250a0_6 ρ γ → zGl (fun i vs g1 => jn250 a g i vs g1) (sn250 a g) q250a0_6 ρ γ := by
  intro ρ γ hJ h
  obtain ⟨ha, hg, hr, hf, hm, hc, hl⟩ := h
  have ha : a = [ρ 0, ρ 1, ρ 2, ρ 3, ρ 4, ρ 5, ρ 6, ρ 7, ρ 8, ρ 9, ρ 10, ρ 11, ρ 12, ρ 13, ρ 14, ρ 15, ρ 16, ρ 17, ρ 18, ρ 19, ρ 20, ρ 21, ρ 22, ρ 23, ρ 24, ρ 25, ρ 26, ρ 27, ρ 28, ρ 29, ρ 30, ρ 31, ρ 32, ρ 33, ρ 34] := ha
  subst ha
  subst hg
  have hJ : jn250 [ρ 0, ρ 1, ρ 2, ρ 3, ρ 4, ρ 5, ρ 6, ρ 7, ρ 8, ρ 9, ρ 10, ρ 11, ρ 12, ρ 13, ρ 14, ρ 15, ρ 16, ρ 17, ρ 18, ρ 19, ρ 20, ρ 21, ρ 22, ρ 23, ρ 24, ρ 25, ρ 26, ρ 27, ρ 28, ρ 29, ρ 30, ρ 31, ρ 32, ρ 33, ρ 34] (γ 0) 0 [ρ 0, ρ 1, ρ 2, ρ 3, ρ 4, ρ 5, ρ 6, ρ 7, ρ 8, ρ 9, ρ 10, ρ 11, ρ 12, ρ 13, ρ 14, ρ 15, ρ 16, ρ 17, ρ 18, ρ 19, ρ 20, ρ 21, ρ 22, ρ 23, ρ 24, ρ 25, ρ 26, ρ 27, ρ 28, ρ 29, ρ 30, ρ 31, ρ 32, ρ 33, ρ 34, ρ 35, ρ 36, ρ 37, ρ 38, ρ 39, ρ 40, ρ 41, ρ 42, ρ 43] (γ 1) := hJ
  obtain ⟨r0, r1, r2, r3, r4, r5, r6, r7, r8, r9, r10, r11, r12, r13, r14, r15, r16, r17, r18, r19, r20, r21, r22, r23, r24, r25, r26, r27, r28, r29, r30, r31, r32, r33, r34, r35, r36, r37, r38, r39, r40, r41, r42, r43, r44, r45, r46, r47, r48, -⟩ := hr
  have r0 : (0 : Int) ≤ ρ 0 ∧ ρ 0 ≤ 50000 := r0
  have r1 : (0 : Int) ≤ ρ 1 ∧ ρ 1 ≤ 1 := r1
  have r2 : (0 : Int) ≤ ρ 2 ∧ ρ 2 ≤ 2 := r2
  have r3 : (0 : Int) ≤ ρ 3 ∧ ρ 3 ≤ 50001 := r3
  have r4 : (0 : Int) ≤ ρ 4 ∧ ρ 4 ≤ 62 := r4
  have r5 : (0 : Int) ≤ ρ 5 ∧ ρ 5 ≤ 60 := r5
  have r6 : (0 : Int) ≤ ρ 6 ∧ ρ 6 ≤ 2000 := r6
  have r7 : (0 : Int) ≤ ρ 7 ∧ ρ 7 ≤ 2000 := r7
  have r8 : ((-2147483648) : Int) ≤ ρ 8 ∧ ρ 8 ≤ 2147483647 := r8
  have r9 : ((-2147483648) : Int) ≤ ρ 9 ∧ ρ 9 ≤ 2147483647 := r9
  have r10 : (0 : Int) ≤ ρ 10 ∧ ρ 10 ≤ 2000 := r10
  have r11 : (0 : Int) ≤ ρ 11 ∧ ρ 11 ≤ 2000 := r11
  have r12 : ((-2147483648) : Int) ≤ ρ 12 ∧ ρ 12 ≤ 2147483647 := r12
  have r13 : (0 : Int) ≤ ρ 13 ∧ ρ 13 ≤ 8 := r13
  have r14 : (0 : Int) ≤ ρ 14 ∧ ρ 14 ≤ 8 := r14
  have r15 : (0 : Int) ≤ ρ 15 ∧ ρ 15 ≤ 4 := r15
  have r16 : ((-1) : Int) ≤ ρ 16 ∧ ρ 16 ≤ 19 := r16
  have r17 : (0 : Int) ≤ ρ 17 ∧ ρ 17 ≤ 4 := r17
  have r18 : ((-1) : Int) ≤ ρ 18 ∧ ρ 18 ≤ 7 := r18
  have r19 : (0 : Int) ≤ ρ 19 ∧ ρ 19 ≤ 4 := r19
  have r20 : ((-1) : Int) ≤ ρ 20 ∧ ρ 20 ≤ 19 := r20
  have r21 : ((-1) : Int) ≤ ρ 21 ∧ ρ 21 ≤ 3 := r21
  have r22 : (0 : Int) ≤ ρ 22 ∧ ρ 22 ≤ 7 := r22
  have r23 : (0 : Int) ≤ ρ 23 ∧ ρ 23 ≤ 8 := r23
  have r24 : (0 : Int) ≤ ρ 24 ∧ ρ 24 ≤ 4 := r24
  have r25 : ((-1) : Int) ≤ ρ 25 ∧ ρ 25 ≤ 19 := r25
  have r26 : ((-1) : Int) ≤ ρ 26 ∧ ρ 26 ≤ 3 := r26
  have r27 : (0 : Int) ≤ ρ 27 ∧ ρ 27 ≤ 7 := r27
  have r28 : ((-1) : Int) ≤ ρ 28 ∧ ρ 28 ≤ 7 := r28
  have r29 : (0 : Int) ≤ ρ 29 ∧ ρ 29 ≤ 8 := r29
  have r30 : (0 : Int) ≤ ρ 30 ∧ ρ 30 ≤ 4 := r30
  have r31 : ((-1) : Int) ≤ ρ 31 ∧ ρ 31 ≤ 19 := r31
  have r32 : ((-1) : Int) ≤ ρ 32 ∧ ρ 32 ≤ 3 := r32
  have r33 : (0 : Int) ≤ ρ 33 ∧ ρ 33 ≤ 7 := r33
  have r34 : ((-1) : Int) ≤ ρ 34 ∧ ρ 34 ≤ 7 := r34
  have r35 : (0 : Int) ≤ ρ 35 ∧ ρ 35 ≤ 1999 := r35
  have r36 : (0 : Int) ≤ ρ 36 ∧ ρ 36 ≤ 2000 := r36
  have r37 : (0 : Int) ≤ ρ 37 ∧ ρ 37 ≤ 2000 := r37
  have r38 : (0 : Int) ≤ ρ 38 ∧ ρ 38 ≤ 1 := r38
  have r39 : (0 : Int) ≤ ρ 39 ∧ ρ 39 ≤ 49999 := r39
  have r40 : (0 : Int) ≤ ρ 40 ∧ ρ 40 ≤ 50001 := r40
  have r41 : (0 : Int) ≤ ρ 41 ∧ ρ 41 ≤ 2000 := r41
  have r42 : (0 : Int) ≤ ρ 42 ∧ ρ 42 ≤ 2000 := r42
  have r43 : ((-2147483648) : Int) ≤ ρ 43 ∧ ρ 43 ≤ 2147483647 := r43
  have r44 : (0 : Int) ≤ ρ 44 ∧ ρ 44 ≤ 50000 := r44
  have r45 : (0 : Int) ≤ ρ 45 ∧ ρ 45 ≤ 50001 := r45
  have r46 : (0 : Int) ≤ ρ 46 ∧ ρ 46 ≤ 2000 := r46
  have r47 : (0 : Int) ≤ ρ 47 ∧ ρ 47 ≤ 2000 := r47
  have r48 : ((-2147483648) : Int) ≤ ρ 48 ∧ ρ 48 ≤ 2147483647 := r48
  obtain ⟨f0, f1, f2, f3, f4, f5, f6, f7, f8, f9, f10, f11, f12, f13, f14, f15, f16, -⟩ := hf
  have f0 : (0 : Int) ≤ ρ 44 + -ρ 39 + (-1) := f0
  have f1 : (0 : Int) ≤ ρ 45 + -ρ 40 := f1
  have f2 : (0 : Int) ≤ ρ 46 + -ρ 41 := f2
  have f3 : (0 : Int) ≤ ρ 47 + -ρ 42 := f3
  have f4 : (0 : Int) ≤ -ρ 45 + (ρ 44 + (ρ 40 + -ρ 39)) := f4
  have f5 : (0 : Int) ≤ -ρ 36 + ρ 11 + (-1) := f5
  have f6 : (0 : Int) ≤ -ρ 37 + ρ 36 := f6
  have f7 : (0 : Int) ≤ -ρ 36 + ρ 10 + (-1) := f7
  have f8 : (0 : Int) ≤ -ρ 40 + (ρ 39 + (ρ 3 + -ρ 0)) := f8
  have f9 : (0 : Int) ≤ -ρ 40 + (ρ 39 + (-50001) * ρ 1) + 100002 := f9
  have f10 : (0 : Int) ≤ -ρ 38 + ρ 14 := f10
  have f11 : (0 : Int) ≤ -ρ 37 + ρ 11 := f11
  have f12 : (0 : Int) ≤ ρ 42 + -ρ 7 := f12
  have f13 : (0 : Int) ≤ ρ 41 + -ρ 6 := f13
  have f14 : (0 : Int) ≤ ρ 40 + -ρ 3 := f14
  have f15 : (0 : Int) ≤ ρ 39 + -ρ 0 := f15
  have f16 : (0 : Int) ≤ -ρ 3 + ((-50001) * ρ 1 + ρ 0) + 100002 := f16
  obtain ⟨m0, m1, m2, m3, m4, m5, m6, m7, m8, m9, m10, m11, m12, m13, m14, m15, m16, m17, m18, m19, m20, m21, m22, m23, m24, m25, m26, m27, m28, m29, m30, m31, m32, m33, m34, m35, m36, m37, m38, m39, m40, m41, m42, m43, m44, m45, -⟩ := hm
  have m0 : γ 0 6 0 0 = ρ 0 := m0
  have m1 : γ 0 6 0 9 = ρ 1 := m1
  have m2 : γ 0 6 0 6 = ρ 2 := m2
  have m3 : γ 0 8 (ρ 2) 1 = ρ 3 := m3
  have m4 : γ 0 6 0 7 = ρ 4 := m4
  have m5 : γ 0 1 0 10 = ρ 5 := m5
  have m6 : γ 0 4 0 7 = ρ 6 := m6
  have m7 : γ 0 5 0 3 = ρ 7 := m7
  have m8 : γ 0 6 0 8 = ρ 8 := m8
  have m9 : γ 0 6 0 10 = ρ 9 := m9
  have m10 : γ 0 6 0 11 = ρ 10 := m10
  have m11 : γ 0 6 0 12 = ρ 11 := m11
  have m12 : γ 0 6 0 13 = ρ 12 := m12
  have m13 : γ 0 9 (ρ 4) 2 = ρ 13 := m13
  have m14 : γ 0 9 (ρ 4) 3 = ρ 14 := m14
  have m15 : γ 0 10 (9 * ρ 4) 5 = ρ 15 := m15
  have m16 : γ 0 10 (9 * ρ 4) 8 = ρ 16 := m16
  have m17 : γ 0 10 (9 * ρ 4) 12 = ρ 17 := m17
  have m18 : γ 0 10 (9 * ρ 4) 14 = ρ 18 := m18
  have m19 : γ 0 10 (9 * ρ 4 + 6) 5 = ρ 19 := m19
  have m20 : γ 0 10 (9 * ρ 4 + 6) 8 = ρ 20 := m20
  have m21 : γ 0 10 (9 * ρ 4 + 6) 9 = ρ 21 := m21
  have m22 : γ 0 10 (9 * ρ 4 + 6) 10 = ρ 22 := m22
  have m23 : γ 0 10 (9 * ρ 4 + 7) 4 = ρ 23 := m23
  have m24 : γ 0 10 (9 * ρ 4 + 7) 5 = ρ 24 := m24
  have m25 : γ 0 10 (9 * ρ 4 + 7) 8 = ρ 25 := m25
  have m26 : γ 0 10 (9 * ρ 4 + 7) 9 = ρ 26 := m26
  have m27 : γ 0 10 (9 * ρ 4 + 7) 10 = ρ 27 := m27
  have m28 : γ 0 10 (9 * ρ 4 + 7) 11 = ρ 28 := m28
  have m29 : γ 0 10 (9 * ρ 4 + 8) 4 = ρ 29 := m29
  have m30 : γ 0 10 (9 * ρ 4 + 8) 5 = ρ 30 := m30
  have m31 : γ 0 10 (9 * ρ 4 + 8) 8 = ρ 31 := m31
  have m32 : γ 0 10 (9 * ρ 4 + 8) 9 = ρ 32 := m32
  have m33 : γ 0 10 (9 * ρ 4 + 8) 10 = ρ 33 := m33
  have m34 : γ 0 10 (9 * ρ 4 + 8) 11 = ρ 34 := m34
  have m35 : γ 1 6 0 0 = ρ 39 := m35
  have m36 : γ 1 8 (ρ 2) 1 = ρ 40 := m36
  have m37 : γ 1 4 0 7 = ρ 41 := m37
  have m38 : γ 1 5 0 3 = ρ 42 := m38
  have m39 : γ 1 6 0 13 = ρ 43 := m39
  have m40 : γ 3 6 0 0 = ρ 39 + 1 := m40
  have m41 : γ 5 6 0 0 = ρ 44 := m41
  have m42 : γ 5 8 (ρ 2) 1 = ρ 45 := m42
  have m43 : γ 5 4 0 7 = ρ 46 := m43
  have m44 : γ 5 5 0 3 = ρ 47 := m44
  have m45 : γ 5 6 0 13 = ρ 48 := m45
  obtain ⟨⟨⟨⟨⟨-, c1⟩, c2⟩, c3⟩, c4⟩, c5⟩ := hc
  have c1 : ∀ (G : Nat) (k j : Int), ¬ rMdP m140_ G j → γ 1 G k j = γ 0 G k j := c1
  have c2 : ∀ (G : Nat) (k j : Int), ¬ rMdP m132_ G j → γ 2 G k j = γ 1 G k j := c2
  have c3 : ∀ (G : Nat) (k j : Int), ¬ rMdP m133_ G j → γ 3 G k j = γ 2 G k j := c3
  have c4 : γ 4 = rUp (γ 3) 6 0 13 (ρ 43) := c4
  have c5 : ∀ (G : Nat) (k j : Int), ¬ rMdP m140_ G j → γ 5 G k j = γ 4 G k j := c5
  obtain ⟨l0, l1, l2, -⟩ := hl
  have l0 : sn225 [9 * ρ 4 + 6, ρ 36, ρ 19, ρ 20] (γ 1) 0 1 (γ 2) := hS225 _ _ _ _ _ l0
  have l1 : sn232 [9 * ρ 4 + 6, ρ 36, ρ 39, ρ 22] (γ 2) 0 0 (γ 3) := hS232 _ _ _ _ _ l1
  have l2 : sn249 [ρ 39 + 1, ρ 1, ρ 2, ρ 40, ρ 4, ρ 5, ρ 41, ρ 42, ρ 8, ρ 9, ρ 10, ρ 11, ρ 43, ρ 13, ρ 14, ρ 15, ρ 16, ρ 17, ρ 18, ρ 23, ρ 24, ρ 25, ρ 26, ρ 27, ρ 28, ρ 29, ρ 30, ρ 31, ρ 32, ρ 33, ρ 34] (γ 4) 1 0 (γ 5) := hS249 _ _ _ _ _ l2
  show sn250 [ρ 0, ρ 1, ρ 2, ρ 3, ρ 4, ρ 5, ρ 6, ρ 7, ρ 8, ρ 9, ρ 10, ρ 11, ρ 12, ρ 13, ρ 14, ρ 15, ρ 16, ρ 17, ρ 18, ρ 19, ρ 20, ρ 21, ρ 22, ρ 23, ρ 24, ρ 25, ρ 26, ρ 27, ρ 28, ρ 29, ρ 30, ρ 31, ρ 32, ρ 33, ρ 34] (γ 0) 1 0 (γ 5)
  have hD : en250 (γ 0) (0, [ρ 35, ρ 36, ρ 37, ρ 38], γ 1) = .inr (1, 0, γ 5) := by
    unfold en250
    refine (if_pos (show (0 : Nat) = 0 by decide)).trans ?_
    refine (zLet_eq (show _ = γ 1 from rfl)).trans ?_
    refine (zLet_eq (show _ = ρ 35 from rfl)).trans ?_
    refine (zLet_eq (show _ = ρ 36 from rfl)).trans ?_
    refine (zLet_eq (show _ = ρ 37 from rfl)).trans ?_
    refine (zLet_eq (show _ = ρ 38 from rfl)).trans ?_
    refine (zLet_eq m4).trans ?_
    refine (zLet_eq m10).trans ?_
    refine (zLet_eq m11).trans ?_
    refine (zLet_eq m39).trans ?_
    refine (if_neg (show ¬ (ρ 36 < 0) by omega)).trans ?_
    refine (if_neg (show ¬ (ρ 36 ≥ ρ 10) by omega)).trans ?_
    refine (if_neg (show ¬ (ρ 35 ≥ 2000) by omega)).trans ?_
    refine (if_neg (show ¬ (ρ 36 < ρ 37) by omega)).trans ?_
    refine (zLet_eq (show fn225 [9 * ρ 4 + 6, ρ 36] (γ 1) = (0, 1, γ 2) from l0.symm)).trans ?_
    refine (zLet_eq (show _ = γ 2 from rfl)).trans ?_
    refine (if_pos (show (1 : Int) ≤ 1 by omega)).trans ?_
    refine (zLet_eq (show fn232 [9 * ρ 4 + 6, ρ 36] (γ 2) = (0, 0, γ 3) from l1.symm)).trans ?_
    refine (zLet_eq (show _ = γ 3 from rfl)).trans ?_
    refine (if_pos (show (0 : Nat) = 0 by decide)).trans ?_
    refine (if_pos (show ρ 36 < ρ 11 by omega)).trans ?_
    refine (zLet_eq c4.symm).trans ?_
    refine (zLet_eq (show fn249 [] (γ 4) = (1, 0, γ 5) from l2.symm)).trans ?_
    refine (zLet_eq (show _ = γ 5 from rfl)).trans ?_
    refine (if_neg (show ¬ (1 : Nat) = 0 by decide)).trans ?_
    refine (if_pos (show (1 : Nat) = 1 by decide)).trans ?_
    rfl
  exact zGoo_aend hJ hD
theorem vn250a0_7 {S : Nat → zSpc} (hS225 : ∀ x g o v gz, S 225 x g o v gz → sn225 x g o v gz) (hS226 : ∀ x g o v gz, S 226 x g o v gz → sn226 x g o v gz) (hS227 : ∀ x g o v gz, S 227 x g o v gz → sn227 x g o v gz) (hS232 : ∀ x g o v gz, S 232 x g o v gz → sn232 x g o v gz) (hS249 : ∀ x g o v gz, S 249 x g o v gz → sn249 x g o v gz) {a : List Int} {g : rHp} : ∀ (ρ : Nat → Int) (γ : Nat → rHp), jn250 a g 0 (zAg (zNA a250_ 0) ρ) (γ 1) → zO 35 S a g q250a0_7 ρ γ → zGl (fun i vs g1 => jn250 a g i vs g1) (sn250 a g) q250a0_7 ρ γ := by
  intro ρ γ hJ h
  obtain ⟨ha, hg, hr, hf, hm, hc, hl⟩ := h
  have ha : a = [ρ 0, ρ 1, ρ 2, ρ 3, ρ 4, ρ 5, ρ 6, ρ 7, ρ 8, ρ 9, ρ 10, ρ 11, ρ 12, ρ 13, ρ 14, ρ 15, ρ 16, ρ 17, ρ 18, ρ 19, ρ 20, ρ 21, ρ 22, ρ 23, ρ 24, ρ 25, ρ 26, ρ 27, ρ 28, ρ 29, ρ 30, ρ 31, ρ 32, ρ 33, ρ 34] := ha
  subst ha
  subst hg
  have hJ : jn250 [ρ 0, ρ 1, ρ 2, ρ 3, ρ 4, ρ 5, ρ 6, ρ 7, ρ 8, ρ 9, ρ 10, ρ 11, ρ 12, ρ 13, ρ 14, ρ 15, ρ 16, ρ 17, ρ 18, ρ 19, ρ 20, ρ 21, ρ 22, ρ 23, ρ 24, ρ 25, ρ 26, ρ 27, ρ 28, ρ 29, ρ 30, ρ 31, ρ 32, ρ 33, ρ 34] (γ 0) 0 [ρ 0, ρ 1, ρ 2, ρ 3, ρ 4, ρ 5, ρ 6, ρ 7, ρ 8, ρ 9, ρ 10, ρ 11, ρ 12, ρ 13, ρ 14, ρ 15, ρ 16, ρ 17, ρ 18, ρ 19, ρ 20, ρ 21, ρ 22, ρ 23, ρ 24, ρ 25, ρ 26, ρ 27, ρ 28, ρ 29, ρ 30, ρ 31, ρ 32, ρ 33, ρ 34, ρ 35, ρ 36, ρ 37, ρ 38, ρ 39, ρ 40, ρ 41, ρ 42, ρ 43] (γ 1) := hJ
  obtain ⟨r0, r1, r2, r3, r4, r5, r6, r7, r8, r9, r10, r11, r12, r13, r14, r15, r16, r17, r18, r19, r20, r21, r22, r23, r24, r25, r26, r27, r28, r29, r30, r31, r32, r33, r34, r35, r36, r37, r38, r39, r40, r41, r42, r43, r44, r45, r46, r47, r48, -⟩ := hr
  have r0 : (0 : Int) ≤ ρ 0 ∧ ρ 0 ≤ 50000 := r0
  have r1 : (0 : Int) ≤ ρ 1 ∧ ρ 1 ≤ 2 := r1
  have r2 : (0 : Int) ≤ ρ 2 ∧ ρ 2 ≤ 2 := r2
  have r3 : (0 : Int) ≤ ρ 3 ∧ ρ 3 ≤ 50001 := r3
  have r4 : (0 : Int) ≤ ρ 4 ∧ ρ 4 ≤ 62 := r4
  have r5 : (0 : Int) ≤ ρ 5 ∧ ρ 5 ≤ 60 := r5
  have r6 : (0 : Int) ≤ ρ 6 ∧ ρ 6 ≤ 2000 := r6
  have r7 : (0 : Int) ≤ ρ 7 ∧ ρ 7 ≤ 2000 := r7
  have r8 : ((-2147483648) : Int) ≤ ρ 8 ∧ ρ 8 ≤ 2147483647 := r8
  have r9 : ((-2147483648) : Int) ≤ ρ 9 ∧ ρ 9 ≤ 2147483647 := r9
  have r10 : (0 : Int) ≤ ρ 10 ∧ ρ 10 ≤ 2000 := r10
  have r11 : (0 : Int) ≤ ρ 11 ∧ ρ 11 ≤ 2000 := r11
  have r12 : ((-2147483648) : Int) ≤ ρ 12 ∧ ρ 12 ≤ 2147483647 := r12
  have r13 : (7 : Int) ≤ ρ 13 ∧ ρ 13 ≤ 8 := r13
  have r14 : (0 : Int) ≤ ρ 14 ∧ ρ 14 ≤ 8 := r14
  have r15 : (0 : Int) ≤ ρ 15 ∧ ρ 15 ≤ 4 := r15
  have r16 : ((-1) : Int) ≤ ρ 16 ∧ ρ 16 ≤ 19 := r16
  have r17 : (0 : Int) ≤ ρ 17 ∧ ρ 17 ≤ 4 := r17
  have r18 : ((-1) : Int) ≤ ρ 18 ∧ ρ 18 ≤ 7 := r18
  have r19 : (0 : Int) ≤ ρ 19 ∧ ρ 19 ≤ 4 := r19
  have r20 : ((-1) : Int) ≤ ρ 20 ∧ ρ 20 ≤ 19 := r20
  have r21 : ((-1) : Int) ≤ ρ 21 ∧ ρ 21 ≤ 3 := r21
  have r22 : (0 : Int) ≤ ρ 22 ∧ ρ 22 ≤ 7 := r22
  have r23 : (1 : Int) ≤ ρ 23 ∧ ρ 23 ≤ 8 := r23
  have r24 : (0 : Int) ≤ ρ 24 ∧ ρ 24 ≤ 4 := r24
  have r25 : ((-1) : Int) ≤ ρ 25 ∧ ρ 25 ≤ 19 := r25
  have r26 : ((-1) : Int) ≤ ρ 26 ∧ ρ 26 ≤ 3 := r26
  have r27 : (0 : Int) ≤ ρ 27 ∧ ρ 27 ≤ 7 := r27
  have r28 : ((-1) : Int) ≤ ρ 28 ∧ ρ 28 ≤ 7 := r28
  have r29 : (0 : Int) ≤ ρ 29 ∧ ρ 29 ≤ 8 := r29
  have r30 : (0 : Int) ≤ ρ 30 ∧ ρ 30 ≤ 4 := r30
  have r31 : ((-1) : Int) ≤ ρ 31 ∧ ρ 31 ≤ 19 := r31
  have r32 : ((-1) : Int) ≤ ρ 32 ∧ ρ 32 ≤ 3 := r32
  have r33 : (0 : Int) ≤ ρ 33 ∧ ρ 33 ≤ 7 := r33
  have r34 : ((-1) : Int) ≤ ρ 34 ∧ ρ 34 ≤ 7 := r34
  have r35 : (0 : Int) ≤ ρ 35 ∧ ρ 35 ≤ 1999 := r35
  have r36 : (0 : Int) ≤ ρ 36 ∧ ρ 36 ≤ 2000 := r36
  have r37 : (0 : Int) ≤ ρ 37 ∧ ρ 37 ≤ 2000 := r37
  have r38 : (0 : Int) ≤ ρ 38 ∧ ρ 38 ≤ 1 := r38
  have r39 : (0 : Int) ≤ ρ 39 ∧ ρ 39 ≤ 49999 := r39
  have r40 : (0 : Int) ≤ ρ 40 ∧ ρ 40 ≤ 50001 := r40
  have r41 : (0 : Int) ≤ ρ 41 ∧ ρ 41 ≤ 2000 := r41
  have r42 : (0 : Int) ≤ ρ 42 ∧ ρ 42 ≤ 2000 := r42
  have r43 : ((-2147483648) : Int) ≤ ρ 43 ∧ ρ 43 ≤ 2147483647 := r43
  have r44 : (50001 : Int) ≤ ρ 44 ∧ ρ 44 ≤ 50001 := r44
  have r45 : (0 : Int) ≤ ρ 45 ∧ ρ 45 ≤ 50001 := r45
  have r46 : (0 : Int) ≤ ρ 46 ∧ ρ 46 ≤ 2000 := r46
  have r47 : (0 : Int) ≤ ρ 47 ∧ ρ 47 ≤ 2000 := r47
  have r48 : ((-2147483648) : Int) ≤ ρ 48 ∧ ρ 48 ≤ 2147483647 := r48
  obtain ⟨f0, f1, f2, f3, f4, f5, f6, f7, f8, f9, f10, f11, f12, f13, f14, f15, f16, f17, -⟩ := hf
  have f0 : (0 : Int) ≤ -ρ 40 + (ρ 39 + (-50001) * ρ 1) + 100003 := f0
  have f1 : (0 : Int) ≤ ρ 45 + -ρ 40 := f1
  have f2 : (0 : Int) ≤ ρ 46 + -ρ 41 := f2
  have f3 : (0 : Int) ≤ ρ 47 + -ρ 42 := f3
  have f4 : (0 : Int) ≤ -ρ 23 + ρ 13 := f4
  have f5 : (0 : Int) ≤ -ρ 45 + (ρ 44 + (ρ 40 + -ρ 39)) := f5
  have f6 : (0 : Int) ≤ -ρ 36 + ρ 11 + (-1) := f6
  have f7 : (0 : Int) ≤ -ρ 37 + ρ 36 := f7
  have f8 : (0 : Int) ≤ -ρ 36 + ρ 10 + (-1) := f8
  have f9 : (0 : Int) ≤ -ρ 40 + (ρ 39 + (ρ 3 + -ρ 0)) := f9
  have f10 : (0 : Int) ≤ -ρ 40 + (ρ 39 + (-50001) * ρ 1) + 100002 := f10
  have f11 : (0 : Int) ≤ -ρ 38 + ρ 14 := f11
  have f12 : (0 : Int) ≤ -ρ 37 + ρ 11 := f12
  have f13 : (0 : Int) ≤ ρ 42 + -ρ 7 := f13
  have f14 : (0 : Int) ≤ ρ 41 + -ρ 6 := f14
  have f15 : (0 : Int) ≤ ρ 40 + -ρ 3 := f15
  have f16 : (0 : Int) ≤ ρ 39 + -ρ 0 := f16
  have f17 : (0 : Int) ≤ -ρ 3 + ((-50001) * ρ 1 + ρ 0) + 100002 := f17
  obtain ⟨m0, m1, m2, m3, m4, m5, m6, m7, m8, m9, m10, m11, m12, m13, m14, m15, m16, m17, m18, m19, m20, m21, m22, m23, m24, m25, m26, m27, m28, m29, m30, m31, m32, m33, m34, m35, m36, m37, m38, m39, m40, m41, m42, m43, m44, m45, -⟩ := hm
  have m0 : γ 0 6 0 0 = ρ 0 := m0
  have m1 : γ 0 6 0 9 = ρ 1 := m1
  have m2 : γ 0 6 0 6 = ρ 2 := m2
  have m3 : γ 0 8 (ρ 2) 1 = ρ 3 := m3
  have m4 : γ 0 6 0 7 = ρ 4 := m4
  have m5 : γ 0 1 0 10 = ρ 5 := m5
  have m6 : γ 0 4 0 7 = ρ 6 := m6
  have m7 : γ 0 5 0 3 = ρ 7 := m7
  have m8 : γ 0 6 0 8 = ρ 8 := m8
  have m9 : γ 0 6 0 10 = ρ 9 := m9
  have m10 : γ 0 6 0 11 = ρ 10 := m10
  have m11 : γ 0 6 0 12 = ρ 11 := m11
  have m12 : γ 0 6 0 13 = ρ 12 := m12
  have m13 : γ 0 9 (ρ 4) 2 = ρ 13 := m13
  have m14 : γ 0 9 (ρ 4) 3 = ρ 14 := m14
  have m15 : γ 0 10 (9 * ρ 4) 5 = ρ 15 := m15
  have m16 : γ 0 10 (9 * ρ 4) 8 = ρ 16 := m16
  have m17 : γ 0 10 (9 * ρ 4) 12 = ρ 17 := m17
  have m18 : γ 0 10 (9 * ρ 4) 14 = ρ 18 := m18
  have m19 : γ 0 10 (9 * ρ 4 + 6) 5 = ρ 19 := m19
  have m20 : γ 0 10 (9 * ρ 4 + 6) 8 = ρ 20 := m20
  have m21 : γ 0 10 (9 * ρ 4 + 6) 9 = ρ 21 := m21
  have m22 : γ 0 10 (9 * ρ 4 + 6) 10 = ρ 22 := m22
  have m23 : γ 0 10 (9 * ρ 4 + 7) 4 = ρ 23 := m23
  have m24 : γ 0 10 (9 * ρ 4 + 7) 5 = ρ 24 := m24
  have m25 : γ 0 10 (9 * ρ 4 + 7) 8 = ρ 25 := m25
  have m26 : γ 0 10 (9 * ρ 4 + 7) 9 = ρ 26 := m26
  have m27 : γ 0 10 (9 * ρ 4 + 7) 10 = ρ 27 := m27
  have m28 : γ 0 10 (9 * ρ 4 + 7) 11 = ρ 28 := m28
  have m29 : γ 0 10 (9 * ρ 4 + 8) 4 = ρ 29 := m29
  have m30 : γ 0 10 (9 * ρ 4 + 8) 5 = ρ 30 := m30
  have m31 : γ 0 10 (9 * ρ 4 + 8) 8 = ρ 31 := m31
  have m32 : γ 0 10 (9 * ρ 4 + 8) 9 = ρ 32 := m32
  have m33 : γ 0 10 (9 * ρ 4 + 8) 10 = ρ 33 := m33
  have m34 : γ 0 10 (9 * ρ 4 + 8) 11 = ρ 34 := m34
  have m35 : γ 1 6 0 0 = ρ 39 := m35
  have m36 : γ 1 8 (ρ 2) 1 = ρ 40 := m36
  have m37 : γ 1 4 0 7 = ρ 41 := m37
  have m38 : γ 1 5 0 3 = ρ 42 := m38
  have m39 : γ 1 6 0 13 = ρ 43 := m39
  have m40 : γ 3 6 0 0 = ρ 39 + 1 := m40
  have m41 : γ 5 6 0 0 = ρ 44 := m41
  have m42 : γ 5 8 (ρ 2) 1 = ρ 45 := m42
  have m43 : γ 5 4 0 7 = ρ 46 := m43
  have m44 : γ 5 5 0 3 = ρ 47 := m44
  have m45 : γ 5 6 0 13 = ρ 48 := m45
  obtain ⟨⟨⟨⟨⟨-, c1⟩, c2⟩, c3⟩, c4⟩, c5⟩ := hc
  have c1 : ∀ (G : Nat) (k j : Int), ¬ rMdP m140_ G j → γ 1 G k j = γ 0 G k j := c1
  have c2 : ∀ (G : Nat) (k j : Int), ¬ rMdP m132_ G j → γ 2 G k j = γ 1 G k j := c2
  have c3 : ∀ (G : Nat) (k j : Int), ¬ rMdP m133_ G j → γ 3 G k j = γ 2 G k j := c3
  have c4 : γ 4 = rUp (γ 3) 6 0 13 (ρ 43) := c4
  have c5 : ∀ (G : Nat) (k j : Int), ¬ rMdP m140_ G j → γ 5 G k j = γ 4 G k j := c5
  obtain ⟨l0, l1, l2, -⟩ := hl
  have l0 : sn225 [9 * ρ 4 + 6, ρ 36, ρ 19, ρ 20] (γ 1) 0 1 (γ 2) := hS225 _ _ _ _ _ l0
  have l1 : sn232 [9 * ρ 4 + 6, ρ 36, ρ 39, ρ 22] (γ 2) 0 0 (γ 3) := hS232 _ _ _ _ _ l1
  have l2 : sn249 [ρ 39 + 1, ρ 1, ρ 2, ρ 40, ρ 4, ρ 5, ρ 41, ρ 42, ρ 8, ρ 9, ρ 10, ρ 11, ρ 43, ρ 13, ρ 14, ρ 15, ρ 16, ρ 17, ρ 18, ρ 23, ρ 24, ρ 25, ρ 26, ρ 27, ρ 28, ρ 29, ρ 30, ρ 31, ρ 32, ρ 33, ρ 34] (γ 4) 4 0 (γ 5) := hS249 _ _ _ _ _ l2
  show sn250 [ρ 0, ρ 1, ρ 2, ρ 3, ρ 4, ρ 5, ρ 6, ρ 7, ρ 8, ρ 9, ρ 10, ρ 11, ρ 12, ρ 13, ρ 14, ρ 15, ρ 16, ρ 17, ρ 18, ρ 19, ρ 20, ρ 21, ρ 22, ρ 23, ρ 24, ρ 25, ρ 26, ρ 27, ρ 28, ρ 29, ρ 30, ρ 31, ρ 32, ρ 33, ρ 34] (γ 0) 4 0 (γ 5)
  have hD : en250 (γ 0) (0, [ρ 35, ρ 36, ρ 37, ρ 38], γ 1) = .inr (4, 0, γ 5) := by
    unfold en250
    refine (if_pos (show (0 : Nat) = 0 by decide)).trans ?_
    refine (zLet_eq (show _ = γ 1 from rfl)).trans ?_
    refine (zLet_eq (show _ = ρ 35 from rfl)).trans ?_
    refine (zLet_eq (show _ = ρ 36 from rfl)).trans ?_
    refine (zLet_eq (show _ = ρ 37 from rfl)).trans ?_
    refine (zLet_eq (show _ = ρ 38 from rfl)).trans ?_
    refine (zLet_eq m4).trans ?_
    refine (zLet_eq m10).trans ?_
    refine (zLet_eq m11).trans ?_
    refine (zLet_eq m39).trans ?_
    refine (if_neg (show ¬ (ρ 36 < 0) by omega)).trans ?_
    refine (if_neg (show ¬ (ρ 36 ≥ ρ 10) by omega)).trans ?_
    refine (if_neg (show ¬ (ρ 35 ≥ 2000) by omega)).trans ?_
    refine (if_neg (show ¬ (ρ 36 < ρ 37) by omega)).trans ?_
    refine (zLet_eq (show fn225 [9 * ρ 4 + 6, ρ 36] (γ 1) = (0, 1, γ 2) from l0.symm)).trans ?_
    refine (zLet_eq (show _ = γ 2 from rfl)).trans ?_
    refine (if_pos (show (1 : Int) ≤ 1 by omega)).trans ?_
    refine (zLet_eq (show fn232 [9 * ρ 4 + 6, ρ 36] (γ 2) = (0, 0, γ 3) from l1.symm)).trans ?_
    refine (zLet_eq (show _ = γ 3 from rfl)).trans ?_
    refine (if_pos (show (0 : Nat) = 0 by decide)).trans ?_
    refine (if_pos (show ρ 36 < ρ 11 by omega)).trans ?_
    refine (zLet_eq c4.symm).trans ?_
    refine (zLet_eq (show fn249 [] (γ 4) = (4, 0, γ 5) from l2.symm)).trans ?_
    refine (zLet_eq (show _ = γ 5 from rfl)).trans ?_
    refine (if_neg (show ¬ (4 : Nat) = 0 by decide)).trans ?_
    refine (if_neg (show ¬ (4 : Nat) = 1 by decide)).trans ?_
    rfl
  exact zGoo_aend hJ hD
theorem vn250a0_8 {S : Nat → zSpc} (hS225 : ∀ x g o v gz, S 225 x g o v gz → sn225 x g o v gz) (hS226 : ∀ x g o v gz, S 226 x g o v gz → sn226 x g o v gz) (hS227 : ∀ x g o v gz, S 227 x g o v gz → sn227 x g o v gz) (hS232 : ∀ x g o v gz, S 232 x g o v gz → sn232 x g o v gz) (hS249 : ∀ x g o v gz, S 249 x g o v gz → sn249 x g o v gz) {a : List Int} {g : rHp} : ∀ (ρ : Nat → Int) (γ : Nat → rHp), jn250 a g 0 (zAg (zNA a250_ 0) ρ) (γ 1) → zO 35 S a g q250a0_8 ρ γ → zGl (fun i vs g1 => jn250 a g i vs g1) (sn250 a g) q250a0_8 ρ γ := by
  intro ρ γ hJ h
  obtain ⟨ha, hg, hr, hf, hm, hc, hl⟩ := h
  have ha : a = [ρ 0, ρ 1, ρ 2, ρ 3, ρ 4, ρ 5, ρ 6, ρ 7, ρ 8, ρ 9, ρ 10, ρ 11, ρ 12, ρ 13, ρ 14, ρ 15, ρ 16, ρ 17, ρ 18, ρ 19, ρ 20, ρ 21, ρ 22, ρ 23, ρ 24, ρ 25, ρ 26, ρ 27, ρ 28, ρ 29, ρ 30, ρ 31, ρ 32, ρ 33, ρ 34] := ha
  subst ha
  subst hg
  have hJ : jn250 [ρ 0, ρ 1, ρ 2, ρ 3, ρ 4, ρ 5, ρ 6, ρ 7, ρ 8, ρ 9, ρ 10, ρ 11, ρ 12, ρ 13, ρ 14, ρ 15, ρ 16, ρ 17, ρ 18, ρ 19, ρ 20, ρ 21, ρ 22, ρ 23, ρ 24, ρ 25, ρ 26, ρ 27, ρ 28, ρ 29, ρ 30, ρ 31, ρ 32, ρ 33, ρ 34] (γ 0) 0 [ρ 0, ρ 1, ρ 2, ρ 3, ρ 4, ρ 5, ρ 6, ρ 7, ρ 8, ρ 9, ρ 10, ρ 11, ρ 12, ρ 13, ρ 14, ρ 15, ρ 16, ρ 17, ρ 18, ρ 19, ρ 20, ρ 21, ρ 22, ρ 23, ρ 24, ρ 25, ρ 26, ρ 27, ρ 28, ρ 29, ρ 30, ρ 31, ρ 32, ρ 33, ρ 34, ρ 35, ρ 36, ρ 37, ρ 38, ρ 39, ρ 40, ρ 41, ρ 42, ρ 43] (γ 1) := hJ
  obtain ⟨r0, r1, r2, r3, r4, r5, r6, r7, r8, r9, r10, r11, r12, r13, r14, r15, r16, r17, r18, r19, r20, r21, r22, r23, r24, r25, r26, r27, r28, r29, r30, r31, r32, r33, r34, r35, r36, r37, r38, r39, r40, r41, r42, r43, r44, r45, r46, r47, r48, r49, r50, r51, -⟩ := hr
  have r0 : (0 : Int) ≤ ρ 0 ∧ ρ 0 ≤ 50000 := r0
  have r1 : (0 : Int) ≤ ρ 1 ∧ ρ 1 ≤ 2 := r1
  have r2 : (0 : Int) ≤ ρ 2 ∧ ρ 2 ≤ 2 := r2
  have r3 : (0 : Int) ≤ ρ 3 ∧ ρ 3 ≤ 50001 := r3
  have r4 : (0 : Int) ≤ ρ 4 ∧ ρ 4 ≤ 62 := r4
  have r5 : (0 : Int) ≤ ρ 5 ∧ ρ 5 ≤ 60 := r5
  have r6 : (0 : Int) ≤ ρ 6 ∧ ρ 6 ≤ 2000 := r6
  have r7 : (0 : Int) ≤ ρ 7 ∧ ρ 7 ≤ 2000 := r7
  have r8 : ((-2147483648) : Int) ≤ ρ 8 ∧ ρ 8 ≤ 2147483647 := r8
  have r9 : ((-2147483648) : Int) ≤ ρ 9 ∧ ρ 9 ≤ 2147483647 := r9
  have r10 : (0 : Int) ≤ ρ 10 ∧ ρ 10 ≤ 2000 := r10
  have r11 : (0 : Int) ≤ ρ 11 ∧ ρ 11 ≤ 2000 := r11
  have r12 : ((-2147483648) : Int) ≤ ρ 12 ∧ ρ 12 ≤ 2147483647 := r12
  have r13 : (0 : Int) ≤ ρ 13 ∧ ρ 13 ≤ 8 := r13
  have r14 : (0 : Int) ≤ ρ 14 ∧ ρ 14 ≤ 8 := r14
  have r15 : (0 : Int) ≤ ρ 15 ∧ ρ 15 ≤ 4 := r15
  have r16 : ((-1) : Int) ≤ ρ 16 ∧ ρ 16 ≤ 19 := r16
  have r17 : (0 : Int) ≤ ρ 17 ∧ ρ 17 ≤ 4 := r17
  have r18 : ((-1) : Int) ≤ ρ 18 ∧ ρ 18 ≤ 7 := r18
  have r19 : (0 : Int) ≤ ρ 19 ∧ ρ 19 ≤ 4 := r19
  have r20 : ((-1) : Int) ≤ ρ 20 ∧ ρ 20 ≤ 19 := r20
  have r21 : ((-1) : Int) ≤ ρ 21 ∧ ρ 21 ≤ 3 := r21
  have r22 : (0 : Int) ≤ ρ 22 ∧ ρ 22 ≤ 7 := r22
  have r23 : (0 : Int) ≤ ρ 23 ∧ ρ 23 ≤ 8 := r23
  have r24 : (0 : Int) ≤ ρ 24 ∧ ρ 24 ≤ 4 := r24
  have r25 : ((-1) : Int) ≤ ρ 25 ∧ ρ 25 ≤ 19 := r25
  have r26 : ((-1) : Int) ≤ ρ 26 ∧ ρ 26 ≤ 3 := r26
  have r27 : (0 : Int) ≤ ρ 27 ∧ ρ 27 ≤ 7 := r27
  have r28 : ((-1) : Int) ≤ ρ 28 ∧ ρ 28 ≤ 7 := r28
  have r29 : (0 : Int) ≤ ρ 29 ∧ ρ 29 ≤ 8 := r29
  have r30 : (0 : Int) ≤ ρ 30 ∧ ρ 30 ≤ 4 := r30
  have r31 : ((-1) : Int) ≤ ρ 31 ∧ ρ 31 ≤ 19 := r31
  have r32 : ((-1) : Int) ≤ ρ 32 ∧ ρ 32 ≤ 3 := r32
  have r33 : (0 : Int) ≤ ρ 33 ∧ ρ 33 ≤ 7 := r33
  have r34 : ((-1) : Int) ≤ ρ 34 ∧ ρ 34 ≤ 7 := r34
  have r35 : (0 : Int) ≤ ρ 35 ∧ ρ 35 ≤ 1999 := r35
  have r36 : (0 : Int) ≤ ρ 36 ∧ ρ 36 ≤ 2000 := r36
  have r37 : (0 : Int) ≤ ρ 37 ∧ ρ 37 ≤ 2000 := r37
  have r38 : (0 : Int) ≤ ρ 38 ∧ ρ 38 ≤ 1 := r38
  have r39 : (0 : Int) ≤ ρ 39 ∧ ρ 39 ≤ 49999 := r39
  have r40 : (0 : Int) ≤ ρ 40 ∧ ρ 40 ≤ 50001 := r40
  have r41 : (0 : Int) ≤ ρ 41 ∧ ρ 41 ≤ 2000 := r41
  have r42 : (0 : Int) ≤ ρ 42 ∧ ρ 42 ≤ 2000 := r42
  have r43 : ((-2147483648) : Int) ≤ ρ 43 ∧ ρ 43 ≤ 2147483647 := r43
  have r44 : ((-2147483648) : Int) ≤ ρ 44 ∧ ρ 44 ≤ 2147483647 := r44
  have r45 : (0 : Int) ≤ ρ 45 ∧ ρ 45 ≤ 50000 := r45
  have r46 : (0 : Int) ≤ ρ 46 ∧ ρ 46 ≤ 50001 := r46
  have r47 : (0 : Int) ≤ ρ 47 ∧ ρ 47 ≤ 2000 := r47
  have r48 : (0 : Int) ≤ ρ 48 ∧ ρ 48 ≤ 2000 := r48
  have r49 : ((-2147483648) : Int) ≤ ρ 49 ∧ ρ 49 ≤ 2147483647 := r49
  have r50 : ((-2147483648) : Int) ≤ ρ 50 ∧ ρ 50 ≤ 2147483647 := r50
  have r51 : ((-1) : Int) ≤ ρ 51 ∧ ρ 51 ≤ 1999 := r51
  obtain ⟨f0, f1, f2, f3, f4, f5, f6, f7, f8, f9, f10, f11, f12, f13, f14, f15, f16, f17, -⟩ := hf
  have f0 : (0 : Int) ≤ -ρ 40 + (ρ 39 + (-50001) * ρ 1) + 100003 := f0
  have f1 : (0 : Int) ≤ ρ 45 + -ρ 39 + (-1) := f1
  have f2 : (0 : Int) ≤ ρ 46 + -ρ 40 := f2
  have f3 : (0 : Int) ≤ ρ 47 + -ρ 41 := f3
  have f4 : (0 : Int) ≤ ρ 48 + -ρ 42 := f4
  have f5 : (0 : Int) ≤ -ρ 46 + (ρ 45 + (ρ 40 + -ρ 39)) := f5
  have f6 : (0 : Int) ≤ ρ 36 + -ρ 11 := f6
  have f7 : (0 : Int) ≤ -ρ 37 + ρ 36 := f7
  have f8 : (0 : Int) ≤ -ρ 36 + ρ 10 + (-1) := f8
  have f9 : (0 : Int) ≤ -ρ 40 + (ρ 39 + (ρ 3 + -ρ 0)) := f9
  have f10 : (0 : Int) ≤ -ρ 40 + (ρ 39 + (-50001) * ρ 1) + 100002 := f10
  have f11 : (0 : Int) ≤ -ρ 38 + ρ 14 := f11
  have f12 : (0 : Int) ≤ -ρ 37 + ρ 11 := f12
  have f13 : (0 : Int) ≤ ρ 42 + -ρ 7 := f13
  have f14 : (0 : Int) ≤ ρ 41 + -ρ 6 := f14
  have f15 : (0 : Int) ≤ ρ 40 + -ρ 3 := f15
  have f16 : (0 : Int) ≤ ρ 39 + -ρ 0 := f16
  have f17 : (0 : Int) ≤ -ρ 3 + ((-50001) * ρ 1 + ρ 0) + 100002 := f17
  obtain ⟨m0, m1, m2, m3, m4, m5, m6, m7, m8, m9, m10, m11, m12, m13, m14, m15, m16, m17, m18, m19, m20, m21, m22, m23, m24, m25, m26, m27, m28, m29, m30, m31, m32, m33, m34, m35, m36, m37, m38, m39, m40, m41, m42, m43, m44, m45, -⟩ := hm
  have m0 : γ 0 6 0 0 = ρ 0 := m0
  have m1 : γ 0 6 0 9 = ρ 1 := m1
  have m2 : γ 0 6 0 6 = ρ 2 := m2
  have m3 : γ 0 8 (ρ 2) 1 = ρ 3 := m3
  have m4 : γ 0 6 0 7 = ρ 4 := m4
  have m5 : γ 0 1 0 10 = ρ 5 := m5
  have m6 : γ 0 4 0 7 = ρ 6 := m6
  have m7 : γ 0 5 0 3 = ρ 7 := m7
  have m8 : γ 0 6 0 8 = ρ 8 := m8
  have m9 : γ 0 6 0 10 = ρ 9 := m9
  have m10 : γ 0 6 0 11 = ρ 10 := m10
  have m11 : γ 0 6 0 12 = ρ 11 := m11
  have m12 : γ 0 6 0 13 = ρ 12 := m12
  have m13 : γ 0 9 (ρ 4) 2 = ρ 13 := m13
  have m14 : γ 0 9 (ρ 4) 3 = ρ 14 := m14
  have m15 : γ 0 10 (9 * ρ 4) 5 = ρ 15 := m15
  have m16 : γ 0 10 (9 * ρ 4) 8 = ρ 16 := m16
  have m17 : γ 0 10 (9 * ρ 4) 12 = ρ 17 := m17
  have m18 : γ 0 10 (9 * ρ 4) 14 = ρ 18 := m18
  have m19 : γ 0 10 (9 * ρ 4 + 6) 5 = ρ 19 := m19
  have m20 : γ 0 10 (9 * ρ 4 + 6) 8 = ρ 20 := m20
  have m21 : γ 0 10 (9 * ρ 4 + 6) 9 = ρ 21 := m21
  have m22 : γ 0 10 (9 * ρ 4 + 6) 10 = ρ 22 := m22
  have m23 : γ 0 10 (9 * ρ 4 + 7) 4 = ρ 23 := m23
  have m24 : γ 0 10 (9 * ρ 4 + 7) 5 = ρ 24 := m24
  have m25 : γ 0 10 (9 * ρ 4 + 7) 8 = ρ 25 := m25
  have m26 : γ 0 10 (9 * ρ 4 + 7) 9 = ρ 26 := m26
  have m27 : γ 0 10 (9 * ρ 4 + 7) 10 = ρ 27 := m27
  have m28 : γ 0 10 (9 * ρ 4 + 7) 11 = ρ 28 := m28
  have m29 : γ 0 10 (9 * ρ 4 + 8) 4 = ρ 29 := m29
  have m30 : γ 0 10 (9 * ρ 4 + 8) 5 = ρ 30 := m30
  have m31 : γ 0 10 (9 * ρ 4 + 8) 8 = ρ 31 := m31
  have m32 : γ 0 10 (9 * ρ 4 + 8) 9 = ρ 32 := m32
  have m33 : γ 0 10 (9 * ρ 4 + 8) 10 = ρ 33 := m33
  have m34 : γ 0 10 (9 * ρ 4 + 8) 11 = ρ 34 := m34
  have m35 : γ 1 6 0 0 = ρ 39 := m35
  have m36 : γ 1 8 (ρ 2) 1 = ρ 40 := m36
  have m37 : γ 1 4 0 7 = ρ 41 := m37
  have m38 : γ 1 5 0 3 = ρ 42 := m38
  have m39 : γ 1 6 0 13 = ρ 43 := m39
  have m40 : γ 3 6 0 0 = ρ 39 + 1 := m40
  have m41 : γ 5 6 0 0 = ρ 45 := m41
  have m42 : γ 5 8 (ρ 2) 1 = ρ 46 := m42
  have m43 : γ 5 4 0 7 = ρ 47 := m43
  have m44 : γ 5 5 0 3 = ρ 48 := m44
  have m45 : γ 5 6 0 13 = ρ 49 := m45
  obtain ⟨⟨⟨⟨⟨⟨⟨-, c1⟩, c2⟩, c3⟩, c4⟩, c5⟩, c6⟩, c7⟩ := hc
  have c1 : ∀ (G : Nat) (k j : Int), ¬ rMdP m140_ G j → γ 1 G k j = γ 0 G k j := c1
  have c2 : ∀ (G : Nat) (k j : Int), ¬ rMdP m132_ G j → γ 2 G k j = γ 1 G k j := c2
  have c3 : ∀ (G : Nat) (k j : Int), ¬ rMdP m133_ G j → γ 3 G k j = γ 2 G k j := c3
  have c4 : γ 4 = rUp (γ 3) 6 0 13 (ρ 44) := c4
  have c5 : ∀ (G : Nat) (k j : Int), ¬ rMdP m140_ G j → γ 5 G k j = γ 4 G k j := c5
  have c6 : γ 6 = rUp (γ 5) 6 0 13 (ρ 50) := c6
  have c7 : ∀ (G : Nat) (k j : Int), ¬ rMdP m0_ G j → γ 7 G k j = γ 6 G k j := c7
  obtain ⟨l0, l1, l2, l3, l4, l5, -⟩ := hl
  have l0 : sn225 [9 * ρ 4 + 6, ρ 36, ρ 19, ρ 20] (γ 1) 0 1 (γ 2) := hS225 _ _ _ _ _ l0
  have l1 : sn232 [9 * ρ 4 + 6, ρ 36, ρ 39, ρ 22] (γ 2) 0 0 (γ 3) := hS232 _ _ _ _ _ l1
  have l2 : zOpP (.iadd) (γ 0) (γ 1) [ρ 43, 1] (ρ 44) := l2
  have l3 : sn249 [ρ 39 + 1, ρ 1, ρ 2, ρ 40, ρ 4, ρ 5, ρ 41, ρ 42, ρ 8, ρ 9, ρ 10, ρ 11, ρ 44, ρ 13, ρ 14, ρ 15, ρ 16, ρ 17, ρ 18, ρ 23, ρ 24, ρ 25, ρ 26, ρ 27, ρ 28, ρ 29, ρ 30, ρ 31, ρ 32, ρ 33, ρ 34] (γ 4) 0 0 (γ 5) := hS249 _ _ _ _ _ l3
  have l4 : zOpP (.isub) (γ 0) (γ 1) [ρ 49, 1] (ρ 50) := l4
  have l5 : sn227 [9 * ρ 4 + 6, ρ 36, ρ 21] (γ 6) 0 (ρ 51) (γ 7) := hS227 _ _ _ _ _ l5
  show jn250 [ρ 0, ρ 1, ρ 2, ρ 3, ρ 4, ρ 5, ρ 6, ρ 7, ρ 8, ρ 9, ρ 10, ρ 11, ρ 12, ρ 13, ρ 14, ρ 15, ρ 16, ρ 17, ρ 18, ρ 19, ρ 20, ρ 21, ρ 22, ρ 23, ρ 24, ρ 25, ρ 26, ρ 27, ρ 28, ρ 29, ρ 30, ρ 31, ρ 32, ρ 33, ρ 34] (γ 0) 0 [ρ 0, ρ 1, ρ 2, ρ 3, ρ 4, ρ 5, ρ 6, ρ 7, ρ 8, ρ 9, ρ 10, ρ 11, ρ 12, ρ 13, ρ 14, ρ 15, ρ 16, ρ 17, ρ 18, ρ 19, ρ 20, ρ 21, ρ 22, ρ 23, ρ 24, ρ 25, ρ 26, ρ 27, ρ 28, ρ 29, ρ 30, ρ 31, ρ 32, ρ 33, ρ 34, ρ 35 + 1, ρ 51, ρ 37, ρ 38, ρ 45, ρ 46, ρ 47, ρ 48, ρ 50] (γ 7)
  have hD : en250 (γ 0) (0, [ρ 35, ρ 36, ρ 37, ρ 38], γ 1) = .inl (0, [ρ 35 + 1, ρ 51, ρ 37, ρ 38], γ 7) := by
    unfold en250
    refine (if_pos (show (0 : Nat) = 0 by decide)).trans ?_
    refine (zLet_eq (show _ = γ 1 from rfl)).trans ?_
    refine (zLet_eq (show _ = ρ 35 from rfl)).trans ?_
    refine (zLet_eq (show _ = ρ 36 from rfl)).trans ?_
    refine (zLet_eq (show _ = ρ 37 from rfl)).trans ?_
    refine (zLet_eq (show _ = ρ 38 from rfl)).trans ?_
    refine (zLet_eq m4).trans ?_
    refine (zLet_eq m10).trans ?_
    refine (zLet_eq m11).trans ?_
    refine (zLet_eq m39).trans ?_
    refine (if_neg (show ¬ (ρ 36 < 0) by omega)).trans ?_
    refine (if_neg (show ¬ (ρ 36 ≥ ρ 10) by omega)).trans ?_
    refine (if_neg (show ¬ (ρ 35 ≥ 2000) by omega)).trans ?_
    refine (if_neg (show ¬ (ρ 36 < ρ 37) by omega)).trans ?_
    refine (zLet_eq (show fn225 [9 * ρ 4 + 6, ρ 36] (γ 1) = (0, 1, γ 2) from l0.symm)).trans ?_
    refine (zLet_eq (show _ = γ 2 from rfl)).trans ?_
    refine (if_pos (show (1 : Int) ≤ 1 by omega)).trans ?_
    refine (zLet_eq (show fn232 [9 * ρ 4 + 6, ρ 36] (γ 2) = (0, 0, γ 3) from l1.symm)).trans ?_
    refine (zLet_eq (show _ = γ 3 from rfl)).trans ?_
    refine (if_pos (show (0 : Nat) = 0 by decide)).trans ?_
    refine (if_neg (show ¬ (ρ 36 < ρ 11) by omega)).trans ?_
    refine (zLet_eq (zF2_ok l2)).trans ?_
    refine (zLet_eq c4.symm).trans ?_
    refine (zLet_eq (show fn249 [] (γ 4) = (0, 0, γ 5) from l3.symm)).trans ?_
    refine (zLet_eq (show _ = γ 5 from rfl)).trans ?_
    refine (if_pos (show (0 : Nat) = 0 by decide)).trans ?_
    refine (zLet_eq m45).trans ?_
    refine (zLet_eq (zF2_ok l4)).trans ?_
    refine (zLet_eq c6.symm).trans ?_
    refine (zLet_eq (show fn227 [9 * ρ 4 + 6, ρ 36] (γ 6) = (0, ρ 51, γ 7) from l5.symm)).trans ?_
    refine (zLet_eq (show _ = γ 7 from rfl)).trans ?_
    refine (zLet_eq (show _ = ρ 51 from rfl)).trans ?_
    rfl
  exact zGoo_ato hJ hD
theorem vn250a0_9 {S : Nat → zSpc} (hS225 : ∀ x g o v gz, S 225 x g o v gz → sn225 x g o v gz) (hS226 : ∀ x g o v gz, S 226 x g o v gz → sn226 x g o v gz) (hS227 : ∀ x g o v gz, S 227 x g o v gz → sn227 x g o v gz) (hS232 : ∀ x g o v gz, S 232 x g o v gz → sn232 x g o v gz) (hS249 : ∀ x g o v gz, S 249 x g o v gz → sn249 x g o v gz) {a : List Int} {g : rHp} : ∀ (ρ : Nat → Int) (γ : Nat → rHp), jn250 a g 0 (zAg (zNA a250_ 0) ρ) (γ 1) → zO 35 S a g q250a0_9 ρ γ → zGl (fun i vs g1 => jn250 a g i vs g1) (sn250 a g) q250a0_9 ρ γ := by
  intro ρ γ hJ h
  obtain ⟨ha, hg, hr, hf, hm, hc, hl⟩ := h
  have ha : a = [ρ 0, ρ 1, ρ 2, ρ 3, ρ 4, ρ 5, ρ 6, ρ 7, ρ 8, ρ 9, ρ 10, ρ 11, ρ 12, ρ 13, ρ 14, ρ 15, ρ 16, ρ 17, ρ 18, ρ 19, ρ 20, ρ 21, ρ 22, ρ 23, ρ 24, ρ 25, ρ 26, ρ 27, ρ 28, ρ 29, ρ 30, ρ 31, ρ 32, ρ 33, ρ 34] := ha
  subst ha
  subst hg
  have hJ : jn250 [ρ 0, ρ 1, ρ 2, ρ 3, ρ 4, ρ 5, ρ 6, ρ 7, ρ 8, ρ 9, ρ 10, ρ 11, ρ 12, ρ 13, ρ 14, ρ 15, ρ 16, ρ 17, ρ 18, ρ 19, ρ 20, ρ 21, ρ 22, ρ 23, ρ 24, ρ 25, ρ 26, ρ 27, ρ 28, ρ 29, ρ 30, ρ 31, ρ 32, ρ 33, ρ 34] (γ 0) 0 [ρ 0, ρ 1, ρ 2, ρ 3, ρ 4, ρ 5, ρ 6, ρ 7, ρ 8, ρ 9, ρ 10, ρ 11, ρ 12, ρ 13, ρ 14, ρ 15, ρ 16, ρ 17, ρ 18, ρ 19, ρ 20, ρ 21, ρ 22, ρ 23, ρ 24, ρ 25, ρ 26, ρ 27, ρ 28, ρ 29, ρ 30, ρ 31, ρ 32, ρ 33, ρ 34, ρ 35, ρ 36, ρ 37, ρ 38, ρ 39, ρ 40, ρ 41, ρ 42, ρ 43] (γ 1) := hJ
  obtain ⟨r0, r1, r2, r3, r4, r5, r6, r7, r8, r9, r10, r11, r12, r13, r14, r15, r16, r17, r18, r19, r20, r21, r22, r23, r24, r25, r26, r27, r28, r29, r30, r31, r32, r33, r34, r35, r36, r37, r38, r39, r40, r41, r42, r43, r44, r45, r46, r47, r48, r49, -⟩ := hr
  have r0 : (0 : Int) ≤ ρ 0 ∧ ρ 0 ≤ 50000 := r0
  have r1 : (0 : Int) ≤ ρ 1 ∧ ρ 1 ≤ 1 := r1
  have r2 : (0 : Int) ≤ ρ 2 ∧ ρ 2 ≤ 2 := r2
  have r3 : (0 : Int) ≤ ρ 3 ∧ ρ 3 ≤ 50001 := r3
  have r4 : (0 : Int) ≤ ρ 4 ∧ ρ 4 ≤ 62 := r4
  have r5 : (0 : Int) ≤ ρ 5 ∧ ρ 5 ≤ 60 := r5
  have r6 : (0 : Int) ≤ ρ 6 ∧ ρ 6 ≤ 2000 := r6
  have r7 : (0 : Int) ≤ ρ 7 ∧ ρ 7 ≤ 2000 := r7
  have r8 : ((-2147483648) : Int) ≤ ρ 8 ∧ ρ 8 ≤ 2147483647 := r8
  have r9 : ((-2147483648) : Int) ≤ ρ 9 ∧ ρ 9 ≤ 2147483647 := r9
  have r10 : (0 : Int) ≤ ρ 10 ∧ ρ 10 ≤ 2000 := r10
  have r11 : (0 : Int) ≤ ρ 11 ∧ ρ 11 ≤ 2000 := r11
  have r12 : ((-2147483648) : Int) ≤ ρ 12 ∧ ρ 12 ≤ 2147483647 := r12
  have r13 : (0 : Int) ≤ ρ 13 ∧ ρ 13 ≤ 8 := r13
  have r14 : (0 : Int) ≤ ρ 14 ∧ ρ 14 ≤ 8 := r14
  have r15 : (0 : Int) ≤ ρ 15 ∧ ρ 15 ≤ 4 := r15
  have r16 : ((-1) : Int) ≤ ρ 16 ∧ ρ 16 ≤ 19 := r16
  have r17 : (0 : Int) ≤ ρ 17 ∧ ρ 17 ≤ 4 := r17
  have r18 : ((-1) : Int) ≤ ρ 18 ∧ ρ 18 ≤ 7 := r18
  have r19 : (0 : Int) ≤ ρ 19 ∧ ρ 19 ≤ 4 := r19
  have r20 : ((-1) : Int) ≤ ρ 20 ∧ ρ 20 ≤ 19 := r20
  have r21 : ((-1) : Int) ≤ ρ 21 ∧ ρ 21 ≤ 3 := r21
  have r22 : (0 : Int) ≤ ρ 22 ∧ ρ 22 ≤ 7 := r22
  have r23 : (0 : Int) ≤ ρ 23 ∧ ρ 23 ≤ 8 := r23
  have r24 : (0 : Int) ≤ ρ 24 ∧ ρ 24 ≤ 4 := r24
  have r25 : ((-1) : Int) ≤ ρ 25 ∧ ρ 25 ≤ 19 := r25
  have r26 : ((-1) : Int) ≤ ρ 26 ∧ ρ 26 ≤ 3 := r26
  have r27 : (0 : Int) ≤ ρ 27 ∧ ρ 27 ≤ 7 := r27
  have r28 : ((-1) : Int) ≤ ρ 28 ∧ ρ 28 ≤ 7 := r28
  have r29 : (0 : Int) ≤ ρ 29 ∧ ρ 29 ≤ 8 := r29
  have r30 : (0 : Int) ≤ ρ 30 ∧ ρ 30 ≤ 4 := r30
  have r31 : ((-1) : Int) ≤ ρ 31 ∧ ρ 31 ≤ 19 := r31
  have r32 : ((-1) : Int) ≤ ρ 32 ∧ ρ 32 ≤ 3 := r32
  have r33 : (0 : Int) ≤ ρ 33 ∧ ρ 33 ≤ 7 := r33
  have r34 : ((-1) : Int) ≤ ρ 34 ∧ ρ 34 ≤ 7 := r34
  have r35 : (0 : Int) ≤ ρ 35 ∧ ρ 35 ≤ 1999 := r35
  have r36 : (0 : Int) ≤ ρ 36 ∧ ρ 36 ≤ 2000 := r36
  have r37 : (0 : Int) ≤ ρ 37 ∧ ρ 37 ≤ 2000 := r37
  have r38 : (0 : Int) ≤ ρ 38 ∧ ρ 38 ≤ 1 := r38
  have r39 : (0 : Int) ≤ ρ 39 ∧ ρ 39 ≤ 49999 := r39
  have r40 : (0 : Int) ≤ ρ 40 ∧ ρ 40 ≤ 50001 := r40
  have r41 : (0 : Int) ≤ ρ 41 ∧ ρ 41 ≤ 2000 := r41
  have r42 : (0 : Int) ≤ ρ 42 ∧ ρ 42 ≤ 2000 := r42
  have r43 : ((-2147483648) : Int) ≤ ρ 43 ∧ ρ 43 ≤ 2147483647 := r43
  have r44 : ((-2147483648) : Int) ≤ ρ 44 ∧ ρ 44 ≤ 2147483647 := r44
  have r45 : (0 : Int) ≤ ρ 45 ∧ ρ 45 ≤ 50000 := r45
  have r46 : (0 : Int) ≤ ρ 46 ∧ ρ 46 ≤ 50001 := r46
  have r47 : (0 : Int) ≤ ρ 47 ∧ ρ 47 ≤ 2000 := r47
  have r48 : (0 : Int) ≤ ρ 48 ∧ ρ 48 ≤ 2000 := r48
  have r49 : ((-2147483648) : Int) ≤ ρ 49 ∧ ρ 49 ≤ 2147483647 := r49
  obtain ⟨f0, f1, f2, f3, f4, f5, f6, f7, f8, f9, f10, f11, f12, f13, f14, f15, f16, -⟩ := hf
  have f0 : (0 : Int) ≤ ρ 45 + -ρ 39 + (-1) := f0
  have f1 : (0 : Int) ≤ ρ 46 + -ρ 40 := f1
  have f2 : (0 : Int) ≤ ρ 47 + -ρ 41 := f2
  have f3 : (0 : Int) ≤ ρ 48 + -ρ 42 := f3
  have f4 : (0 : Int) ≤ -ρ 46 + (ρ 45 + (ρ 40 + -ρ 39)) := f4
  have f5 : (0 : Int) ≤ ρ 36 + -ρ 11 := f5
  have f6 : (0 : Int) ≤ -ρ 37 + ρ 36 := f6
  have f7 : (0 : Int) ≤ -ρ 36 + ρ 10 + (-1) := f7
  have f8 : (0 : Int) ≤ -ρ 40 + (ρ 39 + (ρ 3 + -ρ 0)) := f8
  have f9 : (0 : Int) ≤ -ρ 40 + (ρ 39 + (-50001) * ρ 1) + 100002 := f9
  have f10 : (0 : Int) ≤ -ρ 38 + ρ 14 := f10
  have f11 : (0 : Int) ≤ -ρ 37 + ρ 11 := f11
  have f12 : (0 : Int) ≤ ρ 42 + -ρ 7 := f12
  have f13 : (0 : Int) ≤ ρ 41 + -ρ 6 := f13
  have f14 : (0 : Int) ≤ ρ 40 + -ρ 3 := f14
  have f15 : (0 : Int) ≤ ρ 39 + -ρ 0 := f15
  have f16 : (0 : Int) ≤ -ρ 3 + ((-50001) * ρ 1 + ρ 0) + 100002 := f16
  obtain ⟨m0, m1, m2, m3, m4, m5, m6, m7, m8, m9, m10, m11, m12, m13, m14, m15, m16, m17, m18, m19, m20, m21, m22, m23, m24, m25, m26, m27, m28, m29, m30, m31, m32, m33, m34, m35, m36, m37, m38, m39, m40, m41, m42, m43, m44, m45, -⟩ := hm
  have m0 : γ 0 6 0 0 = ρ 0 := m0
  have m1 : γ 0 6 0 9 = ρ 1 := m1
  have m2 : γ 0 6 0 6 = ρ 2 := m2
  have m3 : γ 0 8 (ρ 2) 1 = ρ 3 := m3
  have m4 : γ 0 6 0 7 = ρ 4 := m4
  have m5 : γ 0 1 0 10 = ρ 5 := m5
  have m6 : γ 0 4 0 7 = ρ 6 := m6
  have m7 : γ 0 5 0 3 = ρ 7 := m7
  have m8 : γ 0 6 0 8 = ρ 8 := m8
  have m9 : γ 0 6 0 10 = ρ 9 := m9
  have m10 : γ 0 6 0 11 = ρ 10 := m10
  have m11 : γ 0 6 0 12 = ρ 11 := m11
  have m12 : γ 0 6 0 13 = ρ 12 := m12
  have m13 : γ 0 9 (ρ 4) 2 = ρ 13 := m13
  have m14 : γ 0 9 (ρ 4) 3 = ρ 14 := m14
  have m15 : γ 0 10 (9 * ρ 4) 5 = ρ 15 := m15
  have m16 : γ 0 10 (9 * ρ 4) 8 = ρ 16 := m16
  have m17 : γ 0 10 (9 * ρ 4) 12 = ρ 17 := m17
  have m18 : γ 0 10 (9 * ρ 4) 14 = ρ 18 := m18
  have m19 : γ 0 10 (9 * ρ 4 + 6) 5 = ρ 19 := m19
  have m20 : γ 0 10 (9 * ρ 4 + 6) 8 = ρ 20 := m20
  have m21 : γ 0 10 (9 * ρ 4 + 6) 9 = ρ 21 := m21
  have m22 : γ 0 10 (9 * ρ 4 + 6) 10 = ρ 22 := m22
  have m23 : γ 0 10 (9 * ρ 4 + 7) 4 = ρ 23 := m23
  have m24 : γ 0 10 (9 * ρ 4 + 7) 5 = ρ 24 := m24
  have m25 : γ 0 10 (9 * ρ 4 + 7) 8 = ρ 25 := m25
  have m26 : γ 0 10 (9 * ρ 4 + 7) 9 = ρ 26 := m26
  have m27 : γ 0 10 (9 * ρ 4 + 7) 10 = ρ 27 := m27
  have m28 : γ 0 10 (9 * ρ 4 + 7) 11 = ρ 28 := m28
  have m29 : γ 0 10 (9 * ρ 4 + 8) 4 = ρ 29 := m29
  have m30 : γ 0 10 (9 * ρ 4 + 8) 5 = ρ 30 := m30
  have m31 : γ 0 10 (9 * ρ 4 + 8) 8 = ρ 31 := m31
  have m32 : γ 0 10 (9 * ρ 4 + 8) 9 = ρ 32 := m32
  have m33 : γ 0 10 (9 * ρ 4 + 8) 10 = ρ 33 := m33
  have m34 : γ 0 10 (9 * ρ 4 + 8) 11 = ρ 34 := m34
  have m35 : γ 1 6 0 0 = ρ 39 := m35
  have m36 : γ 1 8 (ρ 2) 1 = ρ 40 := m36
  have m37 : γ 1 4 0 7 = ρ 41 := m37
  have m38 : γ 1 5 0 3 = ρ 42 := m38
  have m39 : γ 1 6 0 13 = ρ 43 := m39
  have m40 : γ 3 6 0 0 = ρ 39 + 1 := m40
  have m41 : γ 5 6 0 0 = ρ 45 := m41
  have m42 : γ 5 8 (ρ 2) 1 = ρ 46 := m42
  have m43 : γ 5 4 0 7 = ρ 47 := m43
  have m44 : γ 5 5 0 3 = ρ 48 := m44
  have m45 : γ 5 6 0 13 = ρ 49 := m45
  obtain ⟨⟨⟨⟨⟨-, c1⟩, c2⟩, c3⟩, c4⟩, c5⟩ := hc
  have c1 : ∀ (G : Nat) (k j : Int), ¬ rMdP m140_ G j → γ 1 G k j = γ 0 G k j := c1
  have c2 : ∀ (G : Nat) (k j : Int), ¬ rMdP m132_ G j → γ 2 G k j = γ 1 G k j := c2
  have c3 : ∀ (G : Nat) (k j : Int), ¬ rMdP m133_ G j → γ 3 G k j = γ 2 G k j := c3
  have c4 : γ 4 = rUp (γ 3) 6 0 13 (ρ 44) := c4
  have c5 : ∀ (G : Nat) (k j : Int), ¬ rMdP m140_ G j → γ 5 G k j = γ 4 G k j := c5
  obtain ⟨l0, l1, l2, l3, -⟩ := hl
  have l0 : sn225 [9 * ρ 4 + 6, ρ 36, ρ 19, ρ 20] (γ 1) 0 1 (γ 2) := hS225 _ _ _ _ _ l0
  have l1 : sn232 [9 * ρ 4 + 6, ρ 36, ρ 39, ρ 22] (γ 2) 0 0 (γ 3) := hS232 _ _ _ _ _ l1
  have l2 : zOpP (.iadd) (γ 0) (γ 1) [ρ 43, 1] (ρ 44) := l2
  have l3 : sn249 [ρ 39 + 1, ρ 1, ρ 2, ρ 40, ρ 4, ρ 5, ρ 41, ρ 42, ρ 8, ρ 9, ρ 10, ρ 11, ρ 44, ρ 13, ρ 14, ρ 15, ρ 16, ρ 17, ρ 18, ρ 23, ρ 24, ρ 25, ρ 26, ρ 27, ρ 28, ρ 29, ρ 30, ρ 31, ρ 32, ρ 33, ρ 34] (γ 4) 1 0 (γ 5) := hS249 _ _ _ _ _ l3
  show sn250 [ρ 0, ρ 1, ρ 2, ρ 3, ρ 4, ρ 5, ρ 6, ρ 7, ρ 8, ρ 9, ρ 10, ρ 11, ρ 12, ρ 13, ρ 14, ρ 15, ρ 16, ρ 17, ρ 18, ρ 19, ρ 20, ρ 21, ρ 22, ρ 23, ρ 24, ρ 25, ρ 26, ρ 27, ρ 28, ρ 29, ρ 30, ρ 31, ρ 32, ρ 33, ρ 34] (γ 0) 1 0 (γ 5)
  have hD : en250 (γ 0) (0, [ρ 35, ρ 36, ρ 37, ρ 38], γ 1) = .inr (1, 0, γ 5) := by
    unfold en250
    refine (if_pos (show (0 : Nat) = 0 by decide)).trans ?_
    refine (zLet_eq (show _ = γ 1 from rfl)).trans ?_
    refine (zLet_eq (show _ = ρ 35 from rfl)).trans ?_
    refine (zLet_eq (show _ = ρ 36 from rfl)).trans ?_
    refine (zLet_eq (show _ = ρ 37 from rfl)).trans ?_
    refine (zLet_eq (show _ = ρ 38 from rfl)).trans ?_
    refine (zLet_eq m4).trans ?_
    refine (zLet_eq m10).trans ?_
    refine (zLet_eq m11).trans ?_
    refine (zLet_eq m39).trans ?_
    refine (if_neg (show ¬ (ρ 36 < 0) by omega)).trans ?_
    refine (if_neg (show ¬ (ρ 36 ≥ ρ 10) by omega)).trans ?_
    refine (if_neg (show ¬ (ρ 35 ≥ 2000) by omega)).trans ?_
    refine (if_neg (show ¬ (ρ 36 < ρ 37) by omega)).trans ?_
    refine (zLet_eq (show fn225 [9 * ρ 4 + 6, ρ 36] (γ 1) = (0, 1, γ 2) from l0.symm)).trans ?_
    refine (zLet_eq (show _ = γ 2 from rfl)).trans ?_
    refine (if_pos (show (1 : Int) ≤ 1 by omega)).trans ?_
    refine (zLet_eq (show fn232 [9 * ρ 4 + 6, ρ 36] (γ 2) = (0, 0, γ 3) from l1.symm)).trans ?_
    refine (zLet_eq (show _ = γ 3 from rfl)).trans ?_
    refine (if_pos (show (0 : Nat) = 0 by decide)).trans ?_
    refine (if_neg (show ¬ (ρ 36 < ρ 11) by omega)).trans ?_
    refine (zLet_eq (zF2_ok l2)).trans ?_
    refine (zLet_eq c4.symm).trans ?_
    refine (zLet_eq (show fn249 [] (γ 4) = (1, 0, γ 5) from l3.symm)).trans ?_
    refine (zLet_eq (show _ = γ 5 from rfl)).trans ?_
    refine (if_neg (show ¬ (1 : Nat) = 0 by decide)).trans ?_
    refine (if_pos (show (1 : Nat) = 1 by decide)).trans ?_
    rfl
  exact zGoo_aend hJ hD
theorem vn250a0_10 {S : Nat → zSpc} (hS225 : ∀ x g o v gz, S 225 x g o v gz → sn225 x g o v gz) (hS226 : ∀ x g o v gz, S 226 x g o v gz → sn226 x g o v gz) (hS227 : ∀ x g o v gz, S 227 x g o v gz → sn227 x g o v gz) (hS232 : ∀ x g o v gz, S 232 x g o v gz → sn232 x g o v gz) (hS249 : ∀ x g o v gz, S 249 x g o v gz → sn249 x g o v gz) {a : List Int} {g : rHp} : ∀ (ρ : Nat → Int) (γ : Nat → rHp), jn250 a g 0 (zAg (zNA a250_ 0) ρ) (γ 1) → zO 35 S a g q250a0_10 ρ γ → zGl (fun i vs g1 => jn250 a g i vs g1) (sn250 a g) q250a0_10 ρ γ := by
  intro ρ γ hJ h
  obtain ⟨ha, hg, hr, hf, hm, hc, hl⟩ := h
  have ha : a = [ρ 0, ρ 1, ρ 2, ρ 3, ρ 4, ρ 5, ρ 6, ρ 7, ρ 8, ρ 9, ρ 10, ρ 11, ρ 12, ρ 13, ρ 14, ρ 15, ρ 16, ρ 17, ρ 18, ρ 19, ρ 20, ρ 21, ρ 22, ρ 23, ρ 24, ρ 25, ρ 26, ρ 27, ρ 28, ρ 29, ρ 30, ρ 31, ρ 32, ρ 33, ρ 34] := ha
  subst ha
  subst hg
  have hJ : jn250 [ρ 0, ρ 1, ρ 2, ρ 3, ρ 4, ρ 5, ρ 6, ρ 7, ρ 8, ρ 9, ρ 10, ρ 11, ρ 12, ρ 13, ρ 14, ρ 15, ρ 16, ρ 17, ρ 18, ρ 19, ρ 20, ρ 21, ρ 22, ρ 23, ρ 24, ρ 25, ρ 26, ρ 27, ρ 28, ρ 29, ρ 30, ρ 31, ρ 32, ρ 33, ρ 34] (γ 0) 0 [ρ 0, ρ 1, ρ 2, ρ 3, ρ 4, ρ 5, ρ 6, ρ 7, ρ 8, ρ 9, ρ 10, ρ 11, ρ 12, ρ 13, ρ 14, ρ 15, ρ 16, ρ 17, ρ 18, ρ 19, ρ 20, ρ 21, ρ 22, ρ 23, ρ 24, ρ 25, ρ 26, ρ 27, ρ 28, ρ 29, ρ 30, ρ 31, ρ 32, ρ 33, ρ 34, ρ 35, ρ 36, ρ 37, ρ 38, ρ 39, ρ 40, ρ 41, ρ 42, ρ 43] (γ 1) := hJ
  obtain ⟨r0, r1, r2, r3, r4, r5, r6, r7, r8, r9, r10, r11, r12, r13, r14, r15, r16, r17, r18, r19, r20, r21, r22, r23, r24, r25, r26, r27, r28, r29, r30, r31, r32, r33, r34, r35, r36, r37, r38, r39, r40, r41, r42, r43, r44, r45, r46, r47, r48, r49, -⟩ := hr
  have r0 : (0 : Int) ≤ ρ 0 ∧ ρ 0 ≤ 50000 := r0
  have r1 : (0 : Int) ≤ ρ 1 ∧ ρ 1 ≤ 2 := r1
  have r2 : (0 : Int) ≤ ρ 2 ∧ ρ 2 ≤ 2 := r2
  have r3 : (0 : Int) ≤ ρ 3 ∧ ρ 3 ≤ 50001 := r3
  have r4 : (0 : Int) ≤ ρ 4 ∧ ρ 4 ≤ 62 := r4
  have r5 : (0 : Int) ≤ ρ 5 ∧ ρ 5 ≤ 60 := r5
  have r6 : (0 : Int) ≤ ρ 6 ∧ ρ 6 ≤ 2000 := r6
  have r7 : (0 : Int) ≤ ρ 7 ∧ ρ 7 ≤ 2000 := r7
  have r8 : ((-2147483648) : Int) ≤ ρ 8 ∧ ρ 8 ≤ 2147483647 := r8
  have r9 : ((-2147483648) : Int) ≤ ρ 9 ∧ ρ 9 ≤ 2147483647 := r9
  have r10 : (0 : Int) ≤ ρ 10 ∧ ρ 10 ≤ 2000 := r10
  have r11 : (0 : Int) ≤ ρ 11 ∧ ρ 11 ≤ 2000 := r11
  have r12 : ((-2147483648) : Int) ≤ ρ 12 ∧ ρ 12 ≤ 2147483647 := r12
  have r13 : (7 : Int) ≤ ρ 13 ∧ ρ 13 ≤ 8 := r13
  have r14 : (0 : Int) ≤ ρ 14 ∧ ρ 14 ≤ 8 := r14
  have r15 : (0 : Int) ≤ ρ 15 ∧ ρ 15 ≤ 4 := r15
  have r16 : ((-1) : Int) ≤ ρ 16 ∧ ρ 16 ≤ 19 := r16
  have r17 : (0 : Int) ≤ ρ 17 ∧ ρ 17 ≤ 4 := r17
  have r18 : ((-1) : Int) ≤ ρ 18 ∧ ρ 18 ≤ 7 := r18
  have r19 : (0 : Int) ≤ ρ 19 ∧ ρ 19 ≤ 4 := r19
  have r20 : ((-1) : Int) ≤ ρ 20 ∧ ρ 20 ≤ 19 := r20
  have r21 : ((-1) : Int) ≤ ρ 21 ∧ ρ 21 ≤ 3 := r21
  have r22 : (0 : Int) ≤ ρ 22 ∧ ρ 22 ≤ 7 := r22
  have r23 : (1 : Int) ≤ ρ 23 ∧ ρ 23 ≤ 8 := r23
  have r24 : (0 : Int) ≤ ρ 24 ∧ ρ 24 ≤ 4 := r24
  have r25 : ((-1) : Int) ≤ ρ 25 ∧ ρ 25 ≤ 19 := r25
  have r26 : ((-1) : Int) ≤ ρ 26 ∧ ρ 26 ≤ 3 := r26
  have r27 : (0 : Int) ≤ ρ 27 ∧ ρ 27 ≤ 7 := r27
  have r28 : ((-1) : Int) ≤ ρ 28 ∧ ρ 28 ≤ 7 := r28
  have r29 : (0 : Int) ≤ ρ 29 ∧ ρ 29 ≤ 8 := r29
  have r30 : (0 : Int) ≤ ρ 30 ∧ ρ 30 ≤ 4 := r30
  have r31 : ((-1) : Int) ≤ ρ 31 ∧ ρ 31 ≤ 19 := r31
  have r32 : ((-1) : Int) ≤ ρ 32 ∧ ρ 32 ≤ 3 := r32
  have r33 : (0 : Int) ≤ ρ 33 ∧ ρ 33 ≤ 7 := r33
  have r34 : ((-1) : Int) ≤ ρ 34 ∧ ρ 34 ≤ 7 := r34
  have r35 : (0 : Int) ≤ ρ 35 ∧ ρ 35 ≤ 1999 := r35
  have r36 : (0 : Int) ≤ ρ 36 ∧ ρ 36 ≤ 2000 := r36
  have r37 : (0 : Int) ≤ ρ 37 ∧ ρ 37 ≤ 2000 := r37
  have r38 : (0 : Int) ≤ ρ 38 ∧ ρ 38 ≤ 1 := r38
  have r39 : (0 : Int) ≤ ρ 39 ∧ ρ 39 ≤ 49999 := r39
  have r40 : (0 : Int) ≤ ρ 40 ∧ ρ 40 ≤ 50001 := r40
  have r41 : (0 : Int) ≤ ρ 41 ∧ ρ 41 ≤ 2000 := r41
  have r42 : (0 : Int) ≤ ρ 42 ∧ ρ 42 ≤ 2000 := r42
  have r43 : ((-2147483648) : Int) ≤ ρ 43 ∧ ρ 43 ≤ 2147483647 := r43
  have r44 : ((-2147483648) : Int) ≤ ρ 44 ∧ ρ 44 ≤ 2147483647 := r44
  have r45 : (50001 : Int) ≤ ρ 45 ∧ ρ 45 ≤ 50001 := r45
  have r46 : (0 : Int) ≤ ρ 46 ∧ ρ 46 ≤ 50001 := r46
  have r47 : (0 : Int) ≤ ρ 47 ∧ ρ 47 ≤ 2000 := r47
  have r48 : (0 : Int) ≤ ρ 48 ∧ ρ 48 ≤ 2000 := r48
  have r49 : ((-2147483648) : Int) ≤ ρ 49 ∧ ρ 49 ≤ 2147483647 := r49
  obtain ⟨f0, f1, f2, f3, f4, f5, f6, f7, f8, f9, f10, f11, f12, f13, f14, f15, f16, f17, -⟩ := hf
  have f0 : (0 : Int) ≤ -ρ 40 + (ρ 39 + (-50001) * ρ 1) + 100003 := f0
  have f1 : (0 : Int) ≤ ρ 46 + -ρ 40 := f1
  have f2 : (0 : Int) ≤ ρ 47 + -ρ 41 := f2
  have f3 : (0 : Int) ≤ ρ 48 + -ρ 42 := f3
  have f4 : (0 : Int) ≤ -ρ 23 + ρ 13 := f4
  have f5 : (0 : Int) ≤ -ρ 46 + (ρ 45 + (ρ 40 + -ρ 39)) := f5
  have f6 : (0 : Int) ≤ ρ 36 + -ρ 11 := f6
  have f7 : (0 : Int) ≤ -ρ 37 + ρ 36 := f7
  have f8 : (0 : Int) ≤ -ρ 36 + ρ 10 + (-1) := f8
  have f9 : (0 : Int) ≤ -ρ 40 + (ρ 39 + (ρ 3 + -ρ 0)) := f9
  have f10 : (0 : Int) ≤ -ρ 40 + (ρ 39 + (-50001) * ρ 1) + 100002 := f10
  have f11 : (0 : Int) ≤ -ρ 38 + ρ 14 := f11
  have f12 : (0 : Int) ≤ -ρ 37 + ρ 11 := f12
  have f13 : (0 : Int) ≤ ρ 42 + -ρ 7 := f13
  have f14 : (0 : Int) ≤ ρ 41 + -ρ 6 := f14
  have f15 : (0 : Int) ≤ ρ 40 + -ρ 3 := f15
  have f16 : (0 : Int) ≤ ρ 39 + -ρ 0 := f16
  have f17 : (0 : Int) ≤ -ρ 3 + ((-50001) * ρ 1 + ρ 0) + 100002 := f17
  obtain ⟨m0, m1, m2, m3, m4, m5, m6, m7, m8, m9, m10, m11, m12, m13, m14, m15, m16, m17, m18, m19, m20, m21, m22, m23, m24, m25, m26, m27, m28, m29, m30, m31, m32, m33, m34, m35, m36, m37, m38, m39, m40, m41, m42, m43, m44, m45, -⟩ := hm
  have m0 : γ 0 6 0 0 = ρ 0 := m0
  have m1 : γ 0 6 0 9 = ρ 1 := m1
  have m2 : γ 0 6 0 6 = ρ 2 := m2
  have m3 : γ 0 8 (ρ 2) 1 = ρ 3 := m3
  have m4 : γ 0 6 0 7 = ρ 4 := m4
  have m5 : γ 0 1 0 10 = ρ 5 := m5
  have m6 : γ 0 4 0 7 = ρ 6 := m6
  have m7 : γ 0 5 0 3 = ρ 7 := m7
  have m8 : γ 0 6 0 8 = ρ 8 := m8
  have m9 : γ 0 6 0 10 = ρ 9 := m9
  have m10 : γ 0 6 0 11 = ρ 10 := m10
  have m11 : γ 0 6 0 12 = ρ 11 := m11
  have m12 : γ 0 6 0 13 = ρ 12 := m12
  have m13 : γ 0 9 (ρ 4) 2 = ρ 13 := m13
  have m14 : γ 0 9 (ρ 4) 3 = ρ 14 := m14
  have m15 : γ 0 10 (9 * ρ 4) 5 = ρ 15 := m15
  have m16 : γ 0 10 (9 * ρ 4) 8 = ρ 16 := m16
  have m17 : γ 0 10 (9 * ρ 4) 12 = ρ 17 := m17
  have m18 : γ 0 10 (9 * ρ 4) 14 = ρ 18 := m18
  have m19 : γ 0 10 (9 * ρ 4 + 6) 5 = ρ 19 := m19
  have m20 : γ 0 10 (9 * ρ 4 + 6) 8 = ρ 20 := m20
  have m21 : γ 0 10 (9 * ρ 4 + 6) 9 = ρ 21 := m21
  have m22 : γ 0 10 (9 * ρ 4 + 6) 10 = ρ 22 := m22
  have m23 : γ 0 10 (9 * ρ 4 + 7) 4 = ρ 23 := m23
  have m24 : γ 0 10 (9 * ρ 4 + 7) 5 = ρ 24 := m24
  have m25 : γ 0 10 (9 * ρ 4 + 7) 8 = ρ 25 := m25
  have m26 : γ 0 10 (9 * ρ 4 + 7) 9 = ρ 26 := m26
  have m27 : γ 0 10 (9 * ρ 4 + 7) 10 = ρ 27 := m27
  have m28 : γ 0 10 (9 * ρ 4 + 7) 11 = ρ 28 := m28
  have m29 : γ 0 10 (9 * ρ 4 + 8) 4 = ρ 29 := m29
  have m30 : γ 0 10 (9 * ρ 4 + 8) 5 = ρ 30 := m30
  have m31 : γ 0 10 (9 * ρ 4 + 8) 8 = ρ 31 := m31
  have m32 : γ 0 10 (9 * ρ 4 + 8) 9 = ρ 32 := m32
  have m33 : γ 0 10 (9 * ρ 4 + 8) 10 = ρ 33 := m33
  have m34 : γ 0 10 (9 * ρ 4 + 8) 11 = ρ 34 := m34
  have m35 : γ 1 6 0 0 = ρ 39 := m35
  have m36 : γ 1 8 (ρ 2) 1 = ρ 40 := m36
  have m37 : γ 1 4 0 7 = ρ 41 := m37
  have m38 : γ 1 5 0 3 = ρ 42 := m38
  have m39 : γ 1 6 0 13 = ρ 43 := m39
  have m40 : γ 3 6 0 0 = ρ 39 + 1 := m40
  have m41 : γ 5 6 0 0 = ρ 45 := m41
  have m42 : γ 5 8 (ρ 2) 1 = ρ 46 := m42
  have m43 : γ 5 4 0 7 = ρ 47 := m43
  have m44 : γ 5 5 0 3 = ρ 48 := m44
  have m45 : γ 5 6 0 13 = ρ 49 := m45
  obtain ⟨⟨⟨⟨⟨-, c1⟩, c2⟩, c3⟩, c4⟩, c5⟩ := hc
  have c1 : ∀ (G : Nat) (k j : Int), ¬ rMdP m140_ G j → γ 1 G k j = γ 0 G k j := c1
  have c2 : ∀ (G : Nat) (k j : Int), ¬ rMdP m132_ G j → γ 2 G k j = γ 1 G k j := c2
  have c3 : ∀ (G : Nat) (k j : Int), ¬ rMdP m133_ G j → γ 3 G k j = γ 2 G k j := c3
  have c4 : γ 4 = rUp (γ 3) 6 0 13 (ρ 44) := c4
  have c5 : ∀ (G : Nat) (k j : Int), ¬ rMdP m140_ G j → γ 5 G k j = γ 4 G k j := c5
  obtain ⟨l0, l1, l2, l3, -⟩ := hl
  have l0 : sn225 [9 * ρ 4 + 6, ρ 36, ρ 19, ρ 20] (γ 1) 0 1 (γ 2) := hS225 _ _ _ _ _ l0
  have l1 : sn232 [9 * ρ 4 + 6, ρ 36, ρ 39, ρ 22] (γ 2) 0 0 (γ 3) := hS232 _ _ _ _ _ l1
  have l2 : zOpP (.iadd) (γ 0) (γ 1) [ρ 43, 1] (ρ 44) := l2
  have l3 : sn249 [ρ 39 + 1, ρ 1, ρ 2, ρ 40, ρ 4, ρ 5, ρ 41, ρ 42, ρ 8, ρ 9, ρ 10, ρ 11, ρ 44, ρ 13, ρ 14, ρ 15, ρ 16, ρ 17, ρ 18, ρ 23, ρ 24, ρ 25, ρ 26, ρ 27, ρ 28, ρ 29, ρ 30, ρ 31, ρ 32, ρ 33, ρ 34] (γ 4) 4 0 (γ 5) := hS249 _ _ _ _ _ l3
  show sn250 [ρ 0, ρ 1, ρ 2, ρ 3, ρ 4, ρ 5, ρ 6, ρ 7, ρ 8, ρ 9, ρ 10, ρ 11, ρ 12, ρ 13, ρ 14, ρ 15, ρ 16, ρ 17, ρ 18, ρ 19, ρ 20, ρ 21, ρ 22, ρ 23, ρ 24, ρ 25, ρ 26, ρ 27, ρ 28, ρ 29, ρ 30, ρ 31, ρ 32, ρ 33, ρ 34] (γ 0) 4 0 (γ 5)
  have hD : en250 (γ 0) (0, [ρ 35, ρ 36, ρ 37, ρ 38], γ 1) = .inr (4, 0, γ 5) := by
    unfold en250
    refine (if_pos (show (0 : Nat) = 0 by decide)).trans ?_
    refine (zLet_eq (show _ = γ 1 from rfl)).trans ?_
    refine (zLet_eq (show _ = ρ 35 from rfl)).trans ?_
    refine (zLet_eq (show _ = ρ 36 from rfl)).trans ?_
    refine (zLet_eq (show _ = ρ 37 from rfl)).trans ?_
    refine (zLet_eq (show _ = ρ 38 from rfl)).trans ?_
    refine (zLet_eq m4).trans ?_
    refine (zLet_eq m10).trans ?_
    refine (zLet_eq m11).trans ?_
    refine (zLet_eq m39).trans ?_
    refine (if_neg (show ¬ (ρ 36 < 0) by omega)).trans ?_
    refine (if_neg (show ¬ (ρ 36 ≥ ρ 10) by omega)).trans ?_
    refine (if_neg (show ¬ (ρ 35 ≥ 2000) by omega)).trans ?_
    refine (if_neg (show ¬ (ρ 36 < ρ 37) by omega)).trans ?_
    refine (zLet_eq (show fn225 [9 * ρ 4 + 6, ρ 36] (γ 1) = (0, 1, γ 2) from l0.symm)).trans ?_
    refine (zLet_eq (show _ = γ 2 from rfl)).trans ?_
    refine (if_pos (show (1 : Int) ≤ 1 by omega)).trans ?_
    refine (zLet_eq (show fn232 [9 * ρ 4 + 6, ρ 36] (γ 2) = (0, 0, γ 3) from l1.symm)).trans ?_
    refine (zLet_eq (show _ = γ 3 from rfl)).trans ?_
    refine (if_pos (show (0 : Nat) = 0 by decide)).trans ?_
    refine (if_neg (show ¬ (ρ 36 < ρ 11) by omega)).trans ?_
    refine (zLet_eq (zF2_ok l2)).trans ?_
    refine (zLet_eq c4.symm).trans ?_
    refine (zLet_eq (show fn249 [] (γ 4) = (4, 0, γ 5) from l3.symm)).trans ?_
    refine (zLet_eq (show _ = γ 5 from rfl)).trans ?_
    refine (if_neg (show ¬ (4 : Nat) = 0 by decide)).trans ?_
    refine (if_neg (show ¬ (4 : Nat) = 1 by decide)).trans ?_
    rfl
  exact zGoo_aend hJ hD
theorem vn250a0_11 {S : Nat → zSpc} (hS225 : ∀ x g o v gz, S 225 x g o v gz → sn225 x g o v gz) (hS226 : ∀ x g o v gz, S 226 x g o v gz → sn226 x g o v gz) (hS227 : ∀ x g o v gz, S 227 x g o v gz → sn227 x g o v gz) (hS232 : ∀ x g o v gz, S 232 x g o v gz → sn232 x g o v gz) (hS249 : ∀ x g o v gz, S 249 x g o v gz → sn249 x g o v gz) {a : List Int} {g : rHp} : ∀ (ρ : Nat → Int) (γ : Nat → rHp), jn250 a g 0 (zAg (zNA a250_ 0) ρ) (γ 1) → zO 35 S a g q250a0_11 ρ γ → zGl (fun i vs g1 => jn250 a g i vs g1) (sn250 a g) q250a0_11 ρ γ := by
  intro ρ γ hJ h
  obtain ⟨ha, hg, hr, hf, hm, hc, hl⟩ := h
  have ha : a = [ρ 0, ρ 1, ρ 2, ρ 3, ρ 4, ρ 5, ρ 6, ρ 7, ρ 8, ρ 9, ρ 10, ρ 11, ρ 12, ρ 13, ρ 14, ρ 15, ρ 16, ρ 17, ρ 18, ρ 19, ρ 20, ρ 21, ρ 22, ρ 23, ρ 24, ρ 25, ρ 26, ρ 27, ρ 28, ρ 29, ρ 30, ρ 31, ρ 32, ρ 33, ρ 34] := ha
  subst ha
  subst hg
  have hJ : jn250 [ρ 0, ρ 1, ρ 2, ρ 3, ρ 4, ρ 5, ρ 6, ρ 7, ρ 8, ρ 9, ρ 10, ρ 11, ρ 12, ρ 13, ρ 14, ρ 15, ρ 16, ρ 17, ρ 18, ρ 19, ρ 20, ρ 21, ρ 22, ρ 23, ρ 24, ρ 25, ρ 26, ρ 27, ρ 28, ρ 29, ρ 30, ρ 31, ρ 32, ρ 33, ρ 34] (γ 0) 0 [ρ 0, ρ 1, ρ 2, ρ 3, ρ 4, ρ 5, ρ 6, ρ 7, ρ 8, ρ 9, ρ 10, ρ 11, ρ 12, ρ 13, ρ 14, ρ 15, ρ 16, ρ 17, ρ 18, ρ 19, ρ 20, ρ 21, ρ 22, ρ 23, ρ 24, ρ 25, ρ 26, ρ 27, ρ 28, ρ 29, ρ 30, ρ 31, ρ 32, ρ 33, ρ 34, ρ 35, ρ 36, ρ 37, ρ 38, ρ 39, ρ 40, ρ 41, ρ 42, ρ 43] (γ 1) := hJ
  obtain ⟨r0, r1, r2, r3, r4, r5, r6, r7, r8, r9, r10, r11, r12, r13, r14, r15, r16, r17, r18, r19, r20, r21, r22, r23, r24, r25, r26, r27, r28, r29, r30, r31, r32, r33, r34, r35, r36, r37, r38, r39, r40, r41, r42, r43, -⟩ := hr
  have r0 : (0 : Int) ≤ ρ 0 ∧ ρ 0 ≤ 50000 := r0
  have r1 : (0 : Int) ≤ ρ 1 ∧ ρ 1 ≤ 2 := r1
  have r2 : (0 : Int) ≤ ρ 2 ∧ ρ 2 ≤ 2 := r2
  have r3 : (0 : Int) ≤ ρ 3 ∧ ρ 3 ≤ 50001 := r3
  have r4 : (0 : Int) ≤ ρ 4 ∧ ρ 4 ≤ 62 := r4
  have r5 : (0 : Int) ≤ ρ 5 ∧ ρ 5 ≤ 60 := r5
  have r6 : (0 : Int) ≤ ρ 6 ∧ ρ 6 ≤ 2000 := r6
  have r7 : (0 : Int) ≤ ρ 7 ∧ ρ 7 ≤ 2000 := r7
  have r8 : ((-2147483648) : Int) ≤ ρ 8 ∧ ρ 8 ≤ 2147483647 := r8
  have r9 : ((-2147483648) : Int) ≤ ρ 9 ∧ ρ 9 ≤ 2147483647 := r9
  have r10 : (0 : Int) ≤ ρ 10 ∧ ρ 10 ≤ 2000 := r10
  have r11 : (0 : Int) ≤ ρ 11 ∧ ρ 11 ≤ 2000 := r11
  have r12 : ((-2147483648) : Int) ≤ ρ 12 ∧ ρ 12 ≤ 2147483647 := r12
  have r13 : (0 : Int) ≤ ρ 13 ∧ ρ 13 ≤ 8 := r13
  have r14 : (0 : Int) ≤ ρ 14 ∧ ρ 14 ≤ 8 := r14
  have r15 : (0 : Int) ≤ ρ 15 ∧ ρ 15 ≤ 4 := r15
  have r16 : ((-1) : Int) ≤ ρ 16 ∧ ρ 16 ≤ 19 := r16
  have r17 : (0 : Int) ≤ ρ 17 ∧ ρ 17 ≤ 4 := r17
  have r18 : ((-1) : Int) ≤ ρ 18 ∧ ρ 18 ≤ 7 := r18
  have r19 : (0 : Int) ≤ ρ 19 ∧ ρ 19 ≤ 4 := r19
  have r20 : ((-1) : Int) ≤ ρ 20 ∧ ρ 20 ≤ 19 := r20
  have r21 : ((-1) : Int) ≤ ρ 21 ∧ ρ 21 ≤ 3 := r21
  have r22 : (0 : Int) ≤ ρ 22 ∧ ρ 22 ≤ 7 := r22
  have r23 : (0 : Int) ≤ ρ 23 ∧ ρ 23 ≤ 8 := r23
  have r24 : (0 : Int) ≤ ρ 24 ∧ ρ 24 ≤ 4 := r24
  have r25 : ((-1) : Int) ≤ ρ 25 ∧ ρ 25 ≤ 19 := r25
  have r26 : ((-1) : Int) ≤ ρ 26 ∧ ρ 26 ≤ 3 := r26
  have r27 : (0 : Int) ≤ ρ 27 ∧ ρ 27 ≤ 7 := r27
  have r28 : ((-1) : Int) ≤ ρ 28 ∧ ρ 28 ≤ 7 := r28
  have r29 : (0 : Int) ≤ ρ 29 ∧ ρ 29 ≤ 8 := r29
  have r30 : (0 : Int) ≤ ρ 30 ∧ ρ 30 ≤ 4 := r30
  have r31 : ((-1) : Int) ≤ ρ 31 ∧ ρ 31 ≤ 19 := r31
  have r32 : ((-1) : Int) ≤ ρ 32 ∧ ρ 32 ≤ 3 := r32
  have r33 : (0 : Int) ≤ ρ 33 ∧ ρ 33 ≤ 7 := r33
  have r34 : ((-1) : Int) ≤ ρ 34 ∧ ρ 34 ≤ 7 := r34
  have r35 : (0 : Int) ≤ ρ 35 ∧ ρ 35 ≤ 1999 := r35
  have r36 : (0 : Int) ≤ ρ 36 ∧ ρ 36 ≤ 2000 := r36
  have r37 : (0 : Int) ≤ ρ 37 ∧ ρ 37 ≤ 2000 := r37
  have r38 : (0 : Int) ≤ ρ 38 ∧ ρ 38 ≤ 1 := r38
  have r39 : (50000 : Int) ≤ ρ 39 ∧ ρ 39 ≤ 50000 := r39
  have r40 : (0 : Int) ≤ ρ 40 ∧ ρ 40 ≤ 50001 := r40
  have r41 : (0 : Int) ≤ ρ 41 ∧ ρ 41 ≤ 2000 := r41
  have r42 : (0 : Int) ≤ ρ 42 ∧ ρ 42 ≤ 2000 := r42
  have r43 : ((-2147483648) : Int) ≤ ρ 43 ∧ ρ 43 ≤ 2147483647 := r43
  obtain ⟨f0, f1, f2, f3, f4, f5, f6, f7, f8, f9, f10, -⟩ := hf
  have f0 : (0 : Int) ≤ -ρ 37 + ρ 36 := f0
  have f1 : (0 : Int) ≤ -ρ 36 + ρ 10 + (-1) := f1
  have f2 : (0 : Int) ≤ -ρ 40 + (ρ 39 + (ρ 3 + -ρ 0)) := f2
  have f3 : (0 : Int) ≤ -ρ 40 + (ρ 39 + (-50001) * ρ 1) + 100002 := f3
  have f4 : (0 : Int) ≤ -ρ 38 + ρ 14 := f4
  have f5 : (0 : Int) ≤ -ρ 37 + ρ 11 := f5
  have f6 : (0 : Int) ≤ ρ 42 + -ρ 7 := f6
  have f7 : (0 : Int) ≤ ρ 41 + -ρ 6 := f7
  have f8 : (0 : Int) ≤ ρ 40 + -ρ 3 := f8
  have f9 : (0 : Int) ≤ ρ 39 + -ρ 0 := f9
  have f10 : (0 : Int) ≤ -ρ 3 + ((-50001) * ρ 1 + ρ 0) + 100002 := f10
  obtain ⟨m0, m1, m2, m3, m4, m5, m6, m7, m8, m9, m10, m11, m12, m13, m14, m15, m16, m17, m18, m19, m20, m21, m22, m23, m24, m25, m26, m27, m28, m29, m30, m31, m32, m33, m34, m35, m36, m37, m38, m39, m40, -⟩ := hm
  have m0 : γ 0 6 0 0 = ρ 0 := m0
  have m1 : γ 0 6 0 9 = ρ 1 := m1
  have m2 : γ 0 6 0 6 = ρ 2 := m2
  have m3 : γ 0 8 (ρ 2) 1 = ρ 3 := m3
  have m4 : γ 0 6 0 7 = ρ 4 := m4
  have m5 : γ 0 1 0 10 = ρ 5 := m5
  have m6 : γ 0 4 0 7 = ρ 6 := m6
  have m7 : γ 0 5 0 3 = ρ 7 := m7
  have m8 : γ 0 6 0 8 = ρ 8 := m8
  have m9 : γ 0 6 0 10 = ρ 9 := m9
  have m10 : γ 0 6 0 11 = ρ 10 := m10
  have m11 : γ 0 6 0 12 = ρ 11 := m11
  have m12 : γ 0 6 0 13 = ρ 12 := m12
  have m13 : γ 0 9 (ρ 4) 2 = ρ 13 := m13
  have m14 : γ 0 9 (ρ 4) 3 = ρ 14 := m14
  have m15 : γ 0 10 (9 * ρ 4) 5 = ρ 15 := m15
  have m16 : γ 0 10 (9 * ρ 4) 8 = ρ 16 := m16
  have m17 : γ 0 10 (9 * ρ 4) 12 = ρ 17 := m17
  have m18 : γ 0 10 (9 * ρ 4) 14 = ρ 18 := m18
  have m19 : γ 0 10 (9 * ρ 4 + 6) 5 = ρ 19 := m19
  have m20 : γ 0 10 (9 * ρ 4 + 6) 8 = ρ 20 := m20
  have m21 : γ 0 10 (9 * ρ 4 + 6) 9 = ρ 21 := m21
  have m22 : γ 0 10 (9 * ρ 4 + 6) 10 = ρ 22 := m22
  have m23 : γ 0 10 (9 * ρ 4 + 7) 4 = ρ 23 := m23
  have m24 : γ 0 10 (9 * ρ 4 + 7) 5 = ρ 24 := m24
  have m25 : γ 0 10 (9 * ρ 4 + 7) 8 = ρ 25 := m25
  have m26 : γ 0 10 (9 * ρ 4 + 7) 9 = ρ 26 := m26
  have m27 : γ 0 10 (9 * ρ 4 + 7) 10 = ρ 27 := m27
  have m28 : γ 0 10 (9 * ρ 4 + 7) 11 = ρ 28 := m28
  have m29 : γ 0 10 (9 * ρ 4 + 8) 4 = ρ 29 := m29
  have m30 : γ 0 10 (9 * ρ 4 + 8) 5 = ρ 30 := m30
  have m31 : γ 0 10 (9 * ρ 4 + 8) 8 = ρ 31 := m31
  have m32 : γ 0 10 (9 * ρ 4 + 8) 9 = ρ 32 := m32
  have m33 : γ 0 10 (9 * ρ 4 + 8) 10 = ρ 33 := m33
  have m34 : γ 0 10 (9 * ρ 4 + 8) 11 = ρ 34 := m34
  have m35 : γ 1 6 0 0 = ρ 39 := m35
  have m36 : γ 1 8 (ρ 2) 1 = ρ 40 := m36
  have m37 : γ 1 4 0 7 = ρ 41 := m37
  have m38 : γ 1 5 0 3 = ρ 42 := m38
  have m39 : γ 1 6 0 13 = ρ 43 := m39
  have m40 : γ 3 6 0 0 = ρ 39 + 1 := m40
  obtain ⟨⟨⟨-, c1⟩, c2⟩, c3⟩ := hc
  have c1 : ∀ (G : Nat) (k j : Int), ¬ rMdP m140_ G j → γ 1 G k j = γ 0 G k j := c1
  have c2 : ∀ (G : Nat) (k j : Int), ¬ rMdP m132_ G j → γ 2 G k j = γ 1 G k j := c2
  have c3 : ∀ (G : Nat) (k j : Int), ¬ rMdP m133_ G j → γ 3 G k j = γ 2 G k j := c3
  obtain ⟨l0, l1, -⟩ := hl
  have l0 : sn225 [9 * ρ 4 + 6, ρ 36, ρ 19, ρ 20] (γ 1) 0 1 (γ 2) := hS225 _ _ _ _ _ l0
  have l1 : sn232 [9 * ρ 4 + 6, ρ 36, ρ 39, ρ 22] (γ 2) 4 0 (γ 3) := hS232 _ _ _ _ _ l1
  show sn250 [ρ 0, ρ 1, ρ 2, ρ 3, ρ 4, ρ 5, ρ 6, ρ 7, ρ 8, ρ 9, ρ 10, ρ 11, ρ 12, ρ 13, ρ 14, ρ 15, ρ 16, ρ 17, ρ 18, ρ 19, ρ 20, ρ 21, ρ 22, ρ 23, ρ 24, ρ 25, ρ 26, ρ 27, ρ 28, ρ 29, ρ 30, ρ 31, ρ 32, ρ 33, ρ 34] (γ 0) 4 0 (γ 3)
  have hD : en250 (γ 0) (0, [ρ 35, ρ 36, ρ 37, ρ 38], γ 1) = .inr (4, 0, γ 3) := by
    unfold en250
    refine (if_pos (show (0 : Nat) = 0 by decide)).trans ?_
    refine (zLet_eq (show _ = γ 1 from rfl)).trans ?_
    refine (zLet_eq (show _ = ρ 35 from rfl)).trans ?_
    refine (zLet_eq (show _ = ρ 36 from rfl)).trans ?_
    refine (zLet_eq (show _ = ρ 37 from rfl)).trans ?_
    refine (zLet_eq (show _ = ρ 38 from rfl)).trans ?_
    refine (zLet_eq m4).trans ?_
    refine (zLet_eq m10).trans ?_
    refine (zLet_eq m11).trans ?_
    refine (zLet_eq m39).trans ?_
    refine (if_neg (show ¬ (ρ 36 < 0) by omega)).trans ?_
    refine (if_neg (show ¬ (ρ 36 ≥ ρ 10) by omega)).trans ?_
    refine (if_neg (show ¬ (ρ 35 ≥ 2000) by omega)).trans ?_
    refine (if_neg (show ¬ (ρ 36 < ρ 37) by omega)).trans ?_
    refine (zLet_eq (show fn225 [9 * ρ 4 + 6, ρ 36] (γ 1) = (0, 1, γ 2) from l0.symm)).trans ?_
    refine (zLet_eq (show _ = γ 2 from rfl)).trans ?_
    refine (if_pos (show (1 : Int) ≤ 1 by omega)).trans ?_
    refine (zLet_eq (show fn232 [9 * ρ 4 + 6, ρ 36] (γ 2) = (4, 0, γ 3) from l1.symm)).trans ?_
    refine (zLet_eq (show _ = γ 3 from rfl)).trans ?_
    refine (if_neg (show ¬ (4 : Nat) = 0 by decide)).trans ?_
    rfl
  exact zGoo_aend hJ hD
theorem yn250 {S : Nat → zSpc} (hS225 : ∀ x g o v gz, S 225 x g o v gz → sn225 x g o v gz) (hS226 : ∀ x g o v gz, S 226 x g o v gz → sn226 x g o v gz) (hS227 : ∀ x g o v gz, S 227 x g o v gz → sn227 x g o v gz) (hS232 : ∀ x g o v gz, S 232 x g o v gz → sn232 x g o v gz) (hS249 : ∀ x g o v gz, S 249 x g o v gz → sn249 x g o v gz) : ∀ x g o v gz, zSem uW uT w250_.2.2.2.1 w250_.2.2.1.1.length S q250 (fun i => q250a.getD i []) (zNA a250_) x g o v gz → sn250 x g o v gz := by
  intro a g o v gz h
  exact zSem_all (l0 := q250) (las := q250a) (S := S) (J := (fun i vs g1 => jn250 a g i vs g1)) (P := sn250 a g) (fun _ => (show zAll _ [q250_0, q250_1, q250_2, q250_3] from (zAll_c (vn250_0 hS225 hS226 hS227 hS232 hS249) (zAll_c (vn250_1 hS225 hS226 hS227 hS232 hS249) (zAll_c (vn250_2 hS225 hS226 hS227 hS232 hS249) (zAll_c (vn250_3 hS225 hS226 hS227 hS232 hS249) zAll_n)))))) (fun _ => (show zAllI _ 0 [q250a0] from ⟨(show zAll _ [q250a0_0, q250a0_1, q250a0_2, q250a0_3, q250a0_4, q250a0_5, q250a0_6, q250a0_7, q250a0_8, q250a0_9, q250a0_10, q250a0_11] from (zAll_c (vn250a0_0 hS225 hS226 hS227 hS232 hS249) (zAll_c (vn250a0_1 hS225 hS226 hS227 hS232 hS249) (zAll_c (vn250a0_2 hS225 hS226 hS227 hS232 hS249) (zAll_c (vn250a0_3 hS225 hS226 hS227 hS232 hS249) (zAll_c (vn250a0_4 hS225 hS226 hS227 hS232 hS249) (zAll_c (vn250a0_5 hS225 hS226 hS227 hS232 hS249) (zAll_c (vn250a0_6 hS225 hS226 hS227 hS232 hS249) (zAll_c (vn250a0_7 hS225 hS226 hS227 hS232 hS249) (zAll_c (vn250a0_8 hS225 hS226 hS227 hS232 hS249) (zAll_c (vn250a0_9 hS225 hS226 hS227 hS232 hS249) (zAll_c (vn250a0_10 hS225 hS226 hS227 hS232 hS249) (zAll_c (vn250a0_11 hS225 hS226 hS227 hS232 hS249) zAll_n))))))))))))), trivial⟩)) h
theorem vn251_0 {S : Nat → zSpc} (hS132 : ∀ x g o v gz, S 132 x g o v gz → sn132 x g o v gz) (hS228 : ∀ x g o v gz, S 228 x g o v gz → sn228 x g o v gz) (hS229 : ∀ x g o v gz, S 229 x g o v gz → sn229 x g o v gz) (hS230 : ∀ x g o v gz, S 230 x g o v gz → sn230 x g o v gz) (hS231 : ∀ x g o v gz, S 231 x g o v gz → sn231 x g o v gz) (hS244 : ∀ x g o v gz, S 244 x g o v gz → sn244 x g o v gz) (hS249 : ∀ x g o v gz, S 249 x g o v gz → sn249 x g o v gz) (hS250 : ∀ x g o v gz, S 250 x g o v gz → sn250 x g o v gz) {a : List Int} {g : rHp} : ∀ (ρ : Nat → Int) (γ : Nat → rHp), zO 37 S a g q251_0 ρ γ → zGl (fun _ _ _ => True) (sn251 a g) q251_0 ρ γ := by
  intro ρ γ h
  obtain ⟨ha, hg, hr, hf, hm, hc, hl⟩ := h
  have ha : a = [ρ 0, ρ 1, ρ 2, ρ 3, ρ 4, ρ 5, ρ 6, ρ 7, ρ 8, ρ 9, ρ 10, ρ 11, ρ 12, ρ 13, ρ 14, ρ 15, ρ 16, ρ 17, ρ 18, ρ 19, ρ 20, ρ 21, ρ 22, ρ 23, ρ 24, ρ 25, ρ 26, ρ 27, ρ 28, ρ 29, ρ 30, ρ 31, ρ 32, ρ 33, ρ 34, ρ 35, ρ 36] := ha
  subst ha
  subst hg
  obtain ⟨r0, r1, r2, r3, r4, r5, r6, r7, r8, r9, r10, r11, r12, r13, r14, r15, r16, r17, r18, r19, r20, r21, r22, r23, r24, r25, r26, r27, r28, r29, r30, r31, r32, r33, r34, r35, r36, r37, r38, r39, -⟩ := hr
  have r0 : (0 : Int) ≤ ρ 0 ∧ ρ 0 ≤ 50000 := r0
  have r1 : (0 : Int) ≤ ρ 1 ∧ ρ 1 ≤ 2 := r1
  have r2 : (0 : Int) ≤ ρ 2 ∧ ρ 2 ≤ 2 := r2
  have r3 : (0 : Int) ≤ ρ 3 ∧ ρ 3 ≤ 50001 := r3
  have r4 : (0 : Int) ≤ ρ 4 ∧ ρ 4 ≤ 62 := r4
  have r5 : (0 : Int) ≤ ρ 5 ∧ ρ 5 ≤ 60 := r5
  have r6 : (0 : Int) ≤ ρ 6 ∧ ρ 6 ≤ 2000 := r6
  have r7 : (0 : Int) ≤ ρ 7 ∧ ρ 7 ≤ 2000 := r7
  have r8 : ((-2147483648) : Int) ≤ ρ 8 ∧ ρ 8 ≤ 2147483647 := r8
  have r9 : ((-2147483648) : Int) ≤ ρ 9 ∧ ρ 9 ≤ 2147483647 := r9
  have r10 : (0 : Int) ≤ ρ 10 ∧ ρ 10 ≤ 2000 := r10
  have r11 : (0 : Int) ≤ ρ 11 ∧ ρ 11 ≤ 2000 := r11
  have r12 : ((-2147483648) : Int) ≤ ρ 12 ∧ ρ 12 ≤ 2147483647 := r12
  have r13 : (0 : Int) ≤ ρ 13 ∧ ρ 13 ≤ 5 := r13
  have r14 : (0 : Int) ≤ ρ 14 ∧ ρ 14 ≤ 8 := r14
  have r15 : (0 : Int) ≤ ρ 15 ∧ ρ 15 ≤ 4 := r15
  have r16 : ((-1) : Int) ≤ ρ 16 ∧ ρ 16 ≤ 19 := r16
  have r17 : (0 : Int) ≤ ρ 17 ∧ ρ 17 ≤ 4 := r17
  have r18 : ((-1) : Int) ≤ ρ 18 ∧ ρ 18 ≤ 7 := r18
  have r19 : (0 : Int) ≤ ρ 19 ∧ ρ 19 ≤ 8 := r19
  have r20 : (0 : Int) ≤ ρ 20 ∧ ρ 20 ≤ 4 := r20
  have r21 : ((-1) : Int) ≤ ρ 21 ∧ ρ 21 ≤ 19 := r21
  have r22 : ((-1) : Int) ≤ ρ 22 ∧ ρ 22 ≤ 3 := r22
  have r23 : (0 : Int) ≤ ρ 23 ∧ ρ 23 ≤ 7 := r23
  have r24 : ((-1) : Int) ≤ ρ 24 ∧ ρ 24 ≤ 7 := r24
  have r25 : (0 : Int) ≤ ρ 25 ∧ ρ 25 ≤ 8 := r25
  have r26 : (0 : Int) ≤ ρ 26 ∧ ρ 26 ≤ 4 := r26
  have r27 : ((-1) : Int) ≤ ρ 27 ∧ ρ 27 ≤ 19 := r27
  have r28 : ((-1) : Int) ≤ ρ 28 ∧ ρ 28 ≤ 3 := r28
  have r29 : (0 : Int) ≤ ρ 29 ∧ ρ 29 ≤ 7 := r29
  have r30 : ((-1) : Int) ≤ ρ 30 ∧ ρ 30 ≤ 7 := r30
  have r31 : (0 : Int) ≤ ρ 31 ∧ ρ 31 ≤ 8 := r31
  have r32 : (0 : Int) ≤ ρ 32 ∧ ρ 32 ≤ 4 := r32
  have r33 : ((-1) : Int) ≤ ρ 33 ∧ ρ 33 ≤ 19 := r33
  have r34 : ((-1) : Int) ≤ ρ 34 ∧ ρ 34 ≤ 3 := r34
  have r35 : (0 : Int) ≤ ρ 35 ∧ ρ 35 ≤ 7 := r35
  have r36 : ((-1) : Int) ≤ ρ 36 ∧ ρ 36 ≤ 7 := r36
  have r37 : (0 : Int) ≤ ρ 37 ∧ ρ 37 ≤ 50001 := r37
  have r38 : (0 : Int) ≤ ρ 38 ∧ ρ 38 ≤ 2000 := r38
  have r39 : (0 : Int) ≤ ρ 39 ∧ ρ 39 ≤ 2000 := r39
  obtain ⟨f0, f1, f2, f3, f4, -⟩ := hf
  have f0 : (0 : Int) ≤ -ρ 3 + ((-50001) * ρ 1 + ρ 0) + 100002 := f0
  have f1 : (0 : Int) ≤ ρ 37 + -ρ 3 := f1
  have f2 : (0 : Int) ≤ ρ 38 + -ρ 6 := f2
  have f3 : (0 : Int) ≤ ρ 39 + -ρ 7 := f3
  have f4 : (0 : Int) ≤ -ρ 37 + ρ 3 + 1 := f4
  obtain ⟨m0, m1, m2, m3, m4, m5, m6, m7, m8, m9, m10, m11, m12, m13, m14, m15, m16, m17, m18, m19, m20, m21, m22, m23, m24, m25, m26, m27, m28, m29, m30, m31, m32, m33, m34, m35, m36, m37, m38, m39, -⟩ := hm
  have m0 : γ 0 6 0 0 = ρ 0 := m0
  have m1 : γ 0 6 0 9 = ρ 1 := m1
  have m2 : γ 0 6 0 6 = ρ 2 := m2
  have m3 : γ 0 8 (ρ 2) 1 = ρ 3 := m3
  have m4 : γ 0 6 0 7 = ρ 4 := m4
  have m5 : γ 0 1 0 10 = ρ 5 := m5
  have m6 : γ 0 4 0 7 = ρ 6 := m6
  have m7 : γ 0 5 0 3 = ρ 7 := m7
  have m8 : γ 0 6 0 8 = ρ 8 := m8
  have m9 : γ 0 6 0 10 = ρ 9 := m9
  have m10 : γ 0 6 0 11 = ρ 10 := m10
  have m11 : γ 0 6 0 12 = ρ 11 := m11
  have m12 : γ 0 6 0 13 = ρ 12 := m12
  have m13 : γ 0 9 (ρ 4) 2 = ρ 13 := m13
  have m14 : γ 0 9 (ρ 4) 3 = ρ 14 := m14
  have m15 : γ 0 10 (9 * ρ 4) 5 = ρ 15 := m15
  have m16 : γ 0 10 (9 * ρ 4) 8 = ρ 16 := m16
  have m17 : γ 0 10 (9 * ρ 4) 12 = ρ 17 := m17
  have m18 : γ 0 10 (9 * ρ 4) 14 = ρ 18 := m18
  have m19 : γ 0 10 (9 * ρ 4 + 6) 4 = ρ 19 := m19
  have m20 : γ 0 10 (9 * ρ 4 + 6) 5 = ρ 20 := m20
  have m21 : γ 0 10 (9 * ρ 4 + 6) 8 = ρ 21 := m21
  have m22 : γ 0 10 (9 * ρ 4 + 6) 9 = ρ 22 := m22
  have m23 : γ 0 10 (9 * ρ 4 + 6) 10 = ρ 23 := m23
  have m24 : γ 0 10 (9 * ρ 4 + 6) 11 = ρ 24 := m24
  have m25 : γ 0 10 (9 * ρ 4 + 7) 4 = ρ 25 := m25
  have m26 : γ 0 10 (9 * ρ 4 + 7) 5 = ρ 26 := m26
  have m27 : γ 0 10 (9 * ρ 4 + 7) 8 = ρ 27 := m27
  have m28 : γ 0 10 (9 * ρ 4 + 7) 9 = ρ 28 := m28
  have m29 : γ 0 10 (9 * ρ 4 + 7) 10 = ρ 29 := m29
  have m30 : γ 0 10 (9 * ρ 4 + 7) 11 = ρ 30 := m30
  have m31 : γ 0 10 (9 * ρ 4 + 8) 4 = ρ 31 := m31
  have m32 : γ 0 10 (9 * ρ 4 + 8) 5 = ρ 32 := m32
  have m33 : γ 0 10 (9 * ρ 4 + 8) 8 = ρ 33 := m33
  have m34 : γ 0 10 (9 * ρ 4 + 8) 9 = ρ 34 := m34
  have m35 : γ 0 10 (9 * ρ 4 + 8) 10 = ρ 35 := m35
  have m36 : γ 0 10 (9 * ρ 4 + 8) 11 = ρ 36 := m36
  have m37 : γ 1 8 (ρ 2) 1 = ρ 37 := m37
  have m38 : γ 1 4 0 7 = ρ 38 := m38
  have m39 : γ 1 5 0 3 = ρ 39 := m39
  obtain ⟨-, c1⟩ := hc
  have c1 : ∀ (G : Nat) (k j : Int), ¬ rMdP m138_ G j → γ 1 G k j = γ 0 G k j := c1
  obtain ⟨l0, -⟩ := hl
  have l0 : sn244 [ρ 0, ρ 1, ρ 2, ρ 3, ρ 4, ρ 6, ρ 7, ρ 8, ρ 9, ρ 14, ρ 15, ρ 16, ρ 17, ρ 18] (γ 0) 0 0 (γ 1) := hS244 _ _ _ _ _ l0
  show sn251 [ρ 0, ρ 1, ρ 2, ρ 3, ρ 4, ρ 5, ρ 6, ρ 7, ρ 8, ρ 9, ρ 10, ρ 11, ρ 12, ρ 13, ρ 14, ρ 15, ρ 16, ρ 17, ρ 18, ρ 19, ρ 20, ρ 21, ρ 22, ρ 23, ρ 24, ρ 25, ρ 26, ρ 27, ρ 28, ρ 29, ρ 30, ρ 31, ρ 32, ρ 33, ρ 34, ρ 35, ρ 36] (γ 0) 0 0 (γ 1)
  refine Eq.symm ?_
  show fn251 [] (γ 0) = _
  unfold fn251
  refine (zLet_eq m4).trans ?_
  refine (zLet_eq m13).trans ?_
  refine (zLet_eq m19).trans ?_
  refine (if_pos (show 5 ≥ ρ 13 by omega)).trans ?_
  refine (zLet_eq (show fn244 [] (γ 0) = (0, 0, γ 1) from l0.symm)).trans ?_
  refine (zLet_eq (show _ = γ 1 from rfl)).trans ?_
  refine (if_pos (show (0 : Nat) = 0 by decide)).trans ?_
  rfl
theorem vn251_1 {S : Nat → zSpc} (hS132 : ∀ x g o v gz, S 132 x g o v gz → sn132 x g o v gz) (hS228 : ∀ x g o v gz, S 228 x g o v gz → sn228 x g o v gz) (hS229 : ∀ x g o v gz, S 229 x g o v gz → sn229 x g o v gz) (hS230 : ∀ x g o v gz, S 230 x g o v gz → sn230 x g o v gz) (hS231 : ∀ x g o v gz, S 231 x g o v gz → sn231 x g o v gz) (hS244 : ∀ x g o v gz, S 244 x g o v gz → sn244 x g o v gz) (hS249 : ∀ x g o v gz, S 249 x g o v gz → sn249 x g o v gz) (hS250 : ∀ x g o v gz, S 250 x g o v gz → sn250 x g o v gz) {a : List Int} {g : rHp} : ∀ (ρ : Nat → Int) (γ : Nat → rHp), zO 37 S a g q251_1 ρ γ → zGl (fun _ _ _ => True) (sn251 a g) q251_1 ρ γ := by
  intro ρ γ h
  obtain ⟨ha, hg, hr, hf, hm, hc, hl⟩ := h
  have ha : a = [ρ 0, ρ 1, ρ 2, ρ 3, ρ 4, ρ 5, ρ 6, ρ 7, ρ 8, ρ 9, ρ 10, ρ 11, ρ 12, ρ 13, ρ 14, ρ 15, ρ 16, ρ 17, ρ 18, ρ 19, ρ 20, ρ 21, ρ 22, ρ 23, ρ 24, ρ 25, ρ 26, ρ 27, ρ 28, ρ 29, ρ 30, ρ 31, ρ 32, ρ 33, ρ 34, ρ 35, ρ 36] := ha
  subst ha
  subst hg
  obtain ⟨r0, r1, r2, r3, r4, r5, r6, r7, r8, r9, r10, r11, r12, r13, r14, r15, r16, r17, r18, r19, r20, r21, r22, r23, r24, r25, r26, r27, r28, r29, r30, r31, r32, r33, r34, r35, r36, r37, -⟩ := hr
  have r0 : (0 : Int) ≤ ρ 0 ∧ ρ 0 ≤ 50000 := r0
  have r1 : (0 : Int) ≤ ρ 1 ∧ ρ 1 ≤ 1 := r1
  have r2 : (0 : Int) ≤ ρ 2 ∧ ρ 2 ≤ 2 := r2
  have r3 : (0 : Int) ≤ ρ 3 ∧ ρ 3 ≤ 50001 := r3
  have r4 : (0 : Int) ≤ ρ 4 ∧ ρ 4 ≤ 62 := r4
  have r5 : (0 : Int) ≤ ρ 5 ∧ ρ 5 ≤ 60 := r5
  have r6 : (0 : Int) ≤ ρ 6 ∧ ρ 6 ≤ 2000 := r6
  have r7 : (0 : Int) ≤ ρ 7 ∧ ρ 7 ≤ 2000 := r7
  have r8 : ((-2147483648) : Int) ≤ ρ 8 ∧ ρ 8 ≤ 2147483647 := r8
  have r9 : ((-2147483648) : Int) ≤ ρ 9 ∧ ρ 9 ≤ 2147483647 := r9
  have r10 : (0 : Int) ≤ ρ 10 ∧ ρ 10 ≤ 2000 := r10
  have r11 : (0 : Int) ≤ ρ 11 ∧ ρ 11 ≤ 2000 := r11
  have r12 : ((-2147483648) : Int) ≤ ρ 12 ∧ ρ 12 ≤ 2147483647 := r12
  have r13 : (0 : Int) ≤ ρ 13 ∧ ρ 13 ≤ 5 := r13
  have r14 : (0 : Int) ≤ ρ 14 ∧ ρ 14 ≤ 8 := r14
  have r15 : (0 : Int) ≤ ρ 15 ∧ ρ 15 ≤ 4 := r15
  have r16 : ((-1) : Int) ≤ ρ 16 ∧ ρ 16 ≤ 19 := r16
  have r17 : (0 : Int) ≤ ρ 17 ∧ ρ 17 ≤ 4 := r17
  have r18 : ((-1) : Int) ≤ ρ 18 ∧ ρ 18 ≤ 7 := r18
  have r19 : (0 : Int) ≤ ρ 19 ∧ ρ 19 ≤ 8 := r19
  have r20 : (0 : Int) ≤ ρ 20 ∧ ρ 20 ≤ 4 := r20
  have r21 : ((-1) : Int) ≤ ρ 21 ∧ ρ 21 ≤ 19 := r21
  have r22 : ((-1) : Int) ≤ ρ 22 ∧ ρ 22 ≤ 3 := r22
  have r23 : (0 : Int) ≤ ρ 23 ∧ ρ 23 ≤ 7 := r23
  have r24 : ((-1) : Int) ≤ ρ 24 ∧ ρ 24 ≤ 7 := r24
  have r25 : (0 : Int) ≤ ρ 25 ∧ ρ 25 ≤ 8 := r25
  have r26 : (0 : Int) ≤ ρ 26 ∧ ρ 26 ≤ 4 := r26
  have r27 : ((-1) : Int) ≤ ρ 27 ∧ ρ 27 ≤ 19 := r27
  have r28 : ((-1) : Int) ≤ ρ 28 ∧ ρ 28 ≤ 3 := r28
  have r29 : (0 : Int) ≤ ρ 29 ∧ ρ 29 ≤ 7 := r29
  have r30 : ((-1) : Int) ≤ ρ 30 ∧ ρ 30 ≤ 7 := r30
  have r31 : (0 : Int) ≤ ρ 31 ∧ ρ 31 ≤ 8 := r31
  have r32 : (0 : Int) ≤ ρ 32 ∧ ρ 32 ≤ 4 := r32
  have r33 : ((-1) : Int) ≤ ρ 33 ∧ ρ 33 ≤ 19 := r33
  have r34 : ((-1) : Int) ≤ ρ 34 ∧ ρ 34 ≤ 3 := r34
  have r35 : (0 : Int) ≤ ρ 35 ∧ ρ 35 ≤ 7 := r35
  have r36 : ((-1) : Int) ≤ ρ 36 ∧ ρ 36 ≤ 7 := r36
  have r37 : (0 : Int) ≤ ρ 37 ∧ ρ 37 ≤ 2000 := r37
  obtain ⟨f0, f1, -⟩ := hf
  have f0 : (0 : Int) ≤ ρ 37 + -ρ 7 := f0
  have f1 : (0 : Int) ≤ -ρ 3 + ((-50001) * ρ 1 + ρ 0) + 100002 := f1
  obtain ⟨m0, m1, m2, m3, m4, m5, m6, m7, m8, m9, m10, m11, m12, m13, m14, m15, m16, m17, m18, m19, m20, m21, m22, m23, m24, m25, m26, m27, m28, m29, m30, m31, m32, m33, m34, m35, m36, m37, m38, m39, -⟩ := hm
  have m0 : γ 0 6 0 0 = ρ 0 := m0
  have m1 : γ 0 6 0 9 = ρ 1 := m1
  have m2 : γ 0 6 0 6 = ρ 2 := m2
  have m3 : γ 0 8 (ρ 2) 1 = ρ 3 := m3
  have m4 : γ 0 6 0 7 = ρ 4 := m4
  have m5 : γ 0 1 0 10 = ρ 5 := m5
  have m6 : γ 0 4 0 7 = ρ 6 := m6
  have m7 : γ 0 5 0 3 = ρ 7 := m7
  have m8 : γ 0 6 0 8 = ρ 8 := m8
  have m9 : γ 0 6 0 10 = ρ 9 := m9
  have m10 : γ 0 6 0 11 = ρ 10 := m10
  have m11 : γ 0 6 0 12 = ρ 11 := m11
  have m12 : γ 0 6 0 13 = ρ 12 := m12
  have m13 : γ 0 9 (ρ 4) 2 = ρ 13 := m13
  have m14 : γ 0 9 (ρ 4) 3 = ρ 14 := m14
  have m15 : γ 0 10 (9 * ρ 4) 5 = ρ 15 := m15
  have m16 : γ 0 10 (9 * ρ 4) 8 = ρ 16 := m16
  have m17 : γ 0 10 (9 * ρ 4) 12 = ρ 17 := m17
  have m18 : γ 0 10 (9 * ρ 4) 14 = ρ 18 := m18
  have m19 : γ 0 10 (9 * ρ 4 + 6) 4 = ρ 19 := m19
  have m20 : γ 0 10 (9 * ρ 4 + 6) 5 = ρ 20 := m20
  have m21 : γ 0 10 (9 * ρ 4 + 6) 8 = ρ 21 := m21
  have m22 : γ 0 10 (9 * ρ 4 + 6) 9 = ρ 22 := m22
  have m23 : γ 0 10 (9 * ρ 4 + 6) 10 = ρ 23 := m23
  have m24 : γ 0 10 (9 * ρ 4 + 6) 11 = ρ 24 := m24
  have m25 : γ 0 10 (9 * ρ 4 + 7) 4 = ρ 25 := m25
  have m26 : γ 0 10 (9 * ρ 4 + 7) 5 = ρ 26 := m26
  have m27 : γ 0 10 (9 * ρ 4 + 7) 8 = ρ 27 := m27
  have m28 : γ 0 10 (9 * ρ 4 + 7) 9 = ρ 28 := m28
  have m29 : γ 0 10 (9 * ρ 4 + 7) 10 = ρ 29 := m29
  have m30 : γ 0 10 (9 * ρ 4 + 7) 11 = ρ 30 := m30
  have m31 : γ 0 10 (9 * ρ 4 + 8) 4 = ρ 31 := m31
  have m32 : γ 0 10 (9 * ρ 4 + 8) 5 = ρ 32 := m32
  have m33 : γ 0 10 (9 * ρ 4 + 8) 8 = ρ 33 := m33
  have m34 : γ 0 10 (9 * ρ 4 + 8) 9 = ρ 34 := m34
  have m35 : γ 0 10 (9 * ρ 4 + 8) 10 = ρ 35 := m35
  have m36 : γ 0 10 (9 * ρ 4 + 8) 11 = ρ 36 := m36
  have m37 : γ 1 8 (ρ 2) 1 = ρ 3 := m37
  have m38 : γ 1 4 0 7 = ρ 6 := m38
  have m39 : γ 1 5 0 3 = ρ 37 := m39
  obtain ⟨-, c1⟩ := hc
  have c1 : ∀ (G : Nat) (k j : Int), ¬ rMdP m138_ G j → γ 1 G k j = γ 0 G k j := c1
  obtain ⟨l0, -⟩ := hl
  have l0 : sn244 [ρ 0, ρ 1, ρ 2, ρ 3, ρ 4, ρ 6, ρ 7, ρ 8, ρ 9, ρ 14, ρ 15, ρ 16, ρ 17, ρ 18] (γ 0) 1 0 (γ 1) := hS244 _ _ _ _ _ l0
  show sn251 [ρ 0, ρ 1, ρ 2, ρ 3, ρ 4, ρ 5, ρ 6, ρ 7, ρ 8, ρ 9, ρ 10, ρ 11, ρ 12, ρ 13, ρ 14, ρ 15, ρ 16, ρ 17, ρ 18, ρ 19, ρ 20, ρ 21, ρ 22, ρ 23, ρ 24, ρ 25, ρ 26, ρ 27, ρ 28, ρ 29, ρ 30, ρ 31, ρ 32, ρ 33, ρ 34, ρ 35, ρ 36] (γ 0) 1 0 (γ 1)
  refine Eq.symm ?_
  show fn251 [] (γ 0) = _
  unfold fn251
  refine (zLet_eq m4).trans ?_
  refine (zLet_eq m13).trans ?_
  refine (zLet_eq m19).trans ?_
  refine (if_pos (show 5 ≥ ρ 13 by omega)).trans ?_
  refine (zLet_eq (show fn244 [] (γ 0) = (1, 0, γ 1) from l0.symm)).trans ?_
  refine (zLet_eq (show _ = γ 1 from rfl)).trans ?_
  refine (if_neg (show ¬ (1 : Nat) = 0 by decide)).trans ?_
  rfl
theorem vn251_2 {S : Nat → zSpc} (hS132 : ∀ x g o v gz, S 132 x g o v gz → sn132 x g o v gz) (hS228 : ∀ x g o v gz, S 228 x g o v gz → sn228 x g o v gz) (hS229 : ∀ x g o v gz, S 229 x g o v gz → sn229 x g o v gz) (hS230 : ∀ x g o v gz, S 230 x g o v gz → sn230 x g o v gz) (hS231 : ∀ x g o v gz, S 231 x g o v gz → sn231 x g o v gz) (hS244 : ∀ x g o v gz, S 244 x g o v gz → sn244 x g o v gz) (hS249 : ∀ x g o v gz, S 249 x g o v gz → sn249 x g o v gz) (hS250 : ∀ x g o v gz, S 250 x g o v gz → sn250 x g o v gz) {a : List Int} {g : rHp} : ∀ (ρ : Nat → Int) (γ : Nat → rHp), zO 37 S a g q251_2 ρ γ → zGl (fun _ _ _ => True) (sn251 a g) q251_2 ρ γ := by
  intro ρ γ h
  obtain ⟨ha, hg, hr, hf, hm, hc, hl⟩ := h
  have ha : a = [ρ 0, ρ 1, ρ 2, ρ 3, ρ 4, ρ 5, ρ 6, ρ 7, ρ 8, ρ 9, ρ 10, ρ 11, ρ 12, ρ 13, ρ 14, ρ 15, ρ 16, ρ 17, ρ 18, ρ 19, ρ 20, ρ 21, ρ 22, ρ 23, ρ 24, ρ 25, ρ 26, ρ 27, ρ 28, ρ 29, ρ 30, ρ 31, ρ 32, ρ 33, ρ 34, ρ 35, ρ 36] := ha
  subst ha
  subst hg
  obtain ⟨r0, r1, r2, r3, r4, r5, r6, r7, r8, r9, r10, r11, r12, r13, r14, r15, r16, r17, r18, r19, r20, r21, r22, r23, r24, r25, r26, r27, r28, r29, r30, r31, r32, r33, r34, r35, r36, r37, -⟩ := hr
  have r0 : (0 : Int) ≤ ρ 0 ∧ ρ 0 ≤ 50000 := r0
  have r1 : (0 : Int) ≤ ρ 1 ∧ ρ 1 ≤ 2 := r1
  have r2 : (0 : Int) ≤ ρ 2 ∧ ρ 2 ≤ 2 := r2
  have r3 : (0 : Int) ≤ ρ 3 ∧ ρ 3 ≤ 50001 := r3
  have r4 : (0 : Int) ≤ ρ 4 ∧ ρ 4 ≤ 62 := r4
  have r5 : (0 : Int) ≤ ρ 5 ∧ ρ 5 ≤ 60 := r5
  have r6 : (0 : Int) ≤ ρ 6 ∧ ρ 6 ≤ 2000 := r6
  have r7 : (0 : Int) ≤ ρ 7 ∧ ρ 7 ≤ 2000 := r7
  have r8 : ((-2147483648) : Int) ≤ ρ 8 ∧ ρ 8 ≤ 2147483647 := r8
  have r9 : ((-2147483648) : Int) ≤ ρ 9 ∧ ρ 9 ≤ 2147483647 := r9
  have r10 : (0 : Int) ≤ ρ 10 ∧ ρ 10 ≤ 2000 := r10
  have r11 : (0 : Int) ≤ ρ 11 ∧ ρ 11 ≤ 2000 := r11
  have r12 : ((-2147483648) : Int) ≤ ρ 12 ∧ ρ 12 ≤ 2147483647 := r12
  have r13 : (6 : Int) ≤ ρ 13 ∧ ρ 13 ≤ 8 := r13
  have r14 : (0 : Int) ≤ ρ 14 ∧ ρ 14 ≤ 8 := r14
  have r15 : (0 : Int) ≤ ρ 15 ∧ ρ 15 ≤ 4 := r15
  have r16 : ((-1) : Int) ≤ ρ 16 ∧ ρ 16 ≤ 19 := r16
  have r17 : (0 : Int) ≤ ρ 17 ∧ ρ 17 ≤ 4 := r17
  have r18 : ((-1) : Int) ≤ ρ 18 ∧ ρ 18 ≤ 7 := r18
  have r19 : (3 : Int) ≤ ρ 19 ∧ ρ 19 ≤ 3 := r19
  have r20 : (0 : Int) ≤ ρ 20 ∧ ρ 20 ≤ 4 := r20
  have r21 : ((-1) : Int) ≤ ρ 21 ∧ ρ 21 ≤ 19 := r21
  have r22 : ((-1) : Int) ≤ ρ 22 ∧ ρ 22 ≤ 3 := r22
  have r23 : (0 : Int) ≤ ρ 23 ∧ ρ 23 ≤ 7 := r23
  have r24 : ((-1) : Int) ≤ ρ 24 ∧ ρ 24 ≤ 7 := r24
  have r25 : (0 : Int) ≤ ρ 25 ∧ ρ 25 ≤ 8 := r25
  have r26 : (0 : Int) ≤ ρ 26 ∧ ρ 26 ≤ 4 := r26
  have r27 : ((-1) : Int) ≤ ρ 27 ∧ ρ 27 ≤ 19 := r27
  have r28 : ((-1) : Int) ≤ ρ 28 ∧ ρ 28 ≤ 3 := r28
  have r29 : (0 : Int) ≤ ρ 29 ∧ ρ 29 ≤ 7 := r29
  have r30 : ((-1) : Int) ≤ ρ 30 ∧ ρ 30 ≤ 7 := r30
  have r31 : (0 : Int) ≤ ρ 31 ∧ ρ 31 ≤ 8 := r31
  have r32 : (0 : Int) ≤ ρ 32 ∧ ρ 32 ≤ 4 := r32
  have r33 : ((-1) : Int) ≤ ρ 33 ∧ ρ 33 ≤ 19 := r33
  have r34 : ((-1) : Int) ≤ ρ 34 ∧ ρ 34 ≤ 3 := r34
  have r35 : (0 : Int) ≤ ρ 35 ∧ ρ 35 ≤ 7 := r35
  have r36 : ((-1) : Int) ≤ ρ 36 ∧ ρ 36 ≤ 7 := r36
  have r37 : (0 : Int) ≤ ρ 37 ∧ ρ 37 ≤ 60 := r37
  obtain ⟨f0, -⟩ := hf
  have f0 : (0 : Int) ≤ -ρ 3 + ((-50001) * ρ 1 + ρ 0) + 100002 := f0
  obtain ⟨m0, m1, m2, m3, m4, m5, m6, m7, m8, m9, m10, m11, m12, m13, m14, m15, m16, m17, m18, m19, m20, m21, m22, m23, m24, m25, m26, m27, m28, m29, m30, m31, m32, m33, m34, m35, m36, m37, -⟩ := hm
  have m0 : γ 0 6 0 0 = ρ 0 := m0
  have m1 : γ 0 6 0 9 = ρ 1 := m1
  have m2 : γ 0 6 0 6 = ρ 2 := m2
  have m3 : γ 0 8 (ρ 2) 1 = ρ 3 := m3
  have m4 : γ 0 6 0 7 = ρ 4 := m4
  have m5 : γ 0 1 0 10 = ρ 5 := m5
  have m6 : γ 0 4 0 7 = ρ 6 := m6
  have m7 : γ 0 5 0 3 = ρ 7 := m7
  have m8 : γ 0 6 0 8 = ρ 8 := m8
  have m9 : γ 0 6 0 10 = ρ 9 := m9
  have m10 : γ 0 6 0 11 = ρ 10 := m10
  have m11 : γ 0 6 0 12 = ρ 11 := m11
  have m12 : γ 0 6 0 13 = ρ 12 := m12
  have m13 : γ 0 9 (ρ 4) 2 = ρ 13 := m13
  have m14 : γ 0 9 (ρ 4) 3 = ρ 14 := m14
  have m15 : γ 0 10 (9 * ρ 4) 5 = ρ 15 := m15
  have m16 : γ 0 10 (9 * ρ 4) 8 = ρ 16 := m16
  have m17 : γ 0 10 (9 * ρ 4) 12 = ρ 17 := m17
  have m18 : γ 0 10 (9 * ρ 4) 14 = ρ 18 := m18
  have m19 : γ 0 10 (9 * ρ 4 + 6) 4 = ρ 19 := m19
  have m20 : γ 0 10 (9 * ρ 4 + 6) 5 = ρ 20 := m20
  have m21 : γ 0 10 (9 * ρ 4 + 6) 8 = ρ 21 := m21
  have m22 : γ 0 10 (9 * ρ 4 + 6) 9 = ρ 22 := m22
  have m23 : γ 0 10 (9 * ρ 4 + 6) 10 = ρ 23 := m23
  have m24 : γ 0 10 (9 * ρ 4 + 6) 11 = ρ 24 := m24
  have m25 : γ 0 10 (9 * ρ 4 + 7) 4 = ρ 25 := m25
  have m26 : γ 0 10 (9 * ρ 4 + 7) 5 = ρ 26 := m26
  have m27 : γ 0 10 (9 * ρ 4 + 7) 8 = ρ 27 := m27
  have m28 : γ 0 10 (9 * ρ 4 + 7) 9 = ρ 28 := m28
  have m29 : γ 0 10 (9 * ρ 4 + 7) 10 = ρ 29 := m29
  have m30 : γ 0 10 (9 * ρ 4 + 7) 11 = ρ 30 := m30
  have m31 : γ 0 10 (9 * ρ 4 + 8) 4 = ρ 31 := m31
  have m32 : γ 0 10 (9 * ρ 4 + 8) 5 = ρ 32 := m32
  have m33 : γ 0 10 (9 * ρ 4 + 8) 8 = ρ 33 := m33
  have m34 : γ 0 10 (9 * ρ 4 + 8) 9 = ρ 34 := m34
  have m35 : γ 0 10 (9 * ρ 4 + 8) 10 = ρ 35 := m35
  have m36 : γ 0 10 (9 * ρ 4 + 8) 11 = ρ 36 := m36
  have m37 : γ 0 40 0 (ρ 5) = ρ 37 := m37
  obtain ⟨⟨-, c1⟩, c2⟩ := hc
  have c1 : ∀ (G : Nat) (k j : Int), ¬ rMdP m0_ G j → γ 1 G k j = γ 0 G k j := c1
  have c2 : ∀ (G : Nat) (k j : Int), ¬ rMdP m0_ G j → γ 2 G k j = γ 1 G k j := c2
  obtain ⟨l0, l1, -⟩ := hl
  have l0 : sn132 [ρ 4, 5] (γ 0) 0 (9 * ρ 4 + 6) (γ 1) := hS132 _ _ _ _ _ l0
  have l1 : sn230 [9 * ρ 4 + 6, ρ 19] (γ 1) 0 0 (γ 2) := hS230 _ _ _ _ _ l1
  show sn251 [ρ 0, ρ 1, ρ 2, ρ 3, ρ 4, ρ 5, ρ 6, ρ 7, ρ 8, ρ 9, ρ 10, ρ 11, ρ 12, ρ 13, ρ 14, ρ 15, ρ 16, ρ 17, ρ 18, ρ 19, ρ 20, ρ 21, ρ 22, ρ 23, ρ 24, ρ 25, ρ 26, ρ 27, ρ 28, ρ 29, ρ 30, ρ 31, ρ 32, ρ 33, ρ 34, ρ 35, ρ 36] (γ 0) 0 0 (γ 2)
  refine Eq.symm ?_
  show fn251 [] (γ 0) = _
  unfold fn251
  refine (zLet_eq m4).trans ?_
  refine (zLet_eq m13).trans ?_
  refine (zLet_eq m19).trans ?_
  refine (if_neg (show ¬ (5 ≥ ρ 13) by omega)).trans ?_
  refine (zLet_eq (show fn132 [ρ 4, 5] (γ 0) = (0, 9 * ρ 4 + 6, γ 1) from l0.symm)).trans ?_
  refine (zLet_eq (show _ = γ 1 from rfl)).trans ?_
  refine (if_pos (show ρ 19 ≠ 1 by omega)).trans ?_
  refine (if_pos (show 0 ≤ -ρ 19 + 3 by omega)).trans ?_
  refine (if_pos (show ρ 19 ≠ 2 by omega)).trans ?_
  refine (zLet_eq (show fn230 [9 * ρ 4 + 6] (γ 1) = (0, 0, γ 2) from l1.symm)).trans ?_
  refine (zLet_eq (show _ = γ 2 from rfl)).trans ?_
  refine (if_neg (show ¬ ((1 : Int) ≤ 0) by omega)).trans ?_
  rfl
theorem vn251_3 {S : Nat → zSpc} (hS132 : ∀ x g o v gz, S 132 x g o v gz → sn132 x g o v gz) (hS228 : ∀ x g o v gz, S 228 x g o v gz → sn228 x g o v gz) (hS229 : ∀ x g o v gz, S 229 x g o v gz → sn229 x g o v gz) (hS230 : ∀ x g o v gz, S 230 x g o v gz → sn230 x g o v gz) (hS231 : ∀ x g o v gz, S 231 x g o v gz → sn231 x g o v gz) (hS244 : ∀ x g o v gz, S 244 x g o v gz → sn244 x g o v gz) (hS249 : ∀ x g o v gz, S 249 x g o v gz → sn249 x g o v gz) (hS250 : ∀ x g o v gz, S 250 x g o v gz → sn250 x g o v gz) {a : List Int} {g : rHp} : ∀ (ρ : Nat → Int) (γ : Nat → rHp), zO 37 S a g q251_3 ρ γ → zGl (fun _ _ _ => True) (sn251 a g) q251_3 ρ γ := by
  intro ρ γ h
  obtain ⟨ha, hg, hr, hf, hm, hc, hl⟩ := h
  have ha : a = [ρ 0, ρ 1, ρ 2, ρ 3, ρ 4, ρ 5, ρ 6, ρ 7, ρ 8, ρ 9, ρ 10, ρ 11, ρ 12, ρ 13, ρ 14, ρ 15, ρ 16, ρ 17, ρ 18, ρ 19, ρ 20, ρ 21, ρ 22, ρ 23, ρ 24, ρ 25, ρ 26, ρ 27, ρ 28, ρ 29, ρ 30, ρ 31, ρ 32, ρ 33, ρ 34, ρ 35, ρ 36] := ha
  subst ha
  subst hg
  obtain ⟨r0, r1, r2, r3, r4, r5, r6, r7, r8, r9, r10, r11, r12, r13, r14, r15, r16, r17, r18, r19, r20, r21, r22, r23, r24, r25, r26, r27, r28, r29, r30, r31, r32, r33, r34, r35, r36, r37, r38, r39, r40, r41, r42, -⟩ := hr
  have r0 : (0 : Int) ≤ ρ 0 ∧ ρ 0 ≤ 50000 := r0
  have r1 : (0 : Int) ≤ ρ 1 ∧ ρ 1 ≤ 2 := r1
  have r2 : (0 : Int) ≤ ρ 2 ∧ ρ 2 ≤ 2 := r2
  have r3 : (0 : Int) ≤ ρ 3 ∧ ρ 3 ≤ 50001 := r3
  have r4 : (0 : Int) ≤ ρ 4 ∧ ρ 4 ≤ 62 := r4
  have r5 : (0 : Int) ≤ ρ 5 ∧ ρ 5 ≤ 60 := r5
  have r6 : (0 : Int) ≤ ρ 6 ∧ ρ 6 ≤ 2000 := r6
  have r7 : (0 : Int) ≤ ρ 7 ∧ ρ 7 ≤ 2000 := r7
  have r8 : ((-2147483648) : Int) ≤ ρ 8 ∧ ρ 8 ≤ 2147483647 := r8
  have r9 : ((-2147483648) : Int) ≤ ρ 9 ∧ ρ 9 ≤ 2147483647 := r9
  have r10 : (0 : Int) ≤ ρ 10 ∧ ρ 10 ≤ 2000 := r10
  have r11 : (0 : Int) ≤ ρ 11 ∧ ρ 11 ≤ 2000 := r11
  have r12 : ((-2147483648) : Int) ≤ ρ 12 ∧ ρ 12 ≤ 2147483647 := r12
  have r13 : (6 : Int) ≤ ρ 13 ∧ ρ 13 ≤ 8 := r13
  have r14 : (0 : Int) ≤ ρ 14 ∧ ρ 14 ≤ 8 := r14
  have r15 : (0 : Int) ≤ ρ 15 ∧ ρ 15 ≤ 4 := r15
  have r16 : ((-1) : Int) ≤ ρ 16 ∧ ρ 16 ≤ 19 := r16
  have r17 : (0 : Int) ≤ ρ 17 ∧ ρ 17 ≤ 4 := r17
  have r18 : ((-1) : Int) ≤ ρ 18 ∧ ρ 18 ≤ 7 := r18
  have r19 : (3 : Int) ≤ ρ 19 ∧ ρ 19 ≤ 3 := r19
  have r20 : (0 : Int) ≤ ρ 20 ∧ ρ 20 ≤ 4 := r20
  have r21 : ((-1) : Int) ≤ ρ 21 ∧ ρ 21 ≤ 19 := r21
  have r22 : ((-1) : Int) ≤ ρ 22 ∧ ρ 22 ≤ 3 := r22
  have r23 : (0 : Int) ≤ ρ 23 ∧ ρ 23 ≤ 7 := r23
  have r24 : ((-1) : Int) ≤ ρ 24 ∧ ρ 24 ≤ 7 := r24
  have r25 : (0 : Int) ≤ ρ 25 ∧ ρ 25 ≤ 8 := r25
  have r26 : (0 : Int) ≤ ρ 26 ∧ ρ 26 ≤ 4 := r26
  have r27 : ((-1) : Int) ≤ ρ 27 ∧ ρ 27 ≤ 19 := r27
  have r28 : ((-1) : Int) ≤ ρ 28 ∧ ρ 28 ≤ 3 := r28
  have r29 : (0 : Int) ≤ ρ 29 ∧ ρ 29 ≤ 7 := r29
  have r30 : ((-1) : Int) ≤ ρ 30 ∧ ρ 30 ≤ 7 := r30
  have r31 : (0 : Int) ≤ ρ 31 ∧ ρ 31 ≤ 8 := r31
  have r32 : (0 : Int) ≤ ρ 32 ∧ ρ 32 ≤ 4 := r32
  have r33 : ((-1) : Int) ≤ ρ 33 ∧ ρ 33 ≤ 19 := r33
  have r34 : ((-1) : Int) ≤ ρ 34 ∧ ρ 34 ≤ 3 := r34
  have r35 : (0 : Int) ≤ ρ 35 ∧ ρ 35 ≤ 7 := r35
  have r36 : ((-1) : Int) ≤ ρ 36 ∧ ρ 36 ≤ 7 := r36
  have r37 : (0 : Int) ≤ ρ 37 ∧ ρ 37 ≤ 60 := r37
  have r38 : (0 : Int) ≤ ρ 38 ∧ ρ 38 ≤ 50000 := r38
  have r39 : (0 : Int) ≤ ρ 39 ∧ ρ 39 ≤ 50001 := r39
  have r40 : (0 : Int) ≤ ρ 40 ∧ ρ 40 ≤ 2000 := r40
  have r41 : (0 : Int) ≤ ρ 41 ∧ ρ 41 ≤ 2000 := r41
  have r42 : ((-2147483648) : Int) ≤ ρ 42 ∧ ρ 42 ≤ 2147483647 := r42
  obtain ⟨f0, f1, f2, f3, f4, f5, -⟩ := hf
  have f0 : (0 : Int) ≤ -ρ 3 + ((-50001) * ρ 1 + ρ 0) + 100002 := f0
  have f1 : (0 : Int) ≤ ρ 38 + -ρ 0 := f1
  have f2 : (0 : Int) ≤ ρ 39 + -ρ 3 := f2
  have f3 : (0 : Int) ≤ ρ 40 + -ρ 6 := f3
  have f4 : (0 : Int) ≤ ρ 41 + -ρ 7 := f4
  have f5 : (0 : Int) ≤ -ρ 39 + (ρ 38 + (ρ 3 + -ρ 0)) + 1 := f5
  obtain ⟨m0, m1, m2, m3, m4, m5, m6, m7, m8, m9, m10, m11, m12, m13, m14, m15, m16, m17, m18, m19, m20, m21, m22, m23, m24, m25, m26, m27, m28, m29, m30, m31, m32, m33, m34, m35, m36, m37, m38, m39, m40, m41, m42, -⟩ := hm
  have m0 : γ 0 6 0 0 = ρ 0 := m0
  have m1 : γ 0 6 0 9 = ρ 1 := m1
  have m2 : γ 0 6 0 6 = ρ 2 := m2
  have m3 : γ 0 8 (ρ 2) 1 = ρ 3 := m3
  have m4 : γ 0 6 0 7 = ρ 4 := m4
  have m5 : γ 0 1 0 10 = ρ 5 := m5
  have m6 : γ 0 4 0 7 = ρ 6 := m6
  have m7 : γ 0 5 0 3 = ρ 7 := m7
  have m8 : γ 0 6 0 8 = ρ 8 := m8
  have m9 : γ 0 6 0 10 = ρ 9 := m9
  have m10 : γ 0 6 0 11 = ρ 10 := m10
  have m11 : γ 0 6 0 12 = ρ 11 := m11
  have m12 : γ 0 6 0 13 = ρ 12 := m12
  have m13 : γ 0 9 (ρ 4) 2 = ρ 13 := m13
  have m14 : γ 0 9 (ρ 4) 3 = ρ 14 := m14
  have m15 : γ 0 10 (9 * ρ 4) 5 = ρ 15 := m15
  have m16 : γ 0 10 (9 * ρ 4) 8 = ρ 16 := m16
  have m17 : γ 0 10 (9 * ρ 4) 12 = ρ 17 := m17
  have m18 : γ 0 10 (9 * ρ 4) 14 = ρ 18 := m18
  have m19 : γ 0 10 (9 * ρ 4 + 6) 4 = ρ 19 := m19
  have m20 : γ 0 10 (9 * ρ 4 + 6) 5 = ρ 20 := m20
  have m21 : γ 0 10 (9 * ρ 4 + 6) 8 = ρ 21 := m21
  have m22 : γ 0 10 (9 * ρ 4 + 6) 9 = ρ 22 := m22
  have m23 : γ 0 10 (9 * ρ 4 + 6) 10 = ρ 23 := m23
  have m24 : γ 0 10 (9 * ρ 4 + 6) 11 = ρ 24 := m24
  have m25 : γ 0 10 (9 * ρ 4 + 7) 4 = ρ 25 := m25
  have m26 : γ 0 10 (9 * ρ 4 + 7) 5 = ρ 26 := m26
  have m27 : γ 0 10 (9 * ρ 4 + 7) 8 = ρ 27 := m27
  have m28 : γ 0 10 (9 * ρ 4 + 7) 9 = ρ 28 := m28
  have m29 : γ 0 10 (9 * ρ 4 + 7) 10 = ρ 29 := m29
  have m30 : γ 0 10 (9 * ρ 4 + 7) 11 = ρ 30 := m30
  have m31 : γ 0 10 (9 * ρ 4 + 8) 4 = ρ 31 := m31
  have m32 : γ 0 10 (9 * ρ 4 + 8) 5 = ρ 32 := m32
  have m33 : γ 0 10 (9 * ρ 4 + 8) 8 = ρ 33 := m33
  have m34 : γ 0 10 (9 * ρ 4 + 8) 9 = ρ 34 := m34
  have m35 : γ 0 10 (9 * ρ 4 + 8) 10 = ρ 35 := m35
  have m36 : γ 0 10 (9 * ρ 4 + 8) 11 = ρ 36 := m36
  have m37 : γ 0 40 0 (ρ 5) = ρ 37 := m37
  have m38 : γ 3 6 0 0 = ρ 38 := m38
  have m39 : γ 3 8 (ρ 2) 1 = ρ 39 := m39
  have m40 : γ 3 4 0 7 = ρ 40 := m40
  have m41 : γ 3 5 0 3 = ρ 41 := m41
  have m42 : γ 3 6 0 13 = ρ 42 := m42
  obtain ⟨⟨⟨-, c1⟩, c2⟩, c3⟩ := hc
  have c1 : ∀ (G : Nat) (k j : Int), ¬ rMdP m0_ G j → γ 1 G k j = γ 0 G k j := c1
  have c2 : ∀ (G : Nat) (k j : Int), ¬ rMdP m0_ G j → γ 2 G k j = γ 1 G k j := c2
  have c3 : ∀ (G : Nat) (k j : Int), ¬ rMdP m140_ G j → γ 3 G k j = γ 2 G k j := c3
  obtain ⟨l0, l1, l2, -⟩ := hl
  have l0 : sn132 [ρ 4, 5] (γ 0) 0 (9 * ρ 4 + 6) (γ 1) := hS132 _ _ _ _ _ l0
  have l1 : sn230 [9 * ρ 4 + 6, ρ 19] (γ 1) 0 1 (γ 2) := hS230 _ _ _ _ _ l1
  have l2 : sn249 [ρ 0, ρ 1, ρ 2, ρ 3, ρ 4, ρ 5, ρ 6, ρ 7, ρ 8, ρ 9, ρ 10, ρ 11, ρ 12, ρ 13, ρ 14, ρ 15, ρ 16, ρ 17, ρ 18, ρ 25, ρ 26, ρ 27, ρ 28, ρ 29, ρ 30, ρ 31, ρ 32, ρ 33, ρ 34, ρ 35, ρ 36] (γ 2) 0 0 (γ 3) := hS249 _ _ _ _ _ l2
  show sn251 [ρ 0, ρ 1, ρ 2, ρ 3, ρ 4, ρ 5, ρ 6, ρ 7, ρ 8, ρ 9, ρ 10, ρ 11, ρ 12, ρ 13, ρ 14, ρ 15, ρ 16, ρ 17, ρ 18, ρ 19, ρ 20, ρ 21, ρ 22, ρ 23, ρ 24, ρ 25, ρ 26, ρ 27, ρ 28, ρ 29, ρ 30, ρ 31, ρ 32, ρ 33, ρ 34, ρ 35, ρ 36] (γ 0) 0 0 (γ 3)
  refine Eq.symm ?_
  show fn251 [] (γ 0) = _
  unfold fn251
  refine (zLet_eq m4).trans ?_
  refine (zLet_eq m13).trans ?_
  refine (zLet_eq m19).trans ?_
  refine (if_neg (show ¬ (5 ≥ ρ 13) by omega)).trans ?_
  refine (zLet_eq (show fn132 [ρ 4, 5] (γ 0) = (0, 9 * ρ 4 + 6, γ 1) from l0.symm)).trans ?_
  refine (zLet_eq (show _ = γ 1 from rfl)).trans ?_
  refine (if_pos (show ρ 19 ≠ 1 by omega)).trans ?_
  refine (if_pos (show 0 ≤ -ρ 19 + 3 by omega)).trans ?_
  refine (if_pos (show ρ 19 ≠ 2 by omega)).trans ?_
  refine (zLet_eq (show fn230 [9 * ρ 4 + 6] (γ 1) = (0, 1, γ 2) from l1.symm)).trans ?_
  refine (zLet_eq (show _ = γ 2 from rfl)).trans ?_
  refine (if_pos (show (1 : Int) ≤ 1 by omega)).trans ?_
  refine (zLet_eq (show fn249 [] (γ 2) = (0, 0, γ 3) from l2.symm)).trans ?_
  refine (zLet_eq (show _ = γ 3 from rfl)).trans ?_
  refine (if_pos (show (0 : Nat) = 0 by decide)).trans ?_
  rfl
theorem vn251_4 {S : Nat → zSpc} (hS132 : ∀ x g o v gz, S 132 x g o v gz → sn132 x g o v gz) (hS228 : ∀ x g o v gz, S 228 x g o v gz → sn228 x g o v gz) (hS229 : ∀ x g o v gz, S 229 x g o v gz → sn229 x g o v gz) (hS230 : ∀ x g o v gz, S 230 x g o v gz → sn230 x g o v gz) (hS231 : ∀ x g o v gz, S 231 x g o v gz → sn231 x g o v gz) (hS244 : ∀ x g o v gz, S 244 x g o v gz → sn244 x g o v gz) (hS249 : ∀ x g o v gz, S 249 x g o v gz → sn249 x g o v gz) (hS250 : ∀ x g o v gz, S 250 x g o v gz → sn250 x g o v gz) {a : List Int} {g : rHp} : ∀ (ρ : Nat → Int) (γ : Nat → rHp), zO 37 S a g q251_4 ρ γ → zGl (fun _ _ _ => True) (sn251 a g) q251_4 ρ γ := by
  intro ρ γ h
  obtain ⟨ha, hg, hr, hf, hm, hc, hl⟩ := h
  have ha : a = [ρ 0, ρ 1, ρ 2, ρ 3, ρ 4, ρ 5, ρ 6, ρ 7, ρ 8, ρ 9, ρ 10, ρ 11, ρ 12, ρ 13, ρ 14, ρ 15, ρ 16, ρ 17, ρ 18, ρ 19, ρ 20, ρ 21, ρ 22, ρ 23, ρ 24, ρ 25, ρ 26, ρ 27, ρ 28, ρ 29, ρ 30, ρ 31, ρ 32, ρ 33, ρ 34, ρ 35, ρ 36] := ha
  subst ha
  subst hg
  obtain ⟨r0, r1, r2, r3, r4, r5, r6, r7, r8, r9, r10, r11, r12, r13, r14, r15, r16, r17, r18, r19, r20, r21, r22, r23, r24, r25, r26, r27, r28, r29, r30, r31, r32, r33, r34, r35, r36, r37, r38, r39, r40, r41, r42, -⟩ := hr
  have r0 : (0 : Int) ≤ ρ 0 ∧ ρ 0 ≤ 50000 := r0
  have r1 : (0 : Int) ≤ ρ 1 ∧ ρ 1 ≤ 1 := r1
  have r2 : (0 : Int) ≤ ρ 2 ∧ ρ 2 ≤ 2 := r2
  have r3 : (0 : Int) ≤ ρ 3 ∧ ρ 3 ≤ 50001 := r3
  have r4 : (0 : Int) ≤ ρ 4 ∧ ρ 4 ≤ 62 := r4
  have r5 : (0 : Int) ≤ ρ 5 ∧ ρ 5 ≤ 60 := r5
  have r6 : (0 : Int) ≤ ρ 6 ∧ ρ 6 ≤ 2000 := r6
  have r7 : (0 : Int) ≤ ρ 7 ∧ ρ 7 ≤ 2000 := r7
  have r8 : ((-2147483648) : Int) ≤ ρ 8 ∧ ρ 8 ≤ 2147483647 := r8
  have r9 : ((-2147483648) : Int) ≤ ρ 9 ∧ ρ 9 ≤ 2147483647 := r9
  have r10 : (0 : Int) ≤ ρ 10 ∧ ρ 10 ≤ 2000 := r10
  have r11 : (0 : Int) ≤ ρ 11 ∧ ρ 11 ≤ 2000 := r11
  have r12 : ((-2147483648) : Int) ≤ ρ 12 ∧ ρ 12 ≤ 2147483647 := r12
  have r13 : (6 : Int) ≤ ρ 13 ∧ ρ 13 ≤ 8 := r13
  have r14 : (0 : Int) ≤ ρ 14 ∧ ρ 14 ≤ 8 := r14
  have r15 : (0 : Int) ≤ ρ 15 ∧ ρ 15 ≤ 4 := r15
  have r16 : ((-1) : Int) ≤ ρ 16 ∧ ρ 16 ≤ 19 := r16
  have r17 : (0 : Int) ≤ ρ 17 ∧ ρ 17 ≤ 4 := r17
  have r18 : ((-1) : Int) ≤ ρ 18 ∧ ρ 18 ≤ 7 := r18
  have r19 : (3 : Int) ≤ ρ 19 ∧ ρ 19 ≤ 3 := r19
  have r20 : (0 : Int) ≤ ρ 20 ∧ ρ 20 ≤ 4 := r20
  have r21 : ((-1) : Int) ≤ ρ 21 ∧ ρ 21 ≤ 19 := r21
  have r22 : ((-1) : Int) ≤ ρ 22 ∧ ρ 22 ≤ 3 := r22
  have r23 : (0 : Int) ≤ ρ 23 ∧ ρ 23 ≤ 7 := r23
  have r24 : ((-1) : Int) ≤ ρ 24 ∧ ρ 24 ≤ 7 := r24
  have r25 : (0 : Int) ≤ ρ 25 ∧ ρ 25 ≤ 8 := r25
  have r26 : (0 : Int) ≤ ρ 26 ∧ ρ 26 ≤ 4 := r26
  have r27 : ((-1) : Int) ≤ ρ 27 ∧ ρ 27 ≤ 19 := r27
  have r28 : ((-1) : Int) ≤ ρ 28 ∧ ρ 28 ≤ 3 := r28
  have r29 : (0 : Int) ≤ ρ 29 ∧ ρ 29 ≤ 7 := r29
  have r30 : ((-1) : Int) ≤ ρ 30 ∧ ρ 30 ≤ 7 := r30
  have r31 : (0 : Int) ≤ ρ 31 ∧ ρ 31 ≤ 8 := r31
  have r32 : (0 : Int) ≤ ρ 32 ∧ ρ 32 ≤ 4 := r32
  have r33 : ((-1) : Int) ≤ ρ 33 ∧ ρ 33 ≤ 19 := r33
  have r34 : ((-1) : Int) ≤ ρ 34 ∧ ρ 34 ≤ 3 := r34
  have r35 : (0 : Int) ≤ ρ 35 ∧ ρ 35 ≤ 7 := r35
  have r36 : ((-1) : Int) ≤ ρ 36 ∧ ρ 36 ≤ 7 := r36
  have r37 : (0 : Int) ≤ ρ 37 ∧ ρ 37 ≤ 60 := r37
  have r38 : (0 : Int) ≤ ρ 38 ∧ ρ 38 ≤ 50000 := r38
  have r39 : (0 : Int) ≤ ρ 39 ∧ ρ 39 ≤ 50001 := r39
  have r40 : (0 : Int) ≤ ρ 40 ∧ ρ 40 ≤ 2000 := r40
  have r41 : (0 : Int) ≤ ρ 41 ∧ ρ 41 ≤ 2000 := r41
  have r42 : ((-2147483648) : Int) ≤ ρ 42 ∧ ρ 42 ≤ 2147483647 := r42
  obtain ⟨f0, f1, f2, f3, f4, f5, -⟩ := hf
  have f0 : (0 : Int) ≤ ρ 38 + -ρ 0 := f0
  have f1 : (0 : Int) ≤ ρ 39 + -ρ 3 := f1
  have f2 : (0 : Int) ≤ ρ 40 + -ρ 6 := f2
  have f3 : (0 : Int) ≤ ρ 41 + -ρ 7 := f3
  have f4 : (0 : Int) ≤ -ρ 39 + (ρ 38 + (ρ 3 + -ρ 0)) + 1 := f4
  have f5 : (0 : Int) ≤ -ρ 3 + ((-50001) * ρ 1 + ρ 0) + 100002 := f5
  obtain ⟨m0, m1, m2, m3, m4, m5, m6, m7, m8, m9, m10, m11, m12, m13, m14, m15, m16, m17, m18, m19, m20, m21, m22, m23, m24, m25, m26, m27, m28, m29, m30, m31, m32, m33, m34, m35, m36, m37, m38, m39, m40, m41, m42, -⟩ := hm
  have m0 : γ 0 6 0 0 = ρ 0 := m0
  have m1 : γ 0 6 0 9 = ρ 1 := m1
  have m2 : γ 0 6 0 6 = ρ 2 := m2
  have m3 : γ 0 8 (ρ 2) 1 = ρ 3 := m3
  have m4 : γ 0 6 0 7 = ρ 4 := m4
  have m5 : γ 0 1 0 10 = ρ 5 := m5
  have m6 : γ 0 4 0 7 = ρ 6 := m6
  have m7 : γ 0 5 0 3 = ρ 7 := m7
  have m8 : γ 0 6 0 8 = ρ 8 := m8
  have m9 : γ 0 6 0 10 = ρ 9 := m9
  have m10 : γ 0 6 0 11 = ρ 10 := m10
  have m11 : γ 0 6 0 12 = ρ 11 := m11
  have m12 : γ 0 6 0 13 = ρ 12 := m12
  have m13 : γ 0 9 (ρ 4) 2 = ρ 13 := m13
  have m14 : γ 0 9 (ρ 4) 3 = ρ 14 := m14
  have m15 : γ 0 10 (9 * ρ 4) 5 = ρ 15 := m15
  have m16 : γ 0 10 (9 * ρ 4) 8 = ρ 16 := m16
  have m17 : γ 0 10 (9 * ρ 4) 12 = ρ 17 := m17
  have m18 : γ 0 10 (9 * ρ 4) 14 = ρ 18 := m18
  have m19 : γ 0 10 (9 * ρ 4 + 6) 4 = ρ 19 := m19
  have m20 : γ 0 10 (9 * ρ 4 + 6) 5 = ρ 20 := m20
  have m21 : γ 0 10 (9 * ρ 4 + 6) 8 = ρ 21 := m21
  have m22 : γ 0 10 (9 * ρ 4 + 6) 9 = ρ 22 := m22
  have m23 : γ 0 10 (9 * ρ 4 + 6) 10 = ρ 23 := m23
  have m24 : γ 0 10 (9 * ρ 4 + 6) 11 = ρ 24 := m24
  have m25 : γ 0 10 (9 * ρ 4 + 7) 4 = ρ 25 := m25
  have m26 : γ 0 10 (9 * ρ 4 + 7) 5 = ρ 26 := m26
  have m27 : γ 0 10 (9 * ρ 4 + 7) 8 = ρ 27 := m27
  have m28 : γ 0 10 (9 * ρ 4 + 7) 9 = ρ 28 := m28
  have m29 : γ 0 10 (9 * ρ 4 + 7) 10 = ρ 29 := m29
  have m30 : γ 0 10 (9 * ρ 4 + 7) 11 = ρ 30 := m30
  have m31 : γ 0 10 (9 * ρ 4 + 8) 4 = ρ 31 := m31
  have m32 : γ 0 10 (9 * ρ 4 + 8) 5 = ρ 32 := m32
  have m33 : γ 0 10 (9 * ρ 4 + 8) 8 = ρ 33 := m33
  have m34 : γ 0 10 (9 * ρ 4 + 8) 9 = ρ 34 := m34
  have m35 : γ 0 10 (9 * ρ 4 + 8) 10 = ρ 35 := m35
  have m36 : γ 0 10 (9 * ρ 4 + 8) 11 = ρ 36 := m36
  have m37 : γ 0 40 0 (ρ 5) = ρ 37 := m37
  have m38 : γ 3 6 0 0 = ρ 38 := m38
  have m39 : γ 3 8 (ρ 2) 1 = ρ 39 := m39
  have m40 : γ 3 4 0 7 = ρ 40 := m40
  have m41 : γ 3 5 0 3 = ρ 41 := m41
  have m42 : γ 3 6 0 13 = ρ 42 := m42
  obtain ⟨⟨⟨-, c1⟩, c2⟩, c3⟩ := hc
  have c1 : ∀ (G : Nat) (k j : Int), ¬ rMdP m0_ G j → γ 1 G k j = γ 0 G k j := c1
  have c2 : ∀ (G : Nat) (k j : Int), ¬ rMdP m0_ G j → γ 2 G k j = γ 1 G k j := c2
  have c3 : ∀ (G : Nat) (k j : Int), ¬ rMdP m140_ G j → γ 3 G k j = γ 2 G k j := c3
  obtain ⟨l0, l1, l2, -⟩ := hl
  have l0 : sn132 [ρ 4, 5] (γ 0) 0 (9 * ρ 4 + 6) (γ 1) := hS132 _ _ _ _ _ l0
  have l1 : sn230 [9 * ρ 4 + 6, ρ 19] (γ 1) 0 1 (γ 2) := hS230 _ _ _ _ _ l1
  have l2 : sn249 [ρ 0, ρ 1, ρ 2, ρ 3, ρ 4, ρ 5, ρ 6, ρ 7, ρ 8, ρ 9, ρ 10, ρ 11, ρ 12, ρ 13, ρ 14, ρ 15, ρ 16, ρ 17, ρ 18, ρ 25, ρ 26, ρ 27, ρ 28, ρ 29, ρ 30, ρ 31, ρ 32, ρ 33, ρ 34, ρ 35, ρ 36] (γ 2) 1 0 (γ 3) := hS249 _ _ _ _ _ l2
  show sn251 [ρ 0, ρ 1, ρ 2, ρ 3, ρ 4, ρ 5, ρ 6, ρ 7, ρ 8, ρ 9, ρ 10, ρ 11, ρ 12, ρ 13, ρ 14, ρ 15, ρ 16, ρ 17, ρ 18, ρ 19, ρ 20, ρ 21, ρ 22, ρ 23, ρ 24, ρ 25, ρ 26, ρ 27, ρ 28, ρ 29, ρ 30, ρ 31, ρ 32, ρ 33, ρ 34, ρ 35, ρ 36] (γ 0) 1 0 (γ 3)
  refine Eq.symm ?_
  show fn251 [] (γ 0) = _
  unfold fn251
  refine (zLet_eq m4).trans ?_
  refine (zLet_eq m13).trans ?_
  refine (zLet_eq m19).trans ?_
  refine (if_neg (show ¬ (5 ≥ ρ 13) by omega)).trans ?_
  refine (zLet_eq (show fn132 [ρ 4, 5] (γ 0) = (0, 9 * ρ 4 + 6, γ 1) from l0.symm)).trans ?_
  refine (zLet_eq (show _ = γ 1 from rfl)).trans ?_
  refine (if_pos (show ρ 19 ≠ 1 by omega)).trans ?_
  refine (if_pos (show 0 ≤ -ρ 19 + 3 by omega)).trans ?_
  refine (if_pos (show ρ 19 ≠ 2 by omega)).trans ?_
  refine (zLet_eq (show fn230 [9 * ρ 4 + 6] (γ 1) = (0, 1, γ 2) from l1.symm)).trans ?_
  refine (zLet_eq (show _ = γ 2 from rfl)).trans ?_
  refine (if_pos (show (1 : Int) ≤ 1 by omega)).trans ?_
  refine (zLet_eq (show fn249 [] (γ 2) = (1, 0, γ 3) from l2.symm)).trans ?_
  refine (zLet_eq (show _ = γ 3 from rfl)).trans ?_
  refine (if_neg (show ¬ (1 : Nat) = 0 by decide)).trans ?_
  refine (if_pos (show (1 : Nat) = 1 by decide)).trans ?_
  rfl
theorem vn251_5 {S : Nat → zSpc} (hS132 : ∀ x g o v gz, S 132 x g o v gz → sn132 x g o v gz) (hS228 : ∀ x g o v gz, S 228 x g o v gz → sn228 x g o v gz) (hS229 : ∀ x g o v gz, S 229 x g o v gz → sn229 x g o v gz) (hS230 : ∀ x g o v gz, S 230 x g o v gz → sn230 x g o v gz) (hS231 : ∀ x g o v gz, S 231 x g o v gz → sn231 x g o v gz) (hS244 : ∀ x g o v gz, S 244 x g o v gz → sn244 x g o v gz) (hS249 : ∀ x g o v gz, S 249 x g o v gz → sn249 x g o v gz) (hS250 : ∀ x g o v gz, S 250 x g o v gz → sn250 x g o v gz) {a : List Int} {g : rHp} : ∀ (ρ : Nat → Int) (γ : Nat → rHp), zO 37 S a g q251_5 ρ γ → zGl (fun _ _ _ => True) (sn251 a g) q251_5 ρ γ := by
  intro ρ γ h
  obtain ⟨ha, hg, hr, hf, hm, hc, hl⟩ := h
  have ha : a = [ρ 0, ρ 1, ρ 2, ρ 3, ρ 4, ρ 5, ρ 6, ρ 7, ρ 8, ρ 9, ρ 10, ρ 11, ρ 12, ρ 13, ρ 14, ρ 15, ρ 16, ρ 17, ρ 18, ρ 19, ρ 20, ρ 21, ρ 22, ρ 23, ρ 24, ρ 25, ρ 26, ρ 27, ρ 28, ρ 29, ρ 30, ρ 31, ρ 32, ρ 33, ρ 34, ρ 35, ρ 36] := ha
  subst ha
  subst hg
  obtain ⟨r0, r1, r2, r3, r4, r5, r6, r7, r8, r9, r10, r11, r12, r13, r14, r15, r16, r17, r18, r19, r20, r21, r22, r23, r24, r25, r26, r27, r28, r29, r30, r31, r32, r33, r34, r35, r36, r37, r38, r39, r40, r41, r42, -⟩ := hr
  have r0 : (0 : Int) ≤ ρ 0 ∧ ρ 0 ≤ 50000 := r0
  have r1 : (0 : Int) ≤ ρ 1 ∧ ρ 1 ≤ 2 := r1
  have r2 : (0 : Int) ≤ ρ 2 ∧ ρ 2 ≤ 2 := r2
  have r3 : (0 : Int) ≤ ρ 3 ∧ ρ 3 ≤ 50001 := r3
  have r4 : (0 : Int) ≤ ρ 4 ∧ ρ 4 ≤ 62 := r4
  have r5 : (0 : Int) ≤ ρ 5 ∧ ρ 5 ≤ 60 := r5
  have r6 : (0 : Int) ≤ ρ 6 ∧ ρ 6 ≤ 2000 := r6
  have r7 : (0 : Int) ≤ ρ 7 ∧ ρ 7 ≤ 2000 := r7
  have r8 : ((-2147483648) : Int) ≤ ρ 8 ∧ ρ 8 ≤ 2147483647 := r8
  have r9 : ((-2147483648) : Int) ≤ ρ 9 ∧ ρ 9 ≤ 2147483647 := r9
  have r10 : (0 : Int) ≤ ρ 10 ∧ ρ 10 ≤ 2000 := r10
  have r11 : (0 : Int) ≤ ρ 11 ∧ ρ 11 ≤ 2000 := r11
  have r12 : ((-2147483648) : Int) ≤ ρ 12 ∧ ρ 12 ≤ 2147483647 := r12
  have r13 : (7 : Int) ≤ ρ 13 ∧ ρ 13 ≤ 8 := r13
  have r14 : (0 : Int) ≤ ρ 14 ∧ ρ 14 ≤ 8 := r14
  have r15 : (0 : Int) ≤ ρ 15 ∧ ρ 15 ≤ 4 := r15
  have r16 : ((-1) : Int) ≤ ρ 16 ∧ ρ 16 ≤ 19 := r16
  have r17 : (0 : Int) ≤ ρ 17 ∧ ρ 17 ≤ 4 := r17
  have r18 : ((-1) : Int) ≤ ρ 18 ∧ ρ 18 ≤ 7 := r18
  have r19 : (3 : Int) ≤ ρ 19 ∧ ρ 19 ≤ 3 := r19
  have r20 : (0 : Int) ≤ ρ 20 ∧ ρ 20 ≤ 4 := r20
  have r21 : ((-1) : Int) ≤ ρ 21 ∧ ρ 21 ≤ 19 := r21
  have r22 : ((-1) : Int) ≤ ρ 22 ∧ ρ 22 ≤ 3 := r22
  have r23 : (0 : Int) ≤ ρ 23 ∧ ρ 23 ≤ 7 := r23
  have r24 : ((-1) : Int) ≤ ρ 24 ∧ ρ 24 ≤ 7 := r24
  have r25 : (1 : Int) ≤ ρ 25 ∧ ρ 25 ≤ 8 := r25
  have r26 : (0 : Int) ≤ ρ 26 ∧ ρ 26 ≤ 4 := r26
  have r27 : ((-1) : Int) ≤ ρ 27 ∧ ρ 27 ≤ 19 := r27
  have r28 : ((-1) : Int) ≤ ρ 28 ∧ ρ 28 ≤ 3 := r28
  have r29 : (0 : Int) ≤ ρ 29 ∧ ρ 29 ≤ 7 := r29
  have r30 : ((-1) : Int) ≤ ρ 30 ∧ ρ 30 ≤ 7 := r30
  have r31 : (0 : Int) ≤ ρ 31 ∧ ρ 31 ≤ 8 := r31
  have r32 : (0 : Int) ≤ ρ 32 ∧ ρ 32 ≤ 4 := r32
  have r33 : ((-1) : Int) ≤ ρ 33 ∧ ρ 33 ≤ 19 := r33
  have r34 : ((-1) : Int) ≤ ρ 34 ∧ ρ 34 ≤ 3 := r34
  have r35 : (0 : Int) ≤ ρ 35 ∧ ρ 35 ≤ 7 := r35
  have r36 : ((-1) : Int) ≤ ρ 36 ∧ ρ 36 ≤ 7 := r36
  have r37 : (0 : Int) ≤ ρ 37 ∧ ρ 37 ≤ 60 := r37
  have r38 : (50001 : Int) ≤ ρ 38 ∧ ρ 38 ≤ 50001 := r38
  have r39 : (0 : Int) ≤ ρ 39 ∧ ρ 39 ≤ 50001 := r39
  have r40 : (0 : Int) ≤ ρ 40 ∧ ρ 40 ≤ 2000 := r40
  have r41 : (0 : Int) ≤ ρ 41 ∧ ρ 41 ≤ 2000 := r41
  have r42 : ((-2147483648) : Int) ≤ ρ 42 ∧ ρ 42 ≤ 2147483647 := r42
  obtain ⟨f0, f1, f2, f3, f4, f5, -⟩ := hf
  have f0 : (0 : Int) ≤ -ρ 3 + ((-50001) * ρ 1 + ρ 0) + 100002 := f0
  have f1 : (0 : Int) ≤ ρ 39 + -ρ 3 := f1
  have f2 : (0 : Int) ≤ ρ 40 + -ρ 6 := f2
  have f3 : (0 : Int) ≤ ρ 41 + -ρ 7 := f3
  have f4 : (0 : Int) ≤ -ρ 25 + ρ 13 := f4
  have f5 : (0 : Int) ≤ -ρ 39 + (ρ 38 + (ρ 3 + -ρ 0)) + 1 := f5
  obtain ⟨m0, m1, m2, m3, m4, m5, m6, m7, m8, m9, m10, m11, m12, m13, m14, m15, m16, m17, m18, m19, m20, m21, m22, m23, m24, m25, m26, m27, m28, m29, m30, m31, m32, m33, m34, m35, m36, m37, m38, m39, m40, m41, m42, -⟩ := hm
  have m0 : γ 0 6 0 0 = ρ 0 := m0
  have m1 : γ 0 6 0 9 = ρ 1 := m1
  have m2 : γ 0 6 0 6 = ρ 2 := m2
  have m3 : γ 0 8 (ρ 2) 1 = ρ 3 := m3
  have m4 : γ 0 6 0 7 = ρ 4 := m4
  have m5 : γ 0 1 0 10 = ρ 5 := m5
  have m6 : γ 0 4 0 7 = ρ 6 := m6
  have m7 : γ 0 5 0 3 = ρ 7 := m7
  have m8 : γ 0 6 0 8 = ρ 8 := m8
  have m9 : γ 0 6 0 10 = ρ 9 := m9
  have m10 : γ 0 6 0 11 = ρ 10 := m10
  have m11 : γ 0 6 0 12 = ρ 11 := m11
  have m12 : γ 0 6 0 13 = ρ 12 := m12
  have m13 : γ 0 9 (ρ 4) 2 = ρ 13 := m13
  have m14 : γ 0 9 (ρ 4) 3 = ρ 14 := m14
  have m15 : γ 0 10 (9 * ρ 4) 5 = ρ 15 := m15
  have m16 : γ 0 10 (9 * ρ 4) 8 = ρ 16 := m16
  have m17 : γ 0 10 (9 * ρ 4) 12 = ρ 17 := m17
  have m18 : γ 0 10 (9 * ρ 4) 14 = ρ 18 := m18
  have m19 : γ 0 10 (9 * ρ 4 + 6) 4 = ρ 19 := m19
  have m20 : γ 0 10 (9 * ρ 4 + 6) 5 = ρ 20 := m20
  have m21 : γ 0 10 (9 * ρ 4 + 6) 8 = ρ 21 := m21
  have m22 : γ 0 10 (9 * ρ 4 + 6) 9 = ρ 22 := m22
  have m23 : γ 0 10 (9 * ρ 4 + 6) 10 = ρ 23 := m23
  have m24 : γ 0 10 (9 * ρ 4 + 6) 11 = ρ 24 := m24
  have m25 : γ 0 10 (9 * ρ 4 + 7) 4 = ρ 25 := m25
  have m26 : γ 0 10 (9 * ρ 4 + 7) 5 = ρ 26 := m26
  have m27 : γ 0 10 (9 * ρ 4 + 7) 8 = ρ 27 := m27
  have m28 : γ 0 10 (9 * ρ 4 + 7) 9 = ρ 28 := m28
  have m29 : γ 0 10 (9 * ρ 4 + 7) 10 = ρ 29 := m29
  have m30 : γ 0 10 (9 * ρ 4 + 7) 11 = ρ 30 := m30
  have m31 : γ 0 10 (9 * ρ 4 + 8) 4 = ρ 31 := m31
  have m32 : γ 0 10 (9 * ρ 4 + 8) 5 = ρ 32 := m32
  have m33 : γ 0 10 (9 * ρ 4 + 8) 8 = ρ 33 := m33
  have m34 : γ 0 10 (9 * ρ 4 + 8) 9 = ρ 34 := m34
  have m35 : γ 0 10 (9 * ρ 4 + 8) 10 = ρ 35 := m35
  have m36 : γ 0 10 (9 * ρ 4 + 8) 11 = ρ 36 := m36
  have m37 : γ 0 40 0 (ρ 5) = ρ 37 := m37
  have m38 : γ 3 6 0 0 = ρ 38 := m38
  have m39 : γ 3 8 (ρ 2) 1 = ρ 39 := m39
  have m40 : γ 3 4 0 7 = ρ 40 := m40
  have m41 : γ 3 5 0 3 = ρ 41 := m41
  have m42 : γ 3 6 0 13 = ρ 42 := m42
  obtain ⟨⟨⟨-, c1⟩, c2⟩, c3⟩ := hc
  have c1 : ∀ (G : Nat) (k j : Int), ¬ rMdP m0_ G j → γ 1 G k j = γ 0 G k j := c1
  have c2 : ∀ (G : Nat) (k j : Int), ¬ rMdP m0_ G j → γ 2 G k j = γ 1 G k j := c2
  have c3 : ∀ (G : Nat) (k j : Int), ¬ rMdP m140_ G j → γ 3 G k j = γ 2 G k j := c3
  obtain ⟨l0, l1, l2, -⟩ := hl
  have l0 : sn132 [ρ 4, 5] (γ 0) 0 (9 * ρ 4 + 6) (γ 1) := hS132 _ _ _ _ _ l0
  have l1 : sn230 [9 * ρ 4 + 6, ρ 19] (γ 1) 0 1 (γ 2) := hS230 _ _ _ _ _ l1
  have l2 : sn249 [ρ 0, ρ 1, ρ 2, ρ 3, ρ 4, ρ 5, ρ 6, ρ 7, ρ 8, ρ 9, ρ 10, ρ 11, ρ 12, ρ 13, ρ 14, ρ 15, ρ 16, ρ 17, ρ 18, ρ 25, ρ 26, ρ 27, ρ 28, ρ 29, ρ 30, ρ 31, ρ 32, ρ 33, ρ 34, ρ 35, ρ 36] (γ 2) 4 0 (γ 3) := hS249 _ _ _ _ _ l2
  show sn251 [ρ 0, ρ 1, ρ 2, ρ 3, ρ 4, ρ 5, ρ 6, ρ 7, ρ 8, ρ 9, ρ 10, ρ 11, ρ 12, ρ 13, ρ 14, ρ 15, ρ 16, ρ 17, ρ 18, ρ 19, ρ 20, ρ 21, ρ 22, ρ 23, ρ 24, ρ 25, ρ 26, ρ 27, ρ 28, ρ 29, ρ 30, ρ 31, ρ 32, ρ 33, ρ 34, ρ 35, ρ 36] (γ 0) 4 0 (γ 3)
  refine Eq.symm ?_
  show fn251 [] (γ 0) = _
  unfold fn251
  refine (zLet_eq m4).trans ?_
  refine (zLet_eq m13).trans ?_
  refine (zLet_eq m19).trans ?_
  refine (if_neg (show ¬ (5 ≥ ρ 13) by omega)).trans ?_
  refine (zLet_eq (show fn132 [ρ 4, 5] (γ 0) = (0, 9 * ρ 4 + 6, γ 1) from l0.symm)).trans ?_
  refine (zLet_eq (show _ = γ 1 from rfl)).trans ?_
  refine (if_pos (show ρ 19 ≠ 1 by omega)).trans ?_
  refine (if_pos (show 0 ≤ -ρ 19 + 3 by omega)).trans ?_
  refine (if_pos (show ρ 19 ≠ 2 by omega)).trans ?_
  refine (zLet_eq (show fn230 [9 * ρ 4 + 6] (γ 1) = (0, 1, γ 2) from l1.symm)).trans ?_
  refine (zLet_eq (show _ = γ 2 from rfl)).trans ?_
  refine (if_pos (show (1 : Int) ≤ 1 by omega)).trans ?_
  refine (zLet_eq (show fn249 [] (γ 2) = (4, 0, γ 3) from l2.symm)).trans ?_
  refine (zLet_eq (show _ = γ 3 from rfl)).trans ?_
  refine (if_neg (show ¬ (4 : Nat) = 0 by decide)).trans ?_
  refine (if_neg (show ¬ (4 : Nat) = 1 by decide)).trans ?_
  rfl
theorem vn251_6 {S : Nat → zSpc} (hS132 : ∀ x g o v gz, S 132 x g o v gz → sn132 x g o v gz) (hS228 : ∀ x g o v gz, S 228 x g o v gz → sn228 x g o v gz) (hS229 : ∀ x g o v gz, S 229 x g o v gz → sn229 x g o v gz) (hS230 : ∀ x g o v gz, S 230 x g o v gz → sn230 x g o v gz) (hS231 : ∀ x g o v gz, S 231 x g o v gz → sn231 x g o v gz) (hS244 : ∀ x g o v gz, S 244 x g o v gz → sn244 x g o v gz) (hS249 : ∀ x g o v gz, S 249 x g o v gz → sn249 x g o v gz) (hS250 : ∀ x g o v gz, S 250 x g o v gz → sn250 x g o v gz) {a : List Int} {g : rHp} : ∀ (ρ : Nat → Int) (γ : Nat → rHp), zO 37 S a g q251_6 ρ γ → zGl (fun _ _ _ => True) (sn251 a g) q251_6 ρ γ := by
  intro ρ γ h
  obtain ⟨ha, hg, hr, hf, hm, hc, hl⟩ := h
  have ha : a = [ρ 0, ρ 1, ρ 2, ρ 3, ρ 4, ρ 5, ρ 6, ρ 7, ρ 8, ρ 9, ρ 10, ρ 11, ρ 12, ρ 13, ρ 14, ρ 15, ρ 16, ρ 17, ρ 18, ρ 19, ρ 20, ρ 21, ρ 22, ρ 23, ρ 24, ρ 25, ρ 26, ρ 27, ρ 28, ρ 29, ρ 30, ρ 31, ρ 32, ρ 33, ρ 34, ρ 35, ρ 36] := ha
  subst ha
  subst hg
  obtain ⟨r0, r1, r2, r3, r4, r5, r6, r7, r8, r9, r10, r11, r12, r13, r14, r15, r16, r17, r18, r19, r20, r21, r22, r23, r24, r25, r26, r27, r28, r29, r30, r31, r32, r33, r34, r35, r36, r37, r38, r39, r40, r41, r42, -⟩ := hr
  have r0 : (0 : Int) ≤ ρ 0 ∧ ρ 0 ≤ 50000 := r0
  have r1 : (0 : Int) ≤ ρ 1 ∧ ρ 1 ≤ 2 := r1
  have r2 : (0 : Int) ≤ ρ 2 ∧ ρ 2 ≤ 2 := r2
  have r3 : (0 : Int) ≤ ρ 3 ∧ ρ 3 ≤ 50001 := r3
  have r4 : (0 : Int) ≤ ρ 4 ∧ ρ 4 ≤ 62 := r4
  have r5 : (0 : Int) ≤ ρ 5 ∧ ρ 5 ≤ 60 := r5
  have r6 : (0 : Int) ≤ ρ 6 ∧ ρ 6 ≤ 2000 := r6
  have r7 : (0 : Int) ≤ ρ 7 ∧ ρ 7 ≤ 2000 := r7
  have r8 : ((-2147483648) : Int) ≤ ρ 8 ∧ ρ 8 ≤ 2147483647 := r8
  have r9 : ((-2147483648) : Int) ≤ ρ 9 ∧ ρ 9 ≤ 2147483647 := r9
  have r10 : (0 : Int) ≤ ρ 10 ∧ ρ 10 ≤ 2000 := r10
  have r11 : (0 : Int) ≤ ρ 11 ∧ ρ 11 ≤ 2000 := r11
  have r12 : ((-2147483648) : Int) ≤ ρ 12 ∧ ρ 12 ≤ 2147483647 := r12
  have r13 : (6 : Int) ≤ ρ 13 ∧ ρ 13 ≤ 8 := r13
  have r14 : (0 : Int) ≤ ρ 14 ∧ ρ 14 ≤ 8 := r14
  have r15 : (0 : Int) ≤ ρ 15 ∧ ρ 15 ≤ 4 := r15
  have r16 : ((-1) : Int) ≤ ρ 16 ∧ ρ 16 ≤ 19 := r16
  have r17 : (0 : Int) ≤ ρ 17 ∧ ρ 17 ≤ 4 := r17
  have r18 : ((-1) : Int) ≤ ρ 18 ∧ ρ 18 ≤ 7 := r18
  have r19 : (2 : Int) ≤ ρ 19 ∧ ρ 19 ≤ 2 := r19
  have r20 : (0 : Int) ≤ ρ 20 ∧ ρ 20 ≤ 4 := r20
  have r21 : ((-1) : Int) ≤ ρ 21 ∧ ρ 21 ≤ 19 := r21
  have r22 : ((-1) : Int) ≤ ρ 22 ∧ ρ 22 ≤ 3 := r22
  have r23 : (0 : Int) ≤ ρ 23 ∧ ρ 23 ≤ 7 := r23
  have r24 : ((-1) : Int) ≤ ρ 24 ∧ ρ 24 ≤ 7 := r24
  have r25 : (0 : Int) ≤ ρ 25 ∧ ρ 25 ≤ 8 := r25
  have r26 : (0 : Int) ≤ ρ 26 ∧ ρ 26 ≤ 4 := r26
  have r27 : ((-1) : Int) ≤ ρ 27 ∧ ρ 27 ≤ 19 := r27
  have r28 : ((-1) : Int) ≤ ρ 28 ∧ ρ 28 ≤ 3 := r28
  have r29 : (0 : Int) ≤ ρ 29 ∧ ρ 29 ≤ 7 := r29
  have r30 : ((-1) : Int) ≤ ρ 30 ∧ ρ 30 ≤ 7 := r30
  have r31 : (0 : Int) ≤ ρ 31 ∧ ρ 31 ≤ 8 := r31
  have r32 : (0 : Int) ≤ ρ 32 ∧ ρ 32 ≤ 4 := r32
  have r33 : ((-1) : Int) ≤ ρ 33 ∧ ρ 33 ≤ 19 := r33
  have r34 : ((-1) : Int) ≤ ρ 34 ∧ ρ 34 ≤ 3 := r34
  have r35 : (0 : Int) ≤ ρ 35 ∧ ρ 35 ≤ 7 := r35
  have r36 : ((-1) : Int) ≤ ρ 36 ∧ ρ 36 ≤ 7 := r36
  have r37 : (0 : Int) ≤ ρ 37 ∧ ρ 37 ≤ 60 := r37
  have r38 : (0 : Int) ≤ ρ 38 ∧ ρ 38 ≤ 50000 := r38
  have r39 : (0 : Int) ≤ ρ 39 ∧ ρ 39 ≤ 50001 := r39
  have r40 : (0 : Int) ≤ ρ 40 ∧ ρ 40 ≤ 2000 := r40
  have r41 : (0 : Int) ≤ ρ 41 ∧ ρ 41 ≤ 2000 := r41
  have r42 : ((-2147483648) : Int) ≤ ρ 42 ∧ ρ 42 ≤ 2147483647 := r42
  obtain ⟨f0, f1, f2, f3, f4, f5, -⟩ := hf
  have f0 : (0 : Int) ≤ -ρ 3 + ((-50001) * ρ 1 + ρ 0) + 100002 := f0
  have f1 : (0 : Int) ≤ ρ 38 + -ρ 0 := f1
  have f2 : (0 : Int) ≤ ρ 39 + -ρ 3 := f2
  have f3 : (0 : Int) ≤ ρ 40 + -ρ 6 := f3
  have f4 : (0 : Int) ≤ ρ 41 + -ρ 7 := f4
  have f5 : (0 : Int) ≤ -ρ 39 + (ρ 38 + (ρ 3 + -ρ 0)) + 1 := f5
  obtain ⟨m0, m1, m2, m3, m4, m5, m6, m7, m8, m9, m10, m11, m12, m13, m14, m15, m16, m17, m18, m19, m20, m21, m22, m23, m24, m25, m26, m27, m28, m29, m30, m31, m32, m33, m34, m35, m36, m37, m38, m39, m40, m41, m42, -⟩ := hm
  have m0 : γ 0 6 0 0 = ρ 0 := m0
  have m1 : γ 0 6 0 9 = ρ 1 := m1
  have m2 : γ 0 6 0 6 = ρ 2 := m2
  have m3 : γ 0 8 (ρ 2) 1 = ρ 3 := m3
  have m4 : γ 0 6 0 7 = ρ 4 := m4
  have m5 : γ 0 1 0 10 = ρ 5 := m5
  have m6 : γ 0 4 0 7 = ρ 6 := m6
  have m7 : γ 0 5 0 3 = ρ 7 := m7
  have m8 : γ 0 6 0 8 = ρ 8 := m8
  have m9 : γ 0 6 0 10 = ρ 9 := m9
  have m10 : γ 0 6 0 11 = ρ 10 := m10
  have m11 : γ 0 6 0 12 = ρ 11 := m11
  have m12 : γ 0 6 0 13 = ρ 12 := m12
  have m13 : γ 0 9 (ρ 4) 2 = ρ 13 := m13
  have m14 : γ 0 9 (ρ 4) 3 = ρ 14 := m14
  have m15 : γ 0 10 (9 * ρ 4) 5 = ρ 15 := m15
  have m16 : γ 0 10 (9 * ρ 4) 8 = ρ 16 := m16
  have m17 : γ 0 10 (9 * ρ 4) 12 = ρ 17 := m17
  have m18 : γ 0 10 (9 * ρ 4) 14 = ρ 18 := m18
  have m19 : γ 0 10 (9 * ρ 4 + 6) 4 = ρ 19 := m19
  have m20 : γ 0 10 (9 * ρ 4 + 6) 5 = ρ 20 := m20
  have m21 : γ 0 10 (9 * ρ 4 + 6) 8 = ρ 21 := m21
  have m22 : γ 0 10 (9 * ρ 4 + 6) 9 = ρ 22 := m22
  have m23 : γ 0 10 (9 * ρ 4 + 6) 10 = ρ 23 := m23
  have m24 : γ 0 10 (9 * ρ 4 + 6) 11 = ρ 24 := m24
  have m25 : γ 0 10 (9 * ρ 4 + 7) 4 = ρ 25 := m25
  have m26 : γ 0 10 (9 * ρ 4 + 7) 5 = ρ 26 := m26
  have m27 : γ 0 10 (9 * ρ 4 + 7) 8 = ρ 27 := m27
  have m28 : γ 0 10 (9 * ρ 4 + 7) 9 = ρ 28 := m28
  have m29 : γ 0 10 (9 * ρ 4 + 7) 10 = ρ 29 := m29
  have m30 : γ 0 10 (9 * ρ 4 + 7) 11 = ρ 30 := m30
  have m31 : γ 0 10 (9 * ρ 4 + 8) 4 = ρ 31 := m31
  have m32 : γ 0 10 (9 * ρ 4 + 8) 5 = ρ 32 := m32
  have m33 : γ 0 10 (9 * ρ 4 + 8) 8 = ρ 33 := m33
  have m34 : γ 0 10 (9 * ρ 4 + 8) 9 = ρ 34 := m34
  have m35 : γ 0 10 (9 * ρ 4 + 8) 10 = ρ 35 := m35
  have m36 : γ 0 10 (9 * ρ 4 + 8) 11 = ρ 36 := m36
  have m37 : γ 0 40 0 (ρ 5) = ρ 37 := m37
  have m38 : γ 3 6 0 0 = ρ 38 := m38
  have m39 : γ 3 8 (ρ 2) 1 = ρ 39 := m39
  have m40 : γ 3 4 0 7 = ρ 40 := m40
  have m41 : γ 3 5 0 3 = ρ 41 := m41
  have m42 : γ 3 6 0 13 = ρ 42 := m42
  obtain ⟨⟨⟨-, c1⟩, c2⟩, c3⟩ := hc
  have c1 : ∀ (G : Nat) (k j : Int), ¬ rMdP m0_ G j → γ 1 G k j = γ 0 G k j := c1
  have c2 : ∀ (G : Nat) (k j : Int), ¬ rMdP m132_ G j → γ 2 G k j = γ 1 G k j := c2
  have c3 : ∀ (G : Nat) (k j : Int), ¬ rMdP m140_ G j → γ 3 G k j = γ 2 G k j := c3
  obtain ⟨l0, l1, l2, -⟩ := hl
  have l0 : sn132 [ρ 4, 5] (γ 0) 0 (9 * ρ 4 + 6) (γ 1) := hS132 _ _ _ _ _ l0
  have l1 : sn228 [9 * ρ 4 + 6, ρ 6, ρ 10, ρ 20, ρ 21, ρ 22] (γ 1) 0 0 (γ 2) := hS228 _ _ _ _ _ l1
  have l2 : sn249 [ρ 0, ρ 1, ρ 2, ρ 3, ρ 4, ρ 5, ρ 6, ρ 7, ρ 8, ρ 9, ρ 10, ρ 11, ρ 12, ρ 13, ρ 14, ρ 15, ρ 16, ρ 17, ρ 18, ρ 25, ρ 26, ρ 27, ρ 28, ρ 29, ρ 30, ρ 31, ρ 32, ρ 33, ρ 34, ρ 35, ρ 36] (γ 2) 0 0 (γ 3) := hS249 _ _ _ _ _ l2
  show sn251 [ρ 0, ρ 1, ρ 2, ρ 3, ρ 4, ρ 5, ρ 6, ρ 7, ρ 8, ρ 9, ρ 10, ρ 11, ρ 12, ρ 13, ρ 14, ρ 15, ρ 16, ρ 17, ρ 18, ρ 19, ρ 20, ρ 21, ρ 22, ρ 23, ρ 24, ρ 25, ρ 26, ρ 27, ρ 28, ρ 29, ρ 30, ρ 31, ρ 32, ρ 33, ρ 34, ρ 35, ρ 36] (γ 0) 0 0 (γ 3)
  refine Eq.symm ?_
  show fn251 [] (γ 0) = _
  unfold fn251
  refine (zLet_eq m4).trans ?_
  refine (zLet_eq m13).trans ?_
  refine (zLet_eq m19).trans ?_
  refine (if_neg (show ¬ (5 ≥ ρ 13) by omega)).trans ?_
  refine (zLet_eq (show fn132 [ρ 4, 5] (γ 0) = (0, 9 * ρ 4 + 6, γ 1) from l0.symm)).trans ?_
  refine (zLet_eq (show _ = γ 1 from rfl)).trans ?_
  refine (if_pos (show ρ 19 ≠ 1 by omega)).trans ?_
  refine (if_pos (show 0 ≤ -ρ 19 + 3 by omega)).trans ?_
  refine (if_neg (show ¬ (ρ 19 ≠ 2) by omega)).trans ?_
  refine (zLet_eq (show fn228 [9 * ρ 4 + 6] (γ 1) = (0, 0, γ 2) from l1.symm)).trans ?_
  refine (zLet_eq (show _ = γ 2 from rfl)).trans ?_
  refine (if_neg (show ¬ ((1 : Int) ≤ 0) by omega)).trans ?_
  refine (zLet_eq (show fn249 [] (γ 2) = (0, 0, γ 3) from l2.symm)).trans ?_
  refine (zLet_eq (show _ = γ 3 from rfl)).trans ?_
  refine (if_pos (show (0 : Nat) = 0 by decide)).trans ?_
  rfl
theorem vn251_7 {S : Nat → zSpc} (hS132 : ∀ x g o v gz, S 132 x g o v gz → sn132 x g o v gz) (hS228 : ∀ x g o v gz, S 228 x g o v gz → sn228 x g o v gz) (hS229 : ∀ x g o v gz, S 229 x g o v gz → sn229 x g o v gz) (hS230 : ∀ x g o v gz, S 230 x g o v gz → sn230 x g o v gz) (hS231 : ∀ x g o v gz, S 231 x g o v gz → sn231 x g o v gz) (hS244 : ∀ x g o v gz, S 244 x g o v gz → sn244 x g o v gz) (hS249 : ∀ x g o v gz, S 249 x g o v gz → sn249 x g o v gz) (hS250 : ∀ x g o v gz, S 250 x g o v gz → sn250 x g o v gz) {a : List Int} {g : rHp} : ∀ (ρ : Nat → Int) (γ : Nat → rHp), zO 37 S a g q251_7 ρ γ → zGl (fun _ _ _ => True) (sn251 a g) q251_7 ρ γ := by
  intro ρ γ h
  obtain ⟨ha, hg, hr, hf, hm, hc, hl⟩ := h
  have ha : a = [ρ 0, ρ 1, ρ 2, ρ 3, ρ 4, ρ 5, ρ 6, ρ 7, ρ 8, ρ 9, ρ 10, ρ 11, ρ 12, ρ 13, ρ 14, ρ 15, ρ 16, ρ 17, ρ 18, ρ 19, ρ 20, ρ 21, ρ 22, ρ 23, ρ 24, ρ 25, ρ 26, ρ 27, ρ 28, ρ 29, ρ 30, ρ 31, ρ 32, ρ 33, ρ 34, ρ 35, ρ 36] := ha
  subst ha
  subst hg
  obtain ⟨r0, r1, r2, r3, r4, r5, r6, r7, r8, r9, r10, r11, r12, r13, r14, r15, r16, r17, r18, r19, r20, r21, r22, r23, r24, r25, r26, r27, r28, r29, r30, r31, r32, r33, r34, r35, r36, r37, r38, r39, r40, r41, r42, -⟩ := hr
  have r0 : (0 : Int) ≤ ρ 0 ∧ ρ 0 ≤ 50000 := r0
  have r1 : (0 : Int) ≤ ρ 1 ∧ ρ 1 ≤ 1 := r1
  have r2 : (0 : Int) ≤ ρ 2 ∧ ρ 2 ≤ 2 := r2
  have r3 : (0 : Int) ≤ ρ 3 ∧ ρ 3 ≤ 50001 := r3
  have r4 : (0 : Int) ≤ ρ 4 ∧ ρ 4 ≤ 62 := r4
  have r5 : (0 : Int) ≤ ρ 5 ∧ ρ 5 ≤ 60 := r5
  have r6 : (0 : Int) ≤ ρ 6 ∧ ρ 6 ≤ 2000 := r6
  have r7 : (0 : Int) ≤ ρ 7 ∧ ρ 7 ≤ 2000 := r7
  have r8 : ((-2147483648) : Int) ≤ ρ 8 ∧ ρ 8 ≤ 2147483647 := r8
  have r9 : ((-2147483648) : Int) ≤ ρ 9 ∧ ρ 9 ≤ 2147483647 := r9
  have r10 : (0 : Int) ≤ ρ 10 ∧ ρ 10 ≤ 2000 := r10
  have r11 : (0 : Int) ≤ ρ 11 ∧ ρ 11 ≤ 2000 := r11
  have r12 : ((-2147483648) : Int) ≤ ρ 12 ∧ ρ 12 ≤ 2147483647 := r12
  have r13 : (6 : Int) ≤ ρ 13 ∧ ρ 13 ≤ 8 := r13
  have r14 : (0 : Int) ≤ ρ 14 ∧ ρ 14 ≤ 8 := r14
  have r15 : (0 : Int) ≤ ρ 15 ∧ ρ 15 ≤ 4 := r15
  have r16 : ((-1) : Int) ≤ ρ 16 ∧ ρ 16 ≤ 19 := r16
  have r17 : (0 : Int) ≤ ρ 17 ∧ ρ 17 ≤ 4 := r17
  have r18 : ((-1) : Int) ≤ ρ 18 ∧ ρ 18 ≤ 7 := r18
  have r19 : (2 : Int) ≤ ρ 19 ∧ ρ 19 ≤ 2 := r19
  have r20 : (0 : Int) ≤ ρ 20 ∧ ρ 20 ≤ 4 := r20
  have r21 : ((-1) : Int) ≤ ρ 21 ∧ ρ 21 ≤ 19 := r21
  have r22 : ((-1) : Int) ≤ ρ 22 ∧ ρ 22 ≤ 3 := r22
  have r23 : (0 : Int) ≤ ρ 23 ∧ ρ 23 ≤ 7 := r23
  have r24 : ((-1) : Int) ≤ ρ 24 ∧ ρ 24 ≤ 7 := r24
  have r25 : (0 : Int) ≤ ρ 25 ∧ ρ 25 ≤ 8 := r25
  have r26 : (0 : Int) ≤ ρ 26 ∧ ρ 26 ≤ 4 := r26
  have r27 : ((-1) : Int) ≤ ρ 27 ∧ ρ 27 ≤ 19 := r27
  have r28 : ((-1) : Int) ≤ ρ 28 ∧ ρ 28 ≤ 3 := r28
  have r29 : (0 : Int) ≤ ρ 29 ∧ ρ 29 ≤ 7 := r29
  have r30 : ((-1) : Int) ≤ ρ 30 ∧ ρ 30 ≤ 7 := r30
  have r31 : (0 : Int) ≤ ρ 31 ∧ ρ 31 ≤ 8 := r31
  have r32 : (0 : Int) ≤ ρ 32 ∧ ρ 32 ≤ 4 := r32
  have r33 : ((-1) : Int) ≤ ρ 33 ∧ ρ 33 ≤ 19 := r33
  have r34 : ((-1) : Int) ≤ ρ 34 ∧ ρ 34 ≤ 3 := r34
  have r35 : (0 : Int) ≤ ρ 35 ∧ ρ 35 ≤ 7 := r35
  have r36 : ((-1) : Int) ≤ ρ 36 ∧ ρ 36 ≤ 7 := r36
  have r37 : (0 : Int) ≤ ρ 37 ∧ ρ 37 ≤ 60 := r37
  have r38 : (0 : Int) ≤ ρ 38 ∧ ρ 38 ≤ 50000 := r38
  have r39 : (0 : Int) ≤ ρ 39 ∧ ρ 39 ≤ 50001 := r39
  have r40 : (0 : Int) ≤ ρ 40 ∧ ρ 40 ≤ 2000 := r40
  have r41 : (0 : Int) ≤ ρ 41 ∧ ρ 41 ≤ 2000 := r41
  have r42 : ((-2147483648) : Int) ≤ ρ 42 ∧ ρ 42 ≤ 2147483647 := r42
  obtain ⟨f0, f1, f2, f3, f4, f5, -⟩ := hf
  have f0 : (0 : Int) ≤ ρ 38 + -ρ 0 := f0
  have f1 : (0 : Int) ≤ ρ 39 + -ρ 3 := f1
  have f2 : (0 : Int) ≤ ρ 40 + -ρ 6 := f2
  have f3 : (0 : Int) ≤ ρ 41 + -ρ 7 := f3
  have f4 : (0 : Int) ≤ -ρ 39 + (ρ 38 + (ρ 3 + -ρ 0)) + 1 := f4
  have f5 : (0 : Int) ≤ -ρ 3 + ((-50001) * ρ 1 + ρ 0) + 100002 := f5
  obtain ⟨m0, m1, m2, m3, m4, m5, m6, m7, m8, m9, m10, m11, m12, m13, m14, m15, m16, m17, m18, m19, m20, m21, m22, m23, m24, m25, m26, m27, m28, m29, m30, m31, m32, m33, m34, m35, m36, m37, m38, m39, m40, m41, m42, -⟩ := hm
  have m0 : γ 0 6 0 0 = ρ 0 := m0
  have m1 : γ 0 6 0 9 = ρ 1 := m1
  have m2 : γ 0 6 0 6 = ρ 2 := m2
  have m3 : γ 0 8 (ρ 2) 1 = ρ 3 := m3
  have m4 : γ 0 6 0 7 = ρ 4 := m4
  have m5 : γ 0 1 0 10 = ρ 5 := m5
  have m6 : γ 0 4 0 7 = ρ 6 := m6
  have m7 : γ 0 5 0 3 = ρ 7 := m7
  have m8 : γ 0 6 0 8 = ρ 8 := m8
  have m9 : γ 0 6 0 10 = ρ 9 := m9
  have m10 : γ 0 6 0 11 = ρ 10 := m10
  have m11 : γ 0 6 0 12 = ρ 11 := m11
  have m12 : γ 0 6 0 13 = ρ 12 := m12
  have m13 : γ 0 9 (ρ 4) 2 = ρ 13 := m13
  have m14 : γ 0 9 (ρ 4) 3 = ρ 14 := m14
  have m15 : γ 0 10 (9 * ρ 4) 5 = ρ 15 := m15
  have m16 : γ 0 10 (9 * ρ 4) 8 = ρ 16 := m16
  have m17 : γ 0 10 (9 * ρ 4) 12 = ρ 17 := m17
  have m18 : γ 0 10 (9 * ρ 4) 14 = ρ 18 := m18
  have m19 : γ 0 10 (9 * ρ 4 + 6) 4 = ρ 19 := m19
  have m20 : γ 0 10 (9 * ρ 4 + 6) 5 = ρ 20 := m20
  have m21 : γ 0 10 (9 * ρ 4 + 6) 8 = ρ 21 := m21
  have m22 : γ 0 10 (9 * ρ 4 + 6) 9 = ρ 22 := m22
  have m23 : γ 0 10 (9 * ρ 4 + 6) 10 = ρ 23 := m23
  have m24 : γ 0 10 (9 * ρ 4 + 6) 11 = ρ 24 := m24
  have m25 : γ 0 10 (9 * ρ 4 + 7) 4 = ρ 25 := m25
  have m26 : γ 0 10 (9 * ρ 4 + 7) 5 = ρ 26 := m26
  have m27 : γ 0 10 (9 * ρ 4 + 7) 8 = ρ 27 := m27
  have m28 : γ 0 10 (9 * ρ 4 + 7) 9 = ρ 28 := m28
  have m29 : γ 0 10 (9 * ρ 4 + 7) 10 = ρ 29 := m29
  have m30 : γ 0 10 (9 * ρ 4 + 7) 11 = ρ 30 := m30
  have m31 : γ 0 10 (9 * ρ 4 + 8) 4 = ρ 31 := m31
  have m32 : γ 0 10 (9 * ρ 4 + 8) 5 = ρ 32 := m32
  have m33 : γ 0 10 (9 * ρ 4 + 8) 8 = ρ 33 := m33
  have m34 : γ 0 10 (9 * ρ 4 + 8) 9 = ρ 34 := m34
  have m35 : γ 0 10 (9 * ρ 4 + 8) 10 = ρ 35 := m35
  have m36 : γ 0 10 (9 * ρ 4 + 8) 11 = ρ 36 := m36
  have m37 : γ 0 40 0 (ρ 5) = ρ 37 := m37
  have m38 : γ 3 6 0 0 = ρ 38 := m38
  have m39 : γ 3 8 (ρ 2) 1 = ρ 39 := m39
  have m40 : γ 3 4 0 7 = ρ 40 := m40
  have m41 : γ 3 5 0 3 = ρ 41 := m41
  have m42 : γ 3 6 0 13 = ρ 42 := m42
  obtain ⟨⟨⟨-, c1⟩, c2⟩, c3⟩ := hc
  have c1 : ∀ (G : Nat) (k j : Int), ¬ rMdP m0_ G j → γ 1 G k j = γ 0 G k j := c1
  have c2 : ∀ (G : Nat) (k j : Int), ¬ rMdP m132_ G j → γ 2 G k j = γ 1 G k j := c2
  have c3 : ∀ (G : Nat) (k j : Int), ¬ rMdP m140_ G j → γ 3 G k j = γ 2 G k j := c3
  obtain ⟨l0, l1, l2, -⟩ := hl
  have l0 : sn132 [ρ 4, 5] (γ 0) 0 (9 * ρ 4 + 6) (γ 1) := hS132 _ _ _ _ _ l0
  have l1 : sn228 [9 * ρ 4 + 6, ρ 6, ρ 10, ρ 20, ρ 21, ρ 22] (γ 1) 0 0 (γ 2) := hS228 _ _ _ _ _ l1
  have l2 : sn249 [ρ 0, ρ 1, ρ 2, ρ 3, ρ 4, ρ 5, ρ 6, ρ 7, ρ 8, ρ 9, ρ 10, ρ 11, ρ 12, ρ 13, ρ 14, ρ 15, ρ 16, ρ 17, ρ 18, ρ 25, ρ 26, ρ 27, ρ 28, ρ 29, ρ 30, ρ 31, ρ 32, ρ 33, ρ 34, ρ 35, ρ 36] (γ 2) 1 0 (γ 3) := hS249 _ _ _ _ _ l2
  show sn251 [ρ 0, ρ 1, ρ 2, ρ 3, ρ 4, ρ 5, ρ 6, ρ 7, ρ 8, ρ 9, ρ 10, ρ 11, ρ 12, ρ 13, ρ 14, ρ 15, ρ 16, ρ 17, ρ 18, ρ 19, ρ 20, ρ 21, ρ 22, ρ 23, ρ 24, ρ 25, ρ 26, ρ 27, ρ 28, ρ 29, ρ 30, ρ 31, ρ 32, ρ 33, ρ 34, ρ 35, ρ 36] (γ 0) 1 0 (γ 3)
  refine Eq.symm ?_
  show fn251 [] (γ 0) = _
  unfold fn251
  refine (zLet_eq m4).trans ?_
  refine (zLet_eq m13).trans ?_
  refine (zLet_eq m19).trans ?_
  refine (if_neg (show ¬ (5 ≥ ρ 13) by omega)).trans ?_
  refine (zLet_eq (show fn132 [ρ 4, 5] (γ 0) = (0, 9 * ρ 4 + 6, γ 1) from l0.symm)).trans ?_
  refine (zLet_eq (show _ = γ 1 from rfl)).trans ?_
  refine (if_pos (show ρ 19 ≠ 1 by omega)).trans ?_
  refine (if_pos (show 0 ≤ -ρ 19 + 3 by omega)).trans ?_
  refine (if_neg (show ¬ (ρ 19 ≠ 2) by omega)).trans ?_
  refine (zLet_eq (show fn228 [9 * ρ 4 + 6] (γ 1) = (0, 0, γ 2) from l1.symm)).trans ?_
  refine (zLet_eq (show _ = γ 2 from rfl)).trans ?_
  refine (if_neg (show ¬ ((1 : Int) ≤ 0) by omega)).trans ?_
  refine (zLet_eq (show fn249 [] (γ 2) = (1, 0, γ 3) from l2.symm)).trans ?_
  refine (zLet_eq (show _ = γ 3 from rfl)).trans ?_
  refine (if_neg (show ¬ (1 : Nat) = 0 by decide)).trans ?_
  refine (if_pos (show (1 : Nat) = 1 by decide)).trans ?_
  rfl
theorem vn251_8 {S : Nat → zSpc} (hS132 : ∀ x g o v gz, S 132 x g o v gz → sn132 x g o v gz) (hS228 : ∀ x g o v gz, S 228 x g o v gz → sn228 x g o v gz) (hS229 : ∀ x g o v gz, S 229 x g o v gz → sn229 x g o v gz) (hS230 : ∀ x g o v gz, S 230 x g o v gz → sn230 x g o v gz) (hS231 : ∀ x g o v gz, S 231 x g o v gz → sn231 x g o v gz) (hS244 : ∀ x g o v gz, S 244 x g o v gz → sn244 x g o v gz) (hS249 : ∀ x g o v gz, S 249 x g o v gz → sn249 x g o v gz) (hS250 : ∀ x g o v gz, S 250 x g o v gz → sn250 x g o v gz) {a : List Int} {g : rHp} : ∀ (ρ : Nat → Int) (γ : Nat → rHp), zO 37 S a g q251_8 ρ γ → zGl (fun _ _ _ => True) (sn251 a g) q251_8 ρ γ := by
  intro ρ γ h
  obtain ⟨ha, hg, hr, hf, hm, hc, hl⟩ := h
  have ha : a = [ρ 0, ρ 1, ρ 2, ρ 3, ρ 4, ρ 5, ρ 6, ρ 7, ρ 8, ρ 9, ρ 10, ρ 11, ρ 12, ρ 13, ρ 14, ρ 15, ρ 16, ρ 17, ρ 18, ρ 19, ρ 20, ρ 21, ρ 22, ρ 23, ρ 24, ρ 25, ρ 26, ρ 27, ρ 28, ρ 29, ρ 30, ρ 31, ρ 32, ρ 33, ρ 34, ρ 35, ρ 36] := ha
  subst ha
  subst hg
  obtain ⟨r0, r1, r2, r3, r4, r5, r6, r7, r8, r9, r10, r11, r12, r13, r14, r15, r16, r17, r18, r19, r20, r21, r22, r23, r24, r25, r26, r27, r28, r29, r30, r31, r32, r33, r34, r35, r36, r37, r38, r39, r40, r41, r42, -⟩ := hr
  have r0 : (0 : Int) ≤ ρ 0 ∧ ρ 0 ≤ 50000 := r0
  have r1 : (0 : Int) ≤ ρ 1 ∧ ρ 1 ≤ 2 := r1
  have r2 : (0 : Int) ≤ ρ 2 ∧ ρ 2 ≤ 2 := r2
  have r3 : (0 : Int) ≤ ρ 3 ∧ ρ 3 ≤ 50001 := r3
  have r4 : (0 : Int) ≤ ρ 4 ∧ ρ 4 ≤ 62 := r4
  have r5 : (0 : Int) ≤ ρ 5 ∧ ρ 5 ≤ 60 := r5
  have r6 : (0 : Int) ≤ ρ 6 ∧ ρ 6 ≤ 2000 := r6
  have r7 : (0 : Int) ≤ ρ 7 ∧ ρ 7 ≤ 2000 := r7
  have r8 : ((-2147483648) : Int) ≤ ρ 8 ∧ ρ 8 ≤ 2147483647 := r8
  have r9 : ((-2147483648) : Int) ≤ ρ 9 ∧ ρ 9 ≤ 2147483647 := r9
  have r10 : (0 : Int) ≤ ρ 10 ∧ ρ 10 ≤ 2000 := r10
  have r11 : (0 : Int) ≤ ρ 11 ∧ ρ 11 ≤ 2000 := r11
  have r12 : ((-2147483648) : Int) ≤ ρ 12 ∧ ρ 12 ≤ 2147483647 := r12
  have r13 : (7 : Int) ≤ ρ 13 ∧ ρ 13 ≤ 8 := r13
  have r14 : (0 : Int) ≤ ρ 14 ∧ ρ 14 ≤ 8 := r14
  have r15 : (0 : Int) ≤ ρ 15 ∧ ρ 15 ≤ 4 := r15
  have r16 : ((-1) : Int) ≤ ρ 16 ∧ ρ 16 ≤ 19 := r16
  have r17 : (0 : Int) ≤ ρ 17 ∧ ρ 17 ≤ 4 := r17
  have r18 : ((-1) : Int) ≤ ρ 18 ∧ ρ 18 ≤ 7 := r18
  have r19 : (2 : Int) ≤ ρ 19 ∧ ρ 19 ≤ 2 := r19
  have r20 : (0 : Int) ≤ ρ 20 ∧ ρ 20 ≤ 4 := r20
  have r21 : ((-1) : Int) ≤ ρ 21 ∧ ρ 21 ≤ 19 := r21
  have r22 : ((-1) : Int) ≤ ρ 22 ∧ ρ 22 ≤ 3 := r22
  have r23 : (0 : Int) ≤ ρ 23 ∧ ρ 23 ≤ 7 := r23
  have r24 : ((-1) : Int) ≤ ρ 24 ∧ ρ 24 ≤ 7 := r24
  have r25 : (1 : Int) ≤ ρ 25 ∧ ρ 25 ≤ 8 := r25
  have r26 : (0 : Int) ≤ ρ 26 ∧ ρ 26 ≤ 4 := r26
  have r27 : ((-1) : Int) ≤ ρ 27 ∧ ρ 27 ≤ 19 := r27
  have r28 : ((-1) : Int) ≤ ρ 28 ∧ ρ 28 ≤ 3 := r28
  have r29 : (0 : Int) ≤ ρ 29 ∧ ρ 29 ≤ 7 := r29
  have r30 : ((-1) : Int) ≤ ρ 30 ∧ ρ 30 ≤ 7 := r30
  have r31 : (0 : Int) ≤ ρ 31 ∧ ρ 31 ≤ 8 := r31
  have r32 : (0 : Int) ≤ ρ 32 ∧ ρ 32 ≤ 4 := r32
  have r33 : ((-1) : Int) ≤ ρ 33 ∧ ρ 33 ≤ 19 := r33
  have r34 : ((-1) : Int) ≤ ρ 34 ∧ ρ 34 ≤ 3 := r34
  have r35 : (0 : Int) ≤ ρ 35 ∧ ρ 35 ≤ 7 := r35
  have r36 : ((-1) : Int) ≤ ρ 36 ∧ ρ 36 ≤ 7 := r36
  have r37 : (0 : Int) ≤ ρ 37 ∧ ρ 37 ≤ 60 := r37
  have r38 : (50001 : Int) ≤ ρ 38 ∧ ρ 38 ≤ 50001 := r38
  have r39 : (0 : Int) ≤ ρ 39 ∧ ρ 39 ≤ 50001 := r39
  have r40 : (0 : Int) ≤ ρ 40 ∧ ρ 40 ≤ 2000 := r40
  have r41 : (0 : Int) ≤ ρ 41 ∧ ρ 41 ≤ 2000 := r41
  have r42 : ((-2147483648) : Int) ≤ ρ 42 ∧ ρ 42 ≤ 2147483647 := r42
  obtain ⟨f0, f1, f2, f3, f4, f5, -⟩ := hf
  have f0 : (0 : Int) ≤ -ρ 3 + ((-50001) * ρ 1 + ρ 0) + 100002 := f0
  have f1 : (0 : Int) ≤ ρ 39 + -ρ 3 := f1
  have f2 : (0 : Int) ≤ ρ 40 + -ρ 6 := f2
  have f3 : (0 : Int) ≤ ρ 41 + -ρ 7 := f3
  have f4 : (0 : Int) ≤ -ρ 25 + ρ 13 := f4
  have f5 : (0 : Int) ≤ -ρ 39 + (ρ 38 + (ρ 3 + -ρ 0)) + 1 := f5
  obtain ⟨m0, m1, m2, m3, m4, m5, m6, m7, m8, m9, m10, m11, m12, m13, m14, m15, m16, m17, m18, m19, m20, m21, m22, m23, m24, m25, m26, m27, m28, m29, m30, m31, m32, m33, m34, m35, m36, m37, m38, m39, m40, m41, m42, -⟩ := hm
  have m0 : γ 0 6 0 0 = ρ 0 := m0
  have m1 : γ 0 6 0 9 = ρ 1 := m1
  have m2 : γ 0 6 0 6 = ρ 2 := m2
  have m3 : γ 0 8 (ρ 2) 1 = ρ 3 := m3
  have m4 : γ 0 6 0 7 = ρ 4 := m4
  have m5 : γ 0 1 0 10 = ρ 5 := m5
  have m6 : γ 0 4 0 7 = ρ 6 := m6
  have m7 : γ 0 5 0 3 = ρ 7 := m7
  have m8 : γ 0 6 0 8 = ρ 8 := m8
  have m9 : γ 0 6 0 10 = ρ 9 := m9
  have m10 : γ 0 6 0 11 = ρ 10 := m10
  have m11 : γ 0 6 0 12 = ρ 11 := m11
  have m12 : γ 0 6 0 13 = ρ 12 := m12
  have m13 : γ 0 9 (ρ 4) 2 = ρ 13 := m13
  have m14 : γ 0 9 (ρ 4) 3 = ρ 14 := m14
  have m15 : γ 0 10 (9 * ρ 4) 5 = ρ 15 := m15
  have m16 : γ 0 10 (9 * ρ 4) 8 = ρ 16 := m16
  have m17 : γ 0 10 (9 * ρ 4) 12 = ρ 17 := m17
  have m18 : γ 0 10 (9 * ρ 4) 14 = ρ 18 := m18
  have m19 : γ 0 10 (9 * ρ 4 + 6) 4 = ρ 19 := m19
  have m20 : γ 0 10 (9 * ρ 4 + 6) 5 = ρ 20 := m20
  have m21 : γ 0 10 (9 * ρ 4 + 6) 8 = ρ 21 := m21
  have m22 : γ 0 10 (9 * ρ 4 + 6) 9 = ρ 22 := m22
  have m23 : γ 0 10 (9 * ρ 4 + 6) 10 = ρ 23 := m23
  have m24 : γ 0 10 (9 * ρ 4 + 6) 11 = ρ 24 := m24
  have m25 : γ 0 10 (9 * ρ 4 + 7) 4 = ρ 25 := m25
  have m26 : γ 0 10 (9 * ρ 4 + 7) 5 = ρ 26 := m26
  have m27 : γ 0 10 (9 * ρ 4 + 7) 8 = ρ 27 := m27
  have m28 : γ 0 10 (9 * ρ 4 + 7) 9 = ρ 28 := m28
  have m29 : γ 0 10 (9 * ρ 4 + 7) 10 = ρ 29 := m29
  have m30 : γ 0 10 (9 * ρ 4 + 7) 11 = ρ 30 := m30
  have m31 : γ 0 10 (9 * ρ 4 + 8) 4 = ρ 31 := m31
  have m32 : γ 0 10 (9 * ρ 4 + 8) 5 = ρ 32 := m32
  have m33 : γ 0 10 (9 * ρ 4 + 8) 8 = ρ 33 := m33
  have m34 : γ 0 10 (9 * ρ 4 + 8) 9 = ρ 34 := m34
  have m35 : γ 0 10 (9 * ρ 4 + 8) 10 = ρ 35 := m35
  have m36 : γ 0 10 (9 * ρ 4 + 8) 11 = ρ 36 := m36
  have m37 : γ 0 40 0 (ρ 5) = ρ 37 := m37
  have m38 : γ 3 6 0 0 = ρ 38 := m38
  have m39 : γ 3 8 (ρ 2) 1 = ρ 39 := m39
  have m40 : γ 3 4 0 7 = ρ 40 := m40
  have m41 : γ 3 5 0 3 = ρ 41 := m41
  have m42 : γ 3 6 0 13 = ρ 42 := m42
  obtain ⟨⟨⟨-, c1⟩, c2⟩, c3⟩ := hc
  have c1 : ∀ (G : Nat) (k j : Int), ¬ rMdP m0_ G j → γ 1 G k j = γ 0 G k j := c1
  have c2 : ∀ (G : Nat) (k j : Int), ¬ rMdP m132_ G j → γ 2 G k j = γ 1 G k j := c2
  have c3 : ∀ (G : Nat) (k j : Int), ¬ rMdP m140_ G j → γ 3 G k j = γ 2 G k j := c3
  obtain ⟨l0, l1, l2, -⟩ := hl
  have l0 : sn132 [ρ 4, 5] (γ 0) 0 (9 * ρ 4 + 6) (γ 1) := hS132 _ _ _ _ _ l0
  have l1 : sn228 [9 * ρ 4 + 6, ρ 6, ρ 10, ρ 20, ρ 21, ρ 22] (γ 1) 0 0 (γ 2) := hS228 _ _ _ _ _ l1
  have l2 : sn249 [ρ 0, ρ 1, ρ 2, ρ 3, ρ 4, ρ 5, ρ 6, ρ 7, ρ 8, ρ 9, ρ 10, ρ 11, ρ 12, ρ 13, ρ 14, ρ 15, ρ 16, ρ 17, ρ 18, ρ 25, ρ 26, ρ 27, ρ 28, ρ 29, ρ 30, ρ 31, ρ 32, ρ 33, ρ 34, ρ 35, ρ 36] (γ 2) 4 0 (γ 3) := hS249 _ _ _ _ _ l2
  show sn251 [ρ 0, ρ 1, ρ 2, ρ 3, ρ 4, ρ 5, ρ 6, ρ 7, ρ 8, ρ 9, ρ 10, ρ 11, ρ 12, ρ 13, ρ 14, ρ 15, ρ 16, ρ 17, ρ 18, ρ 19, ρ 20, ρ 21, ρ 22, ρ 23, ρ 24, ρ 25, ρ 26, ρ 27, ρ 28, ρ 29, ρ 30, ρ 31, ρ 32, ρ 33, ρ 34, ρ 35, ρ 36] (γ 0) 4 0 (γ 3)
  refine Eq.symm ?_
  show fn251 [] (γ 0) = _
  unfold fn251
  refine (zLet_eq m4).trans ?_
  refine (zLet_eq m13).trans ?_
  refine (zLet_eq m19).trans ?_
  refine (if_neg (show ¬ (5 ≥ ρ 13) by omega)).trans ?_
  refine (zLet_eq (show fn132 [ρ 4, 5] (γ 0) = (0, 9 * ρ 4 + 6, γ 1) from l0.symm)).trans ?_
  refine (zLet_eq (show _ = γ 1 from rfl)).trans ?_
  refine (if_pos (show ρ 19 ≠ 1 by omega)).trans ?_
  refine (if_pos (show 0 ≤ -ρ 19 + 3 by omega)).trans ?_
  refine (if_neg (show ¬ (ρ 19 ≠ 2) by omega)).trans ?_
  refine (zLet_eq (show fn228 [9 * ρ 4 + 6] (γ 1) = (0, 0, γ 2) from l1.symm)).trans ?_
  refine (zLet_eq (show _ = γ 2 from rfl)).trans ?_
  refine (if_neg (show ¬ ((1 : Int) ≤ 0) by omega)).trans ?_
  refine (zLet_eq (show fn249 [] (γ 2) = (4, 0, γ 3) from l2.symm)).trans ?_
  refine (zLet_eq (show _ = γ 3 from rfl)).trans ?_
  refine (if_neg (show ¬ (4 : Nat) = 0 by decide)).trans ?_
  refine (if_neg (show ¬ (4 : Nat) = 1 by decide)).trans ?_
  rfl
theorem vn251_9 {S : Nat → zSpc} (hS132 : ∀ x g o v gz, S 132 x g o v gz → sn132 x g o v gz) (hS228 : ∀ x g o v gz, S 228 x g o v gz → sn228 x g o v gz) (hS229 : ∀ x g o v gz, S 229 x g o v gz → sn229 x g o v gz) (hS230 : ∀ x g o v gz, S 230 x g o v gz → sn230 x g o v gz) (hS231 : ∀ x g o v gz, S 231 x g o v gz → sn231 x g o v gz) (hS244 : ∀ x g o v gz, S 244 x g o v gz → sn244 x g o v gz) (hS249 : ∀ x g o v gz, S 249 x g o v gz → sn249 x g o v gz) (hS250 : ∀ x g o v gz, S 250 x g o v gz → sn250 x g o v gz) {a : List Int} {g : rHp} : ∀ (ρ : Nat → Int) (γ : Nat → rHp), zO 37 S a g q251_9 ρ γ → zGl (fun _ _ _ => True) (sn251 a g) q251_9 ρ γ := by
  intro ρ γ h
  obtain ⟨ha, hg, hr, hf, hm, hc, hl⟩ := h
  have ha : a = [ρ 0, ρ 1, ρ 2, ρ 3, ρ 4, ρ 5, ρ 6, ρ 7, ρ 8, ρ 9, ρ 10, ρ 11, ρ 12, ρ 13, ρ 14, ρ 15, ρ 16, ρ 17, ρ 18, ρ 19, ρ 20, ρ 21, ρ 22, ρ 23, ρ 24, ρ 25, ρ 26, ρ 27, ρ 28, ρ 29, ρ 30, ρ 31, ρ 32, ρ 33, ρ 34, ρ 35, ρ 36] := ha
  subst ha
  subst hg
  obtain ⟨r0, r1, r2, r3, r4, r5, r6, r7, r8, r9, r10, r11, r12, r13, r14, r15, r16, r17, r18, r19, r20, r21, r22, r23, r24, r25, r26, r27, r28, r29, r30, r31, r32, r33, r34, r35, r36, r37, -⟩ := hr
  have r0 : (0 : Int) ≤ ρ 0 ∧ ρ 0 ≤ 50000 := r0
  have r1 : (0 : Int) ≤ ρ 1 ∧ ρ 1 ≤ 2 := r1
  have r2 : (0 : Int) ≤ ρ 2 ∧ ρ 2 ≤ 2 := r2
  have r3 : (0 : Int) ≤ ρ 3 ∧ ρ 3 ≤ 50001 := r3
  have r4 : (0 : Int) ≤ ρ 4 ∧ ρ 4 ≤ 62 := r4
  have r5 : (0 : Int) ≤ ρ 5 ∧ ρ 5 ≤ 60 := r5
  have r6 : (0 : Int) ≤ ρ 6 ∧ ρ 6 ≤ 2000 := r6
  have r7 : (0 : Int) ≤ ρ 7 ∧ ρ 7 ≤ 2000 := r7
  have r8 : ((-2147483648) : Int) ≤ ρ 8 ∧ ρ 8 ≤ 2147483647 := r8
  have r9 : ((-2147483648) : Int) ≤ ρ 9 ∧ ρ 9 ≤ 2147483647 := r9
  have r10 : (0 : Int) ≤ ρ 10 ∧ ρ 10 ≤ 2000 := r10
  have r11 : (0 : Int) ≤ ρ 11 ∧ ρ 11 ≤ 2000 := r11
  have r12 : ((-2147483648) : Int) ≤ ρ 12 ∧ ρ 12 ≤ 2147483647 := r12
  have r13 : (6 : Int) ≤ ρ 13 ∧ ρ 13 ≤ 8 := r13
  have r14 : (0 : Int) ≤ ρ 14 ∧ ρ 14 ≤ 8 := r14
  have r15 : (0 : Int) ≤ ρ 15 ∧ ρ 15 ≤ 4 := r15
  have r16 : ((-1) : Int) ≤ ρ 16 ∧ ρ 16 ≤ 19 := r16
  have r17 : (0 : Int) ≤ ρ 17 ∧ ρ 17 ≤ 4 := r17
  have r18 : ((-1) : Int) ≤ ρ 18 ∧ ρ 18 ≤ 7 := r18
  have r19 : (2 : Int) ≤ ρ 19 ∧ ρ 19 ≤ 2 := r19
  have r20 : (0 : Int) ≤ ρ 20 ∧ ρ 20 ≤ 4 := r20
  have r21 : ((-1) : Int) ≤ ρ 21 ∧ ρ 21 ≤ 19 := r21
  have r22 : ((-1) : Int) ≤ ρ 22 ∧ ρ 22 ≤ 3 := r22
  have r23 : (0 : Int) ≤ ρ 23 ∧ ρ 23 ≤ 7 := r23
  have r24 : ((-1) : Int) ≤ ρ 24 ∧ ρ 24 ≤ 7 := r24
  have r25 : (0 : Int) ≤ ρ 25 ∧ ρ 25 ≤ 8 := r25
  have r26 : (0 : Int) ≤ ρ 26 ∧ ρ 26 ≤ 4 := r26
  have r27 : ((-1) : Int) ≤ ρ 27 ∧ ρ 27 ≤ 19 := r27
  have r28 : ((-1) : Int) ≤ ρ 28 ∧ ρ 28 ≤ 3 := r28
  have r29 : (0 : Int) ≤ ρ 29 ∧ ρ 29 ≤ 7 := r29
  have r30 : ((-1) : Int) ≤ ρ 30 ∧ ρ 30 ≤ 7 := r30
  have r31 : (0 : Int) ≤ ρ 31 ∧ ρ 31 ≤ 8 := r31
  have r32 : (0 : Int) ≤ ρ 32 ∧ ρ 32 ≤ 4 := r32
  have r33 : ((-1) : Int) ≤ ρ 33 ∧ ρ 33 ≤ 19 := r33
  have r34 : ((-1) : Int) ≤ ρ 34 ∧ ρ 34 ≤ 3 := r34
  have r35 : (0 : Int) ≤ ρ 35 ∧ ρ 35 ≤ 7 := r35
  have r36 : ((-1) : Int) ≤ ρ 36 ∧ ρ 36 ≤ 7 := r36
  have r37 : (0 : Int) ≤ ρ 37 ∧ ρ 37 ≤ 60 := r37
  obtain ⟨f0, -⟩ := hf
  have f0 : (0 : Int) ≤ -ρ 3 + ((-50001) * ρ 1 + ρ 0) + 100002 := f0
  obtain ⟨m0, m1, m2, m3, m4, m5, m6, m7, m8, m9, m10, m11, m12, m13, m14, m15, m16, m17, m18, m19, m20, m21, m22, m23, m24, m25, m26, m27, m28, m29, m30, m31, m32, m33, m34, m35, m36, m37, -⟩ := hm
  have m0 : γ 0 6 0 0 = ρ 0 := m0
  have m1 : γ 0 6 0 9 = ρ 1 := m1
  have m2 : γ 0 6 0 6 = ρ 2 := m2
  have m3 : γ 0 8 (ρ 2) 1 = ρ 3 := m3
  have m4 : γ 0 6 0 7 = ρ 4 := m4
  have m5 : γ 0 1 0 10 = ρ 5 := m5
  have m6 : γ 0 4 0 7 = ρ 6 := m6
  have m7 : γ 0 5 0 3 = ρ 7 := m7
  have m8 : γ 0 6 0 8 = ρ 8 := m8
  have m9 : γ 0 6 0 10 = ρ 9 := m9
  have m10 : γ 0 6 0 11 = ρ 10 := m10
  have m11 : γ 0 6 0 12 = ρ 11 := m11
  have m12 : γ 0 6 0 13 = ρ 12 := m12
  have m13 : γ 0 9 (ρ 4) 2 = ρ 13 := m13
  have m14 : γ 0 9 (ρ 4) 3 = ρ 14 := m14
  have m15 : γ 0 10 (9 * ρ 4) 5 = ρ 15 := m15
  have m16 : γ 0 10 (9 * ρ 4) 8 = ρ 16 := m16
  have m17 : γ 0 10 (9 * ρ 4) 12 = ρ 17 := m17
  have m18 : γ 0 10 (9 * ρ 4) 14 = ρ 18 := m18
  have m19 : γ 0 10 (9 * ρ 4 + 6) 4 = ρ 19 := m19
  have m20 : γ 0 10 (9 * ρ 4 + 6) 5 = ρ 20 := m20
  have m21 : γ 0 10 (9 * ρ 4 + 6) 8 = ρ 21 := m21
  have m22 : γ 0 10 (9 * ρ 4 + 6) 9 = ρ 22 := m22
  have m23 : γ 0 10 (9 * ρ 4 + 6) 10 = ρ 23 := m23
  have m24 : γ 0 10 (9 * ρ 4 + 6) 11 = ρ 24 := m24
  have m25 : γ 0 10 (9 * ρ 4 + 7) 4 = ρ 25 := m25
  have m26 : γ 0 10 (9 * ρ 4 + 7) 5 = ρ 26 := m26
  have m27 : γ 0 10 (9 * ρ 4 + 7) 8 = ρ 27 := m27
  have m28 : γ 0 10 (9 * ρ 4 + 7) 9 = ρ 28 := m28
  have m29 : γ 0 10 (9 * ρ 4 + 7) 10 = ρ 29 := m29
  have m30 : γ 0 10 (9 * ρ 4 + 7) 11 = ρ 30 := m30
  have m31 : γ 0 10 (9 * ρ 4 + 8) 4 = ρ 31 := m31
  have m32 : γ 0 10 (9 * ρ 4 + 8) 5 = ρ 32 := m32
  have m33 : γ 0 10 (9 * ρ 4 + 8) 8 = ρ 33 := m33
  have m34 : γ 0 10 (9 * ρ 4 + 8) 9 = ρ 34 := m34
  have m35 : γ 0 10 (9 * ρ 4 + 8) 10 = ρ 35 := m35
  have m36 : γ 0 10 (9 * ρ 4 + 8) 11 = ρ 36 := m36
  have m37 : γ 0 40 0 (ρ 5) = ρ 37 := m37
  obtain ⟨⟨-, c1⟩, c2⟩ := hc
  have c1 : ∀ (G : Nat) (k j : Int), ¬ rMdP m0_ G j → γ 1 G k j = γ 0 G k j := c1
  have c2 : ∀ (G : Nat) (k j : Int), ¬ rMdP m132_ G j → γ 2 G k j = γ 1 G k j := c2
  obtain ⟨l0, l1, -⟩ := hl
  have l0 : sn132 [ρ 4, 5] (γ 0) 0 (9 * ρ 4 + 6) (γ 1) := hS132 _ _ _ _ _ l0
  have l1 : sn228 [9 * ρ 4 + 6, ρ 6, ρ 10, ρ 20, ρ 21, ρ 22] (γ 1) 0 1 (γ 2) := hS228 _ _ _ _ _ l1
  show sn251 [ρ 0, ρ 1, ρ 2, ρ 3, ρ 4, ρ 5, ρ 6, ρ 7, ρ 8, ρ 9, ρ 10, ρ 11, ρ 12, ρ 13, ρ 14, ρ 15, ρ 16, ρ 17, ρ 18, ρ 19, ρ 20, ρ 21, ρ 22, ρ 23, ρ 24, ρ 25, ρ 26, ρ 27, ρ 28, ρ 29, ρ 30, ρ 31, ρ 32, ρ 33, ρ 34, ρ 35, ρ 36] (γ 0) 0 0 (γ 2)
  refine Eq.symm ?_
  show fn251 [] (γ 0) = _
  unfold fn251
  refine (zLet_eq m4).trans ?_
  refine (zLet_eq m13).trans ?_
  refine (zLet_eq m19).trans ?_
  refine (if_neg (show ¬ (5 ≥ ρ 13) by omega)).trans ?_
  refine (zLet_eq (show fn132 [ρ 4, 5] (γ 0) = (0, 9 * ρ 4 + 6, γ 1) from l0.symm)).trans ?_
  refine (zLet_eq (show _ = γ 1 from rfl)).trans ?_
  refine (if_pos (show ρ 19 ≠ 1 by omega)).trans ?_
  refine (if_pos (show 0 ≤ -ρ 19 + 3 by omega)).trans ?_
  refine (if_neg (show ¬ (ρ 19 ≠ 2) by omega)).trans ?_
  refine (zLet_eq (show fn228 [9 * ρ 4 + 6] (γ 1) = (0, 1, γ 2) from l1.symm)).trans ?_
  refine (zLet_eq (show _ = γ 2 from rfl)).trans ?_
  refine (if_pos (show (1 : Int) ≤ 1 by omega)).trans ?_
  rfl
theorem vn251_10 {S : Nat → zSpc} (hS132 : ∀ x g o v gz, S 132 x g o v gz → sn132 x g o v gz) (hS228 : ∀ x g o v gz, S 228 x g o v gz → sn228 x g o v gz) (hS229 : ∀ x g o v gz, S 229 x g o v gz → sn229 x g o v gz) (hS230 : ∀ x g o v gz, S 230 x g o v gz → sn230 x g o v gz) (hS231 : ∀ x g o v gz, S 231 x g o v gz → sn231 x g o v gz) (hS244 : ∀ x g o v gz, S 244 x g o v gz → sn244 x g o v gz) (hS249 : ∀ x g o v gz, S 249 x g o v gz → sn249 x g o v gz) (hS250 : ∀ x g o v gz, S 250 x g o v gz → sn250 x g o v gz) {a : List Int} {g : rHp} : ∀ (ρ : Nat → Int) (γ : Nat → rHp), zO 37 S a g q251_10 ρ γ → zGl (fun _ _ _ => True) (sn251 a g) q251_10 ρ γ := by
  intro ρ γ h
  obtain ⟨ha, hg, hr, hf, hm, hc, hl⟩ := h
  have ha : a = [ρ 0, ρ 1, ρ 2, ρ 3, ρ 4, ρ 5, ρ 6, ρ 7, ρ 8, ρ 9, ρ 10, ρ 11, ρ 12, ρ 13, ρ 14, ρ 15, ρ 16, ρ 17, ρ 18, ρ 19, ρ 20, ρ 21, ρ 22, ρ 23, ρ 24, ρ 25, ρ 26, ρ 27, ρ 28, ρ 29, ρ 30, ρ 31, ρ 32, ρ 33, ρ 34, ρ 35, ρ 36] := ha
  subst ha
  subst hg
  obtain ⟨r0, r1, r2, r3, r4, r5, r6, r7, r8, r9, r10, r11, r12, r13, r14, r15, r16, r17, r18, r19, r20, r21, r22, r23, r24, r25, r26, r27, r28, r29, r30, r31, r32, r33, r34, r35, r36, r37, -⟩ := hr
  have r0 : (0 : Int) ≤ ρ 0 ∧ ρ 0 ≤ 50000 := r0
  have r1 : (0 : Int) ≤ ρ 1 ∧ ρ 1 ≤ 2 := r1
  have r2 : (0 : Int) ≤ ρ 2 ∧ ρ 2 ≤ 2 := r2
  have r3 : (0 : Int) ≤ ρ 3 ∧ ρ 3 ≤ 50001 := r3
  have r4 : (0 : Int) ≤ ρ 4 ∧ ρ 4 ≤ 62 := r4
  have r5 : (0 : Int) ≤ ρ 5 ∧ ρ 5 ≤ 60 := r5
  have r6 : (0 : Int) ≤ ρ 6 ∧ ρ 6 ≤ 2000 := r6
  have r7 : (0 : Int) ≤ ρ 7 ∧ ρ 7 ≤ 2000 := r7
  have r8 : ((-2147483648) : Int) ≤ ρ 8 ∧ ρ 8 ≤ 2147483647 := r8
  have r9 : ((-2147483648) : Int) ≤ ρ 9 ∧ ρ 9 ≤ 2147483647 := r9
  have r10 : (0 : Int) ≤ ρ 10 ∧ ρ 10 ≤ 2000 := r10
  have r11 : (0 : Int) ≤ ρ 11 ∧ ρ 11 ≤ 2000 := r11
  have r12 : ((-2147483648) : Int) ≤ ρ 12 ∧ ρ 12 ≤ 2147483647 := r12
  have r13 : (6 : Int) ≤ ρ 13 ∧ ρ 13 ≤ 8 := r13
  have r14 : (0 : Int) ≤ ρ 14 ∧ ρ 14 ≤ 8 := r14
  have r15 : (0 : Int) ≤ ρ 15 ∧ ρ 15 ≤ 4 := r15
  have r16 : ((-1) : Int) ≤ ρ 16 ∧ ρ 16 ≤ 19 := r16
  have r17 : (0 : Int) ≤ ρ 17 ∧ ρ 17 ≤ 4 := r17
  have r18 : ((-1) : Int) ≤ ρ 18 ∧ ρ 18 ≤ 7 := r18
  have r19 : (4 : Int) ≤ ρ 19 ∧ ρ 19 ≤ 5 := r19
  have r20 : (0 : Int) ≤ ρ 20 ∧ ρ 20 ≤ 4 := r20
  have r21 : ((-1) : Int) ≤ ρ 21 ∧ ρ 21 ≤ 19 := r21
  have r22 : ((-1) : Int) ≤ ρ 22 ∧ ρ 22 ≤ 3 := r22
  have r23 : (0 : Int) ≤ ρ 23 ∧ ρ 23 ≤ 7 := r23
  have r24 : ((-1) : Int) ≤ ρ 24 ∧ ρ 24 ≤ 7 := r24
  have r25 : (0 : Int) ≤ ρ 25 ∧ ρ 25 ≤ 8 := r25
  have r26 : (0 : Int) ≤ ρ 26 ∧ ρ 26 ≤ 4 := r26
  have r27 : ((-1) : Int) ≤ ρ 27 ∧ ρ 27 ≤ 19 := r27
  have r28 : ((-1) : Int) ≤ ρ 28 ∧ ρ 28 ≤ 3 := r28
  have r29 : (0 : Int) ≤ ρ 29 ∧ ρ 29 ≤ 7 := r29
  have r30 : ((-1) : Int) ≤ ρ 30 ∧ ρ 30 ≤ 7 := r30
  have r31 : (0 : Int) ≤ ρ 31 ∧ ρ 31 ≤ 8 := r31
  have r32 : (0 : Int) ≤ ρ 32 ∧ ρ 32 ≤ 4 := r32
  have r33 : ((-1) : Int) ≤ ρ 33 ∧ ρ 33 ≤ 19 := r33
  have r34 : ((-1) : Int) ≤ ρ 34 ∧ ρ 34 ≤ 3 := r34
  have r35 : (0 : Int) ≤ ρ 35 ∧ ρ 35 ≤ 7 := r35
  have r36 : ((-1) : Int) ≤ ρ 36 ∧ ρ 36 ≤ 7 := r36
  have r37 : (0 : Int) ≤ ρ 37 ∧ ρ 37 ≤ 60 := r37
  obtain ⟨f0, -⟩ := hf
  have f0 : (0 : Int) ≤ -ρ 3 + ((-50001) * ρ 1 + ρ 0) + 100002 := f0
  obtain ⟨m0, m1, m2, m3, m4, m5, m6, m7, m8, m9, m10, m11, m12, m13, m14, m15, m16, m17, m18, m19, m20, m21, m22, m23, m24, m25, m26, m27, m28, m29, m30, m31, m32, m33, m34, m35, m36, m37, -⟩ := hm
  have m0 : γ 0 6 0 0 = ρ 0 := m0
  have m1 : γ 0 6 0 9 = ρ 1 := m1
  have m2 : γ 0 6 0 6 = ρ 2 := m2
  have m3 : γ 0 8 (ρ 2) 1 = ρ 3 := m3
  have m4 : γ 0 6 0 7 = ρ 4 := m4
  have m5 : γ 0 1 0 10 = ρ 5 := m5
  have m6 : γ 0 4 0 7 = ρ 6 := m6
  have m7 : γ 0 5 0 3 = ρ 7 := m7
  have m8 : γ 0 6 0 8 = ρ 8 := m8
  have m9 : γ 0 6 0 10 = ρ 9 := m9
  have m10 : γ 0 6 0 11 = ρ 10 := m10
  have m11 : γ 0 6 0 12 = ρ 11 := m11
  have m12 : γ 0 6 0 13 = ρ 12 := m12
  have m13 : γ 0 9 (ρ 4) 2 = ρ 13 := m13
  have m14 : γ 0 9 (ρ 4) 3 = ρ 14 := m14
  have m15 : γ 0 10 (9 * ρ 4) 5 = ρ 15 := m15
  have m16 : γ 0 10 (9 * ρ 4) 8 = ρ 16 := m16
  have m17 : γ 0 10 (9 * ρ 4) 12 = ρ 17 := m17
  have m18 : γ 0 10 (9 * ρ 4) 14 = ρ 18 := m18
  have m19 : γ 0 10 (9 * ρ 4 + 6) 4 = ρ 19 := m19
  have m20 : γ 0 10 (9 * ρ 4 + 6) 5 = ρ 20 := m20
  have m21 : γ 0 10 (9 * ρ 4 + 6) 8 = ρ 21 := m21
  have m22 : γ 0 10 (9 * ρ 4 + 6) 9 = ρ 22 := m22
  have m23 : γ 0 10 (9 * ρ 4 + 6) 10 = ρ 23 := m23
  have m24 : γ 0 10 (9 * ρ 4 + 6) 11 = ρ 24 := m24
  have m25 : γ 0 10 (9 * ρ 4 + 7) 4 = ρ 25 := m25
  have m26 : γ 0 10 (9 * ρ 4 + 7) 5 = ρ 26 := m26
  have m27 : γ 0 10 (9 * ρ 4 + 7) 8 = ρ 27 := m27
  have m28 : γ 0 10 (9 * ρ 4 + 7) 9 = ρ 28 := m28
  have m29 : γ 0 10 (9 * ρ 4 + 7) 10 = ρ 29 := m29
  have m30 : γ 0 10 (9 * ρ 4 + 7) 11 = ρ 30 := m30
  have m31 : γ 0 10 (9 * ρ 4 + 8) 4 = ρ 31 := m31
  have m32 : γ 0 10 (9 * ρ 4 + 8) 5 = ρ 32 := m32
  have m33 : γ 0 10 (9 * ρ 4 + 8) 8 = ρ 33 := m33
  have m34 : γ 0 10 (9 * ρ 4 + 8) 9 = ρ 34 := m34
  have m35 : γ 0 10 (9 * ρ 4 + 8) 10 = ρ 35 := m35
  have m36 : γ 0 10 (9 * ρ 4 + 8) 11 = ρ 36 := m36
  have m37 : γ 0 40 0 (ρ 5) = ρ 37 := m37
  obtain ⟨⟨-, c1⟩, c2⟩ := hc
  have c1 : ∀ (G : Nat) (k j : Int), ¬ rMdP m0_ G j → γ 1 G k j = γ 0 G k j := c1
  have c2 : ∀ (G : Nat) (k j : Int), ¬ rMdP m0_ G j → γ 2 G k j = γ 1 G k j := c2
  obtain ⟨l0, l1, -⟩ := hl
  have l0 : sn132 [ρ 4, 5] (γ 0) 0 (9 * ρ 4 + 6) (γ 1) := hS132 _ _ _ _ _ l0
  have l1 : sn229 [9 * ρ 4 + 6, ρ 19] (γ 1) 0 0 (γ 2) := hS229 _ _ _ _ _ l1
  show sn251 [ρ 0, ρ 1, ρ 2, ρ 3, ρ 4, ρ 5, ρ 6, ρ 7, ρ 8, ρ 9, ρ 10, ρ 11, ρ 12, ρ 13, ρ 14, ρ 15, ρ 16, ρ 17, ρ 18, ρ 19, ρ 20, ρ 21, ρ 22, ρ 23, ρ 24, ρ 25, ρ 26, ρ 27, ρ 28, ρ 29, ρ 30, ρ 31, ρ 32, ρ 33, ρ 34, ρ 35, ρ 36] (γ 0) 0 0 (γ 2)
  refine Eq.symm ?_
  show fn251 [] (γ 0) = _
  unfold fn251
  refine (zLet_eq m4).trans ?_
  refine (zLet_eq m13).trans ?_
  refine (zLet_eq m19).trans ?_
  refine (if_neg (show ¬ (5 ≥ ρ 13) by omega)).trans ?_
  refine (zLet_eq (show fn132 [ρ 4, 5] (γ 0) = (0, 9 * ρ 4 + 6, γ 1) from l0.symm)).trans ?_
  refine (zLet_eq (show _ = γ 1 from rfl)).trans ?_
  refine (if_pos (show ρ 19 ≠ 1 by omega)).trans ?_
  refine (if_neg (show ¬ (0 ≤ -ρ 19 + 3) by omega)).trans ?_
  refine (if_pos (show 0 ≤ -ρ 19 + 5 by omega)).trans ?_
  refine (zLet_eq (show fn229 [9 * ρ 4 + 6] (γ 1) = (0, 0, γ 2) from l1.symm)).trans ?_
  refine (zLet_eq (show _ = γ 2 from rfl)).trans ?_
  refine (if_neg (show ¬ ((1 : Int) ≤ 0) by omega)).trans ?_
  rfl
theorem vn251_11 {S : Nat → zSpc} (hS132 : ∀ x g o v gz, S 132 x g o v gz → sn132 x g o v gz) (hS228 : ∀ x g o v gz, S 228 x g o v gz → sn228 x g o v gz) (hS229 : ∀ x g o v gz, S 229 x g o v gz → sn229 x g o v gz) (hS230 : ∀ x g o v gz, S 230 x g o v gz → sn230 x g o v gz) (hS231 : ∀ x g o v gz, S 231 x g o v gz → sn231 x g o v gz) (hS244 : ∀ x g o v gz, S 244 x g o v gz → sn244 x g o v gz) (hS249 : ∀ x g o v gz, S 249 x g o v gz → sn249 x g o v gz) (hS250 : ∀ x g o v gz, S 250 x g o v gz → sn250 x g o v gz) {a : List Int} {g : rHp} : ∀ (ρ : Nat → Int) (γ : Nat → rHp), zO 37 S a g q251_11 ρ γ → zGl (fun _ _ _ => True) (sn251 a g) q251_11 ρ γ := by
  intro ρ γ h
  obtain ⟨ha, hg, hr, hf, hm, hc, hl⟩ := h
  have ha : a = [ρ 0, ρ 1, ρ 2, ρ 3, ρ 4, ρ 5, ρ 6, ρ 7, ρ 8, ρ 9, ρ 10, ρ 11, ρ 12, ρ 13, ρ 14, ρ 15, ρ 16, ρ 17, ρ 18, ρ 19, ρ 20, ρ 21, ρ 22, ρ 23, ρ 24, ρ 25, ρ 26, ρ 27, ρ 28, ρ 29, ρ 30, ρ 31, ρ 32, ρ 33, ρ 34, ρ 35, ρ 36] := ha
  subst ha
  subst hg
  obtain ⟨r0, r1, r2, r3, r4, r5, r6, r7, r8, r9, r10, r11, r12, r13, r14, r15, r16, r17, r18, r19, r20, r21, r22, r23, r24, r25, r26, r27, r28, r29, r30, r31, r32, r33, r34, r35, r36, r37, r38, r39, r40, r41, r42, -⟩ := hr
  have r0 : (0 : Int) ≤ ρ 0 ∧ ρ 0 ≤ 50000 := r0
  have r1 : (0 : Int) ≤ ρ 1 ∧ ρ 1 ≤ 2 := r1
  have r2 : (0 : Int) ≤ ρ 2 ∧ ρ 2 ≤ 2 := r2
  have r3 : (0 : Int) ≤ ρ 3 ∧ ρ 3 ≤ 50001 := r3
  have r4 : (0 : Int) ≤ ρ 4 ∧ ρ 4 ≤ 62 := r4
  have r5 : (0 : Int) ≤ ρ 5 ∧ ρ 5 ≤ 60 := r5
  have r6 : (0 : Int) ≤ ρ 6 ∧ ρ 6 ≤ 2000 := r6
  have r7 : (0 : Int) ≤ ρ 7 ∧ ρ 7 ≤ 2000 := r7
  have r8 : ((-2147483648) : Int) ≤ ρ 8 ∧ ρ 8 ≤ 2147483647 := r8
  have r9 : ((-2147483648) : Int) ≤ ρ 9 ∧ ρ 9 ≤ 2147483647 := r9
  have r10 : (0 : Int) ≤ ρ 10 ∧ ρ 10 ≤ 2000 := r10
  have r11 : (0 : Int) ≤ ρ 11 ∧ ρ 11 ≤ 2000 := r11
  have r12 : ((-2147483648) : Int) ≤ ρ 12 ∧ ρ 12 ≤ 2147483647 := r12
  have r13 : (6 : Int) ≤ ρ 13 ∧ ρ 13 ≤ 8 := r13
  have r14 : (0 : Int) ≤ ρ 14 ∧ ρ 14 ≤ 8 := r14
  have r15 : (0 : Int) ≤ ρ 15 ∧ ρ 15 ≤ 4 := r15
  have r16 : ((-1) : Int) ≤ ρ 16 ∧ ρ 16 ≤ 19 := r16
  have r17 : (0 : Int) ≤ ρ 17 ∧ ρ 17 ≤ 4 := r17
  have r18 : ((-1) : Int) ≤ ρ 18 ∧ ρ 18 ≤ 7 := r18
  have r19 : (4 : Int) ≤ ρ 19 ∧ ρ 19 ≤ 5 := r19
  have r20 : (0 : Int) ≤ ρ 20 ∧ ρ 20 ≤ 4 := r20
  have r21 : ((-1) : Int) ≤ ρ 21 ∧ ρ 21 ≤ 19 := r21
  have r22 : ((-1) : Int) ≤ ρ 22 ∧ ρ 22 ≤ 3 := r22
  have r23 : (0 : Int) ≤ ρ 23 ∧ ρ 23 ≤ 7 := r23
  have r24 : ((-1) : Int) ≤ ρ 24 ∧ ρ 24 ≤ 7 := r24
  have r25 : (0 : Int) ≤ ρ 25 ∧ ρ 25 ≤ 8 := r25
  have r26 : (0 : Int) ≤ ρ 26 ∧ ρ 26 ≤ 4 := r26
  have r27 : ((-1) : Int) ≤ ρ 27 ∧ ρ 27 ≤ 19 := r27
  have r28 : ((-1) : Int) ≤ ρ 28 ∧ ρ 28 ≤ 3 := r28
  have r29 : (0 : Int) ≤ ρ 29 ∧ ρ 29 ≤ 7 := r29
  have r30 : ((-1) : Int) ≤ ρ 30 ∧ ρ 30 ≤ 7 := r30
  have r31 : (0 : Int) ≤ ρ 31 ∧ ρ 31 ≤ 8 := r31
  have r32 : (0 : Int) ≤ ρ 32 ∧ ρ 32 ≤ 4 := r32
  have r33 : ((-1) : Int) ≤ ρ 33 ∧ ρ 33 ≤ 19 := r33
  have r34 : ((-1) : Int) ≤ ρ 34 ∧ ρ 34 ≤ 3 := r34
  have r35 : (0 : Int) ≤ ρ 35 ∧ ρ 35 ≤ 7 := r35
  have r36 : ((-1) : Int) ≤ ρ 36 ∧ ρ 36 ≤ 7 := r36
  have r37 : (0 : Int) ≤ ρ 37 ∧ ρ 37 ≤ 60 := r37
  have r38 : (0 : Int) ≤ ρ 38 ∧ ρ 38 ≤ 50000 := r38
  have r39 : (0 : Int) ≤ ρ 39 ∧ ρ 39 ≤ 50001 := r39
  have r40 : (0 : Int) ≤ ρ 40 ∧ ρ 40 ≤ 2000 := r40
  have r41 : (0 : Int) ≤ ρ 41 ∧ ρ 41 ≤ 2000 := r41
  have r42 : ((-2147483648) : Int) ≤ ρ 42 ∧ ρ 42 ≤ 2147483647 := r42
  obtain ⟨f0, f1, f2, f3, f4, f5, -⟩ := hf
  have f0 : (0 : Int) ≤ -ρ 3 + ((-50001) * ρ 1 + ρ 0) + 100002 := f0
  have f1 : (0 : Int) ≤ ρ 38 + -ρ 0 := f1
  have f2 : (0 : Int) ≤ ρ 39 + -ρ 3 := f2
  have f3 : (0 : Int) ≤ ρ 40 + -ρ 6 := f3
  have f4 : (0 : Int) ≤ ρ 41 + -ρ 7 := f4
  have f5 : (0 : Int) ≤ -ρ 39 + (ρ 38 + (ρ 3 + -ρ 0)) + 1 := f5
  obtain ⟨m0, m1, m2, m3, m4, m5, m6, m7, m8, m9, m10, m11, m12, m13, m14, m15, m16, m17, m18, m19, m20, m21, m22, m23, m24, m25, m26, m27, m28, m29, m30, m31, m32, m33, m34, m35, m36, m37, m38, m39, m40, m41, m42, -⟩ := hm
  have m0 : γ 0 6 0 0 = ρ 0 := m0
  have m1 : γ 0 6 0 9 = ρ 1 := m1
  have m2 : γ 0 6 0 6 = ρ 2 := m2
  have m3 : γ 0 8 (ρ 2) 1 = ρ 3 := m3
  have m4 : γ 0 6 0 7 = ρ 4 := m4
  have m5 : γ 0 1 0 10 = ρ 5 := m5
  have m6 : γ 0 4 0 7 = ρ 6 := m6
  have m7 : γ 0 5 0 3 = ρ 7 := m7
  have m8 : γ 0 6 0 8 = ρ 8 := m8
  have m9 : γ 0 6 0 10 = ρ 9 := m9
  have m10 : γ 0 6 0 11 = ρ 10 := m10
  have m11 : γ 0 6 0 12 = ρ 11 := m11
  have m12 : γ 0 6 0 13 = ρ 12 := m12
  have m13 : γ 0 9 (ρ 4) 2 = ρ 13 := m13
  have m14 : γ 0 9 (ρ 4) 3 = ρ 14 := m14
  have m15 : γ 0 10 (9 * ρ 4) 5 = ρ 15 := m15
  have m16 : γ 0 10 (9 * ρ 4) 8 = ρ 16 := m16
  have m17 : γ 0 10 (9 * ρ 4) 12 = ρ 17 := m17
  have m18 : γ 0 10 (9 * ρ 4) 14 = ρ 18 := m18
  have m19 : γ 0 10 (9 * ρ 4 + 6) 4 = ρ 19 := m19
  have m20 : γ 0 10 (9 * ρ 4 + 6) 5 = ρ 20 := m20
  have m21 : γ 0 10 (9 * ρ 4 + 6) 8 = ρ 21 := m21
  have m22 : γ 0 10 (9 * ρ 4 + 6) 9 = ρ 22 := m22
  have m23 : γ 0 10 (9 * ρ 4 + 6) 10 = ρ 23 := m23
  have m24 : γ 0 10 (9 * ρ 4 + 6) 11 = ρ 24 := m24
  have m25 : γ 0 10 (9 * ρ 4 + 7) 4 = ρ 25 := m25
  have m26 : γ 0 10 (9 * ρ 4 + 7) 5 = ρ 26 := m26
  have m27 : γ 0 10 (9 * ρ 4 + 7) 8 = ρ 27 := m27
  have m28 : γ 0 10 (9 * ρ 4 + 7) 9 = ρ 28 := m28
  have m29 : γ 0 10 (9 * ρ 4 + 7) 10 = ρ 29 := m29
  have m30 : γ 0 10 (9 * ρ 4 + 7) 11 = ρ 30 := m30
  have m31 : γ 0 10 (9 * ρ 4 + 8) 4 = ρ 31 := m31
  have m32 : γ 0 10 (9 * ρ 4 + 8) 5 = ρ 32 := m32
  have m33 : γ 0 10 (9 * ρ 4 + 8) 8 = ρ 33 := m33
  have m34 : γ 0 10 (9 * ρ 4 + 8) 9 = ρ 34 := m34
  have m35 : γ 0 10 (9 * ρ 4 + 8) 10 = ρ 35 := m35
  have m36 : γ 0 10 (9 * ρ 4 + 8) 11 = ρ 36 := m36
  have m37 : γ 0 40 0 (ρ 5) = ρ 37 := m37
  have m38 : γ 3 6 0 0 = ρ 38 := m38
  have m39 : γ 3 8 (ρ 2) 1 = ρ 39 := m39
  have m40 : γ 3 4 0 7 = ρ 40 := m40
  have m41 : γ 3 5 0 3 = ρ 41 := m41
  have m42 : γ 3 6 0 13 = ρ 42 := m42
  obtain ⟨⟨⟨-, c1⟩, c2⟩, c3⟩ := hc
  have c1 : ∀ (G : Nat) (k j : Int), ¬ rMdP m0_ G j → γ 1 G k j = γ 0 G k j := c1
  have c2 : ∀ (G : Nat) (k j : Int), ¬ rMdP m0_ G j → γ 2 G k j = γ 1 G k j := c2
  have c3 : ∀ (G : Nat) (k j : Int), ¬ rMdP m140_ G j → γ 3 G k j = γ 2 G k j := c3
  obtain ⟨l0, l1, l2, -⟩ := hl
  have l0 : sn132 [ρ 4, 5] (γ 0) 0 (9 * ρ 4 + 6) (γ 1) := hS132 _ _ _ _ _ l0
  have l1 : sn229 [9 * ρ 4 + 6, ρ 19] (γ 1) 0 1 (γ 2) := hS229 _ _ _ _ _ l1
  have l2 : sn249 [ρ 0, ρ 1, ρ 2, ρ 3, ρ 4, ρ 5, ρ 6, ρ 7, ρ 8, ρ 9, ρ 10, ρ 11, ρ 12, ρ 13, ρ 14, ρ 15, ρ 16, ρ 17, ρ 18, ρ 25, ρ 26, ρ 27, ρ 28, ρ 29, ρ 30, ρ 31, ρ 32, ρ 33, ρ 34, ρ 35, ρ 36] (γ 2) 0 0 (γ 3) := hS249 _ _ _ _ _ l2
  show sn251 [ρ 0, ρ 1, ρ 2, ρ 3, ρ 4, ρ 5, ρ 6, ρ 7, ρ 8, ρ 9, ρ 10, ρ 11, ρ 12, ρ 13, ρ 14, ρ 15, ρ 16, ρ 17, ρ 18, ρ 19, ρ 20, ρ 21, ρ 22, ρ 23, ρ 24, ρ 25, ρ 26, ρ 27, ρ 28, ρ 29, ρ 30, ρ 31, ρ 32, ρ 33, ρ 34, ρ 35, ρ 36] (γ 0) 0 0 (γ 3)
  refine Eq.symm ?_
  show fn251 [] (γ 0) = _
  unfold fn251
  refine (zLet_eq m4).trans ?_
  refine (zLet_eq m13).trans ?_
  refine (zLet_eq m19).trans ?_
  refine (if_neg (show ¬ (5 ≥ ρ 13) by omega)).trans ?_
  refine (zLet_eq (show fn132 [ρ 4, 5] (γ 0) = (0, 9 * ρ 4 + 6, γ 1) from l0.symm)).trans ?_
  refine (zLet_eq (show _ = γ 1 from rfl)).trans ?_
  refine (if_pos (show ρ 19 ≠ 1 by omega)).trans ?_
  refine (if_neg (show ¬ (0 ≤ -ρ 19 + 3) by omega)).trans ?_
  refine (if_pos (show 0 ≤ -ρ 19 + 5 by omega)).trans ?_
  refine (zLet_eq (show fn229 [9 * ρ 4 + 6] (γ 1) = (0, 1, γ 2) from l1.symm)).trans ?_
  refine (zLet_eq (show _ = γ 2 from rfl)).trans ?_
  refine (if_pos (show (1 : Int) ≤ 1 by omega)).trans ?_
  refine (zLet_eq (show fn249 [] (γ 2) = (0, 0, γ 3) from l2.symm)).trans ?_
  refine (zLet_eq (show _ = γ 3 from rfl)).trans ?_
  refine (if_pos (show (0 : Nat) = 0 by decide)).trans ?_
  rfl
theorem vn251_12 {S : Nat → zSpc} (hS132 : ∀ x g o v gz, S 132 x g o v gz → sn132 x g o v gz) (hS228 : ∀ x g o v gz, S 228 x g o v gz → sn228 x g o v gz) (hS229 : ∀ x g o v gz, S 229 x g o v gz → sn229 x g o v gz) (hS230 : ∀ x g o v gz, S 230 x g o v gz → sn230 x g o v gz) (hS231 : ∀ x g o v gz, S 231 x g o v gz → sn231 x g o v gz) (hS244 : ∀ x g o v gz, S 244 x g o v gz → sn244 x g o v gz) (hS249 : ∀ x g o v gz, S 249 x g o v gz → sn249 x g o v gz) (hS250 : ∀ x g o v gz, S 250 x g o v gz → sn250 x g o v gz) {a : List Int} {g : rHp} : ∀ (ρ : Nat → Int) (γ : Nat → rHp), zO 37 S a g q251_12 ρ γ → zGl (fun _ _ _ => True) (sn251 a g) q251_12 ρ γ := by
  intro ρ γ h
  obtain ⟨ha, hg, hr, hf, hm, hc, hl⟩ := h
  have ha : a = [ρ 0, ρ 1, ρ 2, ρ 3, ρ 4, ρ 5, ρ 6, ρ 7, ρ 8, ρ 9, ρ 10, ρ 11, ρ 12, ρ 13, ρ 14, ρ 15, ρ 16, ρ 17, ρ 18, ρ 19, ρ 20, ρ 21, ρ 22, ρ 23, ρ 24, ρ 25, ρ 26, ρ 27, ρ 28, ρ 29, ρ 30, ρ 31, ρ 32, ρ 33, ρ 34, ρ 35, ρ 36] := ha
  subst ha
  subst hg
  obtain ⟨r0, r1, r2, r3, r4, r5, r6, r7, r8, r9, r10, r11, r12, r13, r14, r15, r16, r17, r18, r19, r20, r21, r22, r23, r24, r25, r26, r27, r28, r29, r30, r31, r32, r33, r34, r35, r36, r37, r38, r39, r40, r41, r42, -⟩ := hr
  have r0 : (0 : Int) ≤ ρ 0 ∧ ρ 0 ≤ 50000 := r0
  have r1 : (0 : Int) ≤ ρ 1 ∧ ρ 1 ≤ 1 := r1
  have r2 : (0 : Int) ≤ ρ 2 ∧ ρ 2 ≤ 2 := r2
  have r3 : (0 : Int) ≤ ρ 3 ∧ ρ 3 ≤ 50001 := r3
  have r4 : (0 : Int) ≤ ρ 4 ∧ ρ 4 ≤ 62 := r4
  have r5 : (0 : Int) ≤ ρ 5 ∧ ρ 5 ≤ 60 := r5
  have r6 : (0 : Int) ≤ ρ 6 ∧ ρ 6 ≤ 2000 := r6
  have r7 : (0 : Int) ≤ ρ 7 ∧ ρ 7 ≤ 2000 := r7
  have r8 : ((-2147483648) : Int) ≤ ρ 8 ∧ ρ 8 ≤ 2147483647 := r8
  have r9 : ((-2147483648) : Int) ≤ ρ 9 ∧ ρ 9 ≤ 2147483647 := r9
  have r10 : (0 : Int) ≤ ρ 10 ∧ ρ 10 ≤ 2000 := r10
  have r11 : (0 : Int) ≤ ρ 11 ∧ ρ 11 ≤ 2000 := r11
  have r12 : ((-2147483648) : Int) ≤ ρ 12 ∧ ρ 12 ≤ 2147483647 := r12
  have r13 : (6 : Int) ≤ ρ 13 ∧ ρ 13 ≤ 8 := r13
  have r14 : (0 : Int) ≤ ρ 14 ∧ ρ 14 ≤ 8 := r14
  have r15 : (0 : Int) ≤ ρ 15 ∧ ρ 15 ≤ 4 := r15
  have r16 : ((-1) : Int) ≤ ρ 16 ∧ ρ 16 ≤ 19 := r16
  have r17 : (0 : Int) ≤ ρ 17 ∧ ρ 17 ≤ 4 := r17
  have r18 : ((-1) : Int) ≤ ρ 18 ∧ ρ 18 ≤ 7 := r18
  have r19 : (4 : Int) ≤ ρ 19 ∧ ρ 19 ≤ 5 := r19
  have r20 : (0 : Int) ≤ ρ 20 ∧ ρ 20 ≤ 4 := r20
  have r21 : ((-1) : Int) ≤ ρ 21 ∧ ρ 21 ≤ 19 := r21
  have r22 : ((-1) : Int) ≤ ρ 22 ∧ ρ 22 ≤ 3 := r22
  have r23 : (0 : Int) ≤ ρ 23 ∧ ρ 23 ≤ 7 := r23
  have r24 : ((-1) : Int) ≤ ρ 24 ∧ ρ 24 ≤ 7 := r24
  have r25 : (0 : Int) ≤ ρ 25 ∧ ρ 25 ≤ 8 := r25
  have r26 : (0 : Int) ≤ ρ 26 ∧ ρ 26 ≤ 4 := r26
  have r27 : ((-1) : Int) ≤ ρ 27 ∧ ρ 27 ≤ 19 := r27
  have r28 : ((-1) : Int) ≤ ρ 28 ∧ ρ 28 ≤ 3 := r28
  have r29 : (0 : Int) ≤ ρ 29 ∧ ρ 29 ≤ 7 := r29
  have r30 : ((-1) : Int) ≤ ρ 30 ∧ ρ 30 ≤ 7 := r30
  have r31 : (0 : Int) ≤ ρ 31 ∧ ρ 31 ≤ 8 := r31
  have r32 : (0 : Int) ≤ ρ 32 ∧ ρ 32 ≤ 4 := r32
  have r33 : ((-1) : Int) ≤ ρ 33 ∧ ρ 33 ≤ 19 := r33
  have r34 : ((-1) : Int) ≤ ρ 34 ∧ ρ 34 ≤ 3 := r34
  have r35 : (0 : Int) ≤ ρ 35 ∧ ρ 35 ≤ 7 := r35
  have r36 : ((-1) : Int) ≤ ρ 36 ∧ ρ 36 ≤ 7 := r36
  have r37 : (0 : Int) ≤ ρ 37 ∧ ρ 37 ≤ 60 := r37
  have r38 : (0 : Int) ≤ ρ 38 ∧ ρ 38 ≤ 50000 := r38
  have r39 : (0 : Int) ≤ ρ 39 ∧ ρ 39 ≤ 50001 := r39
  have r40 : (0 : Int) ≤ ρ 40 ∧ ρ 40 ≤ 2000 := r40
  have r41 : (0 : Int) ≤ ρ 41 ∧ ρ 41 ≤ 2000 := r41
  have r42 : ((-2147483648) : Int) ≤ ρ 42 ∧ ρ 42 ≤ 2147483647 := r42
  obtain ⟨f0, f1, f2, f3, f4, f5, -⟩ := hf
  have f0 : (0 : Int) ≤ ρ 38 + -ρ 0 := f0
  have f1 : (0 : Int) ≤ ρ 39 + -ρ 3 := f1
  have f2 : (0 : Int) ≤ ρ 40 + -ρ 6 := f2
  have f3 : (0 : Int) ≤ ρ 41 + -ρ 7 := f3
  have f4 : (0 : Int) ≤ -ρ 39 + (ρ 38 + (ρ 3 + -ρ 0)) + 1 := f4
  have f5 : (0 : Int) ≤ -ρ 3 + ((-50001) * ρ 1 + ρ 0) + 100002 := f5
  obtain ⟨m0, m1, m2, m3, m4, m5, m6, m7, m8, m9, m10, m11, m12, m13, m14, m15, m16, m17, m18, m19, m20, m21, m22, m23, m24, m25, m26, m27, m28, m29, m30, m31, m32, m33, m34, m35, m36, m37, m38, m39, m40, m41, m42, -⟩ := hm
  have m0 : γ 0 6 0 0 = ρ 0 := m0
  have m1 : γ 0 6 0 9 = ρ 1 := m1
  have m2 : γ 0 6 0 6 = ρ 2 := m2
  have m3 : γ 0 8 (ρ 2) 1 = ρ 3 := m3
  have m4 : γ 0 6 0 7 = ρ 4 := m4
  have m5 : γ 0 1 0 10 = ρ 5 := m5
  have m6 : γ 0 4 0 7 = ρ 6 := m6
  have m7 : γ 0 5 0 3 = ρ 7 := m7
  have m8 : γ 0 6 0 8 = ρ 8 := m8
  have m9 : γ 0 6 0 10 = ρ 9 := m9
  have m10 : γ 0 6 0 11 = ρ 10 := m10
  have m11 : γ 0 6 0 12 = ρ 11 := m11
  have m12 : γ 0 6 0 13 = ρ 12 := m12
  have m13 : γ 0 9 (ρ 4) 2 = ρ 13 := m13
  have m14 : γ 0 9 (ρ 4) 3 = ρ 14 := m14
  have m15 : γ 0 10 (9 * ρ 4) 5 = ρ 15 := m15
  have m16 : γ 0 10 (9 * ρ 4) 8 = ρ 16 := m16
  have m17 : γ 0 10 (9 * ρ 4) 12 = ρ 17 := m17
  have m18 : γ 0 10 (9 * ρ 4) 14 = ρ 18 := m18
  have m19 : γ 0 10 (9 * ρ 4 + 6) 4 = ρ 19 := m19
  have m20 : γ 0 10 (9 * ρ 4 + 6) 5 = ρ 20 := m20
  have m21 : γ 0 10 (9 * ρ 4 + 6) 8 = ρ 21 := m21
  have m22 : γ 0 10 (9 * ρ 4 + 6) 9 = ρ 22 := m22
  have m23 : γ 0 10 (9 * ρ 4 + 6) 10 = ρ 23 := m23
  have m24 : γ 0 10 (9 * ρ 4 + 6) 11 = ρ 24 := m24
  have m25 : γ 0 10 (9 * ρ 4 + 7) 4 = ρ 25 := m25
  have m26 : γ 0 10 (9 * ρ 4 + 7) 5 = ρ 26 := m26
  have m27 : γ 0 10 (9 * ρ 4 + 7) 8 = ρ 27 := m27
  have m28 : γ 0 10 (9 * ρ 4 + 7) 9 = ρ 28 := m28
  have m29 : γ 0 10 (9 * ρ 4 + 7) 10 = ρ 29 := m29
  have m30 : γ 0 10 (9 * ρ 4 + 7) 11 = ρ 30 := m30
  have m31 : γ 0 10 (9 * ρ 4 + 8) 4 = ρ 31 := m31
  have m32 : γ 0 10 (9 * ρ 4 + 8) 5 = ρ 32 := m32
  have m33 : γ 0 10 (9 * ρ 4 + 8) 8 = ρ 33 := m33
  have m34 : γ 0 10 (9 * ρ 4 + 8) 9 = ρ 34 := m34
  have m35 : γ 0 10 (9 * ρ 4 + 8) 10 = ρ 35 := m35
  have m36 : γ 0 10 (9 * ρ 4 + 8) 11 = ρ 36 := m36
  have m37 : γ 0 40 0 (ρ 5) = ρ 37 := m37
  have m38 : γ 3 6 0 0 = ρ 38 := m38
  have m39 : γ 3 8 (ρ 2) 1 = ρ 39 := m39
  have m40 : γ 3 4 0 7 = ρ 40 := m40
  have m41 : γ 3 5 0 3 = ρ 41 := m41
  have m42 : γ 3 6 0 13 = ρ 42 := m42
  obtain ⟨⟨⟨-, c1⟩, c2⟩, c3⟩ := hc
  have c1 : ∀ (G : Nat) (k j : Int), ¬ rMdP m0_ G j → γ 1 G k j = γ 0 G k j := c1
  have c2 : ∀ (G : Nat) (k j : Int), ¬ rMdP m0_ G j → γ 2 G k j = γ 1 G k j := c2
  have c3 : ∀ (G : Nat) (k j : Int), ¬ rMdP m140_ G j → γ 3 G k j = γ 2 G k j := c3
  obtain ⟨l0, l1, l2, -⟩ := hl
  have l0 : sn132 [ρ 4, 5] (γ 0) 0 (9 * ρ 4 + 6) (γ 1) := hS132 _ _ _ _ _ l0
  have l1 : sn229 [9 * ρ 4 + 6, ρ 19] (γ 1) 0 1 (γ 2) := hS229 _ _ _ _ _ l1
  have l2 : sn249 [ρ 0, ρ 1, ρ 2, ρ 3, ρ 4, ρ 5, ρ 6, ρ 7, ρ 8, ρ 9, ρ 10, ρ 11, ρ 12, ρ 13, ρ 14, ρ 15, ρ 16, ρ 17, ρ 18, ρ 25, ρ 26, ρ 27, ρ 28, ρ 29, ρ 30, ρ 31, ρ 32, ρ 33, ρ 34, ρ 35, ρ 36] (γ 2) 1 0 (γ 3) := hS249 _ _ _ _ _ l2
  show sn251 [ρ 0, ρ 1, ρ 2, ρ 3, ρ 4, ρ 5, ρ 6, ρ 7, ρ 8, ρ 9, ρ 10, ρ 11, ρ 12, ρ 13, ρ 14, ρ 15, ρ 16, ρ 17, ρ 18, ρ 19, ρ 20, ρ 21, ρ 22, ρ 23, ρ 24, ρ 25, ρ 26, ρ 27, ρ 28, ρ 29, ρ 30, ρ 31, ρ 32, ρ 33, ρ 34, ρ 35, ρ 36] (γ 0) 1 0 (γ 3)
  refine Eq.symm ?_
  show fn251 [] (γ 0) = _
  unfold fn251
  refine (zLet_eq m4).trans ?_
  refine (zLet_eq m13).trans ?_
  refine (zLet_eq m19).trans ?_
  refine (if_neg (show ¬ (5 ≥ ρ 13) by omega)).trans ?_
  refine (zLet_eq (show fn132 [ρ 4, 5] (γ 0) = (0, 9 * ρ 4 + 6, γ 1) from l0.symm)).trans ?_
  refine (zLet_eq (show _ = γ 1 from rfl)).trans ?_
  refine (if_pos (show ρ 19 ≠ 1 by omega)).trans ?_
  refine (if_neg (show ¬ (0 ≤ -ρ 19 + 3) by omega)).trans ?_
  refine (if_pos (show 0 ≤ -ρ 19 + 5 by omega)).trans ?_
  refine (zLet_eq (show fn229 [9 * ρ 4 + 6] (γ 1) = (0, 1, γ 2) from l1.symm)).trans ?_
  refine (zLet_eq (show _ = γ 2 from rfl)).trans ?_
  refine (if_pos (show (1 : Int) ≤ 1 by omega)).trans ?_
  refine (zLet_eq (show fn249 [] (γ 2) = (1, 0, γ 3) from l2.symm)).trans ?_
  refine (zLet_eq (show _ = γ 3 from rfl)).trans ?_
  refine (if_neg (show ¬ (1 : Nat) = 0 by decide)).trans ?_
  refine (if_pos (show (1 : Nat) = 1 by decide)).trans ?_
  rfl
theorem vn251_13 {S : Nat → zSpc} (hS132 : ∀ x g o v gz, S 132 x g o v gz → sn132 x g o v gz) (hS228 : ∀ x g o v gz, S 228 x g o v gz → sn228 x g o v gz) (hS229 : ∀ x g o v gz, S 229 x g o v gz → sn229 x g o v gz) (hS230 : ∀ x g o v gz, S 230 x g o v gz → sn230 x g o v gz) (hS231 : ∀ x g o v gz, S 231 x g o v gz → sn231 x g o v gz) (hS244 : ∀ x g o v gz, S 244 x g o v gz → sn244 x g o v gz) (hS249 : ∀ x g o v gz, S 249 x g o v gz → sn249 x g o v gz) (hS250 : ∀ x g o v gz, S 250 x g o v gz → sn250 x g o v gz) {a : List Int} {g : rHp} : ∀ (ρ : Nat → Int) (γ : Nat → rHp), zO 37 S a g q251_13 ρ γ → zGl (fun _ _ _ => True) (sn251 a g) q251_13 ρ γ := by
  intro ρ γ h
  obtain ⟨ha, hg, hr, hf, hm, hc, hl⟩ := h
  have ha : a = [ρ 0, ρ 1, ρ 2, ρ 3, ρ 4, ρ 5, ρ 6, ρ 7, ρ 8, ρ 9, ρ 10, ρ 11, ρ 12, ρ 13, ρ 14, ρ 15, ρ 16, ρ 17, ρ 18, ρ 19, ρ 20, ρ 21, ρ 22, ρ 23, ρ 24, ρ 25, ρ 26, ρ 27, ρ 28, ρ 29, ρ 30, ρ 31, ρ 32, ρ 33, ρ 34, ρ 35, ρ 36] := ha
  subst ha
  subst hg
  obtain ⟨r0, r1, r2, r3, r4, r5, r6, r7, r8, r9, r10, r11, r12, r13, r14, r15, r16, r17, r18, r19, r20, r21, r22, r23, r24, r25, r26, r27, r28, r29, r30, r31, r32, r33, r34, r35, r36, r37, r38, r39, r40, r41, r42, -⟩ := hr
  have r0 : (0 : Int) ≤ ρ 0 ∧ ρ 0 ≤ 50000 := r0
  have r1 : (0 : Int) ≤ ρ 1 ∧ ρ 1 ≤ 2 := r1
  have r2 : (0 : Int) ≤ ρ 2 ∧ ρ 2 ≤ 2 := r2
  have r3 : (0 : Int) ≤ ρ 3 ∧ ρ 3 ≤ 50001 := r3
  have r4 : (0 : Int) ≤ ρ 4 ∧ ρ 4 ≤ 62 := r4
  have r5 : (0 : Int) ≤ ρ 5 ∧ ρ 5 ≤ 60 := r5
  have r6 : (0 : Int) ≤ ρ 6 ∧ ρ 6 ≤ 2000 := r6
  have r7 : (0 : Int) ≤ ρ 7 ∧ ρ 7 ≤ 2000 := r7
  have r8 : ((-2147483648) : Int) ≤ ρ 8 ∧ ρ 8 ≤ 2147483647 := r8
  have r9 : ((-2147483648) : Int) ≤ ρ 9 ∧ ρ 9 ≤ 2147483647 := r9
  have r10 : (0 : Int) ≤ ρ 10 ∧ ρ 10 ≤ 2000 := r10
  have r11 : (0 : Int) ≤ ρ 11 ∧ ρ 11 ≤ 2000 := r11
  have r12 : ((-2147483648) : Int) ≤ ρ 12 ∧ ρ 12 ≤ 2147483647 := r12
  have r13 : (7 : Int) ≤ ρ 13 ∧ ρ 13 ≤ 8 := r13
  have r14 : (0 : Int) ≤ ρ 14 ∧ ρ 14 ≤ 8 := r14
  have r15 : (0 : Int) ≤ ρ 15 ∧ ρ 15 ≤ 4 := r15
  have r16 : ((-1) : Int) ≤ ρ 16 ∧ ρ 16 ≤ 19 := r16
  have r17 : (0 : Int) ≤ ρ 17 ∧ ρ 17 ≤ 4 := r17
  have r18 : ((-1) : Int) ≤ ρ 18 ∧ ρ 18 ≤ 7 := r18
  have r19 : (4 : Int) ≤ ρ 19 ∧ ρ 19 ≤ 5 := r19
  have r20 : (0 : Int) ≤ ρ 20 ∧ ρ 20 ≤ 4 := r20
  have r21 : ((-1) : Int) ≤ ρ 21 ∧ ρ 21 ≤ 19 := r21
  have r22 : ((-1) : Int) ≤ ρ 22 ∧ ρ 22 ≤ 3 := r22
  have r23 : (0 : Int) ≤ ρ 23 ∧ ρ 23 ≤ 7 := r23
  have r24 : ((-1) : Int) ≤ ρ 24 ∧ ρ 24 ≤ 7 := r24
  have r25 : (1 : Int) ≤ ρ 25 ∧ ρ 25 ≤ 8 := r25
  have r26 : (0 : Int) ≤ ρ 26 ∧ ρ 26 ≤ 4 := r26
  have r27 : ((-1) : Int) ≤ ρ 27 ∧ ρ 27 ≤ 19 := r27
  have r28 : ((-1) : Int) ≤ ρ 28 ∧ ρ 28 ≤ 3 := r28
  have r29 : (0 : Int) ≤ ρ 29 ∧ ρ 29 ≤ 7 := r29
  have r30 : ((-1) : Int) ≤ ρ 30 ∧ ρ 30 ≤ 7 := r30
  have r31 : (0 : Int) ≤ ρ 31 ∧ ρ 31 ≤ 8 := r31
  have r32 : (0 : Int) ≤ ρ 32 ∧ ρ 32 ≤ 4 := r32
  have r33 : ((-1) : Int) ≤ ρ 33 ∧ ρ 33 ≤ 19 := r33
  have r34 : ((-1) : Int) ≤ ρ 34 ∧ ρ 34 ≤ 3 := r34
  have r35 : (0 : Int) ≤ ρ 35 ∧ ρ 35 ≤ 7 := r35
  have r36 : ((-1) : Int) ≤ ρ 36 ∧ ρ 36 ≤ 7 := r36
  have r37 : (0 : Int) ≤ ρ 37 ∧ ρ 37 ≤ 60 := r37
  have r38 : (50001 : Int) ≤ ρ 38 ∧ ρ 38 ≤ 50001 := r38
  have r39 : (0 : Int) ≤ ρ 39 ∧ ρ 39 ≤ 50001 := r39
  have r40 : (0 : Int) ≤ ρ 40 ∧ ρ 40 ≤ 2000 := r40
  have r41 : (0 : Int) ≤ ρ 41 ∧ ρ 41 ≤ 2000 := r41
  have r42 : ((-2147483648) : Int) ≤ ρ 42 ∧ ρ 42 ≤ 2147483647 := r42
  obtain ⟨f0, f1, f2, f3, f4, f5, -⟩ := hf
  have f0 : (0 : Int) ≤ -ρ 3 + ((-50001) * ρ 1 + ρ 0) + 100002 := f0
  have f1 : (0 : Int) ≤ ρ 39 + -ρ 3 := f1
  have f2 : (0 : Int) ≤ ρ 40 + -ρ 6 := f2
  have f3 : (0 : Int) ≤ ρ 41 + -ρ 7 := f3
  have f4 : (0 : Int) ≤ -ρ 25 + ρ 13 := f4
  have f5 : (0 : Int) ≤ -ρ 39 + (ρ 38 + (ρ 3 + -ρ 0)) + 1 := f5
  obtain ⟨m0, m1, m2, m3, m4, m5, m6, m7, m8, m9, m10, m11, m12, m13, m14, m15, m16, m17, m18, m19, m20, m21, m22, m23, m24, m25, m26, m27, m28, m29, m30, m31, m32, m33, m34, m35, m36, m37, m38, m39, m40, m41, m42, -⟩ := hm
  have m0 : γ 0 6 0 0 = ρ 0 := m0
  have m1 : γ 0 6 0 9 = ρ 1 := m1
  have m2 : γ 0 6 0 6 = ρ 2 := m2
  have m3 : γ 0 8 (ρ 2) 1 = ρ 3 := m3
  have m4 : γ 0 6 0 7 = ρ 4 := m4
  have m5 : γ 0 1 0 10 = ρ 5 := m5
  have m6 : γ 0 4 0 7 = ρ 6 := m6
  have m7 : γ 0 5 0 3 = ρ 7 := m7
  have m8 : γ 0 6 0 8 = ρ 8 := m8
  have m9 : γ 0 6 0 10 = ρ 9 := m9
  have m10 : γ 0 6 0 11 = ρ 10 := m10
  have m11 : γ 0 6 0 12 = ρ 11 := m11
  have m12 : γ 0 6 0 13 = ρ 12 := m12
  have m13 : γ 0 9 (ρ 4) 2 = ρ 13 := m13
  have m14 : γ 0 9 (ρ 4) 3 = ρ 14 := m14
  have m15 : γ 0 10 (9 * ρ 4) 5 = ρ 15 := m15
  have m16 : γ 0 10 (9 * ρ 4) 8 = ρ 16 := m16
  have m17 : γ 0 10 (9 * ρ 4) 12 = ρ 17 := m17
  have m18 : γ 0 10 (9 * ρ 4) 14 = ρ 18 := m18
  have m19 : γ 0 10 (9 * ρ 4 + 6) 4 = ρ 19 := m19
  have m20 : γ 0 10 (9 * ρ 4 + 6) 5 = ρ 20 := m20
  have m21 : γ 0 10 (9 * ρ 4 + 6) 8 = ρ 21 := m21
  have m22 : γ 0 10 (9 * ρ 4 + 6) 9 = ρ 22 := m22
  have m23 : γ 0 10 (9 * ρ 4 + 6) 10 = ρ 23 := m23
  have m24 : γ 0 10 (9 * ρ 4 + 6) 11 = ρ 24 := m24
  have m25 : γ 0 10 (9 * ρ 4 + 7) 4 = ρ 25 := m25
  have m26 : γ 0 10 (9 * ρ 4 + 7) 5 = ρ 26 := m26
  have m27 : γ 0 10 (9 * ρ 4 + 7) 8 = ρ 27 := m27
  have m28 : γ 0 10 (9 * ρ 4 + 7) 9 = ρ 28 := m28
  have m29 : γ 0 10 (9 * ρ 4 + 7) 10 = ρ 29 := m29
  have m30 : γ 0 10 (9 * ρ 4 + 7) 11 = ρ 30 := m30
  have m31 : γ 0 10 (9 * ρ 4 + 8) 4 = ρ 31 := m31
  have m32 : γ 0 10 (9 * ρ 4 + 8) 5 = ρ 32 := m32
  have m33 : γ 0 10 (9 * ρ 4 + 8) 8 = ρ 33 := m33
  have m34 : γ 0 10 (9 * ρ 4 + 8) 9 = ρ 34 := m34
  have m35 : γ 0 10 (9 * ρ 4 + 8) 10 = ρ 35 := m35
  have m36 : γ 0 10 (9 * ρ 4 + 8) 11 = ρ 36 := m36
  have m37 : γ 0 40 0 (ρ 5) = ρ 37 := m37
  have m38 : γ 3 6 0 0 = ρ 38 := m38
  have m39 : γ 3 8 (ρ 2) 1 = ρ 39 := m39
  have m40 : γ 3 4 0 7 = ρ 40 := m40
  have m41 : γ 3 5 0 3 = ρ 41 := m41
  have m42 : γ 3 6 0 13 = ρ 42 := m42
  obtain ⟨⟨⟨-, c1⟩, c2⟩, c3⟩ := hc
  have c1 : ∀ (G : Nat) (k j : Int), ¬ rMdP m0_ G j → γ 1 G k j = γ 0 G k j := c1
  have c2 : ∀ (G : Nat) (k j : Int), ¬ rMdP m0_ G j → γ 2 G k j = γ 1 G k j := c2
  have c3 : ∀ (G : Nat) (k j : Int), ¬ rMdP m140_ G j → γ 3 G k j = γ 2 G k j := c3
  obtain ⟨l0, l1, l2, -⟩ := hl
  have l0 : sn132 [ρ 4, 5] (γ 0) 0 (9 * ρ 4 + 6) (γ 1) := hS132 _ _ _ _ _ l0
  have l1 : sn229 [9 * ρ 4 + 6, ρ 19] (γ 1) 0 1 (γ 2) := hS229 _ _ _ _ _ l1
  have l2 : sn249 [ρ 0, ρ 1, ρ 2, ρ 3, ρ 4, ρ 5, ρ 6, ρ 7, ρ 8, ρ 9, ρ 10, ρ 11, ρ 12, ρ 13, ρ 14, ρ 15, ρ 16, ρ 17, ρ 18, ρ 25, ρ 26, ρ 27, ρ 28, ρ 29, ρ 30, ρ 31, ρ 32, ρ 33, ρ 34, ρ 35, ρ 36] (γ 2) 4 0 (γ 3) := hS249 _ _ _ _ _ l2
  show sn251 [ρ 0, ρ 1, ρ 2, ρ 3, ρ 4, ρ 5, ρ 6, ρ 7, ρ 8, ρ 9, ρ 10, ρ 11, ρ 12, ρ 13, ρ 14, ρ 15, ρ 16, ρ 17, ρ 18, ρ 19, ρ 20, ρ 21, ρ 22, ρ 23, ρ 24, ρ 25, ρ 26, ρ 27, ρ 28, ρ 29, ρ 30, ρ 31, ρ 32, ρ 33, ρ 34, ρ 35, ρ 36] (γ 0) 4 0 (γ 3)
  refine Eq.symm ?_
  show fn251 [] (γ 0) = _
  unfold fn251
  refine (zLet_eq m4).trans ?_
  refine (zLet_eq m13).trans ?_
  refine (zLet_eq m19).trans ?_
  refine (if_neg (show ¬ (5 ≥ ρ 13) by omega)).trans ?_
  refine (zLet_eq (show fn132 [ρ 4, 5] (γ 0) = (0, 9 * ρ 4 + 6, γ 1) from l0.symm)).trans ?_
  refine (zLet_eq (show _ = γ 1 from rfl)).trans ?_
  refine (if_pos (show ρ 19 ≠ 1 by omega)).trans ?_
  refine (if_neg (show ¬ (0 ≤ -ρ 19 + 3) by omega)).trans ?_
  refine (if_pos (show 0 ≤ -ρ 19 + 5 by omega)).trans ?_
  refine (zLet_eq (show fn229 [9 * ρ 4 + 6] (γ 1) = (0, 1, γ 2) from l1.symm)).trans ?_
  refine (zLet_eq (show _ = γ 2 from rfl)).trans ?_
  refine (if_pos (show (1 : Int) ≤ 1 by omega)).trans ?_
  refine (zLet_eq (show fn249 [] (γ 2) = (4, 0, γ 3) from l2.symm)).trans ?_
  refine (zLet_eq (show _ = γ 3 from rfl)).trans ?_
  refine (if_neg (show ¬ (4 : Nat) = 0 by decide)).trans ?_
  refine (if_neg (show ¬ (4 : Nat) = 1 by decide)).trans ?_
  rfl
theorem vn251_14 {S : Nat → zSpc} (hS132 : ∀ x g o v gz, S 132 x g o v gz → sn132 x g o v gz) (hS228 : ∀ x g o v gz, S 228 x g o v gz → sn228 x g o v gz) (hS229 : ∀ x g o v gz, S 229 x g o v gz → sn229 x g o v gz) (hS230 : ∀ x g o v gz, S 230 x g o v gz → sn230 x g o v gz) (hS231 : ∀ x g o v gz, S 231 x g o v gz → sn231 x g o v gz) (hS244 : ∀ x g o v gz, S 244 x g o v gz → sn244 x g o v gz) (hS249 : ∀ x g o v gz, S 249 x g o v gz → sn249 x g o v gz) (hS250 : ∀ x g o v gz, S 250 x g o v gz → sn250 x g o v gz) {a : List Int} {g : rHp} : ∀ (ρ : Nat → Int) (γ : Nat → rHp), zO 37 S a g q251_14 ρ γ → zGl (fun _ _ _ => True) (sn251 a g) q251_14 ρ γ := by
  intro ρ γ h
  obtain ⟨ha, hg, hr, hf, hm, hc, hl⟩ := h
  have ha : a = [ρ 0, ρ 1, ρ 2, ρ 3, ρ 4, ρ 5, ρ 6, ρ 7, ρ 8, ρ 9, ρ 10, ρ 11, ρ 12, ρ 13, ρ 14, ρ 15, ρ 16, ρ 17, ρ 18, ρ 19, ρ 20, ρ 21, ρ 22, ρ 23, ρ 24, ρ 25, ρ 26, ρ 27, ρ 28, ρ 29, ρ 30, ρ 31, ρ 32, ρ 33, ρ 34, ρ 35, ρ 36] := ha
  subst ha
  subst hg
  obtain ⟨r0, r1, r2, r3, r4, r5, r6, r7, r8, r9, r10, r11, r12, r13, r14, r15, r16, r17, r18, r19, r20, r21, r22, r23, r24, r25, r26, r27, r28, r29, r30, r31, r32, r33, r34, r35, r36, r37, -⟩ := hr
  have r0 : (0 : Int) ≤ ρ 0 ∧ ρ 0 ≤ 50000 := r0
  have r1 : (0 : Int) ≤ ρ 1 ∧ ρ 1 ≤ 2 := r1
  have r2 : (0 : Int) ≤ ρ 2 ∧ ρ 2 ≤ 2 := r2
  have r3 : (0 : Int) ≤ ρ 3 ∧ ρ 3 ≤ 50001 := r3
  have r4 : (0 : Int) ≤ ρ 4 ∧ ρ 4 ≤ 62 := r4
  have r5 : (0 : Int) ≤ ρ 5 ∧ ρ 5 ≤ 60 := r5
  have r6 : (0 : Int) ≤ ρ 6 ∧ ρ 6 ≤ 2000 := r6
  have r7 : (0 : Int) ≤ ρ 7 ∧ ρ 7 ≤ 2000 := r7
  have r8 : ((-2147483648) : Int) ≤ ρ 8 ∧ ρ 8 ≤ 2147483647 := r8
  have r9 : ((-2147483648) : Int) ≤ ρ 9 ∧ ρ 9 ≤ 2147483647 := r9
  have r10 : (0 : Int) ≤ ρ 10 ∧ ρ 10 ≤ 2000 := r10
  have r11 : (0 : Int) ≤ ρ 11 ∧ ρ 11 ≤ 2000 := r11
  have r12 : ((-2147483648) : Int) ≤ ρ 12 ∧ ρ 12 ≤ 2147483647 := r12
  have r13 : (6 : Int) ≤ ρ 13 ∧ ρ 13 ≤ 8 := r13
  have r14 : (0 : Int) ≤ ρ 14 ∧ ρ 14 ≤ 8 := r14
  have r15 : (0 : Int) ≤ ρ 15 ∧ ρ 15 ≤ 4 := r15
  have r16 : ((-1) : Int) ≤ ρ 16 ∧ ρ 16 ≤ 19 := r16
  have r17 : (0 : Int) ≤ ρ 17 ∧ ρ 17 ≤ 4 := r17
  have r18 : ((-1) : Int) ≤ ρ 18 ∧ ρ 18 ≤ 7 := r18
  have r19 : (6 : Int) ≤ ρ 19 ∧ ρ 19 ≤ 8 := r19
  have r20 : (0 : Int) ≤ ρ 20 ∧ ρ 20 ≤ 4 := r20
  have r21 : ((-1) : Int) ≤ ρ 21 ∧ ρ 21 ≤ 19 := r21
  have r22 : ((-1) : Int) ≤ ρ 22 ∧ ρ 22 ≤ 3 := r22
  have r23 : (0 : Int) ≤ ρ 23 ∧ ρ 23 ≤ 7 := r23
  have r24 : (0 : Int) ≤ ρ 24 ∧ ρ 24 ≤ 7 := r24
  have r25 : (0 : Int) ≤ ρ 25 ∧ ρ 25 ≤ 8 := r25
  have r26 : (0 : Int) ≤ ρ 26 ∧ ρ 26 ≤ 4 := r26
  have r27 : ((-1) : Int) ≤ ρ 27 ∧ ρ 27 ≤ 19 := r27
  have r28 : ((-1) : Int) ≤ ρ 28 ∧ ρ 28 ≤ 3 := r28
  have r29 : (0 : Int) ≤ ρ 29 ∧ ρ 29 ≤ 7 := r29
  have r30 : ((-1) : Int) ≤ ρ 30 ∧ ρ 30 ≤ 7 := r30
  have r31 : (0 : Int) ≤ ρ 31 ∧ ρ 31 ≤ 8 := r31
  have r32 : (0 : Int) ≤ ρ 32 ∧ ρ 32 ≤ 4 := r32
  have r33 : ((-1) : Int) ≤ ρ 33 ∧ ρ 33 ≤ 19 := r33
  have r34 : ((-1) : Int) ≤ ρ 34 ∧ ρ 34 ≤ 3 := r34
  have r35 : (0 : Int) ≤ ρ 35 ∧ ρ 35 ≤ 7 := r35
  have r36 : ((-1) : Int) ≤ ρ 36 ∧ ρ 36 ≤ 7 := r36
  have r37 : (0 : Int) ≤ ρ 37 ∧ ρ 37 ≤ 60 := r37
  obtain ⟨f0, -⟩ := hf
  have f0 : (0 : Int) ≤ -ρ 3 + ((-50001) * ρ 1 + ρ 0) + 100002 := f0
  obtain ⟨m0, m1, m2, m3, m4, m5, m6, m7, m8, m9, m10, m11, m12, m13, m14, m15, m16, m17, m18, m19, m20, m21, m22, m23, m24, m25, m26, m27, m28, m29, m30, m31, m32, m33, m34, m35, m36, m37, -⟩ := hm
  have m0 : γ 0 6 0 0 = ρ 0 := m0
  have m1 : γ 0 6 0 9 = ρ 1 := m1
  have m2 : γ 0 6 0 6 = ρ 2 := m2
  have m3 : γ 0 8 (ρ 2) 1 = ρ 3 := m3
  have m4 : γ 0 6 0 7 = ρ 4 := m4
  have m5 : γ 0 1 0 10 = ρ 5 := m5
  have m6 : γ 0 4 0 7 = ρ 6 := m6
  have m7 : γ 0 5 0 3 = ρ 7 := m7
  have m8 : γ 0 6 0 8 = ρ 8 := m8
  have m9 : γ 0 6 0 10 = ρ 9 := m9
  have m10 : γ 0 6 0 11 = ρ 10 := m10
  have m11 : γ 0 6 0 12 = ρ 11 := m11
  have m12 : γ 0 6 0 13 = ρ 12 := m12
  have m13 : γ 0 9 (ρ 4) 2 = ρ 13 := m13
  have m14 : γ 0 9 (ρ 4) 3 = ρ 14 := m14
  have m15 : γ 0 10 (9 * ρ 4) 5 = ρ 15 := m15
  have m16 : γ 0 10 (9 * ρ 4) 8 = ρ 16 := m16
  have m17 : γ 0 10 (9 * ρ 4) 12 = ρ 17 := m17
  have m18 : γ 0 10 (9 * ρ 4) 14 = ρ 18 := m18
  have m19 : γ 0 10 (9 * ρ 4 + 6) 4 = ρ 19 := m19
  have m20 : γ 0 10 (9 * ρ 4 + 6) 5 = ρ 20 := m20
  have m21 : γ 0 10 (9 * ρ 4 + 6) 8 = ρ 21 := m21
  have m22 : γ 0 10 (9 * ρ 4 + 6) 9 = ρ 22 := m22
  have m23 : γ 0 10 (9 * ρ 4 + 6) 10 = ρ 23 := m23
  have m24 : γ 0 10 (9 * ρ 4 + 6) 11 = ρ 24 := m24
  have m25 : γ 0 10 (9 * ρ 4 + 7) 4 = ρ 25 := m25
  have m26 : γ 0 10 (9 * ρ 4 + 7) 5 = ρ 26 := m26
  have m27 : γ 0 10 (9 * ρ 4 + 7) 8 = ρ 27 := m27
  have m28 : γ 0 10 (9 * ρ 4 + 7) 9 = ρ 28 := m28
  have m29 : γ 0 10 (9 * ρ 4 + 7) 10 = ρ 29 := m29
  have m30 : γ 0 10 (9 * ρ 4 + 7) 11 = ρ 30 := m30
  have m31 : γ 0 10 (9 * ρ 4 + 8) 4 = ρ 31 := m31
  have m32 : γ 0 10 (9 * ρ 4 + 8) 5 = ρ 32 := m32
  have m33 : γ 0 10 (9 * ρ 4 + 8) 8 = ρ 33 := m33
  have m34 : γ 0 10 (9 * ρ 4 + 8) 9 = ρ 34 := m34
  have m35 : γ 0 10 (9 * ρ 4 + 8) 10 = ρ 35 := m35
  have m36 : γ 0 10 (9 * ρ 4 + 8) 11 = ρ 36 := m36
  have m37 : γ 0 40 0 (ρ 5) = ρ 37 := m37
  obtain ⟨⟨-, c1⟩, c2⟩ := hc
  have c1 : ∀ (G : Nat) (k j : Int), ¬ rMdP m0_ G j → γ 1 G k j = γ 0 G k j := c1
  have c2 : ∀ (G : Nat) (k j : Int), ¬ rMdP m132_ G j → γ 2 G k j = γ 1 G k j := c2
  obtain ⟨l0, l1, -⟩ := hl
  have l0 : sn132 [ρ 4, 5] (γ 0) 0 (9 * ρ 4 + 6) (γ 1) := hS132 _ _ _ _ _ l0
  have l1 : sn231 [9 * ρ 4 + 6, ρ 19, ρ 24] (γ 1) 0 0 (γ 2) := hS231 _ _ _ _ _ l1
  show sn251 [ρ 0, ρ 1, ρ 2, ρ 3, ρ 4, ρ 5, ρ 6, ρ 7, ρ 8, ρ 9, ρ 10, ρ 11, ρ 12, ρ 13, ρ 14, ρ 15, ρ 16, ρ 17, ρ 18, ρ 19, ρ 20, ρ 21, ρ 22, ρ 23, ρ 24, ρ 25, ρ 26, ρ 27, ρ 28, ρ 29, ρ 30, ρ 31, ρ 32, ρ 33, ρ 34, ρ 35, ρ 36] (γ 0) 0 0 (γ 2)
  refine Eq.symm ?_
  show fn251 [] (γ 0) = _
  unfold fn251
  refine (zLet_eq m4).trans ?_
  refine (zLet_eq m13).trans ?_
  refine (zLet_eq m19).trans ?_
  refine (if_neg (show ¬ (5 ≥ ρ 13) by omega)).trans ?_
  refine (zLet_eq (show fn132 [ρ 4, 5] (γ 0) = (0, 9 * ρ 4 + 6, γ 1) from l0.symm)).trans ?_
  refine (zLet_eq (show _ = γ 1 from rfl)).trans ?_
  refine (if_pos (show ρ 19 ≠ 1 by omega)).trans ?_
  refine (if_neg (show ¬ (0 ≤ -ρ 19 + 3) by omega)).trans ?_
  refine (if_neg (show ¬ (0 ≤ -ρ 19 + 5) by omega)).trans ?_
  refine (zLet_eq (show fn231 [9 * ρ 4 + 6] (γ 1) = (0, 0, γ 2) from l1.symm)).trans ?_
  refine (zLet_eq (show _ = γ 2 from rfl)).trans ?_
  refine (if_neg (show ¬ ((1 : Int) ≤ 0) by omega)).trans ?_
  rfl
theorem vn251_15 {S : Nat → zSpc} (hS132 : ∀ x g o v gz, S 132 x g o v gz → sn132 x g o v gz) (hS228 : ∀ x g o v gz, S 228 x g o v gz → sn228 x g o v gz) (hS229 : ∀ x g o v gz, S 229 x g o v gz → sn229 x g o v gz) (hS230 : ∀ x g o v gz, S 230 x g o v gz → sn230 x g o v gz) (hS231 : ∀ x g o v gz, S 231 x g o v gz → sn231 x g o v gz) (hS244 : ∀ x g o v gz, S 244 x g o v gz → sn244 x g o v gz) (hS249 : ∀ x g o v gz, S 249 x g o v gz → sn249 x g o v gz) (hS250 : ∀ x g o v gz, S 250 x g o v gz → sn250 x g o v gz) {a : List Int} {g : rHp} : ∀ (ρ : Nat → Int) (γ : Nat → rHp), zO 37 S a g q251_15 ρ γ → zGl (fun _ _ _ => True) (sn251 a g) q251_15 ρ γ := by
  intro ρ γ h
  obtain ⟨ha, hg, hr, hf, hm, hc, hl⟩ := h
  have ha : a = [ρ 0, ρ 1, ρ 2, ρ 3, ρ 4, ρ 5, ρ 6, ρ 7, ρ 8, ρ 9, ρ 10, ρ 11, ρ 12, ρ 13, ρ 14, ρ 15, ρ 16, ρ 17, ρ 18, ρ 19, ρ 20, ρ 21, ρ 22, ρ 23, ρ 24, ρ 25, ρ 26, ρ 27, ρ 28, ρ 29, ρ 30, ρ 31, ρ 32, ρ 33, ρ 34, ρ 35, ρ 36] := ha
  subst ha
  subst hg
  obtain ⟨r0, r1, r2, r3, r4, r5, r6, r7, r8, r9, r10, r11, r12, r13, r14, r15, r16, r17, r18, r19, r20, r21, r22, r23, r24, r25, r26, r27, r28, r29, r30, r31, r32, r33, r34, r35, r36, r37, r38, r39, r40, r41, r42, -⟩ := hr
  have r0 : (0 : Int) ≤ ρ 0 ∧ ρ 0 ≤ 50000 := r0
  have r1 : (0 : Int) ≤ ρ 1 ∧ ρ 1 ≤ 2 := r1
  have r2 : (0 : Int) ≤ ρ 2 ∧ ρ 2 ≤ 2 := r2
  have r3 : (0 : Int) ≤ ρ 3 ∧ ρ 3 ≤ 50001 := r3
  have r4 : (0 : Int) ≤ ρ 4 ∧ ρ 4 ≤ 62 := r4
  have r5 : (0 : Int) ≤ ρ 5 ∧ ρ 5 ≤ 60 := r5
  have r6 : (0 : Int) ≤ ρ 6 ∧ ρ 6 ≤ 2000 := r6
  have r7 : (0 : Int) ≤ ρ 7 ∧ ρ 7 ≤ 2000 := r7
  have r8 : ((-2147483648) : Int) ≤ ρ 8 ∧ ρ 8 ≤ 2147483647 := r8
  have r9 : ((-2147483648) : Int) ≤ ρ 9 ∧ ρ 9 ≤ 2147483647 := r9
  have r10 : (0 : Int) ≤ ρ 10 ∧ ρ 10 ≤ 2000 := r10
  have r11 : (0 : Int) ≤ ρ 11 ∧ ρ 11 ≤ 2000 := r11
  have r12 : ((-2147483648) : Int) ≤ ρ 12 ∧ ρ 12 ≤ 2147483647 := r12
  have r13 : (6 : Int) ≤ ρ 13 ∧ ρ 13 ≤ 8 := r13
  have r14 : (0 : Int) ≤ ρ 14 ∧ ρ 14 ≤ 8 := r14
  have r15 : (0 : Int) ≤ ρ 15 ∧ ρ 15 ≤ 4 := r15
  have r16 : ((-1) : Int) ≤ ρ 16 ∧ ρ 16 ≤ 19 := r16
  have r17 : (0 : Int) ≤ ρ 17 ∧ ρ 17 ≤ 4 := r17
  have r18 : ((-1) : Int) ≤ ρ 18 ∧ ρ 18 ≤ 7 := r18
  have r19 : (6 : Int) ≤ ρ 19 ∧ ρ 19 ≤ 8 := r19
  have r20 : (0 : Int) ≤ ρ 20 ∧ ρ 20 ≤ 4 := r20
  have r21 : ((-1) : Int) ≤ ρ 21 ∧ ρ 21 ≤ 19 := r21
  have r22 : ((-1) : Int) ≤ ρ 22 ∧ ρ 22 ≤ 3 := r22
  have r23 : (0 : Int) ≤ ρ 23 ∧ ρ 23 ≤ 7 := r23
  have r24 : (0 : Int) ≤ ρ 24 ∧ ρ 24 ≤ 7 := r24
  have r25 : (0 : Int) ≤ ρ 25 ∧ ρ 25 ≤ 8 := r25
  have r26 : (0 : Int) ≤ ρ 26 ∧ ρ 26 ≤ 4 := r26
  have r27 : ((-1) : Int) ≤ ρ 27 ∧ ρ 27 ≤ 19 := r27
  have r28 : ((-1) : Int) ≤ ρ 28 ∧ ρ 28 ≤ 3 := r28
  have r29 : (0 : Int) ≤ ρ 29 ∧ ρ 29 ≤ 7 := r29
  have r30 : ((-1) : Int) ≤ ρ 30 ∧ ρ 30 ≤ 7 := r30
  have r31 : (0 : Int) ≤ ρ 31 ∧ ρ 31 ≤ 8 := r31
  have r32 : (0 : Int) ≤ ρ 32 ∧ ρ 32 ≤ 4 := r32
  have r33 : ((-1) : Int) ≤ ρ 33 ∧ ρ 33 ≤ 19 := r33
  have r34 : ((-1) : Int) ≤ ρ 34 ∧ ρ 34 ≤ 3 := r34
  have r35 : (0 : Int) ≤ ρ 35 ∧ ρ 35 ≤ 7 := r35
  have r36 : ((-1) : Int) ≤ ρ 36 ∧ ρ 36 ≤ 7 := r36
  have r37 : (0 : Int) ≤ ρ 37 ∧ ρ 37 ≤ 60 := r37
  have r38 : (0 : Int) ≤ ρ 38 ∧ ρ 38 ≤ 50000 := r38
  have r39 : (0 : Int) ≤ ρ 39 ∧ ρ 39 ≤ 50001 := r39
  have r40 : (0 : Int) ≤ ρ 40 ∧ ρ 40 ≤ 2000 := r40
  have r41 : (0 : Int) ≤ ρ 41 ∧ ρ 41 ≤ 2000 := r41
  have r42 : ((-2147483648) : Int) ≤ ρ 42 ∧ ρ 42 ≤ 2147483647 := r42
  obtain ⟨f0, f1, f2, f3, f4, f5, -⟩ := hf
  have f0 : (0 : Int) ≤ -ρ 3 + ((-50001) * ρ 1 + ρ 0) + 100002 := f0
  have f1 : (0 : Int) ≤ ρ 38 + -ρ 0 := f1
  have f2 : (0 : Int) ≤ ρ 39 + -ρ 3 := f2
  have f3 : (0 : Int) ≤ ρ 40 + -ρ 6 := f3
  have f4 : (0 : Int) ≤ ρ 41 + -ρ 7 := f4
  have f5 : (0 : Int) ≤ -ρ 39 + (ρ 38 + (ρ 3 + -ρ 0)) + 1 := f5
  obtain ⟨m0, m1, m2, m3, m4, m5, m6, m7, m8, m9, m10, m11, m12, m13, m14, m15, m16, m17, m18, m19, m20, m21, m22, m23, m24, m25, m26, m27, m28, m29, m30, m31, m32, m33, m34, m35, m36, m37, m38, m39, m40, m41, m42, -⟩ := hm
  have m0 : γ 0 6 0 0 = ρ 0 := m0
  have m1 : γ 0 6 0 9 = ρ 1 := m1
  have m2 : γ 0 6 0 6 = ρ 2 := m2
  have m3 : γ 0 8 (ρ 2) 1 = ρ 3 := m3
  have m4 : γ 0 6 0 7 = ρ 4 := m4
  have m5 : γ 0 1 0 10 = ρ 5 := m5
  have m6 : γ 0 4 0 7 = ρ 6 := m6
  have m7 : γ 0 5 0 3 = ρ 7 := m7
  have m8 : γ 0 6 0 8 = ρ 8 := m8
  have m9 : γ 0 6 0 10 = ρ 9 := m9
  have m10 : γ 0 6 0 11 = ρ 10 := m10
  have m11 : γ 0 6 0 12 = ρ 11 := m11
  have m12 : γ 0 6 0 13 = ρ 12 := m12
  have m13 : γ 0 9 (ρ 4) 2 = ρ 13 := m13
  have m14 : γ 0 9 (ρ 4) 3 = ρ 14 := m14
  have m15 : γ 0 10 (9 * ρ 4) 5 = ρ 15 := m15
  have m16 : γ 0 10 (9 * ρ 4) 8 = ρ 16 := m16
  have m17 : γ 0 10 (9 * ρ 4) 12 = ρ 17 := m17
  have m18 : γ 0 10 (9 * ρ 4) 14 = ρ 18 := m18
  have m19 : γ 0 10 (9 * ρ 4 + 6) 4 = ρ 19 := m19
  have m20 : γ 0 10 (9 * ρ 4 + 6) 5 = ρ 20 := m20
  have m21 : γ 0 10 (9 * ρ 4 + 6) 8 = ρ 21 := m21
  have m22 : γ 0 10 (9 * ρ 4 + 6) 9 = ρ 22 := m22
  have m23 : γ 0 10 (9 * ρ 4 + 6) 10 = ρ 23 := m23
  have m24 : γ 0 10 (9 * ρ 4 + 6) 11 = ρ 24 := m24
  have m25 : γ 0 10 (9 * ρ 4 + 7) 4 = ρ 25 := m25
  have m26 : γ 0 10 (9 * ρ 4 + 7) 5 = ρ 26 := m26
  have m27 : γ 0 10 (9 * ρ 4 + 7) 8 = ρ 27 := m27
  have m28 : γ 0 10 (9 * ρ 4 + 7) 9 = ρ 28 := m28
  have m29 : γ 0 10 (9 * ρ 4 + 7) 10 = ρ 29 := m29
  have m30 : γ 0 10 (9 * ρ 4 + 7) 11 = ρ 30 := m30
  have m31 : γ 0 10 (9 * ρ 4 + 8) 4 = ρ 31 := m31
  have m32 : γ 0 10 (9 * ρ 4 + 8) 5 = ρ 32 := m32
  have m33 : γ 0 10 (9 * ρ 4 + 8) 8 = ρ 33 := m33
  have m34 : γ 0 10 (9 * ρ 4 + 8) 9 = ρ 34 := m34
  have m35 : γ 0 10 (9 * ρ 4 + 8) 10 = ρ 35 := m35
  have m36 : γ 0 10 (9 * ρ 4 + 8) 11 = ρ 36 := m36
  have m37 : γ 0 40 0 (ρ 5) = ρ 37 := m37
  have m38 : γ 3 6 0 0 = ρ 38 := m38
  have m39 : γ 3 8 (ρ 2) 1 = ρ 39 := m39
  have m40 : γ 3 4 0 7 = ρ 40 := m40
  have m41 : γ 3 5 0 3 = ρ 41 := m41
  have m42 : γ 3 6 0 13 = ρ 42 := m42
  obtain ⟨⟨⟨-, c1⟩, c2⟩, c3⟩ := hc
  have c1 : ∀ (G : Nat) (k j : Int), ¬ rMdP m0_ G j → γ 1 G k j = γ 0 G k j := c1
  have c2 : ∀ (G : Nat) (k j : Int), ¬ rMdP m132_ G j → γ 2 G k j = γ 1 G k j := c2
  have c3 : ∀ (G : Nat) (k j : Int), ¬ rMdP m140_ G j → γ 3 G k j = γ 2 G k j := c3
  obtain ⟨l0, l1, l2, -⟩ := hl
  have l0 : sn132 [ρ 4, 5] (γ 0) 0 (9 * ρ 4 + 6) (γ 1) := hS132 _ _ _ _ _ l0
  have l1 : sn231 [9 * ρ 4 + 6, ρ 19, ρ 24] (γ 1) 0 1 (γ 2) := hS231 _ _ _ _ _ l1
  have l2 : sn249 [ρ 0, ρ 1, ρ 2, ρ 3, ρ 4, ρ 5, ρ 6, ρ 7, ρ 8, ρ 9, ρ 10, ρ 11, ρ 12, ρ 13, ρ 14, ρ 15, ρ 16, ρ 17, ρ 18, ρ 25, ρ 26, ρ 27, ρ 28, ρ 29, ρ 30, ρ 31, ρ 32, ρ 33, ρ 34, ρ 35, ρ 36] (γ 2) 0 0 (γ 3) := hS249 _ _ _ _ _ l2
  show sn251 [ρ 0, ρ 1, ρ 2, ρ 3, ρ 4, ρ 5, ρ 6, ρ 7, ρ 8, ρ 9, ρ 10, ρ 11, ρ 12, ρ 13, ρ 14, ρ 15, ρ 16, ρ 17, ρ 18, ρ 19, ρ 20, ρ 21, ρ 22, ρ 23, ρ 24, ρ 25, ρ 26, ρ 27, ρ 28, ρ 29, ρ 30, ρ 31, ρ 32, ρ 33, ρ 34, ρ 35, ρ 36] (γ 0) 0 0 (γ 3)
  refine Eq.symm ?_
  show fn251 [] (γ 0) = _
  unfold fn251
  refine (zLet_eq m4).trans ?_
  refine (zLet_eq m13).trans ?_
  refine (zLet_eq m19).trans ?_
  refine (if_neg (show ¬ (5 ≥ ρ 13) by omega)).trans ?_
  refine (zLet_eq (show fn132 [ρ 4, 5] (γ 0) = (0, 9 * ρ 4 + 6, γ 1) from l0.symm)).trans ?_
  refine (zLet_eq (show _ = γ 1 from rfl)).trans ?_
  refine (if_pos (show ρ 19 ≠ 1 by omega)).trans ?_
  refine (if_neg (show ¬ (0 ≤ -ρ 19 + 3) by omega)).trans ?_
  refine (if_neg (show ¬ (0 ≤ -ρ 19 + 5) by omega)).trans ?_
  refine (zLet_eq (show fn231 [9 * ρ 4 + 6] (γ 1) = (0, 1, γ 2) from l1.symm)).trans ?_
  refine (zLet_eq (show _ = γ 2 from rfl)).trans ?_
  refine (if_pos (show (1 : Int) ≤ 1 by omega)).trans ?_
  refine (zLet_eq (show fn249 [] (γ 2) = (0, 0, γ 3) from l2.symm)).trans ?_
  refine (zLet_eq (show _ = γ 3 from rfl)).trans ?_
  refine (if_pos (show (0 : Nat) = 0 by decide)).trans ?_
  rfl
theorem vn251_16 {S : Nat → zSpc} (hS132 : ∀ x g o v gz, S 132 x g o v gz → sn132 x g o v gz) (hS228 : ∀ x g o v gz, S 228 x g o v gz → sn228 x g o v gz) (hS229 : ∀ x g o v gz, S 229 x g o v gz → sn229 x g o v gz) (hS230 : ∀ x g o v gz, S 230 x g o v gz → sn230 x g o v gz) (hS231 : ∀ x g o v gz, S 231 x g o v gz → sn231 x g o v gz) (hS244 : ∀ x g o v gz, S 244 x g o v gz → sn244 x g o v gz) (hS249 : ∀ x g o v gz, S 249 x g o v gz → sn249 x g o v gz) (hS250 : ∀ x g o v gz, S 250 x g o v gz → sn250 x g o v gz) {a : List Int} {g : rHp} : ∀ (ρ : Nat → Int) (γ : Nat → rHp), zO 37 S a g q251_16 ρ γ → zGl (fun _ _ _ => True) (sn251 a g) q251_16 ρ γ := by
  intro ρ γ h
  obtain ⟨ha, hg, hr, hf, hm, hc, hl⟩ := h
  have ha : a = [ρ 0, ρ 1, ρ 2, ρ 3, ρ 4, ρ 5, ρ 6, ρ 7, ρ 8, ρ 9, ρ 10, ρ 11, ρ 12, ρ 13, ρ 14, ρ 15, ρ 16, ρ 17, ρ 18, ρ 19, ρ 20, ρ 21, ρ 22, ρ 23, ρ 24, ρ 25, ρ 26, ρ 27, ρ 28, ρ 29, ρ 30, ρ 31, ρ 32, ρ 33, ρ 34, ρ 35, ρ 36] := ha
  subst ha
  subst hg
  obtain ⟨r0, r1, r2, r3, r4, r5, r6, r7, r8, r9, r10, r11, r12, r13, r14, r15, r16, r17, r18, r19, r20, r21, r22, r23, r24, r25, r26, r27, r28, r29, r30, r31, r32, r33, r34, r35, r36, r37, r38, r39, r40, r41, r42, -⟩ := hr
  have r0 : (0 : Int) ≤ ρ 0 ∧ ρ 0 ≤ 50000 := r0
  have r1 : (0 : Int) ≤ ρ 1 ∧ ρ 1 ≤ 1 := r1
  have r2 : (0 : Int) ≤ ρ 2 ∧ ρ 2 ≤ 2 := r2
  have r3 : (0 : Int) ≤ ρ 3 ∧ ρ 3 ≤ 50001 := r3
  have r4 : (0 : Int) ≤ ρ 4 ∧ ρ 4 ≤ 62 := r4
  have r5 : (0 : Int) ≤ ρ 5 ∧ ρ 5 ≤ 60 := r5
  have r6 : (0 : Int) ≤ ρ 6 ∧ ρ 6 ≤ 2000 := r6
  have r7 : (0 : Int) ≤ ρ 7 ∧ ρ 7 ≤ 2000 := r7
  have r8 : ((-2147483648) : Int) ≤ ρ 8 ∧ ρ 8 ≤ 2147483647 := r8
  have r9 : ((-2147483648) : Int) ≤ ρ 9 ∧ ρ 9 ≤ 2147483647 := r9
  have r10 : (0 : Int) ≤ ρ 10 ∧ ρ 10 ≤ 2000 := r10
  have r11 : (0 : Int) ≤ ρ 11 ∧ ρ 11 ≤ 2000 := r11
  have r12 : ((-2147483648) : Int) ≤ ρ 12 ∧ ρ 12 ≤ 2147483647 := r12
  have r13 : (6 : Int) ≤ ρ 13 ∧ ρ 13 ≤ 8 := r13
  have r14 : (0 : Int) ≤ ρ 14 ∧ ρ 14 ≤ 8 := r14
  have r15 : (0 : Int) ≤ ρ 15 ∧ ρ 15 ≤ 4 := r15
  have r16 : ((-1) : Int) ≤ ρ 16 ∧ ρ 16 ≤ 19 := r16
  have r17 : (0 : Int) ≤ ρ 17 ∧ ρ 17 ≤ 4 := r17
  have r18 : ((-1) : Int) ≤ ρ 18 ∧ ρ 18 ≤ 7 := r18
  have r19 : (6 : Int) ≤ ρ 19 ∧ ρ 19 ≤ 8 := r19
  have r20 : (0 : Int) ≤ ρ 20 ∧ ρ 20 ≤ 4 := r20
  have r21 : ((-1) : Int) ≤ ρ 21 ∧ ρ 21 ≤ 19 := r21
  have r22 : ((-1) : Int) ≤ ρ 22 ∧ ρ 22 ≤ 3 := r22
  have r23 : (0 : Int) ≤ ρ 23 ∧ ρ 23 ≤ 7 := r23
  have r24 : (0 : Int) ≤ ρ 24 ∧ ρ 24 ≤ 7 := r24
  have r25 : (0 : Int) ≤ ρ 25 ∧ ρ 25 ≤ 8 := r25
  have r26 : (0 : Int) ≤ ρ 26 ∧ ρ 26 ≤ 4 := r26
  have r27 : ((-1) : Int) ≤ ρ 27 ∧ ρ 27 ≤ 19 := r27
  have r28 : ((-1) : Int) ≤ ρ 28 ∧ ρ 28 ≤ 3 := r28
  have r29 : (0 : Int) ≤ ρ 29 ∧ ρ 29 ≤ 7 := r29
  have r30 : ((-1) : Int) ≤ ρ 30 ∧ ρ 30 ≤ 7 := r30
  have r31 : (0 : Int) ≤ ρ 31 ∧ ρ 31 ≤ 8 := r31
  have r32 : (0 : Int) ≤ ρ 32 ∧ ρ 32 ≤ 4 := r32
  have r33 : ((-1) : Int) ≤ ρ 33 ∧ ρ 33 ≤ 19 := r33
  have r34 : ((-1) : Int) ≤ ρ 34 ∧ ρ 34 ≤ 3 := r34
  have r35 : (0 : Int) ≤ ρ 35 ∧ ρ 35 ≤ 7 := r35
  have r36 : ((-1) : Int) ≤ ρ 36 ∧ ρ 36 ≤ 7 := r36
  have r37 : (0 : Int) ≤ ρ 37 ∧ ρ 37 ≤ 60 := r37
  have r38 : (0 : Int) ≤ ρ 38 ∧ ρ 38 ≤ 50000 := r38
  have r39 : (0 : Int) ≤ ρ 39 ∧ ρ 39 ≤ 50001 := r39
  have r40 : (0 : Int) ≤ ρ 40 ∧ ρ 40 ≤ 2000 := r40
  have r41 : (0 : Int) ≤ ρ 41 ∧ ρ 41 ≤ 2000 := r41
  have r42 : ((-2147483648) : Int) ≤ ρ 42 ∧ ρ 42 ≤ 2147483647 := r42
  obtain ⟨f0, f1, f2, f3, f4, f5, -⟩ := hf
  have f0 : (0 : Int) ≤ ρ 38 + -ρ 0 := f0
  have f1 : (0 : Int) ≤ ρ 39 + -ρ 3 := f1
  have f2 : (0 : Int) ≤ ρ 40 + -ρ 6 := f2
  have f3 : (0 : Int) ≤ ρ 41 + -ρ 7 := f3
  have f4 : (0 : Int) ≤ -ρ 39 + (ρ 38 + (ρ 3 + -ρ 0)) + 1 := f4
  have f5 : (0 : Int) ≤ -ρ 3 + ((-50001) * ρ 1 + ρ 0) + 100002 := f5
  obtain ⟨m0, m1, m2, m3, m4, m5, m6, m7, m8, m9, m10, m11, m12, m13, m14, m15, m16, m17, m18, m19, m20, m21, m22, m23, m24, m25, m26, m27, m28, m29, m30, m31, m32, m33, m34, m35, m36, m37, m38, m39, m40, m41, m42, -⟩ := hm
  have m0 : γ 0 6 0 0 = ρ 0 := m0
  have m1 : γ 0 6 0 9 = ρ 1 := m1
  have m2 : γ 0 6 0 6 = ρ 2 := m2
  have m3 : γ 0 8 (ρ 2) 1 = ρ 3 := m3
  have m4 : γ 0 6 0 7 = ρ 4 := m4
  have m5 : γ 0 1 0 10 = ρ 5 := m5
  have m6 : γ 0 4 0 7 = ρ 6 := m6
  have m7 : γ 0 5 0 3 = ρ 7 := m7
  have m8 : γ 0 6 0 8 = ρ 8 := m8
  have m9 : γ 0 6 0 10 = ρ 9 := m9
  have m10 : γ 0 6 0 11 = ρ 10 := m10
  have m11 : γ 0 6 0 12 = ρ 11 := m11
  have m12 : γ 0 6 0 13 = ρ 12 := m12
  have m13 : γ 0 9 (ρ 4) 2 = ρ 13 := m13
  have m14 : γ 0 9 (ρ 4) 3 = ρ 14 := m14
  have m15 : γ 0 10 (9 * ρ 4) 5 = ρ 15 := m15
  have m16 : γ 0 10 (9 * ρ 4) 8 = ρ 16 := m16
  have m17 : γ 0 10 (9 * ρ 4) 12 = ρ 17 := m17
  have m18 : γ 0 10 (9 * ρ 4) 14 = ρ 18 := m18
  have m19 : γ 0 10 (9 * ρ 4 + 6) 4 = ρ 19 := m19
  have m20 : γ 0 10 (9 * ρ 4 + 6) 5 = ρ 20 := m20
  have m21 : γ 0 10 (9 * ρ 4 + 6) 8 = ρ 21 := m21
  have m22 : γ 0 10 (9 * ρ 4 + 6) 9 = ρ 22 := m22
  have m23 : γ 0 10 (9 * ρ 4 + 6) 10 = ρ 23 := m23
  have m24 : γ 0 10 (9 * ρ 4 + 6) 11 = ρ 24 := m24
  have m25 : γ 0 10 (9 * ρ 4 + 7) 4 = ρ 25 := m25
  have m26 : γ 0 10 (9 * ρ 4 + 7) 5 = ρ 26 := m26
  have m27 : γ 0 10 (9 * ρ 4 + 7) 8 = ρ 27 := m27
  have m28 : γ 0 10 (9 * ρ 4 + 7) 9 = ρ 28 := m28
  have m29 : γ 0 10 (9 * ρ 4 + 7) 10 = ρ 29 := m29
  have m30 : γ 0 10 (9 * ρ 4 + 7) 11 = ρ 30 := m30
  have m31 : γ 0 10 (9 * ρ 4 + 8) 4 = ρ 31 := m31
  have m32 : γ 0 10 (9 * ρ 4 + 8) 5 = ρ 32 := m32
  have m33 : γ 0 10 (9 * ρ 4 + 8) 8 = ρ 33 := m33
  have m34 : γ 0 10 (9 * ρ 4 + 8) 9 = ρ 34 := m34
  have m35 : γ 0 10 (9 * ρ 4 + 8) 10 = ρ 35 := m35
  have m36 : γ 0 10 (9 * ρ 4 + 8) 11 = ρ 36 := m36
  have m37 : γ 0 40 0 (ρ 5) = ρ 37 := m37
  have m38 : γ 3 6 0 0 = ρ 38 := m38
  have m39 : γ 3 8 (ρ 2) 1 = ρ 39 := m39
  have m40 : γ 3 4 0 7 = ρ 40 := m40
  have m41 : γ 3 5 0 3 = ρ 41 := m41
  have m42 : γ 3 6 0 13 = ρ 42 := m42
  obtain ⟨⟨⟨-, c1⟩, c2⟩, c3⟩ := hc
  have c1 : ∀ (G : Nat) (k j : Int), ¬ rMdP m0_ G j → γ 1 G k j = γ 0 G k j := c1
  have c2 : ∀ (G : Nat) (k j : Int), ¬ rMdP m132_ G j → γ 2 G k j = γ 1 G k j := c2
  have c3 : ∀ (G : Nat) (k j : Int), ¬ rMdP m140_ G j → γ 3 G k j = γ 2 G k j := c3
  obtain ⟨l0, l1, l2, -⟩ := hl
  have l0 : sn132 [ρ 4, 5] (γ 0) 0 (9 * ρ 4 + 6) (γ 1) := hS132 _ _ _ _ _ l0
  have l1 : sn231 [9 * ρ 4 + 6, ρ 19, ρ 24] (γ 1) 0 1 (γ 2) := hS231 _ _ _ _ _ l1
  have l2 : sn249 [ρ 0, ρ 1, ρ 2, ρ 3, ρ 4, ρ 5, ρ 6, ρ 7, ρ 8, ρ 9, ρ 10, ρ 11, ρ 12, ρ 13, ρ 14, ρ 15, ρ 16, ρ 17, ρ 18, ρ 25, ρ 26, ρ 27, ρ 28, ρ 29, ρ 30, ρ 31, ρ 32, ρ 33, ρ 34, ρ 35, ρ 36] (γ 2) 1 0 (γ 3) := hS249 _ _ _ _ _ l2
  show sn251 [ρ 0, ρ 1, ρ 2, ρ 3, ρ 4, ρ 5, ρ 6, ρ 7, ρ 8, ρ 9, ρ 10, ρ 11, ρ 12, ρ 13, ρ 14, ρ 15, ρ 16, ρ 17, ρ 18, ρ 19, ρ 20, ρ 21, ρ 22, ρ 23, ρ 24, ρ 25, ρ 26, ρ 27, ρ 28, ρ 29, ρ 30, ρ 31, ρ 32, ρ 33, ρ 34, ρ 35, ρ 36] (γ 0) 1 0 (γ 3)
  refine Eq.symm ?_
  show fn251 [] (γ 0) = _
  unfold fn251
  refine (zLet_eq m4).trans ?_
  refine (zLet_eq m13).trans ?_
  refine (zLet_eq m19).trans ?_
  refine (if_neg (show ¬ (5 ≥ ρ 13) by omega)).trans ?_
  refine (zLet_eq (show fn132 [ρ 4, 5] (γ 0) = (0, 9 * ρ 4 + 6, γ 1) from l0.symm)).trans ?_
  refine (zLet_eq (show _ = γ 1 from rfl)).trans ?_
  refine (if_pos (show ρ 19 ≠ 1 by omega)).trans ?_
  refine (if_neg (show ¬ (0 ≤ -ρ 19 + 3) by omega)).trans ?_
  refine (if_neg (show ¬ (0 ≤ -ρ 19 + 5) by omega)).trans ?_
  refine (zLet_eq (show fn231 [9 * ρ 4 + 6] (γ 1) = (0, 1, γ 2) from l1.symm)).trans ?_
  refine (zLet_eq (show _ = γ 2 from rfl)).trans ?_
  refine (if_pos (show (1 : Int) ≤ 1 by omega)).trans ?_
  refine (zLet_eq (show fn249 [] (γ 2) = (1, 0, γ 3) from l2.symm)).trans ?_
  refine (zLet_eq (show _ = γ 3 from rfl)).trans ?_
  refine (if_neg (show ¬ (1 : Nat) = 0 by decide)).trans ?_
  refine (if_pos (show (1 : Nat) = 1 by decide)).trans ?_
  rfl
theorem vn251_17 {S : Nat → zSpc} (hS132 : ∀ x g o v gz, S 132 x g o v gz → sn132 x g o v gz) (hS228 : ∀ x g o v gz, S 228 x g o v gz → sn228 x g o v gz) (hS229 : ∀ x g o v gz, S 229 x g o v gz → sn229 x g o v gz) (hS230 : ∀ x g o v gz, S 230 x g o v gz → sn230 x g o v gz) (hS231 : ∀ x g o v gz, S 231 x g o v gz → sn231 x g o v gz) (hS244 : ∀ x g o v gz, S 244 x g o v gz → sn244 x g o v gz) (hS249 : ∀ x g o v gz, S 249 x g o v gz → sn249 x g o v gz) (hS250 : ∀ x g o v gz, S 250 x g o v gz → sn250 x g o v gz) {a : List Int} {g : rHp} : ∀ (ρ : Nat → Int) (γ : Nat → rHp), zO 37 S a g q251_17 ρ γ → zGl (fun _ _ _ => True) (sn251 a g) q251_17 ρ γ := by
  intro ρ γ h
  obtain ⟨ha, hg, hr, hf, hm, hc, hl⟩ := h
  have ha : a = [ρ 0, ρ 1, ρ 2, ρ 3, ρ 4, ρ 5, ρ 6, ρ 7, ρ 8, ρ 9, ρ 10, ρ 11, ρ 12, ρ 13, ρ 14, ρ 15, ρ 16, ρ 17, ρ 18, ρ 19, ρ 20, ρ 21, ρ 22, ρ 23, ρ 24, ρ 25, ρ 26, ρ 27, ρ 28, ρ 29, ρ 30, ρ 31, ρ 32, ρ 33, ρ 34, ρ 35, ρ 36] := ha
  subst ha
  subst hg
  obtain ⟨r0, r1, r2, r3, r4, r5, r6, r7, r8, r9, r10, r11, r12, r13, r14, r15, r16, r17, r18, r19, r20, r21, r22, r23, r24, r25, r26, r27, r28, r29, r30, r31, r32, r33, r34, r35, r36, r37, r38, r39, r40, r41, r42, -⟩ := hr
  have r0 : (0 : Int) ≤ ρ 0 ∧ ρ 0 ≤ 50000 := r0
  have r1 : (0 : Int) ≤ ρ 1 ∧ ρ 1 ≤ 2 := r1
  have r2 : (0 : Int) ≤ ρ 2 ∧ ρ 2 ≤ 2 := r2
  have r3 : (0 : Int) ≤ ρ 3 ∧ ρ 3 ≤ 50001 := r3
  have r4 : (0 : Int) ≤ ρ 4 ∧ ρ 4 ≤ 62 := r4
  have r5 : (0 : Int) ≤ ρ 5 ∧ ρ 5 ≤ 60 := r5
  have r6 : (0 : Int) ≤ ρ 6 ∧ ρ 6 ≤ 2000 := r6
  have r7 : (0 : Int) ≤ ρ 7 ∧ ρ 7 ≤ 2000 := r7
  have r8 : ((-2147483648) : Int) ≤ ρ 8 ∧ ρ 8 ≤ 2147483647 := r8
  have r9 : ((-2147483648) : Int) ≤ ρ 9 ∧ ρ 9 ≤ 2147483647 := r9
  have r10 : (0 : Int) ≤ ρ 10 ∧ ρ 10 ≤ 2000 := r10
  have r11 : (0 : Int) ≤ ρ 11 ∧ ρ 11 ≤ 2000 := r11
  have r12 : ((-2147483648) : Int) ≤ ρ 12 ∧ ρ 12 ≤ 2147483647 := r12
  have r13 : (7 : Int) ≤ ρ 13 ∧ ρ 13 ≤ 8 := r13
  have r14 : (0 : Int) ≤ ρ 14 ∧ ρ 14 ≤ 8 := r14
  have r15 : (0 : Int) ≤ ρ 15 ∧ ρ 15 ≤ 4 := r15
  have r16 : ((-1) : Int) ≤ ρ 16 ∧ ρ 16 ≤ 19 := r16
  have r17 : (0 : Int) ≤ ρ 17 ∧ ρ 17 ≤ 4 := r17
  have r18 : ((-1) : Int) ≤ ρ 18 ∧ ρ 18 ≤ 7 := r18
  have r19 : (6 : Int) ≤ ρ 19 ∧ ρ 19 ≤ 8 := r19
  have r20 : (0 : Int) ≤ ρ 20 ∧ ρ 20 ≤ 4 := r20
  have r21 : ((-1) : Int) ≤ ρ 21 ∧ ρ 21 ≤ 19 := r21
  have r22 : ((-1) : Int) ≤ ρ 22 ∧ ρ 22 ≤ 3 := r22
  have r23 : (0 : Int) ≤ ρ 23 ∧ ρ 23 ≤ 7 := r23
  have r24 : (0 : Int) ≤ ρ 24 ∧ ρ 24 ≤ 7 := r24
  have r25 : (1 : Int) ≤ ρ 25 ∧ ρ 25 ≤ 8 := r25
  have r26 : (0 : Int) ≤ ρ 26 ∧ ρ 26 ≤ 4 := r26
  have r27 : ((-1) : Int) ≤ ρ 27 ∧ ρ 27 ≤ 19 := r27
  have r28 : ((-1) : Int) ≤ ρ 28 ∧ ρ 28 ≤ 3 := r28
  have r29 : (0 : Int) ≤ ρ 29 ∧ ρ 29 ≤ 7 := r29
  have r30 : ((-1) : Int) ≤ ρ 30 ∧ ρ 30 ≤ 7 := r30
  have r31 : (0 : Int) ≤ ρ 31 ∧ ρ 31 ≤ 8 := r31
  have r32 : (0 : Int) ≤ ρ 32 ∧ ρ 32 ≤ 4 := r32
  have r33 : ((-1) : Int) ≤ ρ 33 ∧ ρ 33 ≤ 19 := r33
  have r34 : ((-1) : Int) ≤ ρ 34 ∧ ρ 34 ≤ 3 := r34
  have r35 : (0 : Int) ≤ ρ 35 ∧ ρ 35 ≤ 7 := r35
  have r36 : ((-1) : Int) ≤ ρ 36 ∧ ρ 36 ≤ 7 := r36
  have r37 : (0 : Int) ≤ ρ 37 ∧ ρ 37 ≤ 60 := r37
  have r38 : (50001 : Int) ≤ ρ 38 ∧ ρ 38 ≤ 50001 := r38
  have r39 : (0 : Int) ≤ ρ 39 ∧ ρ 39 ≤ 50001 := r39
  have r40 : (0 : Int) ≤ ρ 40 ∧ ρ 40 ≤ 2000 := r40
  have r41 : (0 : Int) ≤ ρ 41 ∧ ρ 41 ≤ 2000 := r41
  have r42 : ((-2147483648) : Int) ≤ ρ 42 ∧ ρ 42 ≤ 2147483647 := r42
  obtain ⟨f0, f1, f2, f3, f4, f5, -⟩ := hf
  have f0 : (0 : Int) ≤ -ρ 3 + ((-50001) * ρ 1 + ρ 0) + 100002 := f0
  have f1 : (0 : Int) ≤ ρ 39 + -ρ 3 := f1
  have f2 : (0 : Int) ≤ ρ 40 + -ρ 6 := f2
  have f3 : (0 : Int) ≤ ρ 41 + -ρ 7 := f3
  have f4 : (0 : Int) ≤ -ρ 25 + ρ 13 := f4
  have f5 : (0 : Int) ≤ -ρ 39 + (ρ 38 + (ρ 3 + -ρ 0)) + 1 := f5
  obtain ⟨m0, m1, m2, m3, m4, m5, m6, m7, m8, m9, m10, m11, m12, m13, m14, m15, m16, m17, m18, m19, m20, m21, m22, m23, m24, m25, m26, m27, m28, m29, m30, m31, m32, m33, m34, m35, m36, m37, m38, m39, m40, m41, m42, -⟩ := hm
  have m0 : γ 0 6 0 0 = ρ 0 := m0
  have m1 : γ 0 6 0 9 = ρ 1 := m1
  have m2 : γ 0 6 0 6 = ρ 2 := m2
  have m3 : γ 0 8 (ρ 2) 1 = ρ 3 := m3
  have m4 : γ 0 6 0 7 = ρ 4 := m4
  have m5 : γ 0 1 0 10 = ρ 5 := m5
  have m6 : γ 0 4 0 7 = ρ 6 := m6
  have m7 : γ 0 5 0 3 = ρ 7 := m7
  have m8 : γ 0 6 0 8 = ρ 8 := m8
  have m9 : γ 0 6 0 10 = ρ 9 := m9
  have m10 : γ 0 6 0 11 = ρ 10 := m10
  have m11 : γ 0 6 0 12 = ρ 11 := m11
  have m12 : γ 0 6 0 13 = ρ 12 := m12
  have m13 : γ 0 9 (ρ 4) 2 = ρ 13 := m13
  have m14 : γ 0 9 (ρ 4) 3 = ρ 14 := m14
  have m15 : γ 0 10 (9 * ρ 4) 5 = ρ 15 := m15
  have m16 : γ 0 10 (9 * ρ 4) 8 = ρ 16 := m16
  have m17 : γ 0 10 (9 * ρ 4) 12 = ρ 17 := m17
  have m18 : γ 0 10 (9 * ρ 4) 14 = ρ 18 := m18
  have m19 : γ 0 10 (9 * ρ 4 + 6) 4 = ρ 19 := m19
  have m20 : γ 0 10 (9 * ρ 4 + 6) 5 = ρ 20 := m20
  have m21 : γ 0 10 (9 * ρ 4 + 6) 8 = ρ 21 := m21
  have m22 : γ 0 10 (9 * ρ 4 + 6) 9 = ρ 22 := m22
  have m23 : γ 0 10 (9 * ρ 4 + 6) 10 = ρ 23 := m23
  have m24 : γ 0 10 (9 * ρ 4 + 6) 11 = ρ 24 := m24
  have m25 : γ 0 10 (9 * ρ 4 + 7) 4 = ρ 25 := m25
  have m26 : γ 0 10 (9 * ρ 4 + 7) 5 = ρ 26 := m26
  have m27 : γ 0 10 (9 * ρ 4 + 7) 8 = ρ 27 := m27
  have m28 : γ 0 10 (9 * ρ 4 + 7) 9 = ρ 28 := m28
  have m29 : γ 0 10 (9 * ρ 4 + 7) 10 = ρ 29 := m29
  have m30 : γ 0 10 (9 * ρ 4 + 7) 11 = ρ 30 := m30
  have m31 : γ 0 10 (9 * ρ 4 + 8) 4 = ρ 31 := m31
  have m32 : γ 0 10 (9 * ρ 4 + 8) 5 = ρ 32 := m32
  have m33 : γ 0 10 (9 * ρ 4 + 8) 8 = ρ 33 := m33
  have m34 : γ 0 10 (9 * ρ 4 + 8) 9 = ρ 34 := m34
  have m35 : γ 0 10 (9 * ρ 4 + 8) 10 = ρ 35 := m35
  have m36 : γ 0 10 (9 * ρ 4 + 8) 11 = ρ 36 := m36
  have m37 : γ 0 40 0 (ρ 5) = ρ 37 := m37
  have m38 : γ 3 6 0 0 = ρ 38 := m38
  have m39 : γ 3 8 (ρ 2) 1 = ρ 39 := m39
  have m40 : γ 3 4 0 7 = ρ 40 := m40
  have m41 : γ 3 5 0 3 = ρ 41 := m41
  have m42 : γ 3 6 0 13 = ρ 42 := m42
  obtain ⟨⟨⟨-, c1⟩, c2⟩, c3⟩ := hc
  have c1 : ∀ (G : Nat) (k j : Int), ¬ rMdP m0_ G j → γ 1 G k j = γ 0 G k j := c1
  have c2 : ∀ (G : Nat) (k j : Int), ¬ rMdP m132_ G j → γ 2 G k j = γ 1 G k j := c2
  have c3 : ∀ (G : Nat) (k j : Int), ¬ rMdP m140_ G j → γ 3 G k j = γ 2 G k j := c3
  obtain ⟨l0, l1, l2, -⟩ := hl
  have l0 : sn132 [ρ 4, 5] (γ 0) 0 (9 * ρ 4 + 6) (γ 1) := hS132 _ _ _ _ _ l0
  have l1 : sn231 [9 * ρ 4 + 6, ρ 19, ρ 24] (γ 1) 0 1 (γ 2) := hS231 _ _ _ _ _ l1
  have l2 : sn249 [ρ 0, ρ 1, ρ 2, ρ 3, ρ 4, ρ 5, ρ 6, ρ 7, ρ 8, ρ 9, ρ 10, ρ 11, ρ 12, ρ 13, ρ 14, ρ 15, ρ 16, ρ 17, ρ 18, ρ 25, ρ 26, ρ 27, ρ 28, ρ 29, ρ 30, ρ 31, ρ 32, ρ 33, ρ 34, ρ 35, ρ 36] (γ 2) 4 0 (γ 3) := hS249 _ _ _ _ _ l2
  show sn251 [ρ 0, ρ 1, ρ 2, ρ 3, ρ 4, ρ 5, ρ 6, ρ 7, ρ 8, ρ 9, ρ 10, ρ 11, ρ 12, ρ 13, ρ 14, ρ 15, ρ 16, ρ 17, ρ 18, ρ 19, ρ 20, ρ 21, ρ 22, ρ 23, ρ 24, ρ 25, ρ 26, ρ 27, ρ 28, ρ 29, ρ 30, ρ 31, ρ 32, ρ 33, ρ 34, ρ 35, ρ 36] (γ 0) 4 0 (γ 3)
  refine Eq.symm ?_
  show fn251 [] (γ 0) = _
  unfold fn251
  refine (zLet_eq m4).trans ?_
  refine (zLet_eq m13).trans ?_
  refine (zLet_eq m19).trans ?_
  refine (if_neg (show ¬ (5 ≥ ρ 13) by omega)).trans ?_
  refine (zLet_eq (show fn132 [ρ 4, 5] (γ 0) = (0, 9 * ρ 4 + 6, γ 1) from l0.symm)).trans ?_
  refine (zLet_eq (show _ = γ 1 from rfl)).trans ?_
  refine (if_pos (show ρ 19 ≠ 1 by omega)).trans ?_
  refine (if_neg (show ¬ (0 ≤ -ρ 19 + 3) by omega)).trans ?_
  refine (if_neg (show ¬ (0 ≤ -ρ 19 + 5) by omega)).trans ?_
  refine (zLet_eq (show fn231 [9 * ρ 4 + 6] (γ 1) = (0, 1, γ 2) from l1.symm)).trans ?_
  refine (zLet_eq (show _ = γ 2 from rfl)).trans ?_
  refine (if_pos (show (1 : Int) ≤ 1 by omega)).trans ?_
  refine (zLet_eq (show fn249 [] (γ 2) = (4, 0, γ 3) from l2.symm)).trans ?_
  refine (zLet_eq (show _ = γ 3 from rfl)).trans ?_
  refine (if_neg (show ¬ (4 : Nat) = 0 by decide)).trans ?_
  refine (if_neg (show ¬ (4 : Nat) = 1 by decide)).trans ?_
  rfl
theorem vn251_18 {S : Nat → zSpc} (hS132 : ∀ x g o v gz, S 132 x g o v gz → sn132 x g o v gz) (hS228 : ∀ x g o v gz, S 228 x g o v gz → sn228 x g o v gz) (hS229 : ∀ x g o v gz, S 229 x g o v gz → sn229 x g o v gz) (hS230 : ∀ x g o v gz, S 230 x g o v gz → sn230 x g o v gz) (hS231 : ∀ x g o v gz, S 231 x g o v gz → sn231 x g o v gz) (hS244 : ∀ x g o v gz, S 244 x g o v gz → sn244 x g o v gz) (hS249 : ∀ x g o v gz, S 249 x g o v gz → sn249 x g o v gz) (hS250 : ∀ x g o v gz, S 250 x g o v gz → sn250 x g o v gz) {a : List Int} {g : rHp} : ∀ (ρ : Nat → Int) (γ : Nat → rHp), zO 37 S a g q251_18 ρ γ → zGl (fun _ _ _ => True) (sn251 a g) q251_18 ρ γ := by
  intro ρ γ h
  obtain ⟨ha, hg, hr, hf, hm, hc, hl⟩ := h
  have ha : a = [ρ 0, ρ 1, ρ 2, ρ 3, ρ 4, ρ 5, ρ 6, ρ 7, ρ 8, ρ 9, ρ 10, ρ 11, ρ 12, ρ 13, ρ 14, ρ 15, ρ 16, ρ 17, ρ 18, ρ 19, ρ 20, ρ 21, ρ 22, ρ 23, ρ 24, ρ 25, ρ 26, ρ 27, ρ 28, ρ 29, ρ 30, ρ 31, ρ 32, ρ 33, ρ 34, ρ 35, ρ 36] := ha
  subst ha
  subst hg
  obtain ⟨r0, r1, r2, r3, r4, r5, r6, r7, r8, r9, r10, r11, r12, r13, r14, r15, r16, r17, r18, r19, r20, r21, r22, r23, r24, r25, r26, r27, r28, r29, r30, r31, r32, r33, r34, r35, r36, r37, r38, r39, r40, r41, r42, -⟩ := hr
  have r0 : (0 : Int) ≤ ρ 0 ∧ ρ 0 ≤ 50000 := r0
  have r1 : (0 : Int) ≤ ρ 1 ∧ ρ 1 ≤ 2 := r1
  have r2 : (0 : Int) ≤ ρ 2 ∧ ρ 2 ≤ 2 := r2
  have r3 : (0 : Int) ≤ ρ 3 ∧ ρ 3 ≤ 50001 := r3
  have r4 : (0 : Int) ≤ ρ 4 ∧ ρ 4 ≤ 62 := r4
  have r5 : (0 : Int) ≤ ρ 5 ∧ ρ 5 ≤ 60 := r5
  have r6 : (0 : Int) ≤ ρ 6 ∧ ρ 6 ≤ 2000 := r6
  have r7 : (0 : Int) ≤ ρ 7 ∧ ρ 7 ≤ 2000 := r7
  have r8 : ((-2147483648) : Int) ≤ ρ 8 ∧ ρ 8 ≤ 2147483647 := r8
  have r9 : ((-2147483648) : Int) ≤ ρ 9 ∧ ρ 9 ≤ 2147483647 := r9
  have r10 : (0 : Int) ≤ ρ 10 ∧ ρ 10 ≤ 2000 := r10
  have r11 : (0 : Int) ≤ ρ 11 ∧ ρ 11 ≤ 2000 := r11
  have r12 : ((-2147483648) : Int) ≤ ρ 12 ∧ ρ 12 ≤ 2147483647 := r12
  have r13 : (6 : Int) ≤ ρ 13 ∧ ρ 13 ≤ 8 := r13
  have r14 : (0 : Int) ≤ ρ 14 ∧ ρ 14 ≤ 8 := r14
  have r15 : (0 : Int) ≤ ρ 15 ∧ ρ 15 ≤ 4 := r15
  have r16 : ((-1) : Int) ≤ ρ 16 ∧ ρ 16 ≤ 19 := r16
  have r17 : (0 : Int) ≤ ρ 17 ∧ ρ 17 ≤ 4 := r17
  have r18 : ((-1) : Int) ≤ ρ 18 ∧ ρ 18 ≤ 7 := r18
  have r19 : (1 : Int) ≤ ρ 19 ∧ ρ 19 ≤ 1 := r19
  have r20 : (0 : Int) ≤ ρ 20 ∧ ρ 20 ≤ 4 := r20
  have r21 : ((-1) : Int) ≤ ρ 21 ∧ ρ 21 ≤ 19 := r21
  have r22 : ((-1) : Int) ≤ ρ 22 ∧ ρ 22 ≤ 3 := r22
  have r23 : (0 : Int) ≤ ρ 23 ∧ ρ 23 ≤ 7 := r23
  have r24 : ((-1) : Int) ≤ ρ 24 ∧ ρ 24 ≤ 7 := r24
  have r25 : (0 : Int) ≤ ρ 25 ∧ ρ 25 ≤ 8 := r25
  have r26 : (0 : Int) ≤ ρ 26 ∧ ρ 26 ≤ 4 := r26
  have r27 : ((-1) : Int) ≤ ρ 27 ∧ ρ 27 ≤ 19 := r27
  have r28 : ((-1) : Int) ≤ ρ 28 ∧ ρ 28 ≤ 3 := r28
  have r29 : (0 : Int) ≤ ρ 29 ∧ ρ 29 ≤ 7 := r29
  have r30 : ((-1) : Int) ≤ ρ 30 ∧ ρ 30 ≤ 7 := r30
  have r31 : (0 : Int) ≤ ρ 31 ∧ ρ 31 ≤ 8 := r31
  have r32 : (0 : Int) ≤ ρ 32 ∧ ρ 32 ≤ 4 := r32
  have r33 : ((-1) : Int) ≤ ρ 33 ∧ ρ 33 ≤ 19 := r33
  have r34 : ((-1) : Int) ≤ ρ 34 ∧ ρ 34 ≤ 3 := r34
  have r35 : (0 : Int) ≤ ρ 35 ∧ ρ 35 ≤ 7 := r35
  have r36 : ((-1) : Int) ≤ ρ 36 ∧ ρ 36 ≤ 7 := r36
  have r37 : (0 : Int) ≤ ρ 37 ∧ ρ 37 ≤ 60 := r37
  have r38 : (0 : Int) ≤ ρ 38 ∧ ρ 38 ≤ 50000 := r38
  have r39 : (0 : Int) ≤ ρ 39 ∧ ρ 39 ≤ 50001 := r39
  have r40 : (0 : Int) ≤ ρ 40 ∧ ρ 40 ≤ 2000 := r40
  have r41 : (0 : Int) ≤ ρ 41 ∧ ρ 41 ≤ 2000 := r41
  have r42 : ((-2147483648) : Int) ≤ ρ 42 ∧ ρ 42 ≤ 2147483647 := r42
  obtain ⟨f0, f1, f2, f3, f4, f5, -⟩ := hf
  have f0 : (0 : Int) ≤ -ρ 3 + ((-50001) * ρ 1 + ρ 0) + 100002 := f0
  have f1 : (0 : Int) ≤ ρ 38 + -ρ 0 := f1
  have f2 : (0 : Int) ≤ ρ 39 + -ρ 3 := f2
  have f3 : (0 : Int) ≤ ρ 40 + -ρ 6 := f3
  have f4 : (0 : Int) ≤ ρ 41 + -ρ 7 := f4
  have f5 : (0 : Int) ≤ -ρ 39 + (ρ 38 + (ρ 3 + -ρ 0)) := f5
  obtain ⟨m0, m1, m2, m3, m4, m5, m6, m7, m8, m9, m10, m11, m12, m13, m14, m15, m16, m17, m18, m19, m20, m21, m22, m23, m24, m25, m26, m27, m28, m29, m30, m31, m32, m33, m34, m35, m36, m37, m38, m39, m40, m41, m42, -⟩ := hm
  have m0 : γ 0 6 0 0 = ρ 0 := m0
  have m1 : γ 0 6 0 9 = ρ 1 := m1
  have m2 : γ 0 6 0 6 = ρ 2 := m2
  have m3 : γ 0 8 (ρ 2) 1 = ρ 3 := m3
  have m4 : γ 0 6 0 7 = ρ 4 := m4
  have m5 : γ 0 1 0 10 = ρ 5 := m5
  have m6 : γ 0 4 0 7 = ρ 6 := m6
  have m7 : γ 0 5 0 3 = ρ 7 := m7
  have m8 : γ 0 6 0 8 = ρ 8 := m8
  have m9 : γ 0 6 0 10 = ρ 9 := m9
  have m10 : γ 0 6 0 11 = ρ 10 := m10
  have m11 : γ 0 6 0 12 = ρ 11 := m11
  have m12 : γ 0 6 0 13 = ρ 12 := m12
  have m13 : γ 0 9 (ρ 4) 2 = ρ 13 := m13
  have m14 : γ 0 9 (ρ 4) 3 = ρ 14 := m14
  have m15 : γ 0 10 (9 * ρ 4) 5 = ρ 15 := m15
  have m16 : γ 0 10 (9 * ρ 4) 8 = ρ 16 := m16
  have m17 : γ 0 10 (9 * ρ 4) 12 = ρ 17 := m17
  have m18 : γ 0 10 (9 * ρ 4) 14 = ρ 18 := m18
  have m19 : γ 0 10 (9 * ρ 4 + 6) 4 = ρ 19 := m19
  have m20 : γ 0 10 (9 * ρ 4 + 6) 5 = ρ 20 := m20
  have m21 : γ 0 10 (9 * ρ 4 + 6) 8 = ρ 21 := m21
  have m22 : γ 0 10 (9 * ρ 4 + 6) 9 = ρ 22 := m22
  have m23 : γ 0 10 (9 * ρ 4 + 6) 10 = ρ 23 := m23
  have m24 : γ 0 10 (9 * ρ 4 + 6) 11 = ρ 24 := m24
  have m25 : γ 0 10 (9 * ρ 4 + 7) 4 = ρ 25 := m25
  have m26 : γ 0 10 (9 * ρ 4 + 7) 5 = ρ 26 := m26
  have m27 : γ 0 10 (9 * ρ 4 + 7) 8 = ρ 27 := m27
  have m28 : γ 0 10 (9 * ρ 4 + 7) 9 = ρ 28 := m28
  have m29 : γ 0 10 (9 * ρ 4 + 7) 10 = ρ 29 := m29
  have m30 : γ 0 10 (9 * ρ 4 + 7) 11 = ρ 30 := m30
  have m31 : γ 0 10 (9 * ρ 4 + 8) 4 = ρ 31 := m31
  have m32 : γ 0 10 (9 * ρ 4 + 8) 5 = ρ 32 := m32
  have m33 : γ 0 10 (9 * ρ 4 + 8) 8 = ρ 33 := m33
  have m34 : γ 0 10 (9 * ρ 4 + 8) 9 = ρ 34 := m34
  have m35 : γ 0 10 (9 * ρ 4 + 8) 10 = ρ 35 := m35
  have m36 : γ 0 10 (9 * ρ 4 + 8) 11 = ρ 36 := m36
  have m37 : γ 0 40 0 (ρ 5) = ρ 37 := m37
  have m38 : γ 2 6 0 0 = ρ 38 := m38
  have m39 : γ 2 8 (ρ 2) 1 = ρ 39 := m39
  have m40 : γ 2 4 0 7 = ρ 40 := m40
  have m41 : γ 2 5 0 3 = ρ 41 := m41
  have m42 : γ 2 6 0 13 = ρ 42 := m42
  obtain ⟨⟨-, c1⟩, c2⟩ := hc
  have c1 : ∀ (G : Nat) (k j : Int), ¬ rMdP m0_ G j → γ 1 G k j = γ 0 G k j := c1
  have c2 : ∀ (G : Nat) (k j : Int), ¬ rMdP m140_ G j → γ 2 G k j = γ 1 G k j := c2
  obtain ⟨l0, l1, -⟩ := hl
  have l0 : sn132 [ρ 4, 5] (γ 0) 0 (9 * ρ 4 + 6) (γ 1) := hS132 _ _ _ _ _ l0
  have l1 : sn250 [ρ 0, ρ 1, ρ 2, ρ 3, ρ 4, ρ 5, ρ 6, ρ 7, ρ 8, ρ 9, ρ 10, ρ 11, ρ 12, ρ 13, ρ 14, ρ 15, ρ 16, ρ 17, ρ 18, ρ 20, ρ 21, ρ 22, ρ 23, ρ 25, ρ 26, ρ 27, ρ 28, ρ 29, ρ 30, ρ 31, ρ 32, ρ 33, ρ 34, ρ 35, ρ 36] (γ 1) 0 0 (γ 2) := hS250 _ _ _ _ _ l1
  show sn251 [ρ 0, ρ 1, ρ 2, ρ 3, ρ 4, ρ 5, ρ 6, ρ 7, ρ 8, ρ 9, ρ 10, ρ 11, ρ 12, ρ 13, ρ 14, ρ 15, ρ 16, ρ 17, ρ 18, ρ 19, ρ 20, ρ 21, ρ 22, ρ 23, ρ 24, ρ 25, ρ 26, ρ 27, ρ 28, ρ 29, ρ 30, ρ 31, ρ 32, ρ 33, ρ 34, ρ 35, ρ 36] (γ 0) 0 0 (γ 2)
  refine Eq.symm ?_
  show fn251 [] (γ 0) = _
  unfold fn251
  refine (zLet_eq m4).trans ?_
  refine (zLet_eq m13).trans ?_
  refine (zLet_eq m19).trans ?_
  refine (if_neg (show ¬ (5 ≥ ρ 13) by omega)).trans ?_
  refine (zLet_eq (show fn132 [ρ 4, 5] (γ 0) = (0, 9 * ρ 4 + 6, γ 1) from l0.symm)).trans ?_
  refine (zLet_eq (show _ = γ 1 from rfl)).trans ?_
  refine (if_neg (show ¬ (ρ 19 ≠ 1) by omega)).trans ?_
  refine (zLet_eq (show fn250 [] (γ 1) = (0, 0, γ 2) from l1.symm)).trans ?_
  refine (zLet_eq (show _ = γ 2 from rfl)).trans ?_
  refine (if_pos (show (0 : Nat) = 0 by decide)).trans ?_
  rfl
theorem vn251_19 {S : Nat → zSpc} (hS132 : ∀ x g o v gz, S 132 x g o v gz → sn132 x g o v gz) (hS228 : ∀ x g o v gz, S 228 x g o v gz → sn228 x g o v gz) (hS229 : ∀ x g o v gz, S 229 x g o v gz → sn229 x g o v gz) (hS230 : ∀ x g o v gz, S 230 x g o v gz → sn230 x g o v gz) (hS231 : ∀ x g o v gz, S 231 x g o v gz → sn231 x g o v gz) (hS244 : ∀ x g o v gz, S 244 x g o v gz → sn244 x g o v gz) (hS249 : ∀ x g o v gz, S 249 x g o v gz → sn249 x g o v gz) (hS250 : ∀ x g o v gz, S 250 x g o v gz → sn250 x g o v gz) {a : List Int} {g : rHp} : ∀ (ρ : Nat → Int) (γ : Nat → rHp), zO 37 S a g q251_19 ρ γ → zGl (fun _ _ _ => True) (sn251 a g) q251_19 ρ γ := by
  intro ρ γ h
  obtain ⟨ha, hg, hr, hf, hm, hc, hl⟩ := h
  have ha : a = [ρ 0, ρ 1, ρ 2, ρ 3, ρ 4, ρ 5, ρ 6, ρ 7, ρ 8, ρ 9, ρ 10, ρ 11, ρ 12, ρ 13, ρ 14, ρ 15, ρ 16, ρ 17, ρ 18, ρ 19, ρ 20, ρ 21, ρ 22, ρ 23, ρ 24, ρ 25, ρ 26, ρ 27, ρ 28, ρ 29, ρ 30, ρ 31, ρ 32, ρ 33, ρ 34, ρ 35, ρ 36] := ha
  subst ha
  subst hg
  obtain ⟨r0, r1, r2, r3, r4, r5, r6, r7, r8, r9, r10, r11, r12, r13, r14, r15, r16, r17, r18, r19, r20, r21, r22, r23, r24, r25, r26, r27, r28, r29, r30, r31, r32, r33, r34, r35, r36, r37, r38, r39, r40, r41, r42, -⟩ := hr
  have r0 : (0 : Int) ≤ ρ 0 ∧ ρ 0 ≤ 50000 := r0
  have r1 : (0 : Int) ≤ ρ 1 ∧ ρ 1 ≤ 1 := r1
  have r2 : (0 : Int) ≤ ρ 2 ∧ ρ 2 ≤ 2 := r2
  have r3 : (0 : Int) ≤ ρ 3 ∧ ρ 3 ≤ 50001 := r3
  have r4 : (0 : Int) ≤ ρ 4 ∧ ρ 4 ≤ 62 := r4
  have r5 : (0 : Int) ≤ ρ 5 ∧ ρ 5 ≤ 60 := r5
  have r6 : (0 : Int) ≤ ρ 6 ∧ ρ 6 ≤ 2000 := r6
  have r7 : (0 : Int) ≤ ρ 7 ∧ ρ 7 ≤ 2000 := r7
  have r8 : ((-2147483648) : Int) ≤ ρ 8 ∧ ρ 8 ≤ 2147483647 := r8
  have r9 : ((-2147483648) : Int) ≤ ρ 9 ∧ ρ 9 ≤ 2147483647 := r9
  have r10 : (0 : Int) ≤ ρ 10 ∧ ρ 10 ≤ 2000 := r10
  have r11 : (0 : Int) ≤ ρ 11 ∧ ρ 11 ≤ 2000 := r11
  have r12 : ((-2147483648) : Int) ≤ ρ 12 ∧ ρ 12 ≤ 2147483647 := r12
  have r13 : (6 : Int) ≤ ρ 13 ∧ ρ 13 ≤ 8 := r13
  have r14 : (0 : Int) ≤ ρ 14 ∧ ρ 14 ≤ 8 := r14
  have r15 : (0 : Int) ≤ ρ 15 ∧ ρ 15 ≤ 4 := r15
  have r16 : ((-1) : Int) ≤ ρ 16 ∧ ρ 16 ≤ 19 := r16
  have r17 : (0 : Int) ≤ ρ 17 ∧ ρ 17 ≤ 4 := r17
  have r18 : ((-1) : Int) ≤ ρ 18 ∧ ρ 18 ≤ 7 := r18
  have r19 : (1 : Int) ≤ ρ 19 ∧ ρ 19 ≤ 1 := r19
  have r20 : (0 : Int) ≤ ρ 20 ∧ ρ 20 ≤ 4 := r20
  have r21 : ((-1) : Int) ≤ ρ 21 ∧ ρ 21 ≤ 19 := r21
  have r22 : ((-1) : Int) ≤ ρ 22 ∧ ρ 22 ≤ 3 := r22
  have r23 : (0 : Int) ≤ ρ 23 ∧ ρ 23 ≤ 7 := r23
  have r24 : ((-1) : Int) ≤ ρ 24 ∧ ρ 24 ≤ 7 := r24
  have r25 : (0 : Int) ≤ ρ 25 ∧ ρ 25 ≤ 8 := r25
  have r26 : (0 : Int) ≤ ρ 26 ∧ ρ 26 ≤ 4 := r26
  have r27 : ((-1) : Int) ≤ ρ 27 ∧ ρ 27 ≤ 19 := r27
  have r28 : ((-1) : Int) ≤ ρ 28 ∧ ρ 28 ≤ 3 := r28
  have r29 : (0 : Int) ≤ ρ 29 ∧ ρ 29 ≤ 7 := r29
  have r30 : ((-1) : Int) ≤ ρ 30 ∧ ρ 30 ≤ 7 := r30
  have r31 : (0 : Int) ≤ ρ 31 ∧ ρ 31 ≤ 8 := r31
  have r32 : (0 : Int) ≤ ρ 32 ∧ ρ 32 ≤ 4 := r32
  have r33 : ((-1) : Int) ≤ ρ 33 ∧ ρ 33 ≤ 19 := r33
  have r34 : ((-1) : Int) ≤ ρ 34 ∧ ρ 34 ≤ 3 := r34
  have r35 : (0 : Int) ≤ ρ 35 ∧ ρ 35 ≤ 7 := r35
  have r36 : ((-1) : Int) ≤ ρ 36 ∧ ρ 36 ≤ 7 := r36
  have r37 : (0 : Int) ≤ ρ 37 ∧ ρ 37 ≤ 60 := r37
  have r38 : (1 : Int) ≤ ρ 38 ∧ ρ 38 ≤ 50000 := r38
  have r39 : (0 : Int) ≤ ρ 39 ∧ ρ 39 ≤ 50001 := r39
  have r40 : (0 : Int) ≤ ρ 40 ∧ ρ 40 ≤ 2000 := r40
  have r41 : (0 : Int) ≤ ρ 41 ∧ ρ 41 ≤ 2000 := r41
  have r42 : ((-2147483648) : Int) ≤ ρ 42 ∧ ρ 42 ≤ 2147483647 := r42
  obtain ⟨f0, f1, f2, f3, f4, f5, f6, -⟩ := hf
  have f0 : (0 : Int) ≤ ρ 38 + -ρ 0 + (-1) := f0
  have f1 : (0 : Int) ≤ ρ 39 + -ρ 3 := f1
  have f2 : (0 : Int) ≤ ρ 40 + -ρ 6 := f2
  have f3 : (0 : Int) ≤ ρ 41 + -ρ 7 := f3
  have f4 : (0 : Int) ≤ ρ 10 + -ρ 1 := f4
  have f5 : (0 : Int) ≤ -ρ 39 + (ρ 38 + (ρ 3 + -ρ 0)) := f5
  have f6 : (0 : Int) ≤ -ρ 3 + ((-50001) * ρ 1 + ρ 0) + 100002 := f6
  obtain ⟨m0, m1, m2, m3, m4, m5, m6, m7, m8, m9, m10, m11, m12, m13, m14, m15, m16, m17, m18, m19, m20, m21, m22, m23, m24, m25, m26, m27, m28, m29, m30, m31, m32, m33, m34, m35, m36, m37, m38, m39, m40, m41, m42, -⟩ := hm
  have m0 : γ 0 6 0 0 = ρ 0 := m0
  have m1 : γ 0 6 0 9 = ρ 1 := m1
  have m2 : γ 0 6 0 6 = ρ 2 := m2
  have m3 : γ 0 8 (ρ 2) 1 = ρ 3 := m3
  have m4 : γ 0 6 0 7 = ρ 4 := m4
  have m5 : γ 0 1 0 10 = ρ 5 := m5
  have m6 : γ 0 4 0 7 = ρ 6 := m6
  have m7 : γ 0 5 0 3 = ρ 7 := m7
  have m8 : γ 0 6 0 8 = ρ 8 := m8
  have m9 : γ 0 6 0 10 = ρ 9 := m9
  have m10 : γ 0 6 0 11 = ρ 10 := m10
  have m11 : γ 0 6 0 12 = ρ 11 := m11
  have m12 : γ 0 6 0 13 = ρ 12 := m12
  have m13 : γ 0 9 (ρ 4) 2 = ρ 13 := m13
  have m14 : γ 0 9 (ρ 4) 3 = ρ 14 := m14
  have m15 : γ 0 10 (9 * ρ 4) 5 = ρ 15 := m15
  have m16 : γ 0 10 (9 * ρ 4) 8 = ρ 16 := m16
  have m17 : γ 0 10 (9 * ρ 4) 12 = ρ 17 := m17
  have m18 : γ 0 10 (9 * ρ 4) 14 = ρ 18 := m18
  have m19 : γ 0 10 (9 * ρ 4 + 6) 4 = ρ 19 := m19
  have m20 : γ 0 10 (9 * ρ 4 + 6) 5 = ρ 20 := m20
  have m21 : γ 0 10 (9 * ρ 4 + 6) 8 = ρ 21 := m21
  have m22 : γ 0 10 (9 * ρ 4 + 6) 9 = ρ 22 := m22
  have m23 : γ 0 10 (9 * ρ 4 + 6) 10 = ρ 23 := m23
  have m24 : γ 0 10 (9 * ρ 4 + 6) 11 = ρ 24 := m24
  have m25 : γ 0 10 (9 * ρ 4 + 7) 4 = ρ 25 := m25
  have m26 : γ 0 10 (9 * ρ 4 + 7) 5 = ρ 26 := m26
  have m27 : γ 0 10 (9 * ρ 4 + 7) 8 = ρ 27 := m27
  have m28 : γ 0 10 (9 * ρ 4 + 7) 9 = ρ 28 := m28
  have m29 : γ 0 10 (9 * ρ 4 + 7) 10 = ρ 29 := m29
  have m30 : γ 0 10 (9 * ρ 4 + 7) 11 = ρ 30 := m30
  have m31 : γ 0 10 (9 * ρ 4 + 8) 4 = ρ 31 := m31
  have m32 : γ 0 10 (9 * ρ 4 + 8) 5 = ρ 32 := m32
  have m33 : γ 0 10 (9 * ρ 4 + 8) 8 = ρ 33 := m33
  have m34 : γ 0 10 (9 * ρ 4 + 8) 9 = ρ 34 := m34
  have m35 : γ 0 10 (9 * ρ 4 + 8) 10 = ρ 35 := m35
  have m36 : γ 0 10 (9 * ρ 4 + 8) 11 = ρ 36 := m36
  have m37 : γ 0 40 0 (ρ 5) = ρ 37 := m37
  have m38 : γ 2 6 0 0 = ρ 38 := m38
  have m39 : γ 2 8 (ρ 2) 1 = ρ 39 := m39
  have m40 : γ 2 4 0 7 = ρ 40 := m40
  have m41 : γ 2 5 0 3 = ρ 41 := m41
  have m42 : γ 2 6 0 13 = ρ 42 := m42
  obtain ⟨⟨-, c1⟩, c2⟩ := hc
  have c1 : ∀ (G : Nat) (k j : Int), ¬ rMdP m0_ G j → γ 1 G k j = γ 0 G k j := c1
  have c2 : ∀ (G : Nat) (k j : Int), ¬ rMdP m140_ G j → γ 2 G k j = γ 1 G k j := c2
  obtain ⟨l0, l1, -⟩ := hl
  have l0 : sn132 [ρ 4, 5] (γ 0) 0 (9 * ρ 4 + 6) (γ 1) := hS132 _ _ _ _ _ l0
  have l1 : sn250 [ρ 0, ρ 1, ρ 2, ρ 3, ρ 4, ρ 5, ρ 6, ρ 7, ρ 8, ρ 9, ρ 10, ρ 11, ρ 12, ρ 13, ρ 14, ρ 15, ρ 16, ρ 17, ρ 18, ρ 20, ρ 21, ρ 22, ρ 23, ρ 25, ρ 26, ρ 27, ρ 28, ρ 29, ρ 30, ρ 31, ρ 32, ρ 33, ρ 34, ρ 35, ρ 36] (γ 1) 1 0 (γ 2) := hS250 _ _ _ _ _ l1
  show sn251 [ρ 0, ρ 1, ρ 2, ρ 3, ρ 4, ρ 5, ρ 6, ρ 7, ρ 8, ρ 9, ρ 10, ρ 11, ρ 12, ρ 13, ρ 14, ρ 15, ρ 16, ρ 17, ρ 18, ρ 19, ρ 20, ρ 21, ρ 22, ρ 23, ρ 24, ρ 25, ρ 26, ρ 27, ρ 28, ρ 29, ρ 30, ρ 31, ρ 32, ρ 33, ρ 34, ρ 35, ρ 36] (γ 0) 1 0 (γ 2)
  refine Eq.symm ?_
  show fn251 [] (γ 0) = _
  unfold fn251
  refine (zLet_eq m4).trans ?_
  refine (zLet_eq m13).trans ?_
  refine (zLet_eq m19).trans ?_
  refine (if_neg (show ¬ (5 ≥ ρ 13) by omega)).trans ?_
  refine (zLet_eq (show fn132 [ρ 4, 5] (γ 0) = (0, 9 * ρ 4 + 6, γ 1) from l0.symm)).trans ?_
  refine (zLet_eq (show _ = γ 1 from rfl)).trans ?_
  refine (if_neg (show ¬ (ρ 19 ≠ 1) by omega)).trans ?_
  refine (zLet_eq (show fn250 [] (γ 1) = (1, 0, γ 2) from l1.symm)).trans ?_
  refine (zLet_eq (show _ = γ 2 from rfl)).trans ?_
  refine (if_neg (show ¬ (1 : Nat) = 0 by decide)).trans ?_
  refine (if_pos (show (1 : Nat) = 1 by decide)).trans ?_
  rfl
theorem vn251_20 {S : Nat → zSpc} (hS132 : ∀ x g o v gz, S 132 x g o v gz → sn132 x g o v gz) (hS228 : ∀ x g o v gz, S 228 x g o v gz → sn228 x g o v gz) (hS229 : ∀ x g o v gz, S 229 x g o v gz → sn229 x g o v gz) (hS230 : ∀ x g o v gz, S 230 x g o v gz → sn230 x g o v gz) (hS231 : ∀ x g o v gz, S 231 x g o v gz → sn231 x g o v gz) (hS244 : ∀ x g o v gz, S 244 x g o v gz → sn244 x g o v gz) (hS249 : ∀ x g o v gz, S 249 x g o v gz → sn249 x g o v gz) (hS250 : ∀ x g o v gz, S 250 x g o v gz → sn250 x g o v gz) {a : List Int} {g : rHp} : ∀ (ρ : Nat → Int) (γ : Nat → rHp), zO 37 S a g q251_20 ρ γ → zGl (fun _ _ _ => True) (sn251 a g) q251_20 ρ γ := by
  intro ρ γ h
  obtain ⟨ha, hg, hr, hf, hm, hc, hl⟩ := h
  have ha : a = [ρ 0, ρ 1, ρ 2, ρ 3, ρ 4, ρ 5, ρ 6, ρ 7, ρ 8, ρ 9, ρ 10, ρ 11, ρ 12, ρ 13, ρ 14, ρ 15, ρ 16, ρ 17, ρ 18, ρ 19, ρ 20, ρ 21, ρ 22, ρ 23, ρ 24, ρ 25, ρ 26, ρ 27, ρ 28, ρ 29, ρ 30, ρ 31, ρ 32, ρ 33, ρ 34, ρ 35, ρ 36] := ha
  subst ha
  subst hg
  obtain ⟨r0, r1, r2, r3, r4, r5, r6, r7, r8, r9, r10, r11, r12, r13, r14, r15, r16, r17, r18, r19, r20, r21, r22, r23, r24, r25, r26, r27, r28, r29, r30, r31, r32, r33, r34, r35, r36, r37, r38, r39, r40, r41, r42, -⟩ := hr
  have r0 : (0 : Int) ≤ ρ 0 ∧ ρ 0 ≤ 50000 := r0
  have r1 : (0 : Int) ≤ ρ 1 ∧ ρ 1 ≤ 2 := r1
  have r2 : (0 : Int) ≤ ρ 2 ∧ ρ 2 ≤ 2 := r2
  have r3 : (0 : Int) ≤ ρ 3 ∧ ρ 3 ≤ 50001 := r3
  have r4 : (0 : Int) ≤ ρ 4 ∧ ρ 4 ≤ 62 := r4
  have r5 : (0 : Int) ≤ ρ 5 ∧ ρ 5 ≤ 60 := r5
  have r6 : (0 : Int) ≤ ρ 6 ∧ ρ 6 ≤ 2000 := r6
  have r7 : (0 : Int) ≤ ρ 7 ∧ ρ 7 ≤ 2000 := r7
  have r8 : ((-2147483648) : Int) ≤ ρ 8 ∧ ρ 8 ≤ 2147483647 := r8
  have r9 : ((-2147483648) : Int) ≤ ρ 9 ∧ ρ 9 ≤ 2147483647 := r9
  have r10 : (0 : Int) ≤ ρ 10 ∧ ρ 10 ≤ 2000 := r10
  have r11 : (0 : Int) ≤ ρ 11 ∧ ρ 11 ≤ 2000 := r11
  have r12 : ((-2147483648) : Int) ≤ ρ 12 ∧ ρ 12 ≤ 2147483647 := r12
  have r13 : (6 : Int) ≤ ρ 13 ∧ ρ 13 ≤ 8 := r13
  have r14 : (0 : Int) ≤ ρ 14 ∧ ρ 14 ≤ 8 := r14
  have r15 : (0 : Int) ≤ ρ 15 ∧ ρ 15 ≤ 4 := r15
  have r16 : ((-1) : Int) ≤ ρ 16 ∧ ρ 16 ≤ 19 := r16
  have r17 : (0 : Int) ≤ ρ 17 ∧ ρ 17 ≤ 4 := r17
  have r18 : ((-1) : Int) ≤ ρ 18 ∧ ρ 18 ≤ 7 := r18
  have r19 : (1 : Int) ≤ ρ 19 ∧ ρ 19 ≤ 1 := r19
  have r20 : (0 : Int) ≤ ρ 20 ∧ ρ 20 ≤ 4 := r20
  have r21 : ((-1) : Int) ≤ ρ 21 ∧ ρ 21 ≤ 19 := r21
  have r22 : ((-1) : Int) ≤ ρ 22 ∧ ρ 22 ≤ 3 := r22
  have r23 : (0 : Int) ≤ ρ 23 ∧ ρ 23 ≤ 7 := r23
  have r24 : ((-1) : Int) ≤ ρ 24 ∧ ρ 24 ≤ 7 := r24
  have r25 : (0 : Int) ≤ ρ 25 ∧ ρ 25 ≤ 8 := r25
  have r26 : (0 : Int) ≤ ρ 26 ∧ ρ 26 ≤ 4 := r26
  have r27 : ((-1) : Int) ≤ ρ 27 ∧ ρ 27 ≤ 19 := r27
  have r28 : ((-1) : Int) ≤ ρ 28 ∧ ρ 28 ≤ 3 := r28
  have r29 : (0 : Int) ≤ ρ 29 ∧ ρ 29 ≤ 7 := r29
  have r30 : ((-1) : Int) ≤ ρ 30 ∧ ρ 30 ≤ 7 := r30
  have r31 : (0 : Int) ≤ ρ 31 ∧ ρ 31 ≤ 8 := r31
  have r32 : (0 : Int) ≤ ρ 32 ∧ ρ 32 ≤ 4 := r32
  have r33 : ((-1) : Int) ≤ ρ 33 ∧ ρ 33 ≤ 19 := r33
  have r34 : ((-1) : Int) ≤ ρ 34 ∧ ρ 34 ≤ 3 := r34
  have r35 : (0 : Int) ≤ ρ 35 ∧ ρ 35 ≤ 7 := r35
  have r36 : ((-1) : Int) ≤ ρ 36 ∧ ρ 36 ≤ 7 := r36
  have r37 : (0 : Int) ≤ ρ 37 ∧ ρ 37 ≤ 60 := r37
  have r38 : (50001 : Int) ≤ ρ 38 ∧ ρ 38 ≤ 50001 := r38
  have r39 : (0 : Int) ≤ ρ 39 ∧ ρ 39 ≤ 50001 := r39
  have r40 : (0 : Int) ≤ ρ 40 ∧ ρ 40 ≤ 2000 := r40
  have r41 : (0 : Int) ≤ ρ 41 ∧ ρ 41 ≤ 2000 := r41
  have r42 : ((-2147483648) : Int) ≤ ρ 42 ∧ ρ 42 ≤ 2147483647 := r42
  obtain ⟨f0, f1, f2, f3, f4, -⟩ := hf
  have f0 : (0 : Int) ≤ -ρ 3 + ((-50001) * ρ 1 + ρ 0) + 100002 := f0
  have f1 : (0 : Int) ≤ ρ 39 + -ρ 3 := f1
  have f2 : (0 : Int) ≤ ρ 40 + -ρ 6 := f2
  have f3 : (0 : Int) ≤ ρ 41 + -ρ 7 := f3
  have f4 : (0 : Int) ≤ -ρ 39 + (ρ 38 + (ρ 3 + -ρ 0)) := f4
  obtain ⟨m0, m1, m2, m3, m4, m5, m6, m7, m8, m9, m10, m11, m12, m13, m14, m15, m16, m17, m18, m19, m20, m21, m22, m23, m24, m25, m26, m27, m28, m29, m30, m31, m32, m33, m34, m35, m36, m37, m38, m39, m40, m41, m42, -⟩ := hm
  have m0 : γ 0 6 0 0 = ρ 0 := m0
  have m1 : γ 0 6 0 9 = ρ 1 := m1
  have m2 : γ 0 6 0 6 = ρ 2 := m2
  have m3 : γ 0 8 (ρ 2) 1 = ρ 3 := m3
  have m4 : γ 0 6 0 7 = ρ 4 := m4
  have m5 : γ 0 1 0 10 = ρ 5 := m5
  have m6 : γ 0 4 0 7 = ρ 6 := m6
  have m7 : γ 0 5 0 3 = ρ 7 := m7
  have m8 : γ 0 6 0 8 = ρ 8 := m8
  have m9 : γ 0 6 0 10 = ρ 9 := m9
  have m10 : γ 0 6 0 11 = ρ 10 := m10
  have m11 : γ 0 6 0 12 = ρ 11 := m11
  have m12 : γ 0 6 0 13 = ρ 12 := m12
  have m13 : γ 0 9 (ρ 4) 2 = ρ 13 := m13
  have m14 : γ 0 9 (ρ 4) 3 = ρ 14 := m14
  have m15 : γ 0 10 (9 * ρ 4) 5 = ρ 15 := m15
  have m16 : γ 0 10 (9 * ρ 4) 8 = ρ 16 := m16
  have m17 : γ 0 10 (9 * ρ 4) 12 = ρ 17 := m17
  have m18 : γ 0 10 (9 * ρ 4) 14 = ρ 18 := m18
  have m19 : γ 0 10 (9 * ρ 4 + 6) 4 = ρ 19 := m19
  have m20 : γ 0 10 (9 * ρ 4 + 6) 5 = ρ 20 := m20
  have m21 : γ 0 10 (9 * ρ 4 + 6) 8 = ρ 21 := m21
  have m22 : γ 0 10 (9 * ρ 4 + 6) 9 = ρ 22 := m22
  have m23 : γ 0 10 (9 * ρ 4 + 6) 10 = ρ 23 := m23
  have m24 : γ 0 10 (9 * ρ 4 + 6) 11 = ρ 24 := m24
  have m25 : γ 0 10 (9 * ρ 4 + 7) 4 = ρ 25 := m25
  have m26 : γ 0 10 (9 * ρ 4 + 7) 5 = ρ 26 := m26
  have m27 : γ 0 10 (9 * ρ 4 + 7) 8 = ρ 27 := m27
  have m28 : γ 0 10 (9 * ρ 4 + 7) 9 = ρ 28 := m28
  have m29 : γ 0 10 (9 * ρ 4 + 7) 10 = ρ 29 := m29
  have m30 : γ 0 10 (9 * ρ 4 + 7) 11 = ρ 30 := m30
  have m31 : γ 0 10 (9 * ρ 4 + 8) 4 = ρ 31 := m31
  have m32 : γ 0 10 (9 * ρ 4 + 8) 5 = ρ 32 := m32
  have m33 : γ 0 10 (9 * ρ 4 + 8) 8 = ρ 33 := m33
  have m34 : γ 0 10 (9 * ρ 4 + 8) 9 = ρ 34 := m34
  have m35 : γ 0 10 (9 * ρ 4 + 8) 10 = ρ 35 := m35
  have m36 : γ 0 10 (9 * ρ 4 + 8) 11 = ρ 36 := m36
  have m37 : γ 0 40 0 (ρ 5) = ρ 37 := m37
  have m38 : γ 2 6 0 0 = ρ 38 := m38
  have m39 : γ 2 8 (ρ 2) 1 = ρ 39 := m39
  have m40 : γ 2 4 0 7 = ρ 40 := m40
  have m41 : γ 2 5 0 3 = ρ 41 := m41
  have m42 : γ 2 6 0 13 = ρ 42 := m42
  obtain ⟨⟨-, c1⟩, c2⟩ := hc
  have c1 : ∀ (G : Nat) (k j : Int), ¬ rMdP m0_ G j → γ 1 G k j = γ 0 G k j := c1
  have c2 : ∀ (G : Nat) (k j : Int), ¬ rMdP m140_ G j → γ 2 G k j = γ 1 G k j := c2
  obtain ⟨l0, l1, -⟩ := hl
  have l0 : sn132 [ρ 4, 5] (γ 0) 0 (9 * ρ 4 + 6) (γ 1) := hS132 _ _ _ _ _ l0
  have l1 : sn250 [ρ 0, ρ 1, ρ 2, ρ 3, ρ 4, ρ 5, ρ 6, ρ 7, ρ 8, ρ 9, ρ 10, ρ 11, ρ 12, ρ 13, ρ 14, ρ 15, ρ 16, ρ 17, ρ 18, ρ 20, ρ 21, ρ 22, ρ 23, ρ 25, ρ 26, ρ 27, ρ 28, ρ 29, ρ 30, ρ 31, ρ 32, ρ 33, ρ 34, ρ 35, ρ 36] (γ 1) 4 0 (γ 2) := hS250 _ _ _ _ _ l1
  show sn251 [ρ 0, ρ 1, ρ 2, ρ 3, ρ 4, ρ 5, ρ 6, ρ 7, ρ 8, ρ 9, ρ 10, ρ 11, ρ 12, ρ 13, ρ 14, ρ 15, ρ 16, ρ 17, ρ 18, ρ 19, ρ 20, ρ 21, ρ 22, ρ 23, ρ 24, ρ 25, ρ 26, ρ 27, ρ 28, ρ 29, ρ 30, ρ 31, ρ 32, ρ 33, ρ 34, ρ 35, ρ 36] (γ 0) 4 0 (γ 2)
  refine Eq.symm ?_
  show fn251 [] (γ 0) = _
  unfold fn251
  refine (zLet_eq m4).trans ?_
  refine (zLet_eq m13).trans ?_
  refine (zLet_eq m19).trans ?_
  refine (if_neg (show ¬ (5 ≥ ρ 13) by omega)).trans ?_
  refine (zLet_eq (show fn132 [ρ 4, 5] (γ 0) = (0, 9 * ρ 4 + 6, γ 1) from l0.symm)).trans ?_
  refine (zLet_eq (show _ = γ 1 from rfl)).trans ?_
  refine (if_neg (show ¬ (ρ 19 ≠ 1) by omega)).trans ?_
  refine (zLet_eq (show fn250 [] (γ 1) = (4, 0, γ 2) from l1.symm)).trans ?_
  refine (zLet_eq (show _ = γ 2 from rfl)).trans ?_
  refine (if_neg (show ¬ (4 : Nat) = 0 by decide)).trans ?_
  refine (if_neg (show ¬ (4 : Nat) = 1 by decide)).trans ?_
  rfl
theorem yn251 {S : Nat → zSpc} (hS132 : ∀ x g o v gz, S 132 x g o v gz → sn132 x g o v gz) (hS228 : ∀ x g o v gz, S 228 x g o v gz → sn228 x g o v gz) (hS229 : ∀ x g o v gz, S 229 x g o v gz → sn229 x g o v gz) (hS230 : ∀ x g o v gz, S 230 x g o v gz → sn230 x g o v gz) (hS231 : ∀ x g o v gz, S 231 x g o v gz → sn231 x g o v gz) (hS244 : ∀ x g o v gz, S 244 x g o v gz → sn244 x g o v gz) (hS249 : ∀ x g o v gz, S 249 x g o v gz → sn249 x g o v gz) (hS250 : ∀ x g o v gz, S 250 x g o v gz → sn250 x g o v gz) : ∀ x g o v gz, zSem uW uT w251_.2.2.2.1 w251_.2.2.1.1.length S q251 (fun i => q251a.getD i []) (zNA a251_) x g o v gz → sn251 x g o v gz := by
  intro a g o v gz h
  exact zSem_all (l0 := q251) (las := q251a) (S := S) (J := (fun _ _ _ => True)) (P := sn251 a g) (fun _ => (show zAll _ [q251_0, q251_1, q251_2, q251_3, q251_4, q251_5, q251_6, q251_7, q251_8, q251_9, q251_10, q251_11, q251_12, q251_13, q251_14, q251_15, q251_16, q251_17, q251_18, q251_19, q251_20] from (zAll_c (vn251_0 hS132 hS228 hS229 hS230 hS231 hS244 hS249 hS250) (zAll_c (vn251_1 hS132 hS228 hS229 hS230 hS231 hS244 hS249 hS250) (zAll_c (vn251_2 hS132 hS228 hS229 hS230 hS231 hS244 hS249 hS250) (zAll_c (vn251_3 hS132 hS228 hS229 hS230 hS231 hS244 hS249 hS250) (zAll_c (vn251_4 hS132 hS228 hS229 hS230 hS231 hS244 hS249 hS250) (zAll_c (vn251_5 hS132 hS228 hS229 hS230 hS231 hS244 hS249 hS250) (zAll_c (vn251_6 hS132 hS228 hS229 hS230 hS231 hS244 hS249 hS250) (zAll_c (vn251_7 hS132 hS228 hS229 hS230 hS231 hS244 hS249 hS250) (zAll_c (vn251_8 hS132 hS228 hS229 hS230 hS231 hS244 hS249 hS250) (zAll_c (vn251_9 hS132 hS228 hS229 hS230 hS231 hS244 hS249 hS250) (zAll_c (vn251_10 hS132 hS228 hS229 hS230 hS231 hS244 hS249 hS250) (zAll_c (vn251_11 hS132 hS228 hS229 hS230 hS231 hS244 hS249 hS250) (zAll_c (vn251_12 hS132 hS228 hS229 hS230 hS231 hS244 hS249 hS250) (zAll_c (vn251_13 hS132 hS228 hS229 hS230 hS231 hS244 hS249 hS250) (zAll_c (vn251_14 hS132 hS228 hS229 hS230 hS231 hS244 hS249 hS250) (zAll_c (vn251_15 hS132 hS228 hS229 hS230 hS231 hS244 hS249 hS250) (zAll_c (vn251_16 hS132 hS228 hS229 hS230 hS231 hS244 hS249 hS250) (zAll_c (vn251_17 hS132 hS228 hS229 hS230 hS231 hS244 hS249 hS250) (zAll_c (vn251_18 hS132 hS228 hS229 hS230 hS231 hS244 hS249 hS250) (zAll_c (vn251_19 hS132 hS228 hS229 hS230 hS231 hS244 hS249 hS250) (zAll_c (vn251_20 hS132 hS228 hS229 hS230 hS231 hS244 hS249 hS250) zAll_n))))))))))))))))))))))) (fun _ => (show zAllI _ 0 [] from trivial)) h
