/-! ===== the runs are the functions ===== -/
theorem vn43_0 {S : Nat → zSpc} (hS6 : zIm S 6 sn6) (hS7 : zIm S 7 sn7) (hS8 : zIm S 8 sn8) (hS42 : zIm S 42 sn42) {a : List Int} {g : rHp} : ∀ (ρ : Nat → Int) (γ : Nat → rHp), zO 15 S a g q43_0 ρ γ → zGl (fun i vs g1 => jn43 a g i vs g1) (sn43 a g) q43_0 ρ γ := by
  intro ρ γ h
  obtain ⟨ha, hg, hr, hf, hm, hc, hl⟩ := h
  have ha : a = [ρ 0, ρ 1, ρ 2, ρ 3, ρ 4, ρ 5, ρ 6, ρ 7, ρ 8, ρ 9, ρ 10, ρ 11, ρ 12, ρ 13, ρ 14] := ha
  subst ha
  subst hg
  show jn43 [ρ 0, ρ 1, ρ 2, ρ 3, ρ 4, ρ 5, ρ 6, ρ 7, ρ 8, ρ 9, ρ 10, ρ 11, ρ 12, ρ 13, ρ 14] (γ 0) 0 [ρ 0, ρ 1, ρ 2, ρ 3, ρ 4, ρ 5, ρ 6, ρ 7, ρ 8, ρ 9, ρ 10, ρ 11, ρ 12, ρ 13, ρ 14, 1, ρ 0, ρ 2, ρ 3, ρ 4, ρ 5, ρ 11, ρ 12, ρ 13, ρ 14, ρ 9] (γ 0)
  have hD : dn43 [] (γ 0) = .inl (0, [1], γ 0) := by
    unfold dn43
    rfl
  exact zGoo_to hD
theorem vn43a0_0 {S : Nat → zSpc} (hS6 : zIm S 6 sn6) (hS7 : zIm S 7 sn7) (hS8 : zIm S 8 sn8) (hS42 : zIm S 42 sn42) {a : List Int} {g : rHp} : ∀ (ρ : Nat → Int) (γ : Nat → rHp), jn43 a g 0 (zAg (zNA a43_ 0) ρ) (γ 1) → zO 15 S a g q43a0_0 ρ γ → zGl (fun i vs g1 => jn43 a g i vs g1) (sn43 a g) q43a0_0 ρ γ := by
  intro ρ γ hJ h
  obtain ⟨ha, hg, hr, hf, hm, hc, hl⟩ := h
  have ha : a = [ρ 0, ρ 1, ρ 2, ρ 3, ρ 4, ρ 5, ρ 6, ρ 7, ρ 8, ρ 9, ρ 10, ρ 11, ρ 12, ρ 13, ρ 14] := ha
  subst ha
  subst hg
  have hJ : jn43 [ρ 0, ρ 1, ρ 2, ρ 3, ρ 4, ρ 5, ρ 6, ρ 7, ρ 8, ρ 9, ρ 10, ρ 11, ρ 12, ρ 13, ρ 14] (γ 0) 0 [ρ 0, ρ 1, ρ 2, ρ 3, ρ 4, ρ 5, ρ 6, ρ 7, ρ 8, ρ 9, ρ 10, ρ 11, ρ 12, ρ 13, ρ 14, ρ 15, ρ 16, ρ 17, ρ 18, ρ 19, ρ 20, ρ 21, ρ 22, ρ 23, ρ 24, ρ 25] (γ 1) := hJ
  have r15 : (0 : Int) ≤ ρ 15 ∧ ρ 15 ≤ 0 := zRnA hr 15
  have w_0 : ρ 15 = 0 := by omega
  have m1 : γ 0 15 0 34 = ρ 1 := zAllA hm 1
  have m8 : γ 0 15 0 44 = ρ 8 := zAllA hm 8
  have m25 : γ 1 73 0 (ρ 8) = ρ 25 := zAllA hm 25
  show sn43 [ρ 0, ρ 1, ρ 2, ρ 3, ρ 4, ρ 5, ρ 6, ρ 7, ρ 8, ρ 9, ρ 10, ρ 11, ρ 12, ρ 13, ρ 14] (γ 0) 0 1 (γ 1)
  have hD : en43 (γ 0) (0, [ρ 15], γ 1) = .inr (0, 1, γ 1) := by
    unfold en43
    refine zIP (show (0 : Nat) = 0 by decide) (zLV (γ 1) rfl (zLV (ρ 15) rfl (zLE m1 (zLE m8 (zLE m25 (zIP w_0 ?_))))))
    rfl
  exact zGoo_aend hJ hD
theorem vn43a0_1 {S : Nat → zSpc} (hS6 : zIm S 6 sn6) (hS7 : zIm S 7 sn7) (hS8 : zIm S 8 sn8) (hS42 : zIm S 42 sn42) {a : List Int} {g : rHp} : ∀ (ρ : Nat → Int) (γ : Nat → rHp), jn43 a g 0 (zAg (zNA a43_ 0) ρ) (γ 1) → zO 15 S a g q43a0_1 ρ γ → zGl (fun i vs g1 => jn43 a g i vs g1) (sn43 a g) q43a0_1 ρ γ := by
  intro ρ γ hJ h
  obtain ⟨ha, hg, hr, hf, hm, hc, hl⟩ := h
  have ha : a = [ρ 0, ρ 1, ρ 2, ρ 3, ρ 4, ρ 5, ρ 6, ρ 7, ρ 8, ρ 9, ρ 10, ρ 11, ρ 12, ρ 13, ρ 14] := ha
  subst ha
  subst hg
  have hJ : jn43 [ρ 0, ρ 1, ρ 2, ρ 3, ρ 4, ρ 5, ρ 6, ρ 7, ρ 8, ρ 9, ρ 10, ρ 11, ρ 12, ρ 13, ρ 14] (γ 0) 0 [ρ 0, ρ 1, ρ 2, ρ 3, ρ 4, ρ 5, ρ 6, ρ 7, ρ 8, ρ 9, ρ 10, ρ 11, ρ 12, ρ 13, ρ 14, ρ 15, ρ 16, ρ 17, ρ 18, ρ 19, ρ 20, ρ 21, ρ 22, ρ 23, ρ 24, ρ 25] (γ 1) := hJ
  have r15 : (1 : Int) ≤ ρ 15 ∧ ρ 15 ≤ 1 := zRnA hr 15
  have r25 : (0 : Int) ≤ ρ 25 ∧ ρ 25 ≤ 7 := zRnA hr 25
  obtain ⟨w_0, w_1⟩ : (¬ (ρ 15 = 0)) ∧ (ρ 25 ≠ 8) := ⟨by omega, by omega⟩
  have m1 : γ 0 15 0 34 = ρ 1 := zAllA hm 1
  have m8 : γ 0 15 0 44 = ρ 8 := zAllA hm 8
  have m25 : γ 1 73 0 (ρ 8) = ρ 25 := zAllA hm 25
  have m26 : γ 2 15 0 35 = ρ 26 := zAllA hm 26
  have l0 : sn7 [ρ 16, ρ 1] (γ 1) 0 0 (γ 2) := hS7 _ _ _ _ _ (zAllA hl 0)
  have l1 : sn42 [ρ 26, ρ 1, ρ 17, ρ 18, ρ 19, ρ 20, ρ 6, ρ 7, ρ 8, ρ 25, ρ 27, ρ 28, ρ 29, ρ 10, ρ 21, ρ 22, ρ 23, ρ 24] (γ 2) 0 0 (γ 3) := hS42 _ _ _ _ _ (zAllA hl 1)
  show sn43 [ρ 0, ρ 1, ρ 2, ρ 3, ρ 4, ρ 5, ρ 6, ρ 7, ρ 8, ρ 9, ρ 10, ρ 11, ρ 12, ρ 13, ρ 14] (γ 0) 0 0 (γ 3)
  have hD : en43 (γ 0) (0, [ρ 15], γ 1) = .inr (0, 0, γ 3) := by
    unfold en43
    refine zIP (show (0 : Nat) = 0 by decide) (zLV (γ 1) rfl (zLV (ρ 15) rfl (zLE m1 (zLE m8 (zLE m25 (zIN w_0 (zLE (show fn7 [] (γ 1) = (0, 0, γ 2) from l0.symm) ?_)))))))
    refine zLV (γ 2) rfl (zLE m26 (zIP w_1 (zLE (show fn42 [] (γ 2) = (0, 0, γ 3) from l1.symm) (zLV (γ 3) rfl (zIN zQ0_ ?_)))))
    rfl
  exact zGoo_aend hJ hD
theorem vn43a0_2 {S : Nat → zSpc} (hS6 : zIm S 6 sn6) (hS7 : zIm S 7 sn7) (hS8 : zIm S 8 sn8) (hS42 : zIm S 42 sn42) {a : List Int} {g : rHp} : ∀ (ρ : Nat → Int) (γ : Nat → rHp), jn43 a g 0 (zAg (zNA a43_ 0) ρ) (γ 1) → zO 15 S a g q43a0_2 ρ γ → zGl (fun i vs g1 => jn43 a g i vs g1) (sn43 a g) q43a0_2 ρ γ := by
  intro ρ γ hJ h
  obtain ⟨ha, hg, hr, hf, hm, hc, hl⟩ := h
  have ha : a = [ρ 0, ρ 1, ρ 2, ρ 3, ρ 4, ρ 5, ρ 6, ρ 7, ρ 8, ρ 9, ρ 10, ρ 11, ρ 12, ρ 13, ρ 14] := ha
  subst ha
  subst hg
  have hJ : jn43 [ρ 0, ρ 1, ρ 2, ρ 3, ρ 4, ρ 5, ρ 6, ρ 7, ρ 8, ρ 9, ρ 10, ρ 11, ρ 12, ρ 13, ρ 14] (γ 0) 0 [ρ 0, ρ 1, ρ 2, ρ 3, ρ 4, ρ 5, ρ 6, ρ 7, ρ 8, ρ 9, ρ 10, ρ 11, ρ 12, ρ 13, ρ 14, ρ 15, ρ 16, ρ 17, ρ 18, ρ 19, ρ 20, ρ 21, ρ 22, ρ 23, ρ 24, ρ 25] (γ 1) := hJ
  have r0 : (0 : Int) ≤ ρ 0 ∧ ρ 0 ≤ 2000 := zRnA hr 0
  have r1 : (0 : Int) ≤ ρ 1 ∧ ρ 1 ≤ 2000 := zRnA hr 1
  have r2 : (0 : Int) ≤ ρ 2 ∧ ρ 2 ≤ 12288 := zRnA hr 2
  have r3 : (0 : Int) ≤ ρ 3 ∧ ρ 3 ≤ 12288 := zRnA hr 3
  have r4 : (0 : Int) ≤ ρ 4 ∧ ρ 4 ≤ 64 := zRnA hr 4
  have r5 : (0 : Int) ≤ ρ 5 ∧ ρ 5 ≤ 20 := zRnA hr 5
  have r6 : (0 : Int) ≤ ρ 6 ∧ ρ 6 ≤ 60 := zRnA hr 6
  have r7 : (0 : Int) ≤ ρ 7 ∧ ρ 7 ≤ 60 := zRnA hr 7
  have r8 : (0 : Int) ≤ ρ 8 ∧ ρ 8 ≤ 61 := zRnA hr 8
  have r9 : (0 : Int) ≤ ρ 9 ∧ ρ 9 ≤ 8 := zRnA hr 9
  have r10 : (0 : Int) ≤ ρ 10 ∧ ρ 10 ≤ 2000 := zRnA hr 10
  have r11 : (0 : Int) ≤ ρ 11 ∧ ρ 11 ≤ 2000 := zRnA hr 11
  have r12 : (0 : Int) ≤ ρ 12 ∧ ρ 12 ≤ 2000 := zRnA hr 12
  have r13 : (0 : Int) ≤ ρ 13 ∧ ρ 13 ≤ 3 := zRnA hr 13
  have r14 : ((-2147483648) : Int) ≤ ρ 14 ∧ ρ 14 ≤ 2147483647 := zRnA hr 14
  have r15 : (1 : Int) ≤ ρ 15 ∧ ρ 15 ≤ 1 := zRnA hr 15
  have r16 : (0 : Int) ≤ ρ 16 ∧ ρ 16 ≤ 2000 := zRnA hr 16
  have r17 : (0 : Int) ≤ ρ 17 ∧ ρ 17 ≤ 12288 := zRnA hr 17
  have r18 : (0 : Int) ≤ ρ 18 ∧ ρ 18 ≤ 12288 := zRnA hr 18
  have r19 : (0 : Int) ≤ ρ 19 ∧ ρ 19 ≤ 43 := zRnA hr 19
  have r20 : (0 : Int) ≤ ρ 20 ∧ ρ 20 ≤ 20 := zRnA hr 20
  have r21 : (0 : Int) ≤ ρ 21 ∧ ρ 21 ≤ 2000 := zRnA hr 21
  have r22 : (0 : Int) ≤ ρ 22 ∧ ρ 22 ≤ 2000 := zRnA hr 22
  have r23 : (0 : Int) ≤ ρ 23 ∧ ρ 23 ≤ 3 := zRnA hr 23
  have r24 : ((-2147483648) : Int) ≤ ρ 24 ∧ ρ 24 ≤ 2147483647 := zRnA hr 24
  have r25 : (0 : Int) ≤ ρ 25 ∧ ρ 25 ≤ 7 := zRnA hr 25
  have r26 : (0 : Int) ≤ ρ 26 ∧ ρ 26 ≤ 2000 := zRnA hr 26
  have r27 : (0 : Int) ≤ ρ 27 ∧ ρ 27 ≤ 7 := zRnA hr 27
  have r28 : ((-2147483648) : Int) ≤ ρ 28 ∧ ρ 28 ≤ 1099511640064 := zRnA hr 28
  have r29 : (0 : Int) ≤ ρ 29 ∧ ρ 29 ≤ 19 := zRnA hr 29
  have r30 : (2 : Int) ≤ ρ 30 ∧ ρ 30 ≤ 2000 := zRnA hr 30
  have r31 : (0 : Int) ≤ ρ 31 ∧ ρ 31 ≤ 12288 := zRnA hr 31
  have r32 : (0 : Int) ≤ ρ 32 ∧ ρ 32 ≤ 12288 := zRnA hr 32
  have r33 : (0 : Int) ≤ ρ 33 ∧ ρ 33 ≤ 39 := zRnA hr 33
  have r34 : (1 : Int) ≤ ρ 34 ∧ ρ 34 ≤ 20 := zRnA hr 34
  have r35 : (0 : Int) ≤ ρ 35 ∧ ρ 35 ≤ 1 := zRnA hr 35
  have r36 : ((-2147483648) : Int) ≤ ρ 36 ∧ ρ 36 ≤ 1099511640064 := zRnA hr 36
  have r37 : (0 : Int) ≤ ρ 37 ∧ ρ 37 ≤ 19 := zRnA hr 37
  have r38 : (0 : Int) ≤ ρ 38 ∧ ρ 38 ≤ 2000 := zRnA hr 38
  have r39 : (0 : Int) ≤ ρ 39 ∧ ρ 39 ≤ 2000 := zRnA hr 39
  have r40 : (0 : Int) ≤ ρ 40 ∧ ρ 40 ≤ 3 := zRnA hr 40
  have r41 : ((-2147483648) : Int) ≤ ρ 41 ∧ ρ 41 ≤ 2147483647 := zRnA hr 41
  have r42 : (0 : Int) ≤ ρ 42 ∧ ρ 42 ≤ 2000 := zRnA hr 42
  have r43 : ((-128) : Int) ≤ ρ 43 ∧ ρ 43 ≤ 127 := zRnA hr 43
  have f0 : (0 : Int) ≤ -ρ 42 + ρ 1 + (-1) := zAllA hf 0
  have f1 : (0 : Int) ≤ -ρ 30 + ρ 1 := zAllA hf 1
  have f2 : (0 : Int) ≤ ρ 42 + -ρ 30 := zAllA hf 2
  have f3 : (0 : Int) ≤ -ρ 42 + ρ 1 := zAllA hf 3
  have f4 : (0 : Int) ≤ ρ 26 + (-ρ 17 + -ρ 1) + 12288 := zAllA hf 4
  have f5 : (0 : Int) ≤ ρ 26 + (-ρ 18 + -ρ 1) + 12288 := zAllA hf 5
  have f6 : (0 : Int) ≤ -ρ 26 + ρ 1 := zAllA hf 6
  have f7 : (0 : Int) ≤ 4 * ρ 25 + -ρ 19 + 6 := zAllA hf 7
  have f8 : (0 : Int) ≤ ρ 8 + (-ρ 7 + -ρ 6) := zAllA hf 8
  have f9 : (0 : Int) ≤ -ρ 8 + (ρ 7 + ρ 6) := zAllA hf 9
  have f10 : (0 : Int) ≤ ρ 30 + -ρ 26 + (-1) := zAllA hf 10
  have f11 : (0 : Int) ≤ ρ 31 + -ρ 17 := zAllA hf 11
  have f12 : (0 : Int) ≤ ρ 32 + -ρ 18 := zAllA hf 12
  have f13 : (0 : Int) ≤ ρ 33 + -ρ 19 := zAllA hf 13
  have f14 : (0 : Int) ≤ -ρ 37 + ρ 34 + (-1) := zAllA hf 14
  have f15 : (0 : Int) ≤ ρ 34 + -ρ 20 := zAllA hf 15
  have f16 : (0 : Int) ≤ -ρ 35 + ρ 1 + (-1) := zAllA hf 16
  have f17 : (0 : Int) ≤ -ρ 26 + ρ 1 + (-1) := zAllA hf 17
  have f18 : (0 : Int) ≤ -ρ 37 + ρ 20 := zAllA hf 18
  have f19 : (0 : Int) ≤ -ρ 31 + (ρ 30 + (-ρ 26 + ρ 17)) := zAllA hf 19
  have f20 : (0 : Int) ≤ -ρ 32 + (ρ 30 + (-ρ 26 + ρ 18)) := zAllA hf 20
  have f21 : (0 : Int) ≤ -ρ 33 + 4 * ρ 25 + 10 := zAllA hf 21
  have f22 : (0 : Int) ≤ -ρ 16 + ρ 1 := zAllA hf 22
  have f23 : (0 : Int) ≤ ρ 26 + -ρ 16 := zAllA hf 23
  have f24 : (0 : Int) ≤ ρ 20 + -ρ 5 := zAllA hf 24
  have f25 : (0 : Int) ≤ -ρ 18 + (ρ 16 + -ρ 1) + 12288 := zAllA hf 25
  have f26 : (0 : Int) ≤ -ρ 17 + (ρ 16 + -ρ 1) + 12288 := zAllA hf 26
  have f27 : (0 : Int) ≤ -ρ 18 + (ρ 16 + (ρ 3 + -ρ 0)) := zAllA hf 27
  have f28 : (0 : Int) ≤ -ρ 17 + (ρ 16 + (ρ 2 + -ρ 0)) := zAllA hf 28
  have f29 : (0 : Int) ≤ ρ 25 + -ρ 9 := zAllA hf 29
  have f30 : (0 : Int) ≤ ρ 19 + -ρ 4 := zAllA hf 30
  have f31 : (0 : Int) ≤ ρ 18 + -ρ 3 := zAllA hf 31
  have f32 : (0 : Int) ≤ ρ 17 + -ρ 2 := zAllA hf 32
  have f33 : (0 : Int) ≤ ρ 16 + -ρ 0 := zAllA hf 33
  have f34 : (0 : Int) ≤ 4 * ρ 9 + -ρ 4 + 6 := zAllA hf 34
  have f35 : (0 : Int) ≤ ρ 1 + -ρ 0 := zAllA hf 35
  have f36 : (0 : Int) ≤ -ρ 3 + (-ρ 1 + ρ 0) + 12288 := zAllA hf 36
  have f37 : (0 : Int) ≤ -ρ 2 + (-ρ 1 + ρ 0) + 12288 := zAllA hf 37
  have m0 : γ 0 15 0 35 = ρ 0 := zAllA hm 0
  have m1 : γ 0 15 0 34 = ρ 1 := zAllA hm 1
  have m2 : γ 0 15 0 8 = ρ 2 := zAllA hm 2
  have m3 : γ 0 15 0 9 = ρ 3 := zAllA hm 3
  have m4 : γ 0 15 0 58 = ρ 4 := zAllA hm 4
  have m5 : γ 0 15 0 14 = ρ 5 := zAllA hm 5
  have m6 : γ 0 15 0 32 = ρ 6 := zAllA hm 6
  have m7 : γ 0 15 0 33 = ρ 7 := zAllA hm 7
  have m8 : γ 0 15 0 44 = ρ 8 := zAllA hm 8
  have m9 : γ 0 73 0 (ρ 8) = ρ 9 := zAllA hm 9
  have m10 : γ 0 15 0 36 = ρ 10 := zAllA hm 10
  have m11 : γ 0 15 0 37 = ρ 11 := zAllA hm 11
  have m12 : γ 0 15 0 38 = ρ 12 := zAllA hm 12
  have m13 : γ 0 15 0 40 = ρ 13 := zAllA hm 13
  have m14 : γ 0 15 0 45 = ρ 14 := zAllA hm 14
  have m15 : γ 1 15 0 35 = ρ 16 := zAllA hm 15
  have m16 : γ 1 15 0 8 = ρ 17 := zAllA hm 16
  have m17 : γ 1 15 0 9 = ρ 18 := zAllA hm 17
  have m18 : γ 1 15 0 58 = ρ 19 := zAllA hm 18
  have m19 : γ 1 15 0 14 = ρ 20 := zAllA hm 19
  have m20 : γ 1 15 0 36 = ρ 10 := zAllA hm 20
  have m21 : γ 1 15 0 37 = ρ 21 := zAllA hm 21
  have m22 : γ 1 15 0 38 = ρ 22 := zAllA hm 22
  have m23 : γ 1 15 0 40 = ρ 23 := zAllA hm 23
  have m24 : γ 1 15 0 45 = ρ 24 := zAllA hm 24
  have m25 : γ 1 73 0 (ρ 8) = ρ 25 := zAllA hm 25
  have m26 : γ 2 15 0 35 = ρ 26 := zAllA hm 26
  have m27 : γ 1 77 0 (ρ 25 + 8 * ρ 8) = ρ 27 := zAllA hm 27
  have m28 : γ 1 81 0 (4 * ρ 25 + 32 * ρ 8) = ρ 28 := zAllA hm 28
  have m29 : γ 1 78 0 (ρ 25 + 8 * ρ 8) = ρ 29 := zAllA hm 29
  have m30 : γ 3 15 0 35 = ρ 30 := zAllA hm 30
  have m31 : γ 3 15 0 8 = ρ 31 := zAllA hm 31
  have m32 : γ 3 15 0 9 = ρ 32 := zAllA hm 32
  have m33 : γ 3 15 0 58 = ρ 33 := zAllA hm 33
  have m34 : γ 3 15 0 14 = ρ 34 := zAllA hm 34
  have m35 : γ 3 77 0 (ρ 25 + 8 * ρ 8) = ρ 35 := zAllA hm 35
  have m36 : γ 3 81 0 (4 * ρ 25 + 32 * ρ 8) = ρ 36 := zAllA hm 36
  have m37 : γ 3 78 0 (ρ 25 + 8 * ρ 8) = ρ 37 := zAllA hm 37
  have m38 : γ 3 15 0 36 = ρ 10 := zAllA hm 38
  have m39 : γ 3 15 0 37 = ρ 38 := zAllA hm 39
  have m40 : γ 3 15 0 38 = ρ 39 := zAllA hm 40
  have m41 : γ 3 15 0 40 = ρ 40 := zAllA hm 41
  have m42 : γ 3 15 0 45 = ρ 41 := zAllA hm 42
  have m43 : γ 5 15 0 35 = ρ 42 := zAllA hm 43
  have c1 : ∀ (G : Nat) (k j : Int), ¬ rMdP m27_ G j → γ 1 G k j = γ 0 G k j := And.right (zChA hc 5)
  have c2 : ∀ (G : Nat) (k j : Int), ¬ rMdP m6_ G j → γ 2 G k j = γ 1 G k j := And.right (zChA hc 4)
  have c3 : ∀ (G : Nat) (k j : Int), ¬ rMdP m25_ G j → γ 3 G k j = γ 2 G k j := And.right (zChA hc 3)
  have c4 : γ 4 = rUp (γ 3) 73 0 (ρ 8) (ρ 25 + 1) := And.right (zChA hc 2)
  have c5 : ∀ (G : Nat) (k j : Int), ¬ rMdP m6_ G j → γ 5 G k j = γ 4 G k j := And.right (zChA hc 1)
  have c6 : ∀ (G : Nat) (k j : Int), ¬ rMdP m0_ G j → γ 6 G k j = γ 5 G k j := And.right (zChA hc 0)
  have l0 : sn7 [ρ 16, ρ 1] (γ 1) 0 0 (γ 2) := hS7 _ _ _ _ _ (zAllA hl 0)
  have l1 : sn42 [ρ 26, ρ 1, ρ 17, ρ 18, ρ 19, ρ 20, ρ 6, ρ 7, ρ 8, ρ 25, ρ 27, ρ 28, ρ 29, ρ 10, ρ 21, ρ 22, ρ 23, ρ 24] (γ 2) 0 1 (γ 3) := hS42 _ _ _ _ _ (zAllA hl 1)
  have l2 : sn7 [ρ 30, ρ 1] (γ 4) 0 0 (γ 5) := hS7 _ _ _ _ _ (zAllA hl 2)
  have l3 : sn6 [ρ 42, ρ 1] (γ 5) 0 (ρ 43) (γ 6) := hS6 _ _ _ _ _ (zAllA hl 3)
  have l4 : ρ 43 ≠ 44 := zAllA hl 4
  show jn43 [ρ 0, ρ 1, ρ 2, ρ 3, ρ 4, ρ 5, ρ 6, ρ 7, ρ 8, ρ 9, ρ 10, ρ 11, ρ 12, ρ 13, ρ 14] (γ 0) 0 [ρ 0, ρ 1, ρ 2, ρ 3, ρ 4, ρ 5, ρ 6, ρ 7, ρ 8, ρ 9, ρ 10, ρ 11, ρ 12, ρ 13, ρ 14, 0, ρ 42, ρ 31, ρ 32, ρ 33, ρ 34, ρ 38, ρ 39, ρ 40, ρ 41, ρ 25 + 1] (γ 6)
  have hD : en43 (γ 0) (0, [ρ 15], γ 1) = .inl (0, [0], γ 6) := by
    unfold en43
    refine zIP (show (0 : Nat) = 0 by decide) (zLV (γ 1) rfl (zLV (ρ 15) rfl (zLE m1 (zLE m8 (zLE m25 (zIN (show ¬ (ρ 15 = 0) by omega) (zLE (show fn7 [] (γ 1) = (0, 0, γ 2) from l0.symm) ?_)))))))
    refine zLV (γ 2) rfl (zLE m26 (zIP (show ρ 25 ≠ 8 by omega) (zLE (show fn42 [] (γ 2) = (0, 1, γ 3) from l1.symm) (zLV (γ 3) rfl (zIP (show (1 : Int) ≤ 1 by omega) (zIN (show ¬ (2 ≤ γ 3 77 0 (ρ 25 + 8 * ρ 8)) by omega) (zLE c4.symm ?_)))))))
    refine zLE (show fn7 [] (γ 4) = (0, 0, γ 5) from l2.symm) (zLV (γ 5) rfl (zLE m43 (zLE (show fn6 [ρ 42] (γ 5) = (0, ρ 43, γ 6) from l3.symm) (zLV (γ 6) rfl (zIP (show 0 ≤ -ρ 42 + ρ 1 + (-1) by omega) (zLV (ρ 43) rfl (zIP (show ρ 43 ≠ 44 by omega) ?_)))))))
    rfl
  exact zGoo_ato hJ hD
theorem vn43a0_3 {S : Nat → zSpc} (hS6 : zIm S 6 sn6) (hS7 : zIm S 7 sn7) (hS8 : zIm S 8 sn8) (hS42 : zIm S 42 sn42) {a : List Int} {g : rHp} : ∀ (ρ : Nat → Int) (γ : Nat → rHp), jn43 a g 0 (zAg (zNA a43_ 0) ρ) (γ 1) → zO 15 S a g q43a0_3 ρ γ → zGl (fun i vs g1 => jn43 a g i vs g1) (sn43 a g) q43a0_3 ρ γ := by
  intro ρ γ hJ h
  obtain ⟨ha, hg, hr, hf, hm, hc, hl⟩ := h
  have ha : a = [ρ 0, ρ 1, ρ 2, ρ 3, ρ 4, ρ 5, ρ 6, ρ 7, ρ 8, ρ 9, ρ 10, ρ 11, ρ 12, ρ 13, ρ 14] := ha
  subst ha
  subst hg
  have hJ : jn43 [ρ 0, ρ 1, ρ 2, ρ 3, ρ 4, ρ 5, ρ 6, ρ 7, ρ 8, ρ 9, ρ 10, ρ 11, ρ 12, ρ 13, ρ 14] (γ 0) 0 [ρ 0, ρ 1, ρ 2, ρ 3, ρ 4, ρ 5, ρ 6, ρ 7, ρ 8, ρ 9, ρ 10, ρ 11, ρ 12, ρ 13, ρ 14, ρ 15, ρ 16, ρ 17, ρ 18, ρ 19, ρ 20, ρ 21, ρ 22, ρ 23, ρ 24, ρ 25] (γ 1) := hJ
  have r0 : (0 : Int) ≤ ρ 0 ∧ ρ 0 ≤ 2000 := zRnA hr 0
  have r1 : (0 : Int) ≤ ρ 1 ∧ ρ 1 ≤ 2000 := zRnA hr 1
  have r2 : (0 : Int) ≤ ρ 2 ∧ ρ 2 ≤ 12288 := zRnA hr 2
  have r3 : (0 : Int) ≤ ρ 3 ∧ ρ 3 ≤ 12288 := zRnA hr 3
  have r4 : (0 : Int) ≤ ρ 4 ∧ ρ 4 ≤ 64 := zRnA hr 4
  have r5 : (0 : Int) ≤ ρ 5 ∧ ρ 5 ≤ 20 := zRnA hr 5
  have r6 : (0 : Int) ≤ ρ 6 ∧ ρ 6 ≤ 60 := zRnA hr 6
  have r7 : (0 : Int) ≤ ρ 7 ∧ ρ 7 ≤ 60 := zRnA hr 7
  have r8 : (0 : Int) ≤ ρ 8 ∧ ρ 8 ≤ 61 := zRnA hr 8
  have r9 : (0 : Int) ≤ ρ 9 ∧ ρ 9 ≤ 8 := zRnA hr 9
  have r10 : (0 : Int) ≤ ρ 10 ∧ ρ 10 ≤ 2000 := zRnA hr 10
  have r11 : (0 : Int) ≤ ρ 11 ∧ ρ 11 ≤ 2000 := zRnA hr 11
  have r12 : (0 : Int) ≤ ρ 12 ∧ ρ 12 ≤ 2000 := zRnA hr 12
  have r13 : (0 : Int) ≤ ρ 13 ∧ ρ 13 ≤ 3 := zRnA hr 13
  have r14 : ((-2147483648) : Int) ≤ ρ 14 ∧ ρ 14 ≤ 2147483647 := zRnA hr 14
  have r15 : (1 : Int) ≤ ρ 15 ∧ ρ 15 ≤ 1 := zRnA hr 15
  have r16 : (0 : Int) ≤ ρ 16 ∧ ρ 16 ≤ 2000 := zRnA hr 16
  have r17 : (0 : Int) ≤ ρ 17 ∧ ρ 17 ≤ 12288 := zRnA hr 17
  have r18 : (0 : Int) ≤ ρ 18 ∧ ρ 18 ≤ 12288 := zRnA hr 18
  have r19 : (0 : Int) ≤ ρ 19 ∧ ρ 19 ≤ 43 := zRnA hr 19
  have r20 : (0 : Int) ≤ ρ 20 ∧ ρ 20 ≤ 20 := zRnA hr 20
  have r21 : (0 : Int) ≤ ρ 21 ∧ ρ 21 ≤ 2000 := zRnA hr 21
  have r22 : (0 : Int) ≤ ρ 22 ∧ ρ 22 ≤ 2000 := zRnA hr 22
  have r23 : (0 : Int) ≤ ρ 23 ∧ ρ 23 ≤ 3 := zRnA hr 23
  have r24 : ((-2147483648) : Int) ≤ ρ 24 ∧ ρ 24 ≤ 2147483647 := zRnA hr 24
  have r25 : (0 : Int) ≤ ρ 25 ∧ ρ 25 ≤ 7 := zRnA hr 25
  have r26 : (0 : Int) ≤ ρ 26 ∧ ρ 26 ≤ 2000 := zRnA hr 26
  have r27 : (0 : Int) ≤ ρ 27 ∧ ρ 27 ≤ 7 := zRnA hr 27
  have r28 : ((-2147483648) : Int) ≤ ρ 28 ∧ ρ 28 ≤ 1099511640064 := zRnA hr 28
  have r29 : (0 : Int) ≤ ρ 29 ∧ ρ 29 ≤ 19 := zRnA hr 29
  have r30 : (2 : Int) ≤ ρ 30 ∧ ρ 30 ≤ 2000 := zRnA hr 30
  have r31 : (0 : Int) ≤ ρ 31 ∧ ρ 31 ≤ 12288 := zRnA hr 31
  have r32 : (0 : Int) ≤ ρ 32 ∧ ρ 32 ≤ 12288 := zRnA hr 32
  have r33 : (0 : Int) ≤ ρ 33 ∧ ρ 33 ≤ 39 := zRnA hr 33
  have r34 : (1 : Int) ≤ ρ 34 ∧ ρ 34 ≤ 20 := zRnA hr 34
  have r35 : (0 : Int) ≤ ρ 35 ∧ ρ 35 ≤ 1 := zRnA hr 35
  have r36 : ((-2147483648) : Int) ≤ ρ 36 ∧ ρ 36 ≤ 1099511640064 := zRnA hr 36
  have r37 : (0 : Int) ≤ ρ 37 ∧ ρ 37 ≤ 19 := zRnA hr 37
  have r38 : (0 : Int) ≤ ρ 38 ∧ ρ 38 ≤ 2000 := zRnA hr 38
  have r39 : (0 : Int) ≤ ρ 39 ∧ ρ 39 ≤ 2000 := zRnA hr 39
  have r40 : (0 : Int) ≤ ρ 40 ∧ ρ 40 ≤ 3 := zRnA hr 40
  have r41 : ((-2147483648) : Int) ≤ ρ 41 ∧ ρ 41 ≤ 2147483647 := zRnA hr 41
  have r42 : (0 : Int) ≤ ρ 42 ∧ ρ 42 ≤ 2000 := zRnA hr 42
  have r43 : (44 : Int) ≤ ρ 43 ∧ ρ 43 ≤ 44 := zRnA hr 43
  have f0 : (0 : Int) ≤ -ρ 42 + ρ 1 + (-1) := zAllA hf 0
  have f1 : (0 : Int) ≤ -ρ 30 + ρ 1 := zAllA hf 1
  have f2 : (0 : Int) ≤ ρ 42 + -ρ 30 := zAllA hf 2
  have f3 : (0 : Int) ≤ -ρ 42 + ρ 1 := zAllA hf 3
  have f4 : (0 : Int) ≤ ρ 26 + (-ρ 17 + -ρ 1) + 12288 := zAllA hf 4
  have f5 : (0 : Int) ≤ ρ 26 + (-ρ 18 + -ρ 1) + 12288 := zAllA hf 5
  have f6 : (0 : Int) ≤ -ρ 26 + ρ 1 := zAllA hf 6
  have f7 : (0 : Int) ≤ 4 * ρ 25 + -ρ 19 + 6 := zAllA hf 7
  have f8 : (0 : Int) ≤ ρ 8 + (-ρ 7 + -ρ 6) := zAllA hf 8
  have f9 : (0 : Int) ≤ -ρ 8 + (ρ 7 + ρ 6) := zAllA hf 9
  have f10 : (0 : Int) ≤ ρ 30 + -ρ 26 + (-1) := zAllA hf 10
  have f11 : (0 : Int) ≤ ρ 31 + -ρ 17 := zAllA hf 11
  have f12 : (0 : Int) ≤ ρ 32 + -ρ 18 := zAllA hf 12
  have f13 : (0 : Int) ≤ ρ 33 + -ρ 19 := zAllA hf 13
  have f14 : (0 : Int) ≤ -ρ 37 + ρ 34 + (-1) := zAllA hf 14
  have f15 : (0 : Int) ≤ ρ 34 + -ρ 20 := zAllA hf 15
  have f16 : (0 : Int) ≤ -ρ 35 + ρ 1 + (-1) := zAllA hf 16
  have f17 : (0 : Int) ≤ -ρ 26 + ρ 1 + (-1) := zAllA hf 17
  have f18 : (0 : Int) ≤ -ρ 37 + ρ 20 := zAllA hf 18
  have f19 : (0 : Int) ≤ -ρ 31 + (ρ 30 + (-ρ 26 + ρ 17)) := zAllA hf 19
  have f20 : (0 : Int) ≤ -ρ 32 + (ρ 30 + (-ρ 26 + ρ 18)) := zAllA hf 20
  have f21 : (0 : Int) ≤ -ρ 33 + 4 * ρ 25 + 10 := zAllA hf 21
  have f22 : (0 : Int) ≤ -ρ 16 + ρ 1 := zAllA hf 22
  have f23 : (0 : Int) ≤ ρ 26 + -ρ 16 := zAllA hf 23
  have f24 : (0 : Int) ≤ ρ 20 + -ρ 5 := zAllA hf 24
  have f25 : (0 : Int) ≤ -ρ 18 + (ρ 16 + -ρ 1) + 12288 := zAllA hf 25
  have f26 : (0 : Int) ≤ -ρ 17 + (ρ 16 + -ρ 1) + 12288 := zAllA hf 26
  have f27 : (0 : Int) ≤ -ρ 18 + (ρ 16 + (ρ 3 + -ρ 0)) := zAllA hf 27
  have f28 : (0 : Int) ≤ -ρ 17 + (ρ 16 + (ρ 2 + -ρ 0)) := zAllA hf 28
  have f29 : (0 : Int) ≤ ρ 25 + -ρ 9 := zAllA hf 29
  have f30 : (0 : Int) ≤ ρ 19 + -ρ 4 := zAllA hf 30
  have f31 : (0 : Int) ≤ ρ 18 + -ρ 3 := zAllA hf 31
  have f32 : (0 : Int) ≤ ρ 17 + -ρ 2 := zAllA hf 32
  have f33 : (0 : Int) ≤ ρ 16 + -ρ 0 := zAllA hf 33
  have f34 : (0 : Int) ≤ 4 * ρ 9 + -ρ 4 + 6 := zAllA hf 34
  have f35 : (0 : Int) ≤ ρ 1 + -ρ 0 := zAllA hf 35
  have f36 : (0 : Int) ≤ -ρ 3 + (-ρ 1 + ρ 0) + 12288 := zAllA hf 36
  have f37 : (0 : Int) ≤ -ρ 2 + (-ρ 1 + ρ 0) + 12288 := zAllA hf 37
  have m0 : γ 0 15 0 35 = ρ 0 := zAllA hm 0
  have m1 : γ 0 15 0 34 = ρ 1 := zAllA hm 1
  have m2 : γ 0 15 0 8 = ρ 2 := zAllA hm 2
  have m3 : γ 0 15 0 9 = ρ 3 := zAllA hm 3
  have m4 : γ 0 15 0 58 = ρ 4 := zAllA hm 4
  have m5 : γ 0 15 0 14 = ρ 5 := zAllA hm 5
  have m6 : γ 0 15 0 32 = ρ 6 := zAllA hm 6
  have m7 : γ 0 15 0 33 = ρ 7 := zAllA hm 7
  have m8 : γ 0 15 0 44 = ρ 8 := zAllA hm 8
  have m9 : γ 0 73 0 (ρ 8) = ρ 9 := zAllA hm 9
  have m10 : γ 0 15 0 36 = ρ 10 := zAllA hm 10
  have m11 : γ 0 15 0 37 = ρ 11 := zAllA hm 11
  have m12 : γ 0 15 0 38 = ρ 12 := zAllA hm 12
  have m13 : γ 0 15 0 40 = ρ 13 := zAllA hm 13
  have m14 : γ 0 15 0 45 = ρ 14 := zAllA hm 14
  have m15 : γ 1 15 0 35 = ρ 16 := zAllA hm 15
  have m16 : γ 1 15 0 8 = ρ 17 := zAllA hm 16
  have m17 : γ 1 15 0 9 = ρ 18 := zAllA hm 17
  have m18 : γ 1 15 0 58 = ρ 19 := zAllA hm 18
  have m19 : γ 1 15 0 14 = ρ 20 := zAllA hm 19
  have m20 : γ 1 15 0 36 = ρ 10 := zAllA hm 20
  have m21 : γ 1 15 0 37 = ρ 21 := zAllA hm 21
  have m22 : γ 1 15 0 38 = ρ 22 := zAllA hm 22
  have m23 : γ 1 15 0 40 = ρ 23 := zAllA hm 23
  have m24 : γ 1 15 0 45 = ρ 24 := zAllA hm 24
  have m25 : γ 1 73 0 (ρ 8) = ρ 25 := zAllA hm 25
  have m26 : γ 2 15 0 35 = ρ 26 := zAllA hm 26
  have m27 : γ 1 77 0 (ρ 25 + 8 * ρ 8) = ρ 27 := zAllA hm 27
  have m28 : γ 1 81 0 (4 * ρ 25 + 32 * ρ 8) = ρ 28 := zAllA hm 28
  have m29 : γ 1 78 0 (ρ 25 + 8 * ρ 8) = ρ 29 := zAllA hm 29
  have m30 : γ 3 15 0 35 = ρ 30 := zAllA hm 30
  have m31 : γ 3 15 0 8 = ρ 31 := zAllA hm 31
  have m32 : γ 3 15 0 9 = ρ 32 := zAllA hm 32
  have m33 : γ 3 15 0 58 = ρ 33 := zAllA hm 33
  have m34 : γ 3 15 0 14 = ρ 34 := zAllA hm 34
  have m35 : γ 3 77 0 (ρ 25 + 8 * ρ 8) = ρ 35 := zAllA hm 35
  have m36 : γ 3 81 0 (4 * ρ 25 + 32 * ρ 8) = ρ 36 := zAllA hm 36
  have m37 : γ 3 78 0 (ρ 25 + 8 * ρ 8) = ρ 37 := zAllA hm 37
  have m38 : γ 3 15 0 36 = ρ 10 := zAllA hm 38
  have m39 : γ 3 15 0 37 = ρ 38 := zAllA hm 39
  have m40 : γ 3 15 0 38 = ρ 39 := zAllA hm 40
  have m41 : γ 3 15 0 40 = ρ 40 := zAllA hm 41
  have m42 : γ 3 15 0 45 = ρ 41 := zAllA hm 42
  have m43 : γ 5 15 0 35 = ρ 42 := zAllA hm 43
  have c1 : ∀ (G : Nat) (k j : Int), ¬ rMdP m27_ G j → γ 1 G k j = γ 0 G k j := And.right (zChA hc 6)
  have c2 : ∀ (G : Nat) (k j : Int), ¬ rMdP m6_ G j → γ 2 G k j = γ 1 G k j := And.right (zChA hc 5)
  have c3 : ∀ (G : Nat) (k j : Int), ¬ rMdP m25_ G j → γ 3 G k j = γ 2 G k j := And.right (zChA hc 4)
  have c4 : γ 4 = rUp (γ 3) 73 0 (ρ 8) (ρ 25 + 1) := And.right (zChA hc 3)
  have c5 : ∀ (G : Nat) (k j : Int), ¬ rMdP m6_ G j → γ 5 G k j = γ 4 G k j := And.right (zChA hc 2)
  have c6 : ∀ (G : Nat) (k j : Int), ¬ rMdP m0_ G j → γ 6 G k j = γ 5 G k j := And.right (zChA hc 1)
  have c7 : γ 7 = rUp (γ 6) 15 0 35 (ρ 42 + 1) := And.right (zChA hc 0)
  have l0 : sn7 [ρ 16, ρ 1] (γ 1) 0 0 (γ 2) := hS7 _ _ _ _ _ (zAllA hl 0)
  have l1 : sn42 [ρ 26, ρ 1, ρ 17, ρ 18, ρ 19, ρ 20, ρ 6, ρ 7, ρ 8, ρ 25, ρ 27, ρ 28, ρ 29, ρ 10, ρ 21, ρ 22, ρ 23, ρ 24] (γ 2) 0 1 (γ 3) := hS42 _ _ _ _ _ (zAllA hl 1)
  have l2 : sn7 [ρ 30, ρ 1] (γ 4) 0 0 (γ 5) := hS7 _ _ _ _ _ (zAllA hl 2)
  have l3 : sn6 [ρ 42, ρ 1] (γ 5) 0 (ρ 43) (γ 6) := hS6 _ _ _ _ _ (zAllA hl 3)
  show jn43 [ρ 0, ρ 1, ρ 2, ρ 3, ρ 4, ρ 5, ρ 6, ρ 7, ρ 8, ρ 9, ρ 10, ρ 11, ρ 12, ρ 13, ρ 14] (γ 0) 0 [ρ 0, ρ 1, ρ 2, ρ 3, ρ 4, ρ 5, ρ 6, ρ 7, ρ 8, ρ 9, ρ 10, ρ 11, ρ 12, ρ 13, ρ 14, 1, ρ 42 + 1, ρ 31, ρ 32, ρ 33, ρ 34, ρ 38, ρ 39, ρ 40, ρ 41, ρ 25 + 1] (γ 7)
  have hD : en43 (γ 0) (0, [ρ 15], γ 1) = .inl (0, [1], γ 7) := by
    unfold en43
    refine zIP (show (0 : Nat) = 0 by decide) (zLV (γ 1) rfl (zLV (ρ 15) rfl (zLE m1 (zLE m8 (zLE m25 (zIN (show ¬ (ρ 15 = 0) by omega) (zLE (show fn7 [] (γ 1) = (0, 0, γ 2) from l0.symm) ?_)))))))
    refine zLV (γ 2) rfl (zLE m26 (zIP (show ρ 25 ≠ 8 by omega) (zLE (show fn42 [] (γ 2) = (0, 1, γ 3) from l1.symm) (zLV (γ 3) rfl (zIP (show (1 : Int) ≤ 1 by omega) (zIN (show ¬ (2 ≤ γ 3 77 0 (ρ 25 + 8 * ρ 8)) by omega) (zLE c4.symm ?_)))))))
    refine zLE (show fn7 [] (γ 4) = (0, 0, γ 5) from l2.symm) (zLV (γ 5) rfl (zLE m43 (zLE (show fn6 [ρ 42] (γ 5) = (0, ρ 43, γ 6) from l3.symm) (zLV (γ 6) rfl (zIP (show 0 ≤ -ρ 42 + ρ 1 + (-1) by omega) (zLV (ρ 43) rfl (zIN (show ¬ (ρ 43 ≠ 44) by omega) ?_)))))))
    refine zLE c7.symm ?_
    rfl
  exact zGoo_ato hJ hD
theorem vn43a0_4 {S : Nat → zSpc} (hS6 : zIm S 6 sn6) (hS7 : zIm S 7 sn7) (hS8 : zIm S 8 sn8) (hS42 : zIm S 42 sn42) {a : List Int} {g : rHp} : ∀ (ρ : Nat → Int) (γ : Nat → rHp), jn43 a g 0 (zAg (zNA a43_ 0) ρ) (γ 1) → zO 15 S a g q43a0_4 ρ γ → zGl (fun i vs g1 => jn43 a g i vs g1) (sn43 a g) q43a0_4 ρ γ := by
  intro ρ γ hJ h
  obtain ⟨ha, hg, hr, hf, hm, hc, hl⟩ := h
  have ha : a = [ρ 0, ρ 1, ρ 2, ρ 3, ρ 4, ρ 5, ρ 6, ρ 7, ρ 8, ρ 9, ρ 10, ρ 11, ρ 12, ρ 13, ρ 14] := ha
  subst ha
  subst hg
  have hJ : jn43 [ρ 0, ρ 1, ρ 2, ρ 3, ρ 4, ρ 5, ρ 6, ρ 7, ρ 8, ρ 9, ρ 10, ρ 11, ρ 12, ρ 13, ρ 14] (γ 0) 0 [ρ 0, ρ 1, ρ 2, ρ 3, ρ 4, ρ 5, ρ 6, ρ 7, ρ 8, ρ 9, ρ 10, ρ 11, ρ 12, ρ 13, ρ 14, ρ 15, ρ 16, ρ 17, ρ 18, ρ 19, ρ 20, ρ 21, ρ 22, ρ 23, ρ 24, ρ 25] (γ 1) := hJ
  have r0 : (0 : Int) ≤ ρ 0 ∧ ρ 0 ≤ 2000 := zRnA hr 0
  have r1 : (0 : Int) ≤ ρ 1 ∧ ρ 1 ≤ 2000 := zRnA hr 1
  have r2 : (0 : Int) ≤ ρ 2 ∧ ρ 2 ≤ 12288 := zRnA hr 2
  have r3 : (0 : Int) ≤ ρ 3 ∧ ρ 3 ≤ 12288 := zRnA hr 3
  have r4 : (0 : Int) ≤ ρ 4 ∧ ρ 4 ≤ 64 := zRnA hr 4
  have r5 : (0 : Int) ≤ ρ 5 ∧ ρ 5 ≤ 20 := zRnA hr 5
  have r6 : (0 : Int) ≤ ρ 6 ∧ ρ 6 ≤ 60 := zRnA hr 6
  have r7 : (0 : Int) ≤ ρ 7 ∧ ρ 7 ≤ 60 := zRnA hr 7
  have r8 : (0 : Int) ≤ ρ 8 ∧ ρ 8 ≤ 61 := zRnA hr 8
  have r9 : (0 : Int) ≤ ρ 9 ∧ ρ 9 ≤ 8 := zRnA hr 9
  have r10 : (0 : Int) ≤ ρ 10 ∧ ρ 10 ≤ 2000 := zRnA hr 10
  have r11 : (0 : Int) ≤ ρ 11 ∧ ρ 11 ≤ 2000 := zRnA hr 11
  have r12 : (0 : Int) ≤ ρ 12 ∧ ρ 12 ≤ 2000 := zRnA hr 12
  have r13 : (0 : Int) ≤ ρ 13 ∧ ρ 13 ≤ 3 := zRnA hr 13
  have r14 : ((-2147483648) : Int) ≤ ρ 14 ∧ ρ 14 ≤ 2147483647 := zRnA hr 14
  have r15 : (1 : Int) ≤ ρ 15 ∧ ρ 15 ≤ 1 := zRnA hr 15
  have r16 : (0 : Int) ≤ ρ 16 ∧ ρ 16 ≤ 2000 := zRnA hr 16
  have r17 : (0 : Int) ≤ ρ 17 ∧ ρ 17 ≤ 12288 := zRnA hr 17
  have r18 : (0 : Int) ≤ ρ 18 ∧ ρ 18 ≤ 12288 := zRnA hr 18
  have r19 : (0 : Int) ≤ ρ 19 ∧ ρ 19 ≤ 43 := zRnA hr 19
  have r20 : (0 : Int) ≤ ρ 20 ∧ ρ 20 ≤ 20 := zRnA hr 20
  have r21 : (0 : Int) ≤ ρ 21 ∧ ρ 21 ≤ 2000 := zRnA hr 21
  have r22 : (0 : Int) ≤ ρ 22 ∧ ρ 22 ≤ 2000 := zRnA hr 22
  have r23 : (0 : Int) ≤ ρ 23 ∧ ρ 23 ≤ 3 := zRnA hr 23
  have r24 : ((-2147483648) : Int) ≤ ρ 24 ∧ ρ 24 ≤ 2147483647 := zRnA hr 24
  have r25 : (0 : Int) ≤ ρ 25 ∧ ρ 25 ≤ 7 := zRnA hr 25
  have r26 : (0 : Int) ≤ ρ 26 ∧ ρ 26 ≤ 2000 := zRnA hr 26
  have r27 : (0 : Int) ≤ ρ 27 ∧ ρ 27 ≤ 7 := zRnA hr 27
  have r28 : ((-2147483648) : Int) ≤ ρ 28 ∧ ρ 28 ≤ 1099511640064 := zRnA hr 28
  have r29 : (0 : Int) ≤ ρ 29 ∧ ρ 29 ≤ 19 := zRnA hr 29
  have r30 : (2 : Int) ≤ ρ 30 ∧ ρ 30 ≤ 2000 := zRnA hr 30
  have r31 : (0 : Int) ≤ ρ 31 ∧ ρ 31 ≤ 12288 := zRnA hr 31
  have r32 : (0 : Int) ≤ ρ 32 ∧ ρ 32 ≤ 12288 := zRnA hr 32
  have r33 : (0 : Int) ≤ ρ 33 ∧ ρ 33 ≤ 39 := zRnA hr 33
  have r34 : (1 : Int) ≤ ρ 34 ∧ ρ 34 ≤ 20 := zRnA hr 34
  have r35 : (0 : Int) ≤ ρ 35 ∧ ρ 35 ≤ 1 := zRnA hr 35
  have r36 : ((-2147483648) : Int) ≤ ρ 36 ∧ ρ 36 ≤ 1099511640064 := zRnA hr 36
  have r37 : (0 : Int) ≤ ρ 37 ∧ ρ 37 ≤ 19 := zRnA hr 37
  have r38 : (0 : Int) ≤ ρ 38 ∧ ρ 38 ≤ 2000 := zRnA hr 38
  have r39 : (0 : Int) ≤ ρ 39 ∧ ρ 39 ≤ 2000 := zRnA hr 39
  have r40 : (0 : Int) ≤ ρ 40 ∧ ρ 40 ≤ 3 := zRnA hr 40
  have r41 : ((-2147483648) : Int) ≤ ρ 41 ∧ ρ 41 ≤ 2147483647 := zRnA hr 41
  have r42 : (0 : Int) ≤ ρ 42 ∧ ρ 42 ≤ 2000 := zRnA hr 42
  have f0 : (0 : Int) ≤ ρ 42 + -ρ 1 := zAllA hf 0
  have f1 : (0 : Int) ≤ -ρ 30 + ρ 1 := zAllA hf 1
  have f2 : (0 : Int) ≤ ρ 42 + -ρ 30 := zAllA hf 2
  have f3 : (0 : Int) ≤ -ρ 42 + ρ 1 := zAllA hf 3
  have f4 : (0 : Int) ≤ ρ 26 + (-ρ 17 + -ρ 1) + 12288 := zAllA hf 4
  have f5 : (0 : Int) ≤ ρ 26 + (-ρ 18 + -ρ 1) + 12288 := zAllA hf 5
  have f6 : (0 : Int) ≤ -ρ 26 + ρ 1 := zAllA hf 6
  have f7 : (0 : Int) ≤ 4 * ρ 25 + -ρ 19 + 6 := zAllA hf 7
  have f8 : (0 : Int) ≤ ρ 8 + (-ρ 7 + -ρ 6) := zAllA hf 8
  have f9 : (0 : Int) ≤ -ρ 8 + (ρ 7 + ρ 6) := zAllA hf 9
  have f10 : (0 : Int) ≤ ρ 30 + -ρ 26 + (-1) := zAllA hf 10
  have f11 : (0 : Int) ≤ ρ 31 + -ρ 17 := zAllA hf 11
  have f12 : (0 : Int) ≤ ρ 32 + -ρ 18 := zAllA hf 12
  have f13 : (0 : Int) ≤ ρ 33 + -ρ 19 := zAllA hf 13
  have f14 : (0 : Int) ≤ -ρ 37 + ρ 34 + (-1) := zAllA hf 14
  have f15 : (0 : Int) ≤ ρ 34 + -ρ 20 := zAllA hf 15
  have f16 : (0 : Int) ≤ -ρ 35 + ρ 1 + (-1) := zAllA hf 16
  have f17 : (0 : Int) ≤ -ρ 26 + ρ 1 + (-1) := zAllA hf 17
  have f18 : (0 : Int) ≤ -ρ 37 + ρ 20 := zAllA hf 18
  have f19 : (0 : Int) ≤ -ρ 31 + (ρ 30 + (-ρ 26 + ρ 17)) := zAllA hf 19
  have f20 : (0 : Int) ≤ -ρ 32 + (ρ 30 + (-ρ 26 + ρ 18)) := zAllA hf 20
  have f21 : (0 : Int) ≤ -ρ 33 + 4 * ρ 25 + 10 := zAllA hf 21
  have f22 : (0 : Int) ≤ -ρ 16 + ρ 1 := zAllA hf 22
  have f23 : (0 : Int) ≤ ρ 26 + -ρ 16 := zAllA hf 23
  have f24 : (0 : Int) ≤ ρ 20 + -ρ 5 := zAllA hf 24
  have f25 : (0 : Int) ≤ -ρ 18 + (ρ 16 + -ρ 1) + 12288 := zAllA hf 25
  have f26 : (0 : Int) ≤ -ρ 17 + (ρ 16 + -ρ 1) + 12288 := zAllA hf 26
  have f27 : (0 : Int) ≤ -ρ 18 + (ρ 16 + (ρ 3 + -ρ 0)) := zAllA hf 27
  have f28 : (0 : Int) ≤ -ρ 17 + (ρ 16 + (ρ 2 + -ρ 0)) := zAllA hf 28
  have f29 : (0 : Int) ≤ ρ 25 + -ρ 9 := zAllA hf 29
  have f30 : (0 : Int) ≤ ρ 19 + -ρ 4 := zAllA hf 30
  have f31 : (0 : Int) ≤ ρ 18 + -ρ 3 := zAllA hf 31
  have f32 : (0 : Int) ≤ ρ 17 + -ρ 2 := zAllA hf 32
  have f33 : (0 : Int) ≤ ρ 16 + -ρ 0 := zAllA hf 33
  have f34 : (0 : Int) ≤ 4 * ρ 9 + -ρ 4 + 6 := zAllA hf 34
  have f35 : (0 : Int) ≤ ρ 1 + -ρ 0 := zAllA hf 35
  have f36 : (0 : Int) ≤ -ρ 3 + (-ρ 1 + ρ 0) + 12288 := zAllA hf 36
  have f37 : (0 : Int) ≤ -ρ 2 + (-ρ 1 + ρ 0) + 12288 := zAllA hf 37
  have m0 : γ 0 15 0 35 = ρ 0 := zAllA hm 0
  have m1 : γ 0 15 0 34 = ρ 1 := zAllA hm 1
  have m2 : γ 0 15 0 8 = ρ 2 := zAllA hm 2
  have m3 : γ 0 15 0 9 = ρ 3 := zAllA hm 3
  have m4 : γ 0 15 0 58 = ρ 4 := zAllA hm 4
  have m5 : γ 0 15 0 14 = ρ 5 := zAllA hm 5
  have m6 : γ 0 15 0 32 = ρ 6 := zAllA hm 6
  have m7 : γ 0 15 0 33 = ρ 7 := zAllA hm 7
  have m8 : γ 0 15 0 44 = ρ 8 := zAllA hm 8
  have m9 : γ 0 73 0 (ρ 8) = ρ 9 := zAllA hm 9
  have m10 : γ 0 15 0 36 = ρ 10 := zAllA hm 10
  have m11 : γ 0 15 0 37 = ρ 11 := zAllA hm 11
  have m12 : γ 0 15 0 38 = ρ 12 := zAllA hm 12
  have m13 : γ 0 15 0 40 = ρ 13 := zAllA hm 13
  have m14 : γ 0 15 0 45 = ρ 14 := zAllA hm 14
  have m15 : γ 1 15 0 35 = ρ 16 := zAllA hm 15
  have m16 : γ 1 15 0 8 = ρ 17 := zAllA hm 16
  have m17 : γ 1 15 0 9 = ρ 18 := zAllA hm 17
  have m18 : γ 1 15 0 58 = ρ 19 := zAllA hm 18
  have m19 : γ 1 15 0 14 = ρ 20 := zAllA hm 19
  have m20 : γ 1 15 0 36 = ρ 10 := zAllA hm 20
  have m21 : γ 1 15 0 37 = ρ 21 := zAllA hm 21
  have m22 : γ 1 15 0 38 = ρ 22 := zAllA hm 22
  have m23 : γ 1 15 0 40 = ρ 23 := zAllA hm 23
  have m24 : γ 1 15 0 45 = ρ 24 := zAllA hm 24
  have m25 : γ 1 73 0 (ρ 8) = ρ 25 := zAllA hm 25
  have m26 : γ 2 15 0 35 = ρ 26 := zAllA hm 26
  have m27 : γ 1 77 0 (ρ 25 + 8 * ρ 8) = ρ 27 := zAllA hm 27
  have m28 : γ 1 81 0 (4 * ρ 25 + 32 * ρ 8) = ρ 28 := zAllA hm 28
  have m29 : γ 1 78 0 (ρ 25 + 8 * ρ 8) = ρ 29 := zAllA hm 29
  have m30 : γ 3 15 0 35 = ρ 30 := zAllA hm 30
  have m31 : γ 3 15 0 8 = ρ 31 := zAllA hm 31
  have m32 : γ 3 15 0 9 = ρ 32 := zAllA hm 32
  have m33 : γ 3 15 0 58 = ρ 33 := zAllA hm 33
  have m34 : γ 3 15 0 14 = ρ 34 := zAllA hm 34
  have m35 : γ 3 77 0 (ρ 25 + 8 * ρ 8) = ρ 35 := zAllA hm 35
  have m36 : γ 3 81 0 (4 * ρ 25 + 32 * ρ 8) = ρ 36 := zAllA hm 36
  have m37 : γ 3 78 0 (ρ 25 + 8 * ρ 8) = ρ 37 := zAllA hm 37
  have m38 : γ 3 15 0 36 = ρ 10 := zAllA hm 38
  have m39 : γ 3 15 0 37 = ρ 38 := zAllA hm 39
  have m40 : γ 3 15 0 38 = ρ 39 := zAllA hm 40
  have m41 : γ 3 15 0 40 = ρ 40 := zAllA hm 41
  have m42 : γ 3 15 0 45 = ρ 41 := zAllA hm 42
  have m43 : γ 5 15 0 35 = ρ 42 := zAllA hm 43
  have c1 : ∀ (G : Nat) (k j : Int), ¬ rMdP m27_ G j → γ 1 G k j = γ 0 G k j := And.right (zChA hc 5)
  have c2 : ∀ (G : Nat) (k j : Int), ¬ rMdP m6_ G j → γ 2 G k j = γ 1 G k j := And.right (zChA hc 4)
  have c3 : ∀ (G : Nat) (k j : Int), ¬ rMdP m25_ G j → γ 3 G k j = γ 2 G k j := And.right (zChA hc 3)
  have c4 : γ 4 = rUp (γ 3) 73 0 (ρ 8) (ρ 25 + 1) := And.right (zChA hc 2)
  have c5 : ∀ (G : Nat) (k j : Int), ¬ rMdP m6_ G j → γ 5 G k j = γ 4 G k j := And.right (zChA hc 1)
  have c6 : ∀ (G : Nat) (k j : Int), ¬ rMdP m0_ G j → γ 6 G k j = γ 5 G k j := And.right (zChA hc 0)
  have l0 : sn7 [ρ 16, ρ 1] (γ 1) 0 0 (γ 2) := hS7 _ _ _ _ _ (zAllA hl 0)
  have l1 : sn42 [ρ 26, ρ 1, ρ 17, ρ 18, ρ 19, ρ 20, ρ 6, ρ 7, ρ 8, ρ 25, ρ 27, ρ 28, ρ 29, ρ 10, ρ 21, ρ 22, ρ 23, ρ 24] (γ 2) 0 1 (γ 3) := hS42 _ _ _ _ _ (zAllA hl 1)
  have l2 : sn7 [ρ 30, ρ 1] (γ 4) 0 0 (γ 5) := hS7 _ _ _ _ _ (zAllA hl 2)
  have l3 : sn6 [ρ 42, ρ 1] (γ 5) 0 (-1) (γ 6) := hS6 _ _ _ _ _ (zAllA hl 3)
  show jn43 [ρ 0, ρ 1, ρ 2, ρ 3, ρ 4, ρ 5, ρ 6, ρ 7, ρ 8, ρ 9, ρ 10, ρ 11, ρ 12, ρ 13, ρ 14] (γ 0) 0 [ρ 0, ρ 1, ρ 2, ρ 3, ρ 4, ρ 5, ρ 6, ρ 7, ρ 8, ρ 9, ρ 10, ρ 11, ρ 12, ρ 13, ρ 14, 0, ρ 42, ρ 31, ρ 32, ρ 33, ρ 34, ρ 38, ρ 39, ρ 40, ρ 41, ρ 25 + 1] (γ 6)
  have hD : en43 (γ 0) (0, [ρ 15], γ 1) = .inl (0, [0], γ 6) := by
    unfold en43
    refine zIP (show (0 : Nat) = 0 by decide) (zLV (γ 1) rfl (zLV (ρ 15) rfl (zLE m1 (zLE m8 (zLE m25 (zIN (show ¬ (ρ 15 = 0) by omega) (zLE (show fn7 [] (γ 1) = (0, 0, γ 2) from l0.symm) ?_)))))))
    refine zLV (γ 2) rfl (zLE m26 (zIP (show ρ 25 ≠ 8 by omega) (zLE (show fn42 [] (γ 2) = (0, 1, γ 3) from l1.symm) (zLV (γ 3) rfl (zIP (show (1 : Int) ≤ 1 by omega) (zIN (show ¬ (2 ≤ γ 3 77 0 (ρ 25 + 8 * ρ 8)) by omega) (zLE c4.symm ?_)))))))
    refine zLE (show fn7 [] (γ 4) = (0, 0, γ 5) from l2.symm) (zLV (γ 5) rfl (zLE m43 (zLE (show fn6 [ρ 42] (γ 5) = (0, (-1), γ 6) from l3.symm) (zLV (γ 6) rfl (zIN (show ¬ (0 ≤ -ρ 42 + ρ 1 + (-1)) by omega) ?_)))))
    rfl
  exact zGoo_ato hJ hD
theorem vn43a0_5 {S : Nat → zSpc} (hS6 : zIm S 6 sn6) (hS7 : zIm S 7 sn7) (hS8 : zIm S 8 sn8) (hS42 : zIm S 42 sn42) {a : List Int} {g : rHp} : ∀ (ρ : Nat → Int) (γ : Nat → rHp), jn43 a g 0 (zAg (zNA a43_ 0) ρ) (γ 1) → zO 15 S a g q43a0_5 ρ γ → zGl (fun i vs g1 => jn43 a g i vs g1) (sn43 a g) q43a0_5 ρ γ := by
  intro ρ γ hJ h
  obtain ⟨ha, hg, hr, hf, hm, hc, hl⟩ := h
  have ha : a = [ρ 0, ρ 1, ρ 2, ρ 3, ρ 4, ρ 5, ρ 6, ρ 7, ρ 8, ρ 9, ρ 10, ρ 11, ρ 12, ρ 13, ρ 14] := ha
  subst ha
  subst hg
  have hJ : jn43 [ρ 0, ρ 1, ρ 2, ρ 3, ρ 4, ρ 5, ρ 6, ρ 7, ρ 8, ρ 9, ρ 10, ρ 11, ρ 12, ρ 13, ρ 14] (γ 0) 0 [ρ 0, ρ 1, ρ 2, ρ 3, ρ 4, ρ 5, ρ 6, ρ 7, ρ 8, ρ 9, ρ 10, ρ 11, ρ 12, ρ 13, ρ 14, ρ 15, ρ 16, ρ 17, ρ 18, ρ 19, ρ 20, ρ 21, ρ 22, ρ 23, ρ 24, ρ 25] (γ 1) := hJ
  have r0 : (0 : Int) ≤ ρ 0 ∧ ρ 0 ≤ 2000 := zRnA hr 0
  have r1 : (0 : Int) ≤ ρ 1 ∧ ρ 1 ≤ 2000 := zRnA hr 1
  have r2 : (0 : Int) ≤ ρ 2 ∧ ρ 2 ≤ 12288 := zRnA hr 2
  have r3 : (0 : Int) ≤ ρ 3 ∧ ρ 3 ≤ 12288 := zRnA hr 3
  have r4 : (0 : Int) ≤ ρ 4 ∧ ρ 4 ≤ 64 := zRnA hr 4
  have r5 : (0 : Int) ≤ ρ 5 ∧ ρ 5 ≤ 20 := zRnA hr 5
  have r6 : (0 : Int) ≤ ρ 6 ∧ ρ 6 ≤ 60 := zRnA hr 6
  have r7 : (0 : Int) ≤ ρ 7 ∧ ρ 7 ≤ 60 := zRnA hr 7
  have r8 : (0 : Int) ≤ ρ 8 ∧ ρ 8 ≤ 61 := zRnA hr 8
  have r9 : (0 : Int) ≤ ρ 9 ∧ ρ 9 ≤ 8 := zRnA hr 9
  have r10 : (0 : Int) ≤ ρ 10 ∧ ρ 10 ≤ 2000 := zRnA hr 10
  have r11 : (0 : Int) ≤ ρ 11 ∧ ρ 11 ≤ 2000 := zRnA hr 11
  have r12 : (0 : Int) ≤ ρ 12 ∧ ρ 12 ≤ 2000 := zRnA hr 12
  have r13 : (0 : Int) ≤ ρ 13 ∧ ρ 13 ≤ 3 := zRnA hr 13
  have r14 : ((-2147483648) : Int) ≤ ρ 14 ∧ ρ 14 ≤ 2147483647 := zRnA hr 14
  have r15 : (1 : Int) ≤ ρ 15 ∧ ρ 15 ≤ 1 := zRnA hr 15
  have r16 : (0 : Int) ≤ ρ 16 ∧ ρ 16 ≤ 2000 := zRnA hr 16
  have r17 : (0 : Int) ≤ ρ 17 ∧ ρ 17 ≤ 12288 := zRnA hr 17
  have r18 : (0 : Int) ≤ ρ 18 ∧ ρ 18 ≤ 12288 := zRnA hr 18
  have r19 : (0 : Int) ≤ ρ 19 ∧ ρ 19 ≤ 43 := zRnA hr 19
  have r20 : (0 : Int) ≤ ρ 20 ∧ ρ 20 ≤ 20 := zRnA hr 20
  have r21 : (0 : Int) ≤ ρ 21 ∧ ρ 21 ≤ 2000 := zRnA hr 21
  have r22 : (0 : Int) ≤ ρ 22 ∧ ρ 22 ≤ 2000 := zRnA hr 22
  have r23 : (0 : Int) ≤ ρ 23 ∧ ρ 23 ≤ 3 := zRnA hr 23
  have r24 : ((-2147483648) : Int) ≤ ρ 24 ∧ ρ 24 ≤ 2147483647 := zRnA hr 24
  have r25 : (0 : Int) ≤ ρ 25 ∧ ρ 25 ≤ 7 := zRnA hr 25
  have r26 : (0 : Int) ≤ ρ 26 ∧ ρ 26 ≤ 2000 := zRnA hr 26
  have r27 : (0 : Int) ≤ ρ 27 ∧ ρ 27 ≤ 7 := zRnA hr 27
  have r28 : ((-2147483648) : Int) ≤ ρ 28 ∧ ρ 28 ≤ 1099511640064 := zRnA hr 28
  have r29 : (0 : Int) ≤ ρ 29 ∧ ρ 29 ≤ 19 := zRnA hr 29
  have r30 : (2 : Int) ≤ ρ 30 ∧ ρ 30 ≤ 2000 := zRnA hr 30
  have r31 : (0 : Int) ≤ ρ 31 ∧ ρ 31 ≤ 12288 := zRnA hr 31
  have r32 : (0 : Int) ≤ ρ 32 ∧ ρ 32 ≤ 12288 := zRnA hr 32
  have r33 : (2 : Int) ≤ ρ 33 ∧ ρ 33 ≤ 4 := zRnA hr 33
  have r34 : ((-2147483648) : Int) ≤ ρ 34 ∧ ρ 34 ≤ 1099511640064 := zRnA hr 34
  have r35 : (0 : Int) ≤ ρ 35 ∧ ρ 35 ≤ 2000 := zRnA hr 35
  have r36 : (0 : Int) ≤ ρ 36 ∧ ρ 36 ≤ 2000 := zRnA hr 36
  have r37 : (0 : Int) ≤ ρ 37 ∧ ρ 37 ≤ 2 := zRnA hr 37
  have r38 : (0 : Int) ≤ ρ 38 ∧ ρ 38 ≤ 2000 := zRnA hr 38
  have r39 : ((-128) : Int) ≤ ρ 39 ∧ ρ 39 ≤ 127 := zRnA hr 39
  have f0 : (0 : Int) ≤ -ρ 38 + ρ 1 + (-1) := zAllA hf 0
  have f1 : (0 : Int) ≤ -ρ 30 + ρ 1 := zAllA hf 1
  have f2 : (0 : Int) ≤ ρ 38 + -ρ 30 := zAllA hf 2
  have f3 : (0 : Int) ≤ -ρ 38 + ρ 1 := zAllA hf 3
  have f4 : (0 : Int) ≤ ρ 26 + (-ρ 17 + -ρ 1) + 12288 := zAllA hf 4
  have f5 : (0 : Int) ≤ ρ 26 + (-ρ 18 + -ρ 1) + 12288 := zAllA hf 5
  have f6 : (0 : Int) ≤ -ρ 26 + ρ 1 := zAllA hf 6
  have f7 : (0 : Int) ≤ 4 * ρ 25 + -ρ 19 + 6 := zAllA hf 7
  have f8 : (0 : Int) ≤ ρ 8 + (-ρ 7 + -ρ 6) := zAllA hf 8
  have f9 : (0 : Int) ≤ -ρ 8 + (ρ 7 + ρ 6) := zAllA hf 9
  have f10 : (0 : Int) ≤ ρ 30 + -ρ 26 + (-1) := zAllA hf 10
  have f11 : (0 : Int) ≤ ρ 31 + -ρ 17 := zAllA hf 11
  have f12 : (0 : Int) ≤ ρ 32 + -ρ 18 := zAllA hf 12
  have f13 : (0 : Int) ≤ -ρ 37 + ρ 1 := zAllA hf 13
  have f14 : (0 : Int) ≤ -ρ 26 + ρ 1 + (-1) := zAllA hf 14
  have f15 : (0 : Int) ≤ -ρ 31 + (ρ 30 + (-ρ 26 + ρ 17)) := zAllA hf 15
  have f16 : (0 : Int) ≤ -ρ 32 + (ρ 30 + (-ρ 26 + ρ 18)) := zAllA hf 16
  have f17 : (0 : Int) ≤ -ρ 16 + ρ 1 := zAllA hf 17
  have f18 : (0 : Int) ≤ ρ 26 + -ρ 16 := zAllA hf 18
  have f19 : (0 : Int) ≤ ρ 20 + -ρ 5 := zAllA hf 19
  have f20 : (0 : Int) ≤ -ρ 18 + (ρ 16 + -ρ 1) + 12288 := zAllA hf 20
  have f21 : (0 : Int) ≤ -ρ 17 + (ρ 16 + -ρ 1) + 12288 := zAllA hf 21
  have f22 : (0 : Int) ≤ -ρ 18 + (ρ 16 + (ρ 3 + -ρ 0)) := zAllA hf 22
  have f23 : (0 : Int) ≤ -ρ 17 + (ρ 16 + (ρ 2 + -ρ 0)) := zAllA hf 23
  have f24 : (0 : Int) ≤ ρ 25 + -ρ 9 := zAllA hf 24
  have f25 : (0 : Int) ≤ ρ 19 + -ρ 4 := zAllA hf 25
  have f26 : (0 : Int) ≤ ρ 18 + -ρ 3 := zAllA hf 26
  have f27 : (0 : Int) ≤ ρ 17 + -ρ 2 := zAllA hf 27
  have f28 : (0 : Int) ≤ ρ 16 + -ρ 0 := zAllA hf 28
  have f29 : (0 : Int) ≤ 4 * ρ 9 + -ρ 4 + 6 := zAllA hf 29
  have f30 : (0 : Int) ≤ ρ 1 + -ρ 0 := zAllA hf 30
  have f31 : (0 : Int) ≤ -ρ 3 + (-ρ 1 + ρ 0) + 12288 := zAllA hf 31
  have f32 : (0 : Int) ≤ -ρ 2 + (-ρ 1 + ρ 0) + 12288 := zAllA hf 32
  have m0 : γ 0 15 0 35 = ρ 0 := zAllA hm 0
  have m1 : γ 0 15 0 34 = ρ 1 := zAllA hm 1
  have m2 : γ 0 15 0 8 = ρ 2 := zAllA hm 2
  have m3 : γ 0 15 0 9 = ρ 3 := zAllA hm 3
  have m4 : γ 0 15 0 58 = ρ 4 := zAllA hm 4
  have m5 : γ 0 15 0 14 = ρ 5 := zAllA hm 5
  have m6 : γ 0 15 0 32 = ρ 6 := zAllA hm 6
  have m7 : γ 0 15 0 33 = ρ 7 := zAllA hm 7
  have m8 : γ 0 15 0 44 = ρ 8 := zAllA hm 8
  have m9 : γ 0 73 0 (ρ 8) = ρ 9 := zAllA hm 9
  have m10 : γ 0 15 0 36 = ρ 10 := zAllA hm 10
  have m11 : γ 0 15 0 37 = ρ 11 := zAllA hm 11
  have m12 : γ 0 15 0 38 = ρ 12 := zAllA hm 12
  have m13 : γ 0 15 0 40 = ρ 13 := zAllA hm 13
  have m14 : γ 0 15 0 45 = ρ 14 := zAllA hm 14
  have m15 : γ 1 15 0 35 = ρ 16 := zAllA hm 15
  have m16 : γ 1 15 0 8 = ρ 17 := zAllA hm 16
  have m17 : γ 1 15 0 9 = ρ 18 := zAllA hm 17
  have m18 : γ 1 15 0 58 = ρ 19 := zAllA hm 18
  have m19 : γ 1 15 0 14 = ρ 20 := zAllA hm 19
  have m20 : γ 1 15 0 36 = ρ 10 := zAllA hm 20
  have m21 : γ 1 15 0 37 = ρ 21 := zAllA hm 21
  have m22 : γ 1 15 0 38 = ρ 22 := zAllA hm 22
  have m23 : γ 1 15 0 40 = ρ 23 := zAllA hm 23
  have m24 : γ 1 15 0 45 = ρ 24 := zAllA hm 24
  have m25 : γ 1 73 0 (ρ 8) = ρ 25 := zAllA hm 25
  have m26 : γ 2 15 0 35 = ρ 26 := zAllA hm 26
  have m27 : γ 1 77 0 (ρ 25 + 8 * ρ 8) = ρ 27 := zAllA hm 27
  have m28 : γ 1 81 0 (4 * ρ 25 + 32 * ρ 8) = ρ 28 := zAllA hm 28
  have m29 : γ 1 78 0 (ρ 25 + 8 * ρ 8) = ρ 29 := zAllA hm 29
  have m30 : γ 3 15 0 35 = ρ 30 := zAllA hm 30
  have m31 : γ 3 15 0 8 = ρ 31 := zAllA hm 31
  have m32 : γ 3 15 0 9 = ρ 32 := zAllA hm 32
  have m33 : γ 3 15 0 58 = ρ 19 := zAllA hm 33
  have m34 : γ 3 15 0 14 = ρ 20 := zAllA hm 34
  have m35 : γ 3 77 0 (ρ 25 + 8 * ρ 8) = ρ 33 := zAllA hm 35
  have m36 : γ 3 81 0 (4 * ρ 25 + 32 * ρ 8) = ρ 34 := zAllA hm 36
  have m37 : γ 3 78 0 (ρ 25 + 8 * ρ 8) = ρ 29 := zAllA hm 37
  have m38 : γ 3 15 0 36 = ρ 10 := zAllA hm 38
  have m39 : γ 3 15 0 37 = ρ 35 := zAllA hm 39
  have m40 : γ 3 15 0 38 = ρ 36 := zAllA hm 40
  have m41 : γ 3 15 0 40 = ρ 37 := zAllA hm 41
  have m42 : γ 3 15 0 45 = ρ 24 := zAllA hm 42
  have m43 : γ 5 15 0 35 = ρ 38 := zAllA hm 43
  have c1 : ∀ (G : Nat) (k j : Int), ¬ rMdP m27_ G j → γ 1 G k j = γ 0 G k j := And.right (zChA hc 5)
  have c2 : ∀ (G : Nat) (k j : Int), ¬ rMdP m6_ G j → γ 2 G k j = γ 1 G k j := And.right (zChA hc 4)
  have c3 : ∀ (G : Nat) (k j : Int), ¬ rMdP m25_ G j → γ 3 G k j = γ 2 G k j := And.right (zChA hc 3)
  have c4 : γ 4 = rUp (γ 3) 73 0 (ρ 8) (ρ 25 + 1) := And.right (zChA hc 2)
  have c5 : ∀ (G : Nat) (k j : Int), ¬ rMdP m6_ G j → γ 5 G k j = γ 4 G k j := And.right (zChA hc 1)
  have c6 : ∀ (G : Nat) (k j : Int), ¬ rMdP m0_ G j → γ 6 G k j = γ 5 G k j := And.right (zChA hc 0)
  have l0 : sn7 [ρ 16, ρ 1] (γ 1) 0 0 (γ 2) := hS7 _ _ _ _ _ (zAllA hl 0)
  have l1 : sn42 [ρ 26, ρ 1, ρ 17, ρ 18, ρ 19, ρ 20, ρ 6, ρ 7, ρ 8, ρ 25, ρ 27, ρ 28, ρ 29, ρ 10, ρ 21, ρ 22, ρ 23, ρ 24] (γ 2) 0 1 (γ 3) := hS42 _ _ _ _ _ (zAllA hl 1)
  have l2 : sn7 [ρ 30, ρ 1] (γ 4) 0 0 (γ 5) := hS7 _ _ _ _ _ (zAllA hl 2)
  have l3 : sn6 [ρ 38, ρ 1] (γ 5) 0 (ρ 39) (γ 6) := hS6 _ _ _ _ _ (zAllA hl 3)
  have l4 : ρ 39 ≠ 44 := zAllA hl 4
  show jn43 [ρ 0, ρ 1, ρ 2, ρ 3, ρ 4, ρ 5, ρ 6, ρ 7, ρ 8, ρ 9, ρ 10, ρ 11, ρ 12, ρ 13, ρ 14] (γ 0) 0 [ρ 0, ρ 1, ρ 2, ρ 3, ρ 4, ρ 5, ρ 6, ρ 7, ρ 8, ρ 9, ρ 10, ρ 11, ρ 12, ρ 13, ρ 14, 0, ρ 38, ρ 31, ρ 32, ρ 19, ρ 20, ρ 35, ρ 36, ρ 37, ρ 24, ρ 25 + 1] (γ 6)
  have hD : en43 (γ 0) (0, [ρ 15], γ 1) = .inl (0, [0], γ 6) := by
    unfold en43
    refine zIP (show (0 : Nat) = 0 by decide) (zLV (γ 1) rfl (zLV (ρ 15) rfl (zLE m1 (zLE m8 (zLE m25 (zIN (show ¬ (ρ 15 = 0) by omega) (zLE (show fn7 [] (γ 1) = (0, 0, γ 2) from l0.symm) ?_)))))))
    refine zLV (γ 2) rfl (zLE m26 (zIP (show ρ 25 ≠ 8 by omega) (zLE (show fn42 [] (γ 2) = (0, 1, γ 3) from l1.symm) (zLV (γ 3) rfl (zIP (show (1 : Int) ≤ 1 by omega) (zIP (show 2 ≤ γ 3 77 0 (ρ 25 + 8 * ρ 8) by omega) (zIN (show ¬ (5 ≤ γ 3 77 0 (ρ 25 + 8 * ρ 8)) by omega) ?_)))))))
    refine zLE c4.symm (zLE (show fn7 [] (γ 4) = (0, 0, γ 5) from l2.symm) (zLV (γ 5) rfl (zLE m43 (zLE (show fn6 [ρ 38] (γ 5) = (0, ρ 39, γ 6) from l3.symm) (zLV (γ 6) rfl (zIP (show 0 ≤ -ρ 38 + ρ 1 + (-1) by omega) (zLV (ρ 39) rfl ?_)))))))
    refine zIP (show ρ 39 ≠ 44 by omega) ?_
    rfl
  exact zGoo_ato hJ hD
theorem vn43a0_6 {S : Nat → zSpc} (hS6 : zIm S 6 sn6) (hS7 : zIm S 7 sn7) (hS8 : zIm S 8 sn8) (hS42 : zIm S 42 sn42) {a : List Int} {g : rHp} : ∀ (ρ : Nat → Int) (γ : Nat → rHp), jn43 a g 0 (zAg (zNA a43_ 0) ρ) (γ 1) → zO 15 S a g q43a0_6 ρ γ → zGl (fun i vs g1 => jn43 a g i vs g1) (sn43 a g) q43a0_6 ρ γ := by
  intro ρ γ hJ h
  obtain ⟨ha, hg, hr, hf, hm, hc, hl⟩ := h
  have ha : a = [ρ 0, ρ 1, ρ 2, ρ 3, ρ 4, ρ 5, ρ 6, ρ 7, ρ 8, ρ 9, ρ 10, ρ 11, ρ 12, ρ 13, ρ 14] := ha
  subst ha
  subst hg
  have hJ : jn43 [ρ 0, ρ 1, ρ 2, ρ 3, ρ 4, ρ 5, ρ 6, ρ 7, ρ 8, ρ 9, ρ 10, ρ 11, ρ 12, ρ 13, ρ 14] (γ 0) 0 [ρ 0, ρ 1, ρ 2, ρ 3, ρ 4, ρ 5, ρ 6, ρ 7, ρ 8, ρ 9, ρ 10, ρ 11, ρ 12, ρ 13, ρ 14, ρ 15, ρ 16, ρ 17, ρ 18, ρ 19, ρ 20, ρ 21, ρ 22, ρ 23, ρ 24, ρ 25] (γ 1) := hJ
  have r0 : (0 : Int) ≤ ρ 0 ∧ ρ 0 ≤ 2000 := zRnA hr 0
  have r1 : (0 : Int) ≤ ρ 1 ∧ ρ 1 ≤ 2000 := zRnA hr 1
  have r2 : (0 : Int) ≤ ρ 2 ∧ ρ 2 ≤ 12288 := zRnA hr 2
  have r3 : (0 : Int) ≤ ρ 3 ∧ ρ 3 ≤ 12288 := zRnA hr 3
  have r4 : (0 : Int) ≤ ρ 4 ∧ ρ 4 ≤ 64 := zRnA hr 4
  have r5 : (0 : Int) ≤ ρ 5 ∧ ρ 5 ≤ 20 := zRnA hr 5
  have r6 : (0 : Int) ≤ ρ 6 ∧ ρ 6 ≤ 60 := zRnA hr 6
  have r7 : (0 : Int) ≤ ρ 7 ∧ ρ 7 ≤ 60 := zRnA hr 7
  have r8 : (0 : Int) ≤ ρ 8 ∧ ρ 8 ≤ 61 := zRnA hr 8
  have r9 : (0 : Int) ≤ ρ 9 ∧ ρ 9 ≤ 8 := zRnA hr 9
  have r10 : (0 : Int) ≤ ρ 10 ∧ ρ 10 ≤ 2000 := zRnA hr 10
  have r11 : (0 : Int) ≤ ρ 11 ∧ ρ 11 ≤ 2000 := zRnA hr 11
  have r12 : (0 : Int) ≤ ρ 12 ∧ ρ 12 ≤ 2000 := zRnA hr 12
  have r13 : (0 : Int) ≤ ρ 13 ∧ ρ 13 ≤ 3 := zRnA hr 13
  have r14 : ((-2147483648) : Int) ≤ ρ 14 ∧ ρ 14 ≤ 2147483647 := zRnA hr 14
  have r15 : (1 : Int) ≤ ρ 15 ∧ ρ 15 ≤ 1 := zRnA hr 15
  have r16 : (0 : Int) ≤ ρ 16 ∧ ρ 16 ≤ 2000 := zRnA hr 16
  have r17 : (0 : Int) ≤ ρ 17 ∧ ρ 17 ≤ 12288 := zRnA hr 17
  have r18 : (0 : Int) ≤ ρ 18 ∧ ρ 18 ≤ 12288 := zRnA hr 18
  have r19 : (0 : Int) ≤ ρ 19 ∧ ρ 19 ≤ 43 := zRnA hr 19
  have r20 : (0 : Int) ≤ ρ 20 ∧ ρ 20 ≤ 20 := zRnA hr 20
  have r21 : (0 : Int) ≤ ρ 21 ∧ ρ 21 ≤ 2000 := zRnA hr 21
  have r22 : (0 : Int) ≤ ρ 22 ∧ ρ 22 ≤ 2000 := zRnA hr 22
  have r23 : (0 : Int) ≤ ρ 23 ∧ ρ 23 ≤ 3 := zRnA hr 23
  have r24 : ((-2147483648) : Int) ≤ ρ 24 ∧ ρ 24 ≤ 2147483647 := zRnA hr 24
  have r25 : (0 : Int) ≤ ρ 25 ∧ ρ 25 ≤ 7 := zRnA hr 25
  have r26 : (0 : Int) ≤ ρ 26 ∧ ρ 26 ≤ 2000 := zRnA hr 26
  have r27 : (0 : Int) ≤ ρ 27 ∧ ρ 27 ≤ 7 := zRnA hr 27
  have r28 : ((-2147483648) : Int) ≤ ρ 28 ∧ ρ 28 ≤ 1099511640064 := zRnA hr 28
  have r29 : (0 : Int) ≤ ρ 29 ∧ ρ 29 ≤ 19 := zRnA hr 29
  have r30 : (2 : Int) ≤ ρ 30 ∧ ρ 30 ≤ 2000 := zRnA hr 30
  have r31 : (0 : Int) ≤ ρ 31 ∧ ρ 31 ≤ 12288 := zRnA hr 31
  have r32 : (0 : Int) ≤ ρ 32 ∧ ρ 32 ≤ 12288 := zRnA hr 32
  have r33 : (2 : Int) ≤ ρ 33 ∧ ρ 33 ≤ 4 := zRnA hr 33
  have r34 : ((-2147483648) : Int) ≤ ρ 34 ∧ ρ 34 ≤ 1099511640064 := zRnA hr 34
  have r35 : (0 : Int) ≤ ρ 35 ∧ ρ 35 ≤ 2000 := zRnA hr 35
  have r36 : (0 : Int) ≤ ρ 36 ∧ ρ 36 ≤ 2000 := zRnA hr 36
  have r37 : (0 : Int) ≤ ρ 37 ∧ ρ 37 ≤ 2 := zRnA hr 37
  have r38 : (0 : Int) ≤ ρ 38 ∧ ρ 38 ≤ 2000 := zRnA hr 38
  have r39 : (44 : Int) ≤ ρ 39 ∧ ρ 39 ≤ 44 := zRnA hr 39
  have f0 : (0 : Int) ≤ -ρ 38 + ρ 1 + (-1) := zAllA hf 0
  have f1 : (0 : Int) ≤ -ρ 30 + ρ 1 := zAllA hf 1
  have f2 : (0 : Int) ≤ ρ 38 + -ρ 30 := zAllA hf 2
  have f3 : (0 : Int) ≤ -ρ 38 + ρ 1 := zAllA hf 3
  have f4 : (0 : Int) ≤ ρ 26 + (-ρ 17 + -ρ 1) + 12288 := zAllA hf 4
  have f5 : (0 : Int) ≤ ρ 26 + (-ρ 18 + -ρ 1) + 12288 := zAllA hf 5
  have f6 : (0 : Int) ≤ -ρ 26 + ρ 1 := zAllA hf 6
  have f7 : (0 : Int) ≤ 4 * ρ 25 + -ρ 19 + 6 := zAllA hf 7
  have f8 : (0 : Int) ≤ ρ 8 + (-ρ 7 + -ρ 6) := zAllA hf 8
  have f9 : (0 : Int) ≤ -ρ 8 + (ρ 7 + ρ 6) := zAllA hf 9
  have f10 : (0 : Int) ≤ ρ 30 + -ρ 26 + (-1) := zAllA hf 10
  have f11 : (0 : Int) ≤ ρ 31 + -ρ 17 := zAllA hf 11
  have f12 : (0 : Int) ≤ ρ 32 + -ρ 18 := zAllA hf 12
  have f13 : (0 : Int) ≤ -ρ 37 + ρ 1 := zAllA hf 13
  have f14 : (0 : Int) ≤ -ρ 26 + ρ 1 + (-1) := zAllA hf 14
  have f15 : (0 : Int) ≤ -ρ 31 + (ρ 30 + (-ρ 26 + ρ 17)) := zAllA hf 15
  have f16 : (0 : Int) ≤ -ρ 32 + (ρ 30 + (-ρ 26 + ρ 18)) := zAllA hf 16
  have f17 : (0 : Int) ≤ -ρ 16 + ρ 1 := zAllA hf 17
  have f18 : (0 : Int) ≤ ρ 26 + -ρ 16 := zAllA hf 18
  have f19 : (0 : Int) ≤ ρ 20 + -ρ 5 := zAllA hf 19
  have f20 : (0 : Int) ≤ -ρ 18 + (ρ 16 + -ρ 1) + 12288 := zAllA hf 20
  have f21 : (0 : Int) ≤ -ρ 17 + (ρ 16 + -ρ 1) + 12288 := zAllA hf 21
  have f22 : (0 : Int) ≤ -ρ 18 + (ρ 16 + (ρ 3 + -ρ 0)) := zAllA hf 22
  have f23 : (0 : Int) ≤ -ρ 17 + (ρ 16 + (ρ 2 + -ρ 0)) := zAllA hf 23
  have f24 : (0 : Int) ≤ ρ 25 + -ρ 9 := zAllA hf 24
  have f25 : (0 : Int) ≤ ρ 19 + -ρ 4 := zAllA hf 25
  have f26 : (0 : Int) ≤ ρ 18 + -ρ 3 := zAllA hf 26
  have f27 : (0 : Int) ≤ ρ 17 + -ρ 2 := zAllA hf 27
  have f28 : (0 : Int) ≤ ρ 16 + -ρ 0 := zAllA hf 28
  have f29 : (0 : Int) ≤ 4 * ρ 9 + -ρ 4 + 6 := zAllA hf 29
  have f30 : (0 : Int) ≤ ρ 1 + -ρ 0 := zAllA hf 30
  have f31 : (0 : Int) ≤ -ρ 3 + (-ρ 1 + ρ 0) + 12288 := zAllA hf 31
  have f32 : (0 : Int) ≤ -ρ 2 + (-ρ 1 + ρ 0) + 12288 := zAllA hf 32
  have m0 : γ 0 15 0 35 = ρ 0 := zAllA hm 0
  have m1 : γ 0 15 0 34 = ρ 1 := zAllA hm 1
  have m2 : γ 0 15 0 8 = ρ 2 := zAllA hm 2
  have m3 : γ 0 15 0 9 = ρ 3 := zAllA hm 3
  have m4 : γ 0 15 0 58 = ρ 4 := zAllA hm 4
  have m5 : γ 0 15 0 14 = ρ 5 := zAllA hm 5
  have m6 : γ 0 15 0 32 = ρ 6 := zAllA hm 6
  have m7 : γ 0 15 0 33 = ρ 7 := zAllA hm 7
  have m8 : γ 0 15 0 44 = ρ 8 := zAllA hm 8
  have m9 : γ 0 73 0 (ρ 8) = ρ 9 := zAllA hm 9
  have m10 : γ 0 15 0 36 = ρ 10 := zAllA hm 10
  have m11 : γ 0 15 0 37 = ρ 11 := zAllA hm 11
  have m12 : γ 0 15 0 38 = ρ 12 := zAllA hm 12
  have m13 : γ 0 15 0 40 = ρ 13 := zAllA hm 13
  have m14 : γ 0 15 0 45 = ρ 14 := zAllA hm 14
  have m15 : γ 1 15 0 35 = ρ 16 := zAllA hm 15
  have m16 : γ 1 15 0 8 = ρ 17 := zAllA hm 16
  have m17 : γ 1 15 0 9 = ρ 18 := zAllA hm 17
  have m18 : γ 1 15 0 58 = ρ 19 := zAllA hm 18
  have m19 : γ 1 15 0 14 = ρ 20 := zAllA hm 19
  have m20 : γ 1 15 0 36 = ρ 10 := zAllA hm 20
  have m21 : γ 1 15 0 37 = ρ 21 := zAllA hm 21
  have m22 : γ 1 15 0 38 = ρ 22 := zAllA hm 22
  have m23 : γ 1 15 0 40 = ρ 23 := zAllA hm 23
  have m24 : γ 1 15 0 45 = ρ 24 := zAllA hm 24
  have m25 : γ 1 73 0 (ρ 8) = ρ 25 := zAllA hm 25
  have m26 : γ 2 15 0 35 = ρ 26 := zAllA hm 26
  have m27 : γ 1 77 0 (ρ 25 + 8 * ρ 8) = ρ 27 := zAllA hm 27
  have m28 : γ 1 81 0 (4 * ρ 25 + 32 * ρ 8) = ρ 28 := zAllA hm 28
  have m29 : γ 1 78 0 (ρ 25 + 8 * ρ 8) = ρ 29 := zAllA hm 29
  have m30 : γ 3 15 0 35 = ρ 30 := zAllA hm 30
  have m31 : γ 3 15 0 8 = ρ 31 := zAllA hm 31
  have m32 : γ 3 15 0 9 = ρ 32 := zAllA hm 32
  have m33 : γ 3 15 0 58 = ρ 19 := zAllA hm 33
  have m34 : γ 3 15 0 14 = ρ 20 := zAllA hm 34
  have m35 : γ 3 77 0 (ρ 25 + 8 * ρ 8) = ρ 33 := zAllA hm 35
  have m36 : γ 3 81 0 (4 * ρ 25 + 32 * ρ 8) = ρ 34 := zAllA hm 36
  have m37 : γ 3 78 0 (ρ 25 + 8 * ρ 8) = ρ 29 := zAllA hm 37
  have m38 : γ 3 15 0 36 = ρ 10 := zAllA hm 38
  have m39 : γ 3 15 0 37 = ρ 35 := zAllA hm 39
  have m40 : γ 3 15 0 38 = ρ 36 := zAllA hm 40
  have m41 : γ 3 15 0 40 = ρ 37 := zAllA hm 41
  have m42 : γ 3 15 0 45 = ρ 24 := zAllA hm 42
  have m43 : γ 5 15 0 35 = ρ 38 := zAllA hm 43
  have c1 : ∀ (G : Nat) (k j : Int), ¬ rMdP m27_ G j → γ 1 G k j = γ 0 G k j := And.right (zChA hc 6)
  have c2 : ∀ (G : Nat) (k j : Int), ¬ rMdP m6_ G j → γ 2 G k j = γ 1 G k j := And.right (zChA hc 5)
  have c3 : ∀ (G : Nat) (k j : Int), ¬ rMdP m25_ G j → γ 3 G k j = γ 2 G k j := And.right (zChA hc 4)
  have c4 : γ 4 = rUp (γ 3) 73 0 (ρ 8) (ρ 25 + 1) := And.right (zChA hc 3)
  have c5 : ∀ (G : Nat) (k j : Int), ¬ rMdP m6_ G j → γ 5 G k j = γ 4 G k j := And.right (zChA hc 2)
  have c6 : ∀ (G : Nat) (k j : Int), ¬ rMdP m0_ G j → γ 6 G k j = γ 5 G k j := And.right (zChA hc 1)
  have c7 : γ 7 = rUp (γ 6) 15 0 35 (ρ 38 + 1) := And.right (zChA hc 0)
  have l0 : sn7 [ρ 16, ρ 1] (γ 1) 0 0 (γ 2) := hS7 _ _ _ _ _ (zAllA hl 0)
  have l1 : sn42 [ρ 26, ρ 1, ρ 17, ρ 18, ρ 19, ρ 20, ρ 6, ρ 7, ρ 8, ρ 25, ρ 27, ρ 28, ρ 29, ρ 10, ρ 21, ρ 22, ρ 23, ρ 24] (γ 2) 0 1 (γ 3) := hS42 _ _ _ _ _ (zAllA hl 1)
  have l2 : sn7 [ρ 30, ρ 1] (γ 4) 0 0 (γ 5) := hS7 _ _ _ _ _ (zAllA hl 2)
  have l3 : sn6 [ρ 38, ρ 1] (γ 5) 0 (ρ 39) (γ 6) := hS6 _ _ _ _ _ (zAllA hl 3)
  show jn43 [ρ 0, ρ 1, ρ 2, ρ 3, ρ 4, ρ 5, ρ 6, ρ 7, ρ 8, ρ 9, ρ 10, ρ 11, ρ 12, ρ 13, ρ 14] (γ 0) 0 [ρ 0, ρ 1, ρ 2, ρ 3, ρ 4, ρ 5, ρ 6, ρ 7, ρ 8, ρ 9, ρ 10, ρ 11, ρ 12, ρ 13, ρ 14, 1, ρ 38 + 1, ρ 31, ρ 32, ρ 19, ρ 20, ρ 35, ρ 36, ρ 37, ρ 24, ρ 25 + 1] (γ 7)
  have hD : en43 (γ 0) (0, [ρ 15], γ 1) = .inl (0, [1], γ 7) := by
    unfold en43
    refine zIP (show (0 : Nat) = 0 by decide) (zLV (γ 1) rfl (zLV (ρ 15) rfl (zLE m1 (zLE m8 (zLE m25 (zIN (show ¬ (ρ 15 = 0) by omega) (zLE (show fn7 [] (γ 1) = (0, 0, γ 2) from l0.symm) ?_)))))))
    refine zLV (γ 2) rfl (zLE m26 (zIP (show ρ 25 ≠ 8 by omega) (zLE (show fn42 [] (γ 2) = (0, 1, γ 3) from l1.symm) (zLV (γ 3) rfl (zIP (show (1 : Int) ≤ 1 by omega) (zIP (show 2 ≤ γ 3 77 0 (ρ 25 + 8 * ρ 8) by omega) (zIN (show ¬ (5 ≤ γ 3 77 0 (ρ 25 + 8 * ρ 8)) by omega) ?_)))))))
    refine zLE c4.symm (zLE (show fn7 [] (γ 4) = (0, 0, γ 5) from l2.symm) (zLV (γ 5) rfl (zLE m43 (zLE (show fn6 [ρ 38] (γ 5) = (0, ρ 39, γ 6) from l3.symm) (zLV (γ 6) rfl (zIP (show 0 ≤ -ρ 38 + ρ 1 + (-1) by omega) (zLV (ρ 39) rfl ?_)))))))
    refine zIN (show ¬ (ρ 39 ≠ 44) by omega) (zLE c7.symm ?_)
    rfl
  exact zGoo_ato hJ hD
theorem vn43a0_7 {S : Nat → zSpc} (hS6 : zIm S 6 sn6) (hS7 : zIm S 7 sn7) (hS8 : zIm S 8 sn8) (hS42 : zIm S 42 sn42) {a : List Int} {g : rHp} : ∀ (ρ : Nat → Int) (γ : Nat → rHp), jn43 a g 0 (zAg (zNA a43_ 0) ρ) (γ 1) → zO 15 S a g q43a0_7 ρ γ → zGl (fun i vs g1 => jn43 a g i vs g1) (sn43 a g) q43a0_7 ρ γ := by
  intro ρ γ hJ h
  obtain ⟨ha, hg, hr, hf, hm, hc, hl⟩ := h
  have ha : a = [ρ 0, ρ 1, ρ 2, ρ 3, ρ 4, ρ 5, ρ 6, ρ 7, ρ 8, ρ 9, ρ 10, ρ 11, ρ 12, ρ 13, ρ 14] := ha
  subst ha
  subst hg
  have hJ : jn43 [ρ 0, ρ 1, ρ 2, ρ 3, ρ 4, ρ 5, ρ 6, ρ 7, ρ 8, ρ 9, ρ 10, ρ 11, ρ 12, ρ 13, ρ 14] (γ 0) 0 [ρ 0, ρ 1, ρ 2, ρ 3, ρ 4, ρ 5, ρ 6, ρ 7, ρ 8, ρ 9, ρ 10, ρ 11, ρ 12, ρ 13, ρ 14, ρ 15, ρ 16, ρ 17, ρ 18, ρ 19, ρ 20, ρ 21, ρ 22, ρ 23, ρ 24, ρ 25] (γ 1) := hJ
  have r0 : (0 : Int) ≤ ρ 0 ∧ ρ 0 ≤ 2000 := zRnA hr 0
  have r1 : (0 : Int) ≤ ρ 1 ∧ ρ 1 ≤ 2000 := zRnA hr 1
  have r2 : (0 : Int) ≤ ρ 2 ∧ ρ 2 ≤ 12288 := zRnA hr 2
  have r3 : (0 : Int) ≤ ρ 3 ∧ ρ 3 ≤ 12288 := zRnA hr 3
  have r4 : (0 : Int) ≤ ρ 4 ∧ ρ 4 ≤ 64 := zRnA hr 4
  have r5 : (0 : Int) ≤ ρ 5 ∧ ρ 5 ≤ 20 := zRnA hr 5
  have r6 : (0 : Int) ≤ ρ 6 ∧ ρ 6 ≤ 60 := zRnA hr 6
  have r7 : (0 : Int) ≤ ρ 7 ∧ ρ 7 ≤ 60 := zRnA hr 7
  have r8 : (0 : Int) ≤ ρ 8 ∧ ρ 8 ≤ 61 := zRnA hr 8
  have r9 : (0 : Int) ≤ ρ 9 ∧ ρ 9 ≤ 8 := zRnA hr 9
  have r10 : (0 : Int) ≤ ρ 10 ∧ ρ 10 ≤ 2000 := zRnA hr 10
  have r11 : (0 : Int) ≤ ρ 11 ∧ ρ 11 ≤ 2000 := zRnA hr 11
  have r12 : (0 : Int) ≤ ρ 12 ∧ ρ 12 ≤ 2000 := zRnA hr 12
  have r13 : (0 : Int) ≤ ρ 13 ∧ ρ 13 ≤ 3 := zRnA hr 13
  have r14 : ((-2147483648) : Int) ≤ ρ 14 ∧ ρ 14 ≤ 2147483647 := zRnA hr 14
  have r15 : (1 : Int) ≤ ρ 15 ∧ ρ 15 ≤ 1 := zRnA hr 15
  have r16 : (0 : Int) ≤ ρ 16 ∧ ρ 16 ≤ 2000 := zRnA hr 16
  have r17 : (0 : Int) ≤ ρ 17 ∧ ρ 17 ≤ 12288 := zRnA hr 17
  have r18 : (0 : Int) ≤ ρ 18 ∧ ρ 18 ≤ 12288 := zRnA hr 18
  have r19 : (0 : Int) ≤ ρ 19 ∧ ρ 19 ≤ 43 := zRnA hr 19
  have r20 : (0 : Int) ≤ ρ 20 ∧ ρ 20 ≤ 20 := zRnA hr 20
  have r21 : (0 : Int) ≤ ρ 21 ∧ ρ 21 ≤ 2000 := zRnA hr 21
  have r22 : (0 : Int) ≤ ρ 22 ∧ ρ 22 ≤ 2000 := zRnA hr 22
  have r23 : (0 : Int) ≤ ρ 23 ∧ ρ 23 ≤ 3 := zRnA hr 23
  have r24 : ((-2147483648) : Int) ≤ ρ 24 ∧ ρ 24 ≤ 2147483647 := zRnA hr 24
  have r25 : (0 : Int) ≤ ρ 25 ∧ ρ 25 ≤ 7 := zRnA hr 25
  have r26 : (0 : Int) ≤ ρ 26 ∧ ρ 26 ≤ 2000 := zRnA hr 26
  have r27 : (0 : Int) ≤ ρ 27 ∧ ρ 27 ≤ 7 := zRnA hr 27
  have r28 : ((-2147483648) : Int) ≤ ρ 28 ∧ ρ 28 ≤ 1099511640064 := zRnA hr 28
  have r29 : (0 : Int) ≤ ρ 29 ∧ ρ 29 ≤ 19 := zRnA hr 29
  have r30 : (2 : Int) ≤ ρ 30 ∧ ρ 30 ≤ 2000 := zRnA hr 30
  have r31 : (0 : Int) ≤ ρ 31 ∧ ρ 31 ≤ 12288 := zRnA hr 31
  have r32 : (0 : Int) ≤ ρ 32 ∧ ρ 32 ≤ 12288 := zRnA hr 32
  have r33 : (2 : Int) ≤ ρ 33 ∧ ρ 33 ≤ 4 := zRnA hr 33
  have r34 : ((-2147483648) : Int) ≤ ρ 34 ∧ ρ 34 ≤ 1099511640064 := zRnA hr 34
  have r35 : (0 : Int) ≤ ρ 35 ∧ ρ 35 ≤ 2000 := zRnA hr 35
  have r36 : (0 : Int) ≤ ρ 36 ∧ ρ 36 ≤ 2000 := zRnA hr 36
  have r37 : (0 : Int) ≤ ρ 37 ∧ ρ 37 ≤ 2 := zRnA hr 37
  have r38 : (0 : Int) ≤ ρ 38 ∧ ρ 38 ≤ 2000 := zRnA hr 38
  have f0 : (0 : Int) ≤ ρ 38 + -ρ 1 := zAllA hf 0
  have f1 : (0 : Int) ≤ -ρ 30 + ρ 1 := zAllA hf 1
  have f2 : (0 : Int) ≤ ρ 38 + -ρ 30 := zAllA hf 2
  have f3 : (0 : Int) ≤ -ρ 38 + ρ 1 := zAllA hf 3
  have f4 : (0 : Int) ≤ ρ 26 + (-ρ 17 + -ρ 1) + 12288 := zAllA hf 4
  have f5 : (0 : Int) ≤ ρ 26 + (-ρ 18 + -ρ 1) + 12288 := zAllA hf 5
  have f6 : (0 : Int) ≤ -ρ 26 + ρ 1 := zAllA hf 6
  have f7 : (0 : Int) ≤ 4 * ρ 25 + -ρ 19 + 6 := zAllA hf 7
  have f8 : (0 : Int) ≤ ρ 8 + (-ρ 7 + -ρ 6) := zAllA hf 8
  have f9 : (0 : Int) ≤ -ρ 8 + (ρ 7 + ρ 6) := zAllA hf 9
  have f10 : (0 : Int) ≤ ρ 30 + -ρ 26 + (-1) := zAllA hf 10
  have f11 : (0 : Int) ≤ ρ 31 + -ρ 17 := zAllA hf 11
  have f12 : (0 : Int) ≤ ρ 32 + -ρ 18 := zAllA hf 12
  have f13 : (0 : Int) ≤ -ρ 37 + ρ 1 := zAllA hf 13
  have f14 : (0 : Int) ≤ -ρ 26 + ρ 1 + (-1) := zAllA hf 14
  have f15 : (0 : Int) ≤ -ρ 31 + (ρ 30 + (-ρ 26 + ρ 17)) := zAllA hf 15
  have f16 : (0 : Int) ≤ -ρ 32 + (ρ 30 + (-ρ 26 + ρ 18)) := zAllA hf 16
  have f17 : (0 : Int) ≤ -ρ 16 + ρ 1 := zAllA hf 17
  have f18 : (0 : Int) ≤ ρ 26 + -ρ 16 := zAllA hf 18
  have f19 : (0 : Int) ≤ ρ 20 + -ρ 5 := zAllA hf 19
  have f20 : (0 : Int) ≤ -ρ 18 + (ρ 16 + -ρ 1) + 12288 := zAllA hf 20
  have f21 : (0 : Int) ≤ -ρ 17 + (ρ 16 + -ρ 1) + 12288 := zAllA hf 21
  have f22 : (0 : Int) ≤ -ρ 18 + (ρ 16 + (ρ 3 + -ρ 0)) := zAllA hf 22
  have f23 : (0 : Int) ≤ -ρ 17 + (ρ 16 + (ρ 2 + -ρ 0)) := zAllA hf 23
  have f24 : (0 : Int) ≤ ρ 25 + -ρ 9 := zAllA hf 24
  have f25 : (0 : Int) ≤ ρ 19 + -ρ 4 := zAllA hf 25
  have f26 : (0 : Int) ≤ ρ 18 + -ρ 3 := zAllA hf 26
  have f27 : (0 : Int) ≤ ρ 17 + -ρ 2 := zAllA hf 27
  have f28 : (0 : Int) ≤ ρ 16 + -ρ 0 := zAllA hf 28
  have f29 : (0 : Int) ≤ 4 * ρ 9 + -ρ 4 + 6 := zAllA hf 29
  have f30 : (0 : Int) ≤ ρ 1 + -ρ 0 := zAllA hf 30
  have f31 : (0 : Int) ≤ -ρ 3 + (-ρ 1 + ρ 0) + 12288 := zAllA hf 31
  have f32 : (0 : Int) ≤ -ρ 2 + (-ρ 1 + ρ 0) + 12288 := zAllA hf 32
  have m0 : γ 0 15 0 35 = ρ 0 := zAllA hm 0
  have m1 : γ 0 15 0 34 = ρ 1 := zAllA hm 1
  have m2 : γ 0 15 0 8 = ρ 2 := zAllA hm 2
  have m3 : γ 0 15 0 9 = ρ 3 := zAllA hm 3
  have m4 : γ 0 15 0 58 = ρ 4 := zAllA hm 4
  have m5 : γ 0 15 0 14 = ρ 5 := zAllA hm 5
  have m6 : γ 0 15 0 32 = ρ 6 := zAllA hm 6
  have m7 : γ 0 15 0 33 = ρ 7 := zAllA hm 7
  have m8 : γ 0 15 0 44 = ρ 8 := zAllA hm 8
  have m9 : γ 0 73 0 (ρ 8) = ρ 9 := zAllA hm 9
  have m10 : γ 0 15 0 36 = ρ 10 := zAllA hm 10
  have m11 : γ 0 15 0 37 = ρ 11 := zAllA hm 11
  have m12 : γ 0 15 0 38 = ρ 12 := zAllA hm 12
  have m13 : γ 0 15 0 40 = ρ 13 := zAllA hm 13
  have m14 : γ 0 15 0 45 = ρ 14 := zAllA hm 14
  have m15 : γ 1 15 0 35 = ρ 16 := zAllA hm 15
  have m16 : γ 1 15 0 8 = ρ 17 := zAllA hm 16
  have m17 : γ 1 15 0 9 = ρ 18 := zAllA hm 17
  have m18 : γ 1 15 0 58 = ρ 19 := zAllA hm 18
  have m19 : γ 1 15 0 14 = ρ 20 := zAllA hm 19
  have m20 : γ 1 15 0 36 = ρ 10 := zAllA hm 20
  have m21 : γ 1 15 0 37 = ρ 21 := zAllA hm 21
  have m22 : γ 1 15 0 38 = ρ 22 := zAllA hm 22
  have m23 : γ 1 15 0 40 = ρ 23 := zAllA hm 23
  have m24 : γ 1 15 0 45 = ρ 24 := zAllA hm 24
  have m25 : γ 1 73 0 (ρ 8) = ρ 25 := zAllA hm 25
  have m26 : γ 2 15 0 35 = ρ 26 := zAllA hm 26
  have m27 : γ 1 77 0 (ρ 25 + 8 * ρ 8) = ρ 27 := zAllA hm 27
  have m28 : γ 1 81 0 (4 * ρ 25 + 32 * ρ 8) = ρ 28 := zAllA hm 28
  have m29 : γ 1 78 0 (ρ 25 + 8 * ρ 8) = ρ 29 := zAllA hm 29
  have m30 : γ 3 15 0 35 = ρ 30 := zAllA hm 30
  have m31 : γ 3 15 0 8 = ρ 31 := zAllA hm 31
  have m32 : γ 3 15 0 9 = ρ 32 := zAllA hm 32
  have m33 : γ 3 15 0 58 = ρ 19 := zAllA hm 33
  have m34 : γ 3 15 0 14 = ρ 20 := zAllA hm 34
  have m35 : γ 3 77 0 (ρ 25 + 8 * ρ 8) = ρ 33 := zAllA hm 35
  have m36 : γ 3 81 0 (4 * ρ 25 + 32 * ρ 8) = ρ 34 := zAllA hm 36
  have m37 : γ 3 78 0 (ρ 25 + 8 * ρ 8) = ρ 29 := zAllA hm 37
  have m38 : γ 3 15 0 36 = ρ 10 := zAllA hm 38
  have m39 : γ 3 15 0 37 = ρ 35 := zAllA hm 39
  have m40 : γ 3 15 0 38 = ρ 36 := zAllA hm 40
  have m41 : γ 3 15 0 40 = ρ 37 := zAllA hm 41
  have m42 : γ 3 15 0 45 = ρ 24 := zAllA hm 42
  have m43 : γ 5 15 0 35 = ρ 38 := zAllA hm 43
  have c1 : ∀ (G : Nat) (k j : Int), ¬ rMdP m27_ G j → γ 1 G k j = γ 0 G k j := And.right (zChA hc 5)
  have c2 : ∀ (G : Nat) (k j : Int), ¬ rMdP m6_ G j → γ 2 G k j = γ 1 G k j := And.right (zChA hc 4)
  have c3 : ∀ (G : Nat) (k j : Int), ¬ rMdP m25_ G j → γ 3 G k j = γ 2 G k j := And.right (zChA hc 3)
  have c4 : γ 4 = rUp (γ 3) 73 0 (ρ 8) (ρ 25 + 1) := And.right (zChA hc 2)
  have c5 : ∀ (G : Nat) (k j : Int), ¬ rMdP m6_ G j → γ 5 G k j = γ 4 G k j := And.right (zChA hc 1)
  have c6 : ∀ (G : Nat) (k j : Int), ¬ rMdP m0_ G j → γ 6 G k j = γ 5 G k j := And.right (zChA hc 0)
  have l0 : sn7 [ρ 16, ρ 1] (γ 1) 0 0 (γ 2) := hS7 _ _ _ _ _ (zAllA hl 0)
  have l1 : sn42 [ρ 26, ρ 1, ρ 17, ρ 18, ρ 19, ρ 20, ρ 6, ρ 7, ρ 8, ρ 25, ρ 27, ρ 28, ρ 29, ρ 10, ρ 21, ρ 22, ρ 23, ρ 24] (γ 2) 0 1 (γ 3) := hS42 _ _ _ _ _ (zAllA hl 1)
  have l2 : sn7 [ρ 30, ρ 1] (γ 4) 0 0 (γ 5) := hS7 _ _ _ _ _ (zAllA hl 2)
  have l3 : sn6 [ρ 38, ρ 1] (γ 5) 0 (-1) (γ 6) := hS6 _ _ _ _ _ (zAllA hl 3)
  show jn43 [ρ 0, ρ 1, ρ 2, ρ 3, ρ 4, ρ 5, ρ 6, ρ 7, ρ 8, ρ 9, ρ 10, ρ 11, ρ 12, ρ 13, ρ 14] (γ 0) 0 [ρ 0, ρ 1, ρ 2, ρ 3, ρ 4, ρ 5, ρ 6, ρ 7, ρ 8, ρ 9, ρ 10, ρ 11, ρ 12, ρ 13, ρ 14, 0, ρ 38, ρ 31, ρ 32, ρ 19, ρ 20, ρ 35, ρ 36, ρ 37, ρ 24, ρ 25 + 1] (γ 6)
  have hD : en43 (γ 0) (0, [ρ 15], γ 1) = .inl (0, [0], γ 6) := by
    unfold en43
    refine zIP (show (0 : Nat) = 0 by decide) (zLV (γ 1) rfl (zLV (ρ 15) rfl (zLE m1 (zLE m8 (zLE m25 (zIN (show ¬ (ρ 15 = 0) by omega) (zLE (show fn7 [] (γ 1) = (0, 0, γ 2) from l0.symm) ?_)))))))
    refine zLV (γ 2) rfl (zLE m26 (zIP (show ρ 25 ≠ 8 by omega) (zLE (show fn42 [] (γ 2) = (0, 1, γ 3) from l1.symm) (zLV (γ 3) rfl (zIP (show (1 : Int) ≤ 1 by omega) (zIP (show 2 ≤ γ 3 77 0 (ρ 25 + 8 * ρ 8) by omega) (zIN (show ¬ (5 ≤ γ 3 77 0 (ρ 25 + 8 * ρ 8)) by omega) ?_)))))))
    refine zLE c4.symm (zLE (show fn7 [] (γ 4) = (0, 0, γ 5) from l2.symm) (zLV (γ 5) rfl (zLE m43 (zLE (show fn6 [ρ 38] (γ 5) = (0, (-1), γ 6) from l3.symm) (zLV (γ 6) rfl (zIN (show ¬ (0 ≤ -ρ 38 + ρ 1 + (-1)) by omega) ?_))))))
    rfl
  exact zGoo_ato hJ hD
theorem vn43a0_8 {S : Nat → zSpc} (hS6 : zIm S 6 sn6) (hS7 : zIm S 7 sn7) (hS8 : zIm S 8 sn8) (hS42 : zIm S 42 sn42) {a : List Int} {g : rHp} : ∀ (ρ : Nat → Int) (γ : Nat → rHp), jn43 a g 0 (zAg (zNA a43_ 0) ρ) (γ 1) → zO 15 S a g q43a0_8 ρ γ → zGl (fun i vs g1 => jn43 a g i vs g1) (sn43 a g) q43a0_8 ρ γ := by
  intro ρ γ hJ h
  obtain ⟨ha, hg, hr, hf, hm, hc, hl⟩ := h
  have ha : a = [ρ 0, ρ 1, ρ 2, ρ 3, ρ 4, ρ 5, ρ 6, ρ 7, ρ 8, ρ 9, ρ 10, ρ 11, ρ 12, ρ 13, ρ 14] := ha
  subst ha
  subst hg
  have hJ : jn43 [ρ 0, ρ 1, ρ 2, ρ 3, ρ 4, ρ 5, ρ 6, ρ 7, ρ 8, ρ 9, ρ 10, ρ 11, ρ 12, ρ 13, ρ 14] (γ 0) 0 [ρ 0, ρ 1, ρ 2, ρ 3, ρ 4, ρ 5, ρ 6, ρ 7, ρ 8, ρ 9, ρ 10, ρ 11, ρ 12, ρ 13, ρ 14, ρ 15, ρ 16, ρ 17, ρ 18, ρ 19, ρ 20, ρ 21, ρ 22, ρ 23, ρ 24, ρ 25] (γ 1) := hJ
  have r0 : (0 : Int) ≤ ρ 0 ∧ ρ 0 ≤ 2000 := zRnA hr 0
  have r1 : (0 : Int) ≤ ρ 1 ∧ ρ 1 ≤ 2000 := zRnA hr 1
  have r2 : (0 : Int) ≤ ρ 2 ∧ ρ 2 ≤ 12288 := zRnA hr 2
  have r3 : (0 : Int) ≤ ρ 3 ∧ ρ 3 ≤ 12288 := zRnA hr 3
  have r4 : (0 : Int) ≤ ρ 4 ∧ ρ 4 ≤ 64 := zRnA hr 4
  have r5 : (0 : Int) ≤ ρ 5 ∧ ρ 5 ≤ 20 := zRnA hr 5
  have r6 : (0 : Int) ≤ ρ 6 ∧ ρ 6 ≤ 60 := zRnA hr 6
  have r7 : (0 : Int) ≤ ρ 7 ∧ ρ 7 ≤ 60 := zRnA hr 7
  have r8 : (0 : Int) ≤ ρ 8 ∧ ρ 8 ≤ 61 := zRnA hr 8
  have r9 : (0 : Int) ≤ ρ 9 ∧ ρ 9 ≤ 8 := zRnA hr 9
  have r10 : (0 : Int) ≤ ρ 10 ∧ ρ 10 ≤ 2000 := zRnA hr 10
  have r11 : (0 : Int) ≤ ρ 11 ∧ ρ 11 ≤ 2000 := zRnA hr 11
  have r12 : (0 : Int) ≤ ρ 12 ∧ ρ 12 ≤ 2000 := zRnA hr 12
  have r13 : (0 : Int) ≤ ρ 13 ∧ ρ 13 ≤ 3 := zRnA hr 13
  have r14 : ((-2147483648) : Int) ≤ ρ 14 ∧ ρ 14 ≤ 2147483647 := zRnA hr 14
  have r15 : (1 : Int) ≤ ρ 15 ∧ ρ 15 ≤ 1 := zRnA hr 15
  have r16 : (0 : Int) ≤ ρ 16 ∧ ρ 16 ≤ 2000 := zRnA hr 16
  have r17 : (0 : Int) ≤ ρ 17 ∧ ρ 17 ≤ 12288 := zRnA hr 17
  have r18 : (0 : Int) ≤ ρ 18 ∧ ρ 18 ≤ 12288 := zRnA hr 18
  have r19 : (0 : Int) ≤ ρ 19 ∧ ρ 19 ≤ 43 := zRnA hr 19
  have r20 : (0 : Int) ≤ ρ 20 ∧ ρ 20 ≤ 20 := zRnA hr 20
  have r21 : (0 : Int) ≤ ρ 21 ∧ ρ 21 ≤ 2000 := zRnA hr 21
  have r22 : (0 : Int) ≤ ρ 22 ∧ ρ 22 ≤ 2000 := zRnA hr 22
  have r23 : (0 : Int) ≤ ρ 23 ∧ ρ 23 ≤ 3 := zRnA hr 23
  have r24 : ((-2147483648) : Int) ≤ ρ 24 ∧ ρ 24 ≤ 2147483647 := zRnA hr 24
  have r25 : (0 : Int) ≤ ρ 25 ∧ ρ 25 ≤ 7 := zRnA hr 25
  have r26 : (0 : Int) ≤ ρ 26 ∧ ρ 26 ≤ 2000 := zRnA hr 26
  have r27 : (0 : Int) ≤ ρ 27 ∧ ρ 27 ≤ 7 := zRnA hr 27
  have r28 : ((-2147483648) : Int) ≤ ρ 28 ∧ ρ 28 ≤ 1099511640064 := zRnA hr 28
  have r29 : (0 : Int) ≤ ρ 29 ∧ ρ 29 ≤ 19 := zRnA hr 29
  have r30 : (5 : Int) ≤ ρ 30 ∧ ρ 30 ≤ 2000 := zRnA hr 30
  have r31 : (0 : Int) ≤ ρ 31 ∧ ρ 31 ≤ 12288 := zRnA hr 31
  have r32 : (0 : Int) ≤ ρ 32 ∧ ρ 32 ≤ 12288 := zRnA hr 32
  have r33 : (5 : Int) ≤ ρ 33 ∧ ρ 33 ≤ 7 := zRnA hr 33
  have r34 : (0 : Int) ≤ ρ 34 ∧ ρ 34 ≤ 7 := zRnA hr 34
  have r35 : (0 : Int) ≤ ρ 35 ∧ ρ 35 ≤ 2000 := zRnA hr 35
  have r36 : (0 : Int) ≤ ρ 36 ∧ ρ 36 ≤ 2000 := zRnA hr 36
  have r37 : (0 : Int) ≤ ρ 37 ∧ ρ 37 ≤ 2 := zRnA hr 37
  have r38 : ((-2147483648) : Int) ≤ ρ 38 ∧ ρ 38 ≤ 2147483647 := zRnA hr 38
  have r39 : (0 : Int) ≤ ρ 39 ∧ ρ 39 ≤ 2000 := zRnA hr 39
  have r40 : ((-128) : Int) ≤ ρ 40 ∧ ρ 40 ≤ 127 := zRnA hr 40
  have f0 : (0 : Int) ≤ -ρ 39 + ρ 1 + (-1) := zAllA hf 0
  have f1 : (0 : Int) ≤ -ρ 30 + ρ 1 := zAllA hf 1
  have f2 : (0 : Int) ≤ ρ 39 + -ρ 30 := zAllA hf 2
  have f3 : (0 : Int) ≤ -ρ 39 + ρ 1 := zAllA hf 3
  have f4 : (0 : Int) ≤ ρ 26 + (-ρ 17 + -ρ 1) + 12288 := zAllA hf 4
  have f5 : (0 : Int) ≤ ρ 26 + (-ρ 18 + -ρ 1) + 12288 := zAllA hf 5
  have f6 : (0 : Int) ≤ -ρ 26 + ρ 1 := zAllA hf 6
  have f7 : (0 : Int) ≤ 4 * ρ 25 + -ρ 19 + 6 := zAllA hf 7
  have f8 : (0 : Int) ≤ ρ 8 + (-ρ 7 + -ρ 6) := zAllA hf 8
  have f9 : (0 : Int) ≤ -ρ 8 + (ρ 7 + ρ 6) := zAllA hf 9
  have f10 : (0 : Int) ≤ ρ 30 + -ρ 26 + (-1) := zAllA hf 10
  have f11 : (0 : Int) ≤ ρ 31 + -ρ 17 := zAllA hf 11
  have f12 : (0 : Int) ≤ ρ 32 + -ρ 18 := zAllA hf 12
  have f13 : (0 : Int) ≤ -ρ 37 + ρ 1 + (-1) := zAllA hf 13
  have f14 : (0 : Int) ≤ -ρ 26 + ρ 1 + (-1) := zAllA hf 14
  have f15 : (0 : Int) ≤ -ρ 23 + ρ 1 := zAllA hf 15
  have f16 : (0 : Int) ≤ -ρ 31 + (ρ 30 + (-ρ 26 + ρ 17)) := zAllA hf 16
  have f17 : (0 : Int) ≤ -ρ 32 + (ρ 30 + (-ρ 26 + ρ 18)) := zAllA hf 17
  have f18 : (0 : Int) ≤ -ρ 16 + ρ 1 := zAllA hf 18
  have f19 : (0 : Int) ≤ ρ 26 + -ρ 16 := zAllA hf 19
  have f20 : (0 : Int) ≤ ρ 20 + -ρ 5 := zAllA hf 20
  have f21 : (0 : Int) ≤ -ρ 18 + (ρ 16 + -ρ 1) + 12288 := zAllA hf 21
  have f22 : (0 : Int) ≤ -ρ 17 + (ρ 16 + -ρ 1) + 12288 := zAllA hf 22
  have f23 : (0 : Int) ≤ -ρ 18 + (ρ 16 + (ρ 3 + -ρ 0)) := zAllA hf 23
  have f24 : (0 : Int) ≤ -ρ 17 + (ρ 16 + (ρ 2 + -ρ 0)) := zAllA hf 24
  have f25 : (0 : Int) ≤ ρ 25 + -ρ 9 := zAllA hf 25
  have f26 : (0 : Int) ≤ ρ 19 + -ρ 4 := zAllA hf 26
  have f27 : (0 : Int) ≤ ρ 18 + -ρ 3 := zAllA hf 27
  have f28 : (0 : Int) ≤ ρ 17 + -ρ 2 := zAllA hf 28
  have f29 : (0 : Int) ≤ ρ 16 + -ρ 0 := zAllA hf 29
  have f30 : (0 : Int) ≤ 4 * ρ 9 + -ρ 4 + 6 := zAllA hf 30
  have f31 : (0 : Int) ≤ ρ 1 + -ρ 0 := zAllA hf 31
  have f32 : (0 : Int) ≤ -ρ 3 + (-ρ 1 + ρ 0) + 12288 := zAllA hf 32
  have f33 : (0 : Int) ≤ -ρ 2 + (-ρ 1 + ρ 0) + 12288 := zAllA hf 33
  have m0 : γ 0 15 0 35 = ρ 0 := zAllA hm 0
  have m1 : γ 0 15 0 34 = ρ 1 := zAllA hm 1
  have m2 : γ 0 15 0 8 = ρ 2 := zAllA hm 2
  have m3 : γ 0 15 0 9 = ρ 3 := zAllA hm 3
  have m4 : γ 0 15 0 58 = ρ 4 := zAllA hm 4
  have m5 : γ 0 15 0 14 = ρ 5 := zAllA hm 5
  have m6 : γ 0 15 0 32 = ρ 6 := zAllA hm 6
  have m7 : γ 0 15 0 33 = ρ 7 := zAllA hm 7
  have m8 : γ 0 15 0 44 = ρ 8 := zAllA hm 8
  have m9 : γ 0 73 0 (ρ 8) = ρ 9 := zAllA hm 9
  have m10 : γ 0 15 0 36 = ρ 10 := zAllA hm 10
  have m11 : γ 0 15 0 37 = ρ 11 := zAllA hm 11
  have m12 : γ 0 15 0 38 = ρ 12 := zAllA hm 12
  have m13 : γ 0 15 0 40 = ρ 13 := zAllA hm 13
  have m14 : γ 0 15 0 45 = ρ 14 := zAllA hm 14
  have m15 : γ 1 15 0 35 = ρ 16 := zAllA hm 15
  have m16 : γ 1 15 0 8 = ρ 17 := zAllA hm 16
  have m17 : γ 1 15 0 9 = ρ 18 := zAllA hm 17
  have m18 : γ 1 15 0 58 = ρ 19 := zAllA hm 18
  have m19 : γ 1 15 0 14 = ρ 20 := zAllA hm 19
  have m20 : γ 1 15 0 36 = ρ 10 := zAllA hm 20
  have m21 : γ 1 15 0 37 = ρ 21 := zAllA hm 21
  have m22 : γ 1 15 0 38 = ρ 22 := zAllA hm 22
  have m23 : γ 1 15 0 40 = ρ 23 := zAllA hm 23
  have m24 : γ 1 15 0 45 = ρ 24 := zAllA hm 24
  have m25 : γ 1 73 0 (ρ 8) = ρ 25 := zAllA hm 25
  have m26 : γ 2 15 0 35 = ρ 26 := zAllA hm 26
  have m27 : γ 1 77 0 (ρ 25 + 8 * ρ 8) = ρ 27 := zAllA hm 27
  have m28 : γ 1 81 0 (4 * ρ 25 + 32 * ρ 8) = ρ 28 := zAllA hm 28
  have m29 : γ 1 78 0 (ρ 25 + 8 * ρ 8) = ρ 29 := zAllA hm 29
  have m30 : γ 3 15 0 35 = ρ 30 := zAllA hm 30
  have m31 : γ 3 15 0 8 = ρ 31 := zAllA hm 31
  have m32 : γ 3 15 0 9 = ρ 32 := zAllA hm 32
  have m33 : γ 3 15 0 58 = ρ 19 := zAllA hm 33
  have m34 : γ 3 15 0 14 = ρ 20 := zAllA hm 34
  have m35 : γ 3 77 0 (ρ 25 + 8 * ρ 8) = ρ 33 := zAllA hm 35
  have m36 : γ 3 81 0 (4 * ρ 25 + 32 * ρ 8) = ρ 34 := zAllA hm 36
  have m37 : γ 3 78 0 (ρ 25 + 8 * ρ 8) = ρ 29 := zAllA hm 37
  have m38 : γ 3 15 0 36 = ρ 10 := zAllA hm 38
  have m39 : γ 3 15 0 37 = ρ 35 := zAllA hm 39
  have m40 : γ 3 15 0 38 = ρ 36 := zAllA hm 40
  have m41 : γ 3 15 0 40 = ρ 37 := zAllA hm 41
  have m42 : γ 3 15 0 45 = ρ 38 := zAllA hm 42
  have m43 : γ 5 15 0 35 = ρ 39 := zAllA hm 43
  have c1 : ∀ (G : Nat) (k j : Int), ¬ rMdP m27_ G j → γ 1 G k j = γ 0 G k j := And.right (zChA hc 5)
  have c2 : ∀ (G : Nat) (k j : Int), ¬ rMdP m6_ G j → γ 2 G k j = γ 1 G k j := And.right (zChA hc 4)
  have c3 : ∀ (G : Nat) (k j : Int), ¬ rMdP m25_ G j → γ 3 G k j = γ 2 G k j := And.right (zChA hc 3)
  have c4 : γ 4 = rUp (γ 3) 73 0 (ρ 8) (ρ 25 + 1) := And.right (zChA hc 2)
  have c5 : ∀ (G : Nat) (k j : Int), ¬ rMdP m6_ G j → γ 5 G k j = γ 4 G k j := And.right (zChA hc 1)
  have c6 : ∀ (G : Nat) (k j : Int), ¬ rMdP m0_ G j → γ 6 G k j = γ 5 G k j := And.right (zChA hc 0)
  have l0 : sn7 [ρ 16, ρ 1] (γ 1) 0 0 (γ 2) := hS7 _ _ _ _ _ (zAllA hl 0)
  have l1 : sn42 [ρ 26, ρ 1, ρ 17, ρ 18, ρ 19, ρ 20, ρ 6, ρ 7, ρ 8, ρ 25, ρ 27, ρ 28, ρ 29, ρ 10, ρ 21, ρ 22, ρ 23, ρ 24] (γ 2) 0 1 (γ 3) := hS42 _ _ _ _ _ (zAllA hl 1)
  have l2 : sn7 [ρ 30, ρ 1] (γ 4) 0 0 (γ 5) := hS7 _ _ _ _ _ (zAllA hl 2)
  have l3 : sn6 [ρ 39, ρ 1] (γ 5) 0 (ρ 40) (γ 6) := hS6 _ _ _ _ _ (zAllA hl 3)
  have l4 : ρ 40 ≠ 44 := zAllA hl 4
  show jn43 [ρ 0, ρ 1, ρ 2, ρ 3, ρ 4, ρ 5, ρ 6, ρ 7, ρ 8, ρ 9, ρ 10, ρ 11, ρ 12, ρ 13, ρ 14] (γ 0) 0 [ρ 0, ρ 1, ρ 2, ρ 3, ρ 4, ρ 5, ρ 6, ρ 7, ρ 8, ρ 9, ρ 10, ρ 11, ρ 12, ρ 13, ρ 14, 0, ρ 39, ρ 31, ρ 32, ρ 19, ρ 20, ρ 35, ρ 36, ρ 37, ρ 38, ρ 25 + 1] (γ 6)
  have hD : en43 (γ 0) (0, [ρ 15], γ 1) = .inl (0, [0], γ 6) := by
    unfold en43
    refine zIP (show (0 : Nat) = 0 by decide) (zLV (γ 1) rfl (zLV (ρ 15) rfl (zLE m1 (zLE m8 (zLE m25 (zIN (show ¬ (ρ 15 = 0) by omega) (zLE (show fn7 [] (γ 1) = (0, 0, γ 2) from l0.symm) ?_)))))))
    refine zLV (γ 2) rfl (zLE m26 (zIP (show ρ 25 ≠ 8 by omega) (zLE (show fn42 [] (γ 2) = (0, 1, γ 3) from l1.symm) (zLV (γ 3) rfl (zIP (show (1 : Int) ≤ 1 by omega) (zIP (show 2 ≤ γ 3 77 0 (ρ 25 + 8 * ρ 8) by omega) (zIP (show 5 ≤ γ 3 77 0 (ρ 25 + 8 * ρ 8) by omega) ?_)))))))
    refine zLE c4.symm (zLE (show fn7 [] (γ 4) = (0, 0, γ 5) from l2.symm) (zLV (γ 5) rfl (zLE m43 (zLE (show fn6 [ρ 39] (γ 5) = (0, ρ 40, γ 6) from l3.symm) (zLV (γ 6) rfl (zIP (show 0 ≤ -ρ 39 + ρ 1 + (-1) by omega) (zLV (ρ 40) rfl ?_)))))))
    refine zIP (show ρ 40 ≠ 44 by omega) ?_
    rfl
  exact zGoo_ato hJ hD
theorem vn43a0_9 {S : Nat → zSpc} (hS6 : zIm S 6 sn6) (hS7 : zIm S 7 sn7) (hS8 : zIm S 8 sn8) (hS42 : zIm S 42 sn42) {a : List Int} {g : rHp} : ∀ (ρ : Nat → Int) (γ : Nat → rHp), jn43 a g 0 (zAg (zNA a43_ 0) ρ) (γ 1) → zO 15 S a g q43a0_9 ρ γ → zGl (fun i vs g1 => jn43 a g i vs g1) (sn43 a g) q43a0_9 ρ γ := by
  intro ρ γ hJ h
  obtain ⟨ha, hg, hr, hf, hm, hc, hl⟩ := h
  have ha : a = [ρ 0, ρ 1, ρ 2, ρ 3, ρ 4, ρ 5, ρ 6, ρ 7, ρ 8, ρ 9, ρ 10, ρ 11, ρ 12, ρ 13, ρ 14] := ha
  subst ha
  subst hg
  have hJ : jn43 [ρ 0, ρ 1, ρ 2, ρ 3, ρ 4, ρ 5, ρ 6, ρ 7, ρ 8, ρ 9, ρ 10, ρ 11, ρ 12, ρ 13, ρ 14] (γ 0) 0 [ρ 0, ρ 1, ρ 2, ρ 3, ρ 4, ρ 5, ρ 6, ρ 7, ρ 8, ρ 9, ρ 10, ρ 11, ρ 12, ρ 13, ρ 14, ρ 15, ρ 16, ρ 17, ρ 18, ρ 19, ρ 20, ρ 21, ρ 22, ρ 23, ρ 24, ρ 25] (γ 1) := hJ
  have r0 : (0 : Int) ≤ ρ 0 ∧ ρ 0 ≤ 2000 := zRnA hr 0
  have r1 : (0 : Int) ≤ ρ 1 ∧ ρ 1 ≤ 2000 := zRnA hr 1
  have r2 : (0 : Int) ≤ ρ 2 ∧ ρ 2 ≤ 12288 := zRnA hr 2
  have r3 : (0 : Int) ≤ ρ 3 ∧ ρ 3 ≤ 12288 := zRnA hr 3
  have r4 : (0 : Int) ≤ ρ 4 ∧ ρ 4 ≤ 64 := zRnA hr 4
  have r5 : (0 : Int) ≤ ρ 5 ∧ ρ 5 ≤ 20 := zRnA hr 5
  have r6 : (0 : Int) ≤ ρ 6 ∧ ρ 6 ≤ 60 := zRnA hr 6
  have r7 : (0 : Int) ≤ ρ 7 ∧ ρ 7 ≤ 60 := zRnA hr 7
  have r8 : (0 : Int) ≤ ρ 8 ∧ ρ 8 ≤ 61 := zRnA hr 8
  have r9 : (0 : Int) ≤ ρ 9 ∧ ρ 9 ≤ 8 := zRnA hr 9
  have r10 : (0 : Int) ≤ ρ 10 ∧ ρ 10 ≤ 2000 := zRnA hr 10
  have r11 : (0 : Int) ≤ ρ 11 ∧ ρ 11 ≤ 2000 := zRnA hr 11
  have r12 : (0 : Int) ≤ ρ 12 ∧ ρ 12 ≤ 2000 := zRnA hr 12
  have r13 : (0 : Int) ≤ ρ 13 ∧ ρ 13 ≤ 3 := zRnA hr 13
  have r14 : ((-2147483648) : Int) ≤ ρ 14 ∧ ρ 14 ≤ 2147483647 := zRnA hr 14
  have r15 : (1 : Int) ≤ ρ 15 ∧ ρ 15 ≤ 1 := zRnA hr 15
  have r16 : (0 : Int) ≤ ρ 16 ∧ ρ 16 ≤ 2000 := zRnA hr 16
  have r17 : (0 : Int) ≤ ρ 17 ∧ ρ 17 ≤ 12288 := zRnA hr 17
  have r18 : (0 : Int) ≤ ρ 18 ∧ ρ 18 ≤ 12288 := zRnA hr 18
  have r19 : (0 : Int) ≤ ρ 19 ∧ ρ 19 ≤ 43 := zRnA hr 19
  have r20 : (0 : Int) ≤ ρ 20 ∧ ρ 20 ≤ 20 := zRnA hr 20
  have r21 : (0 : Int) ≤ ρ 21 ∧ ρ 21 ≤ 2000 := zRnA hr 21
  have r22 : (0 : Int) ≤ ρ 22 ∧ ρ 22 ≤ 2000 := zRnA hr 22
  have r23 : (0 : Int) ≤ ρ 23 ∧ ρ 23 ≤ 3 := zRnA hr 23
  have r24 : ((-2147483648) : Int) ≤ ρ 24 ∧ ρ 24 ≤ 2147483647 := zRnA hr 24
  have r25 : (0 : Int) ≤ ρ 25 ∧ ρ 25 ≤ 7 := zRnA hr 25
  have r26 : (0 : Int) ≤ ρ 26 ∧ ρ 26 ≤ 2000 := zRnA hr 26
  have r27 : (0 : Int) ≤ ρ 27 ∧ ρ 27 ≤ 7 := zRnA hr 27
  have r28 : ((-2147483648) : Int) ≤ ρ 28 ∧ ρ 28 ≤ 1099511640064 := zRnA hr 28
  have r29 : (0 : Int) ≤ ρ 29 ∧ ρ 29 ≤ 19 := zRnA hr 29
  have r30 : (5 : Int) ≤ ρ 30 ∧ ρ 30 ≤ 2000 := zRnA hr 30
  have r31 : (0 : Int) ≤ ρ 31 ∧ ρ 31 ≤ 12288 := zRnA hr 31
  have r32 : (0 : Int) ≤ ρ 32 ∧ ρ 32 ≤ 12288 := zRnA hr 32
  have r33 : (5 : Int) ≤ ρ 33 ∧ ρ 33 ≤ 7 := zRnA hr 33
  have r34 : (0 : Int) ≤ ρ 34 ∧ ρ 34 ≤ 7 := zRnA hr 34
  have r35 : (0 : Int) ≤ ρ 35 ∧ ρ 35 ≤ 2000 := zRnA hr 35
  have r36 : (0 : Int) ≤ ρ 36 ∧ ρ 36 ≤ 2000 := zRnA hr 36
  have r37 : (0 : Int) ≤ ρ 37 ∧ ρ 37 ≤ 2 := zRnA hr 37
  have r38 : ((-2147483648) : Int) ≤ ρ 38 ∧ ρ 38 ≤ 2147483647 := zRnA hr 38
  have r39 : (0 : Int) ≤ ρ 39 ∧ ρ 39 ≤ 2000 := zRnA hr 39
  have r40 : (44 : Int) ≤ ρ 40 ∧ ρ 40 ≤ 44 := zRnA hr 40
  have f0 : (0 : Int) ≤ -ρ 39 + ρ 1 + (-1) := zAllA hf 0
  have f1 : (0 : Int) ≤ -ρ 30 + ρ 1 := zAllA hf 1
  have f2 : (0 : Int) ≤ ρ 39 + -ρ 30 := zAllA hf 2
  have f3 : (0 : Int) ≤ -ρ 39 + ρ 1 := zAllA hf 3
  have f4 : (0 : Int) ≤ ρ 26 + (-ρ 17 + -ρ 1) + 12288 := zAllA hf 4
  have f5 : (0 : Int) ≤ ρ 26 + (-ρ 18 + -ρ 1) + 12288 := zAllA hf 5
  have f6 : (0 : Int) ≤ -ρ 26 + ρ 1 := zAllA hf 6
  have f7 : (0 : Int) ≤ 4 * ρ 25 + -ρ 19 + 6 := zAllA hf 7
  have f8 : (0 : Int) ≤ ρ 8 + (-ρ 7 + -ρ 6) := zAllA hf 8
  have f9 : (0 : Int) ≤ -ρ 8 + (ρ 7 + ρ 6) := zAllA hf 9
  have f10 : (0 : Int) ≤ ρ 30 + -ρ 26 + (-1) := zAllA hf 10
  have f11 : (0 : Int) ≤ ρ 31 + -ρ 17 := zAllA hf 11
  have f12 : (0 : Int) ≤ ρ 32 + -ρ 18 := zAllA hf 12
  have f13 : (0 : Int) ≤ -ρ 37 + ρ 1 + (-1) := zAllA hf 13
  have f14 : (0 : Int) ≤ -ρ 26 + ρ 1 + (-1) := zAllA hf 14
  have f15 : (0 : Int) ≤ -ρ 23 + ρ 1 := zAllA hf 15
  have f16 : (0 : Int) ≤ -ρ 31 + (ρ 30 + (-ρ 26 + ρ 17)) := zAllA hf 16
  have f17 : (0 : Int) ≤ -ρ 32 + (ρ 30 + (-ρ 26 + ρ 18)) := zAllA hf 17
  have f18 : (0 : Int) ≤ -ρ 16 + ρ 1 := zAllA hf 18
  have f19 : (0 : Int) ≤ ρ 26 + -ρ 16 := zAllA hf 19
  have f20 : (0 : Int) ≤ ρ 20 + -ρ 5 := zAllA hf 20
  have f21 : (0 : Int) ≤ -ρ 18 + (ρ 16 + -ρ 1) + 12288 := zAllA hf 21
  have f22 : (0 : Int) ≤ -ρ 17 + (ρ 16 + -ρ 1) + 12288 := zAllA hf 22
  have f23 : (0 : Int) ≤ -ρ 18 + (ρ 16 + (ρ 3 + -ρ 0)) := zAllA hf 23
  have f24 : (0 : Int) ≤ -ρ 17 + (ρ 16 + (ρ 2 + -ρ 0)) := zAllA hf 24
  have f25 : (0 : Int) ≤ ρ 25 + -ρ 9 := zAllA hf 25
  have f26 : (0 : Int) ≤ ρ 19 + -ρ 4 := zAllA hf 26
  have f27 : (0 : Int) ≤ ρ 18 + -ρ 3 := zAllA hf 27
  have f28 : (0 : Int) ≤ ρ 17 + -ρ 2 := zAllA hf 28
  have f29 : (0 : Int) ≤ ρ 16 + -ρ 0 := zAllA hf 29
  have f30 : (0 : Int) ≤ 4 * ρ 9 + -ρ 4 + 6 := zAllA hf 30
  have f31 : (0 : Int) ≤ ρ 1 + -ρ 0 := zAllA hf 31
  have f32 : (0 : Int) ≤ -ρ 3 + (-ρ 1 + ρ 0) + 12288 := zAllA hf 32
  have f33 : (0 : Int) ≤ -ρ 2 + (-ρ 1 + ρ 0) + 12288 := zAllA hf 33
  have m0 : γ 0 15 0 35 = ρ 0 := zAllA hm 0
  have m1 : γ 0 15 0 34 = ρ 1 := zAllA hm 1
  have m2 : γ 0 15 0 8 = ρ 2 := zAllA hm 2
  have m3 : γ 0 15 0 9 = ρ 3 := zAllA hm 3
  have m4 : γ 0 15 0 58 = ρ 4 := zAllA hm 4
  have m5 : γ 0 15 0 14 = ρ 5 := zAllA hm 5
  have m6 : γ 0 15 0 32 = ρ 6 := zAllA hm 6
  have m7 : γ 0 15 0 33 = ρ 7 := zAllA hm 7
  have m8 : γ 0 15 0 44 = ρ 8 := zAllA hm 8
  have m9 : γ 0 73 0 (ρ 8) = ρ 9 := zAllA hm 9
  have m10 : γ 0 15 0 36 = ρ 10 := zAllA hm 10
  have m11 : γ 0 15 0 37 = ρ 11 := zAllA hm 11
  have m12 : γ 0 15 0 38 = ρ 12 := zAllA hm 12
  have m13 : γ 0 15 0 40 = ρ 13 := zAllA hm 13
  have m14 : γ 0 15 0 45 = ρ 14 := zAllA hm 14
  have m15 : γ 1 15 0 35 = ρ 16 := zAllA hm 15
  have m16 : γ 1 15 0 8 = ρ 17 := zAllA hm 16
  have m17 : γ 1 15 0 9 = ρ 18 := zAllA hm 17
  have m18 : γ 1 15 0 58 = ρ 19 := zAllA hm 18
  have m19 : γ 1 15 0 14 = ρ 20 := zAllA hm 19
  have m20 : γ 1 15 0 36 = ρ 10 := zAllA hm 20
  have m21 : γ 1 15 0 37 = ρ 21 := zAllA hm 21
  have m22 : γ 1 15 0 38 = ρ 22 := zAllA hm 22
  have m23 : γ 1 15 0 40 = ρ 23 := zAllA hm 23
  have m24 : γ 1 15 0 45 = ρ 24 := zAllA hm 24
  have m25 : γ 1 73 0 (ρ 8) = ρ 25 := zAllA hm 25
  have m26 : γ 2 15 0 35 = ρ 26 := zAllA hm 26
  have m27 : γ 1 77 0 (ρ 25 + 8 * ρ 8) = ρ 27 := zAllA hm 27
  have m28 : γ 1 81 0 (4 * ρ 25 + 32 * ρ 8) = ρ 28 := zAllA hm 28
  have m29 : γ 1 78 0 (ρ 25 + 8 * ρ 8) = ρ 29 := zAllA hm 29
  have m30 : γ 3 15 0 35 = ρ 30 := zAllA hm 30
  have m31 : γ 3 15 0 8 = ρ 31 := zAllA hm 31
  have m32 : γ 3 15 0 9 = ρ 32 := zAllA hm 32
  have m33 : γ 3 15 0 58 = ρ 19 := zAllA hm 33
  have m34 : γ 3 15 0 14 = ρ 20 := zAllA hm 34
  have m35 : γ 3 77 0 (ρ 25 + 8 * ρ 8) = ρ 33 := zAllA hm 35
  have m36 : γ 3 81 0 (4 * ρ 25 + 32 * ρ 8) = ρ 34 := zAllA hm 36
  have m37 : γ 3 78 0 (ρ 25 + 8 * ρ 8) = ρ 29 := zAllA hm 37
  have m38 : γ 3 15 0 36 = ρ 10 := zAllA hm 38
  have m39 : γ 3 15 0 37 = ρ 35 := zAllA hm 39
  have m40 : γ 3 15 0 38 = ρ 36 := zAllA hm 40
  have m41 : γ 3 15 0 40 = ρ 37 := zAllA hm 41
  have m42 : γ 3 15 0 45 = ρ 38 := zAllA hm 42
  have m43 : γ 5 15 0 35 = ρ 39 := zAllA hm 43
  have c1 : ∀ (G : Nat) (k j : Int), ¬ rMdP m27_ G j → γ 1 G k j = γ 0 G k j := And.right (zChA hc 6)
  have c2 : ∀ (G : Nat) (k j : Int), ¬ rMdP m6_ G j → γ 2 G k j = γ 1 G k j := And.right (zChA hc 5)
  have c3 : ∀ (G : Nat) (k j : Int), ¬ rMdP m25_ G j → γ 3 G k j = γ 2 G k j := And.right (zChA hc 4)
  have c4 : γ 4 = rUp (γ 3) 73 0 (ρ 8) (ρ 25 + 1) := And.right (zChA hc 3)
  have c5 : ∀ (G : Nat) (k j : Int), ¬ rMdP m6_ G j → γ 5 G k j = γ 4 G k j := And.right (zChA hc 2)
  have c6 : ∀ (G : Nat) (k j : Int), ¬ rMdP m0_ G j → γ 6 G k j = γ 5 G k j := And.right (zChA hc 1)
  have c7 : γ 7 = rUp (γ 6) 15 0 35 (ρ 39 + 1) := And.right (zChA hc 0)
  have l0 : sn7 [ρ 16, ρ 1] (γ 1) 0 0 (γ 2) := hS7 _ _ _ _ _ (zAllA hl 0)
  have l1 : sn42 [ρ 26, ρ 1, ρ 17, ρ 18, ρ 19, ρ 20, ρ 6, ρ 7, ρ 8, ρ 25, ρ 27, ρ 28, ρ 29, ρ 10, ρ 21, ρ 22, ρ 23, ρ 24] (γ 2) 0 1 (γ 3) := hS42 _ _ _ _ _ (zAllA hl 1)
  have l2 : sn7 [ρ 30, ρ 1] (γ 4) 0 0 (γ 5) := hS7 _ _ _ _ _ (zAllA hl 2)
  have l3 : sn6 [ρ 39, ρ 1] (γ 5) 0 (ρ 40) (γ 6) := hS6 _ _ _ _ _ (zAllA hl 3)
  show jn43 [ρ 0, ρ 1, ρ 2, ρ 3, ρ 4, ρ 5, ρ 6, ρ 7, ρ 8, ρ 9, ρ 10, ρ 11, ρ 12, ρ 13, ρ 14] (γ 0) 0 [ρ 0, ρ 1, ρ 2, ρ 3, ρ 4, ρ 5, ρ 6, ρ 7, ρ 8, ρ 9, ρ 10, ρ 11, ρ 12, ρ 13, ρ 14, 1, ρ 39 + 1, ρ 31, ρ 32, ρ 19, ρ 20, ρ 35, ρ 36, ρ 37, ρ 38, ρ 25 + 1] (γ 7)
  have hD : en43 (γ 0) (0, [ρ 15], γ 1) = .inl (0, [1], γ 7) := by
    unfold en43
    refine zIP (show (0 : Nat) = 0 by decide) (zLV (γ 1) rfl (zLV (ρ 15) rfl (zLE m1 (zLE m8 (zLE m25 (zIN (show ¬ (ρ 15 = 0) by omega) (zLE (show fn7 [] (γ 1) = (0, 0, γ 2) from l0.symm) ?_)))))))
    refine zLV (γ 2) rfl (zLE m26 (zIP (show ρ 25 ≠ 8 by omega) (zLE (show fn42 [] (γ 2) = (0, 1, γ 3) from l1.symm) (zLV (γ 3) rfl (zIP (show (1 : Int) ≤ 1 by omega) (zIP (show 2 ≤ γ 3 77 0 (ρ 25 + 8 * ρ 8) by omega) (zIP (show 5 ≤ γ 3 77 0 (ρ 25 + 8 * ρ 8) by omega) ?_)))))))
    refine zLE c4.symm (zLE (show fn7 [] (γ 4) = (0, 0, γ 5) from l2.symm) (zLV (γ 5) rfl (zLE m43 (zLE (show fn6 [ρ 39] (γ 5) = (0, ρ 40, γ 6) from l3.symm) (zLV (γ 6) rfl (zIP (show 0 ≤ -ρ 39 + ρ 1 + (-1) by omega) (zLV (ρ 40) rfl ?_)))))))
    refine zIN (show ¬ (ρ 40 ≠ 44) by omega) (zLE c7.symm ?_)
    rfl
  exact zGoo_ato hJ hD
theorem vn43a0_10 {S : Nat → zSpc} (hS6 : zIm S 6 sn6) (hS7 : zIm S 7 sn7) (hS8 : zIm S 8 sn8) (hS42 : zIm S 42 sn42) {a : List Int} {g : rHp} : ∀ (ρ : Nat → Int) (γ : Nat → rHp), jn43 a g 0 (zAg (zNA a43_ 0) ρ) (γ 1) → zO 15 S a g q43a0_10 ρ γ → zGl (fun i vs g1 => jn43 a g i vs g1) (sn43 a g) q43a0_10 ρ γ := by
  intro ρ γ hJ h
  obtain ⟨ha, hg, hr, hf, hm, hc, hl⟩ := h
  have ha : a = [ρ 0, ρ 1, ρ 2, ρ 3, ρ 4, ρ 5, ρ 6, ρ 7, ρ 8, ρ 9, ρ 10, ρ 11, ρ 12, ρ 13, ρ 14] := ha
  subst ha
  subst hg
  have hJ : jn43 [ρ 0, ρ 1, ρ 2, ρ 3, ρ 4, ρ 5, ρ 6, ρ 7, ρ 8, ρ 9, ρ 10, ρ 11, ρ 12, ρ 13, ρ 14] (γ 0) 0 [ρ 0, ρ 1, ρ 2, ρ 3, ρ 4, ρ 5, ρ 6, ρ 7, ρ 8, ρ 9, ρ 10, ρ 11, ρ 12, ρ 13, ρ 14, ρ 15, ρ 16, ρ 17, ρ 18, ρ 19, ρ 20, ρ 21, ρ 22, ρ 23, ρ 24, ρ 25] (γ 1) := hJ
  have r0 : (0 : Int) ≤ ρ 0 ∧ ρ 0 ≤ 2000 := zRnA hr 0
  have r1 : (0 : Int) ≤ ρ 1 ∧ ρ 1 ≤ 2000 := zRnA hr 1
  have r2 : (0 : Int) ≤ ρ 2 ∧ ρ 2 ≤ 12288 := zRnA hr 2
  have r3 : (0 : Int) ≤ ρ 3 ∧ ρ 3 ≤ 12288 := zRnA hr 3
  have r4 : (0 : Int) ≤ ρ 4 ∧ ρ 4 ≤ 64 := zRnA hr 4
  have r5 : (0 : Int) ≤ ρ 5 ∧ ρ 5 ≤ 20 := zRnA hr 5
  have r6 : (0 : Int) ≤ ρ 6 ∧ ρ 6 ≤ 60 := zRnA hr 6
  have r7 : (0 : Int) ≤ ρ 7 ∧ ρ 7 ≤ 60 := zRnA hr 7
  have r8 : (0 : Int) ≤ ρ 8 ∧ ρ 8 ≤ 61 := zRnA hr 8
  have r9 : (0 : Int) ≤ ρ 9 ∧ ρ 9 ≤ 8 := zRnA hr 9
  have r10 : (0 : Int) ≤ ρ 10 ∧ ρ 10 ≤ 2000 := zRnA hr 10
  have r11 : (0 : Int) ≤ ρ 11 ∧ ρ 11 ≤ 2000 := zRnA hr 11
  have r12 : (0 : Int) ≤ ρ 12 ∧ ρ 12 ≤ 2000 := zRnA hr 12
  have r13 : (0 : Int) ≤ ρ 13 ∧ ρ 13 ≤ 3 := zRnA hr 13
  have r14 : ((-2147483648) : Int) ≤ ρ 14 ∧ ρ 14 ≤ 2147483647 := zRnA hr 14
  have r15 : (1 : Int) ≤ ρ 15 ∧ ρ 15 ≤ 1 := zRnA hr 15
  have r16 : (0 : Int) ≤ ρ 16 ∧ ρ 16 ≤ 2000 := zRnA hr 16
  have r17 : (0 : Int) ≤ ρ 17 ∧ ρ 17 ≤ 12288 := zRnA hr 17
  have r18 : (0 : Int) ≤ ρ 18 ∧ ρ 18 ≤ 12288 := zRnA hr 18
  have r19 : (0 : Int) ≤ ρ 19 ∧ ρ 19 ≤ 43 := zRnA hr 19
  have r20 : (0 : Int) ≤ ρ 20 ∧ ρ 20 ≤ 20 := zRnA hr 20
  have r21 : (0 : Int) ≤ ρ 21 ∧ ρ 21 ≤ 2000 := zRnA hr 21
  have r22 : (0 : Int) ≤ ρ 22 ∧ ρ 22 ≤ 2000 := zRnA hr 22
  have r23 : (0 : Int) ≤ ρ 23 ∧ ρ 23 ≤ 3 := zRnA hr 23
  have r24 : ((-2147483648) : Int) ≤ ρ 24 ∧ ρ 24 ≤ 2147483647 := zRnA hr 24
  have r25 : (0 : Int) ≤ ρ 25 ∧ ρ 25 ≤ 7 := zRnA hr 25
  have r26 : (0 : Int) ≤ ρ 26 ∧ ρ 26 ≤ 2000 := zRnA hr 26
  have r27 : (0 : Int) ≤ ρ 27 ∧ ρ 27 ≤ 7 := zRnA hr 27
  have r28 : ((-2147483648) : Int) ≤ ρ 28 ∧ ρ 28 ≤ 1099511640064 := zRnA hr 28
  have r29 : (0 : Int) ≤ ρ 29 ∧ ρ 29 ≤ 19 := zRnA hr 29
  have r30 : (5 : Int) ≤ ρ 30 ∧ ρ 30 ≤ 2000 := zRnA hr 30
  have r31 : (0 : Int) ≤ ρ 31 ∧ ρ 31 ≤ 12288 := zRnA hr 31
  have r32 : (0 : Int) ≤ ρ 32 ∧ ρ 32 ≤ 12288 := zRnA hr 32
  have r33 : (5 : Int) ≤ ρ 33 ∧ ρ 33 ≤ 7 := zRnA hr 33
  have r34 : (0 : Int) ≤ ρ 34 ∧ ρ 34 ≤ 7 := zRnA hr 34
  have r35 : (0 : Int) ≤ ρ 35 ∧ ρ 35 ≤ 2000 := zRnA hr 35
  have r36 : (0 : Int) ≤ ρ 36 ∧ ρ 36 ≤ 2000 := zRnA hr 36
  have r37 : (0 : Int) ≤ ρ 37 ∧ ρ 37 ≤ 2 := zRnA hr 37
  have r38 : ((-2147483648) : Int) ≤ ρ 38 ∧ ρ 38 ≤ 2147483647 := zRnA hr 38
  have r39 : (0 : Int) ≤ ρ 39 ∧ ρ 39 ≤ 2000 := zRnA hr 39
  have f0 : (0 : Int) ≤ ρ 39 + -ρ 1 := zAllA hf 0
  have f1 : (0 : Int) ≤ -ρ 30 + ρ 1 := zAllA hf 1
  have f2 : (0 : Int) ≤ ρ 39 + -ρ 30 := zAllA hf 2
  have f3 : (0 : Int) ≤ -ρ 39 + ρ 1 := zAllA hf 3
  have f4 : (0 : Int) ≤ ρ 26 + (-ρ 17 + -ρ 1) + 12288 := zAllA hf 4
  have f5 : (0 : Int) ≤ ρ 26 + (-ρ 18 + -ρ 1) + 12288 := zAllA hf 5
  have f6 : (0 : Int) ≤ -ρ 26 + ρ 1 := zAllA hf 6
  have f7 : (0 : Int) ≤ 4 * ρ 25 + -ρ 19 + 6 := zAllA hf 7
  have f8 : (0 : Int) ≤ ρ 8 + (-ρ 7 + -ρ 6) := zAllA hf 8
  have f9 : (0 : Int) ≤ -ρ 8 + (ρ 7 + ρ 6) := zAllA hf 9
  have f10 : (0 : Int) ≤ ρ 30 + -ρ 26 + (-1) := zAllA hf 10
  have f11 : (0 : Int) ≤ ρ 31 + -ρ 17 := zAllA hf 11
  have f12 : (0 : Int) ≤ ρ 32 + -ρ 18 := zAllA hf 12
  have f13 : (0 : Int) ≤ -ρ 37 + ρ 1 + (-1) := zAllA hf 13
  have f14 : (0 : Int) ≤ -ρ 26 + ρ 1 + (-1) := zAllA hf 14
  have f15 : (0 : Int) ≤ -ρ 23 + ρ 1 := zAllA hf 15
  have f16 : (0 : Int) ≤ -ρ 31 + (ρ 30 + (-ρ 26 + ρ 17)) := zAllA hf 16
  have f17 : (0 : Int) ≤ -ρ 32 + (ρ 30 + (-ρ 26 + ρ 18)) := zAllA hf 17
  have f18 : (0 : Int) ≤ -ρ 16 + ρ 1 := zAllA hf 18
  have f19 : (0 : Int) ≤ ρ 26 + -ρ 16 := zAllA hf 19
  have f20 : (0 : Int) ≤ ρ 20 + -ρ 5 := zAllA hf 20
  have f21 : (0 : Int) ≤ -ρ 18 + (ρ 16 + -ρ 1) + 12288 := zAllA hf 21
  have f22 : (0 : Int) ≤ -ρ 17 + (ρ 16 + -ρ 1) + 12288 := zAllA hf 22
  have f23 : (0 : Int) ≤ -ρ 18 + (ρ 16 + (ρ 3 + -ρ 0)) := zAllA hf 23
  have f24 : (0 : Int) ≤ -ρ 17 + (ρ 16 + (ρ 2 + -ρ 0)) := zAllA hf 24
  have f25 : (0 : Int) ≤ ρ 25 + -ρ 9 := zAllA hf 25
  have f26 : (0 : Int) ≤ ρ 19 + -ρ 4 := zAllA hf 26
  have f27 : (0 : Int) ≤ ρ 18 + -ρ 3 := zAllA hf 27
  have f28 : (0 : Int) ≤ ρ 17 + -ρ 2 := zAllA hf 28
  have f29 : (0 : Int) ≤ ρ 16 + -ρ 0 := zAllA hf 29
  have f30 : (0 : Int) ≤ 4 * ρ 9 + -ρ 4 + 6 := zAllA hf 30
  have f31 : (0 : Int) ≤ ρ 1 + -ρ 0 := zAllA hf 31
  have f32 : (0 : Int) ≤ -ρ 3 + (-ρ 1 + ρ 0) + 12288 := zAllA hf 32
  have f33 : (0 : Int) ≤ -ρ 2 + (-ρ 1 + ρ 0) + 12288 := zAllA hf 33
  have m0 : γ 0 15 0 35 = ρ 0 := zAllA hm 0
  have m1 : γ 0 15 0 34 = ρ 1 := zAllA hm 1
  have m2 : γ 0 15 0 8 = ρ 2 := zAllA hm 2
  have m3 : γ 0 15 0 9 = ρ 3 := zAllA hm 3
  have m4 : γ 0 15 0 58 = ρ 4 := zAllA hm 4
  have m5 : γ 0 15 0 14 = ρ 5 := zAllA hm 5
  have m6 : γ 0 15 0 32 = ρ 6 := zAllA hm 6
  have m7 : γ 0 15 0 33 = ρ 7 := zAllA hm 7
  have m8 : γ 0 15 0 44 = ρ 8 := zAllA hm 8
  have m9 : γ 0 73 0 (ρ 8) = ρ 9 := zAllA hm 9
  have m10 : γ 0 15 0 36 = ρ 10 := zAllA hm 10
  have m11 : γ 0 15 0 37 = ρ 11 := zAllA hm 11
  have m12 : γ 0 15 0 38 = ρ 12 := zAllA hm 12
  have m13 : γ 0 15 0 40 = ρ 13 := zAllA hm 13
  have m14 : γ 0 15 0 45 = ρ 14 := zAllA hm 14
  have m15 : γ 1 15 0 35 = ρ 16 := zAllA hm 15
  have m16 : γ 1 15 0 8 = ρ 17 := zAllA hm 16
  have m17 : γ 1 15 0 9 = ρ 18 := zAllA hm 17
  have m18 : γ 1 15 0 58 = ρ 19 := zAllA hm 18
  have m19 : γ 1 15 0 14 = ρ 20 := zAllA hm 19
  have m20 : γ 1 15 0 36 = ρ 10 := zAllA hm 20
  have m21 : γ 1 15 0 37 = ρ 21 := zAllA hm 21
  have m22 : γ 1 15 0 38 = ρ 22 := zAllA hm 22
  have m23 : γ 1 15 0 40 = ρ 23 := zAllA hm 23
  have m24 : γ 1 15 0 45 = ρ 24 := zAllA hm 24
  have m25 : γ 1 73 0 (ρ 8) = ρ 25 := zAllA hm 25
  have m26 : γ 2 15 0 35 = ρ 26 := zAllA hm 26
  have m27 : γ 1 77 0 (ρ 25 + 8 * ρ 8) = ρ 27 := zAllA hm 27
  have m28 : γ 1 81 0 (4 * ρ 25 + 32 * ρ 8) = ρ 28 := zAllA hm 28
  have m29 : γ 1 78 0 (ρ 25 + 8 * ρ 8) = ρ 29 := zAllA hm 29
  have m30 : γ 3 15 0 35 = ρ 30 := zAllA hm 30
  have m31 : γ 3 15 0 8 = ρ 31 := zAllA hm 31
  have m32 : γ 3 15 0 9 = ρ 32 := zAllA hm 32
  have m33 : γ 3 15 0 58 = ρ 19 := zAllA hm 33
  have m34 : γ 3 15 0 14 = ρ 20 := zAllA hm 34
  have m35 : γ 3 77 0 (ρ 25 + 8 * ρ 8) = ρ 33 := zAllA hm 35
  have m36 : γ 3 81 0 (4 * ρ 25 + 32 * ρ 8) = ρ 34 := zAllA hm 36
  have m37 : γ 3 78 0 (ρ 25 + 8 * ρ 8) = ρ 29 := zAllA hm 37
  have m38 : γ 3 15 0 36 = ρ 10 := zAllA hm 38
  have m39 : γ 3 15 0 37 = ρ 35 := zAllA hm 39
  have m40 : γ 3 15 0 38 = ρ 36 := zAllA hm 40
  have m41 : γ 3 15 0 40 = ρ 37 := zAllA hm 41
  have m42 : γ 3 15 0 45 = ρ 38 := zAllA hm 42
  have m43 : γ 5 15 0 35 = ρ 39 := zAllA hm 43
  have c1 : ∀ (G : Nat) (k j : Int), ¬ rMdP m27_ G j → γ 1 G k j = γ 0 G k j := And.right (zChA hc 5)
  have c2 : ∀ (G : Nat) (k j : Int), ¬ rMdP m6_ G j → γ 2 G k j = γ 1 G k j := And.right (zChA hc 4)
  have c3 : ∀ (G : Nat) (k j : Int), ¬ rMdP m25_ G j → γ 3 G k j = γ 2 G k j := And.right (zChA hc 3)
  have c4 : γ 4 = rUp (γ 3) 73 0 (ρ 8) (ρ 25 + 1) := And.right (zChA hc 2)
  have c5 : ∀ (G : Nat) (k j : Int), ¬ rMdP m6_ G j → γ 5 G k j = γ 4 G k j := And.right (zChA hc 1)
  have c6 : ∀ (G : Nat) (k j : Int), ¬ rMdP m0_ G j → γ 6 G k j = γ 5 G k j := And.right (zChA hc 0)
  have l0 : sn7 [ρ 16, ρ 1] (γ 1) 0 0 (γ 2) := hS7 _ _ _ _ _ (zAllA hl 0)
  have l1 : sn42 [ρ 26, ρ 1, ρ 17, ρ 18, ρ 19, ρ 20, ρ 6, ρ 7, ρ 8, ρ 25, ρ 27, ρ 28, ρ 29, ρ 10, ρ 21, ρ 22, ρ 23, ρ 24] (γ 2) 0 1 (γ 3) := hS42 _ _ _ _ _ (zAllA hl 1)
  have l2 : sn7 [ρ 30, ρ 1] (γ 4) 0 0 (γ 5) := hS7 _ _ _ _ _ (zAllA hl 2)
  have l3 : sn6 [ρ 39, ρ 1] (γ 5) 0 (-1) (γ 6) := hS6 _ _ _ _ _ (zAllA hl 3)
  show jn43 [ρ 0, ρ 1, ρ 2, ρ 3, ρ 4, ρ 5, ρ 6, ρ 7, ρ 8, ρ 9, ρ 10, ρ 11, ρ 12, ρ 13, ρ 14] (γ 0) 0 [ρ 0, ρ 1, ρ 2, ρ 3, ρ 4, ρ 5, ρ 6, ρ 7, ρ 8, ρ 9, ρ 10, ρ 11, ρ 12, ρ 13, ρ 14, 0, ρ 39, ρ 31, ρ 32, ρ 19, ρ 20, ρ 35, ρ 36, ρ 37, ρ 38, ρ 25 + 1] (γ 6)
  have hD : en43 (γ 0) (0, [ρ 15], γ 1) = .inl (0, [0], γ 6) := by
    unfold en43
    refine zIP (show (0 : Nat) = 0 by decide) (zLV (γ 1) rfl (zLV (ρ 15) rfl (zLE m1 (zLE m8 (zLE m25 (zIN (show ¬ (ρ 15 = 0) by omega) (zLE (show fn7 [] (γ 1) = (0, 0, γ 2) from l0.symm) ?_)))))))
    refine zLV (γ 2) rfl (zLE m26 (zIP (show ρ 25 ≠ 8 by omega) (zLE (show fn42 [] (γ 2) = (0, 1, γ 3) from l1.symm) (zLV (γ 3) rfl (zIP (show (1 : Int) ≤ 1 by omega) (zIP (show 2 ≤ γ 3 77 0 (ρ 25 + 8 * ρ 8) by omega) (zIP (show 5 ≤ γ 3 77 0 (ρ 25 + 8 * ρ 8) by omega) ?_)))))))
    refine zLE c4.symm (zLE (show fn7 [] (γ 4) = (0, 0, γ 5) from l2.symm) (zLV (γ 5) rfl (zLE m43 (zLE (show fn6 [ρ 39] (γ 5) = (0, (-1), γ 6) from l3.symm) (zLV (γ 6) rfl (zIN (show ¬ (0 ≤ -ρ 39 + ρ 1 + (-1)) by omega) ?_))))))
    rfl
  exact zGoo_ato hJ hD
theorem vn43a0_11 {S : Nat → zSpc} (hS6 : zIm S 6 sn6) (hS7 : zIm S 7 sn7) (hS8 : zIm S 8 sn8) (hS42 : zIm S 42 sn42) {a : List Int} {g : rHp} : ∀ (ρ : Nat → Int) (γ : Nat → rHp), jn43 a g 0 (zAg (zNA a43_ 0) ρ) (γ 1) → zO 15 S a g q43a0_11 ρ γ → zGl (fun i vs g1 => jn43 a g i vs g1) (sn43 a g) q43a0_11 ρ γ := by
  intro ρ γ hJ h
  obtain ⟨ha, hg, hr, hf, hm, hc, hl⟩ := h
  have ha : a = [ρ 0, ρ 1, ρ 2, ρ 3, ρ 4, ρ 5, ρ 6, ρ 7, ρ 8, ρ 9, ρ 10, ρ 11, ρ 12, ρ 13, ρ 14] := ha
  subst ha
  subst hg
  have hJ : jn43 [ρ 0, ρ 1, ρ 2, ρ 3, ρ 4, ρ 5, ρ 6, ρ 7, ρ 8, ρ 9, ρ 10, ρ 11, ρ 12, ρ 13, ρ 14] (γ 0) 0 [ρ 0, ρ 1, ρ 2, ρ 3, ρ 4, ρ 5, ρ 6, ρ 7, ρ 8, ρ 9, ρ 10, ρ 11, ρ 12, ρ 13, ρ 14, ρ 15, ρ 16, ρ 17, ρ 18, ρ 19, ρ 20, ρ 21, ρ 22, ρ 23, ρ 24, ρ 25] (γ 1) := hJ
  have r15 : (1 : Int) ≤ ρ 15 ∧ ρ 15 ≤ 1 := zRnA hr 15
  have r25 : (8 : Int) ≤ ρ 25 ∧ ρ 25 ≤ 8 := zRnA hr 25
  obtain ⟨w_0, w_1⟩ : (¬ (ρ 15 = 0)) ∧ (¬ (ρ 25 ≠ 8)) := ⟨by omega, by omega⟩
  have m1 : γ 0 15 0 34 = ρ 1 := zAllA hm 1
  have m8 : γ 0 15 0 44 = ρ 8 := zAllA hm 8
  have m25 : γ 1 73 0 (ρ 8) = ρ 25 := zAllA hm 25
  have m26 : γ 2 15 0 35 = ρ 26 := zAllA hm 26
  have l0 : sn7 [ρ 16, ρ 1] (γ 1) 0 0 (γ 2) := hS7 _ _ _ _ _ (zAllA hl 0)
  have l1 : sn8 [ρ 26, ρ 1, ρ 10] (γ 2) 0 0 (γ 3) := hS8 _ _ _ _ _ (zAllA hl 1)
  show sn43 [ρ 0, ρ 1, ρ 2, ρ 3, ρ 4, ρ 5, ρ 6, ρ 7, ρ 8, ρ 9, ρ 10, ρ 11, ρ 12, ρ 13, ρ 14] (γ 0) 0 0 (γ 3)
  have hD : en43 (γ 0) (0, [ρ 15], γ 1) = .inr (0, 0, γ 3) := by
    unfold en43
    refine zIP (show (0 : Nat) = 0 by decide) (zLV (γ 1) rfl (zLV (ρ 15) rfl (zLE m1 (zLE m8 (zLE m25 (zIN w_0 (zLE (show fn7 [] (γ 1) = (0, 0, γ 2) from l0.symm) ?_)))))))
    refine zLV (γ 2) rfl (zLE m26 (zIN w_1 (zLE (show fn8 [ρ 26] (γ 2) = (0, 0, γ 3) from l1.symm) (zLV (γ 3) rfl ?_))))
    rfl
  exact zGoo_aend hJ hD
theorem yn43 {S : Nat → zSpc} (hS6 : zIm S 6 sn6) (hS7 : zIm S 7 sn7) (hS8 : zIm S 8 sn8) (hS42 : zIm S 42 sn42) : ∀ x g o v gz, zSem uW uT w43_.2.2.2.1 w43_.2.2.1.1.length S q43 (fun i => q43a.getD i []) (zNA a43_) x g o v gz → sn43 x g o v gz := by
  intro a g o v gz h
  exact zSem_all (l0 := q43) (las := q43a) (S := S) (J := (fun i vs g1 => jn43 a g i vs g1)) (P := sn43 a g) (fun _ => (show zAll _ [q43_0] from (zAll_c (vn43_0 hS6 hS7 hS8 hS42) zAll_n))) (fun _ => (show zAllI _ 0 [q43a0] from ⟨(show zAll _ [q43a0_0, q43a0_1, q43a0_2, q43a0_3, q43a0_4, q43a0_5, q43a0_6, q43a0_7, q43a0_8, q43a0_9, q43a0_10, q43a0_11] from (zAll_c (vn43a0_0 hS6 hS7 hS8 hS42) (zAll_c (vn43a0_1 hS6 hS7 hS8 hS42) (zAll_c (vn43a0_2 hS6 hS7 hS8 hS42) (zAll_c (vn43a0_3 hS6 hS7 hS8 hS42) (zAll_c (vn43a0_4 hS6 hS7 hS8 hS42) (zAll_c (vn43a0_5 hS6 hS7 hS8 hS42) (zAll_c (vn43a0_6 hS6 hS7 hS8 hS42) (zAll_c (vn43a0_7 hS6 hS7 hS8 hS42) (zAll_c (vn43a0_8 hS6 hS7 hS8 hS42) (zAll_c (vn43a0_9 hS6 hS7 hS8 hS42) (zAll_c (vn43a0_10 hS6 hS7 hS8 hS42) (zAll_c (vn43a0_11 hS6 hS7 hS8 hS42) zAll_n))))))))))))), trivial⟩)) h
theorem vn44_0 {S : Nat → zSpc} (hS33 : zIm S 33 sn33) {a : List Int} {g : rHp} : ∀ (ρ : Nat → Int) (γ : Nat → rHp), zO 3 S a g q44_0 ρ γ → zGl (fun i vs g1 => jn44 a g i vs g1) (sn44 a g) q44_0 ρ γ := by
  intro ρ γ h
  obtain ⟨ha, hg, hr, hf, hm, hc, hl⟩ := h
  have ha : a = [ρ 0, ρ 1, ρ 2] := ha
  subst ha
  subst hg
  have m0 : γ 0 15 0 44 = ρ 0 := zAllA hm 0
  have m2 : γ 0 15 0 45 = ρ 2 := zAllA hm 2
  have c1 : γ 1 = rUp (γ 0) 75 0 (ρ 0) (ρ 2) := And.right (zChA hc 0)
  show jn44 [ρ 0, ρ 1, ρ 2] (γ 0) 0 [ρ 0, ρ 1, ρ 2, 8 * ρ 0] (γ 1)
  have hD : dn44 [] (γ 0) = .inl (0, [8 * ρ 0], γ 1) := by
    unfold dn44
    refine zLE m0 (zLE m2 (zLE c1.symm ?_))
    rfl
  exact zGoo_to hD
theorem vn44a0_0 {S : Nat → zSpc} (hS33 : zIm S 33 sn33) {a : List Int} {g : rHp} : ∀ (ρ : Nat → Int) (γ : Nat → rHp), jn44 a g 0 (zAg (zNA a44_ 0) ρ) (γ 1) → zO 3 S a g q44a0_0 ρ γ → zGl (fun i vs g1 => jn44 a g i vs g1) (sn44 a g) q44a0_0 ρ γ := by
  intro ρ γ hJ h
  obtain ⟨ha, hg, hr, hf, hm, hc, hl⟩ := h
  have ha : a = [ρ 0, ρ 1, ρ 2] := ha
  subst ha
  subst hg
  have hJ : jn44 [ρ 0, ρ 1, ρ 2] (γ 0) 0 [ρ 0, ρ 1, ρ 2, ρ 3] (γ 1) := hJ
  have f0 : (0 : Int) ≤ ρ 3 + (-ρ 1 + (-8) * ρ 0) := zAllA hf 0
  have w_0 : ρ 3 ≥ ρ 1 + 8 * ρ 0 := by omega
  have m0 : γ 0 15 0 44 = ρ 0 := zAllA hm 0
  have m1 : γ 0 73 0 (ρ 0) = ρ 1 := zAllA hm 1
  have l0 : sn33 [ρ 0, ρ 1] (γ 1) 0 (ρ 1 + 8 * ρ 0) (γ 2) := hS33 _ _ _ _ _ (zAllA hl 0)
  show sn44 [ρ 0, ρ 1, ρ 2] (γ 0) 0 0 (γ 2)
  have hD : en44 (γ 0) (0, [ρ 3], γ 1) = .inr (0, 0, γ 2) := by
    unfold en44
    refine zIP (show (0 : Nat) = 0 by decide) (zLV (γ 1) rfl (zLV (ρ 3) rfl (zLE m0 (zLE m1 (zLE (show fn33 [] (γ 1) = (0, ρ 1 + 8 * ρ 0, γ 2) from l0.symm) (zLV (γ 2) rfl (zIP w_0 ?_)))))))
    rfl
  exact zGoo_aend hJ hD
theorem vn44a0_1 {S : Nat → zSpc} (hS33 : zIm S 33 sn33) {a : List Int} {g : rHp} : ∀ (ρ : Nat → Int) (γ : Nat → rHp), jn44 a g 0 (zAg (zNA a44_ 0) ρ) (γ 1) → zO 3 S a g q44a0_1 ρ γ → zGl (fun i vs g1 => jn44 a g i vs g1) (sn44 a g) q44a0_1 ρ γ := by
  intro ρ γ hJ h
  obtain ⟨ha, hg, hr, hf, hm, hc, hl⟩ := h
  have ha : a = [ρ 0, ρ 1, ρ 2] := ha
  subst ha
  subst hg
  have hJ : jn44 [ρ 0, ρ 1, ρ 2] (γ 0) 0 [ρ 0, ρ 1, ρ 2, ρ 3] (γ 1) := hJ
  have f0 : (0 : Int) ≤ -ρ 3 + (ρ 1 + 8 * ρ 0) + (-1) := zAllA hf 0
  have w_0 : ¬ (ρ 3 ≥ ρ 1 + 8 * ρ 0) := by omega
  have m0 : γ 0 15 0 44 = ρ 0 := zAllA hm 0
  have m1 : γ 0 73 0 (ρ 0) = ρ 1 := zAllA hm 1
  have l0 : sn33 [ρ 0, ρ 1] (γ 1) 0 (ρ 1 + 8 * ρ 0) (γ 2) := hS33 _ _ _ _ _ (zAllA hl 0)
  show jn44 [ρ 0, ρ 1, ρ 2] (γ 0) 1 [ρ 0, ρ 1, ρ 2, 0, ρ 3] (γ 2)
  have hD : en44 (γ 0) (0, [ρ 3], γ 1) = .inl (1, [0, ρ 3], γ 2) := by
    unfold en44
    refine zIP (show (0 : Nat) = 0 by decide) (zLV (γ 1) rfl (zLV (ρ 3) rfl (zLE m0 (zLE m1 (zLE (show fn33 [] (γ 1) = (0, ρ 1 + 8 * ρ 0, γ 2) from l0.symm) (zLV (γ 2) rfl (zIN w_0 ?_)))))))
    rfl
  exact zGoo_ato hJ hD
theorem vn44a1_0 {S : Nat → zSpc} (hS33 : zIm S 33 sn33) {a : List Int} {g : rHp} : ∀ (ρ : Nat → Int) (γ : Nat → rHp), jn44 a g 1 (zAg (zNA a44_ 1) ρ) (γ 1) → zO 3 S a g q44a1_0 ρ γ → zGl (fun i vs g1 => jn44 a g i vs g1) (sn44 a g) q44a1_0 ρ γ := by
  intro ρ γ hJ h
  obtain ⟨ha, hg, hr, hf, hm, hc, hl⟩ := h
  have ha : a = [ρ 0, ρ 1, ρ 2] := ha
  subst ha
  subst hg
  have hJ : jn44 [ρ 0, ρ 1, ρ 2] (γ 0) 1 [ρ 0, ρ 1, ρ 2, ρ 3, ρ 4] (γ 1) := hJ
  have r3 : (4 : Int) ≤ ρ 3 ∧ ρ 3 ≤ 4 := zRnA hr 3
  have w_0 : ρ 3 ≥ 4 := by omega
  show jn44 [ρ 0, ρ 1, ρ 2] (γ 0) 0 [ρ 0, ρ 1, ρ 2, ρ 4 + 1] (γ 1)
  have hD : en44 (γ 0) (1, [ρ 3, ρ 4], γ 1) = .inl (0, [ρ 4 + 1], γ 1) := by
    unfold en44
    refine zIN (show ¬ (1 : Nat) = 0 by decide) (zIP (show (1 : Nat) = 1 by decide) (zLV (γ 1) rfl (zLV (ρ 3) rfl (zLV (ρ 4) rfl (zIP w_0 ?_)))))
    rfl
  exact zGoo_ato hJ hD
theorem vn44a1_1 {S : Nat → zSpc} (hS33 : zIm S 33 sn33) {a : List Int} {g : rHp} : ∀ (ρ : Nat → Int) (γ : Nat → rHp), jn44 a g 1 (zAg (zNA a44_ 1) ρ) (γ 1) → zO 3 S a g q44a1_1 ρ γ → zGl (fun i vs g1 => jn44 a g i vs g1) (sn44 a g) q44a1_1 ρ γ := by
  intro ρ γ hJ h
  obtain ⟨ha, hg, hr, hf, hm, hc, hl⟩ := h
  have ha : a = [ρ 0, ρ 1, ρ 2] := ha
  subst ha
  subst hg
  have hJ : jn44 [ρ 0, ρ 1, ρ 2] (γ 0) 1 [ρ 0, ρ 1, ρ 2, ρ 3, ρ 4] (γ 1) := hJ
  have r3 : (0 : Int) ≤ ρ 3 ∧ ρ 3 ≤ 3 := zRnA hr 3
  have r5 : (0 : Int) ≤ ρ 5 ∧ ρ 5 ≤ 7 := zRnA hr 5
  have w_0 : ¬ (ρ 3 ≥ 4) := by omega
  have m3 : γ 0 77 0 (ρ 4) = ρ 5 := zAllA hm 3
  have l0 : ρ 5 ≠ 1 := zAllA hl 0
  have wl_0 : ρ 5 ≠ 1 := by omega
  show jn44 [ρ 0, ρ 1, ρ 2] (γ 0) 0 [ρ 0, ρ 1, ρ 2, ρ 4 + 1] (γ 1)
  have hD : en44 (γ 0) (1, [ρ 3, ρ 4], γ 1) = .inl (0, [ρ 4 + 1], γ 1) := by
    unfold en44
    refine zIN (show ¬ (1 : Nat) = 0 by decide) (zIP (show (1 : Nat) = 1 by decide) (zLV (γ 1) rfl (zLV (ρ 3) rfl (zLV (ρ 4) rfl (zIN w_0 (zLE m3 (zIP wl_0 ?_)))))))
    rfl
  exact zGoo_ato hJ hD
theorem vn44a1_2 {S : Nat → zSpc} (hS33 : zIm S 33 sn33) {a : List Int} {g : rHp} : ∀ (ρ : Nat → Int) (γ : Nat → rHp), jn44 a g 1 (zAg (zNA a44_ 1) ρ) (γ 1) → zO 3 S a g q44a1_2 ρ γ → zGl (fun i vs g1 => jn44 a g i vs g1) (sn44 a g) q44a1_2 ρ γ := by
  intro ρ γ hJ h
  obtain ⟨ha, hg, hr, hf, hm, hc, hl⟩ := h
  have ha : a = [ρ 0, ρ 1, ρ 2] := ha
  subst ha
  subst hg
  have hJ : jn44 [ρ 0, ρ 1, ρ 2] (γ 0) 1 [ρ 0, ρ 1, ρ 2, ρ 3, ρ 4] (γ 1) := hJ
  have r3 : (0 : Int) ≤ ρ 3 ∧ ρ 3 ≤ 3 := zRnA hr 3
  have r5 : (1 : Int) ≤ ρ 5 ∧ ρ 5 ≤ 1 := zRnA hr 5
  have f0 : (0 : Int) ≤ -ρ 7 + ρ 3 := zAllA hf 0
  obtain ⟨w_0, w_1, w_2⟩ : (¬ (ρ 3 ≥ 4)) ∧ (¬ (ρ 5 ≠ 1)) ∧ (ρ 3 ≥ ρ 7) := ⟨by omega, by omega, by omega⟩
  have m3 : γ 0 77 0 (ρ 4) = ρ 5 := zAllA hm 3
  have m4 : γ 0 78 0 (ρ 4) = ρ 6 := zAllA hm 4
  have m5 : γ 0 66 0 (ρ 6) = ρ 7 := zAllA hm 5
  show jn44 [ρ 0, ρ 1, ρ 2] (γ 0) 1 [ρ 0, ρ 1, ρ 2, ρ 3 + 1, ρ 4] (γ 1)
  have hD : en44 (γ 0) (1, [ρ 3, ρ 4], γ 1) = .inl (1, [ρ 3 + 1, ρ 4], γ 1) := by
    unfold en44
    refine zIN (show ¬ (1 : Nat) = 0 by decide) (zIP (show (1 : Nat) = 1 by decide) (zLV (γ 1) rfl (zLV (ρ 3) rfl (zLV (ρ 4) rfl (zIN w_0 (zLE m3 (zIN w_1 ?_)))))))
    refine zLE m4 (zLE m5 (zIP w_2 ?_))
    rfl
  exact zGoo_ato hJ hD
theorem vn44a1_3 {S : Nat → zSpc} (hS33 : zIm S 33 sn33) {a : List Int} {g : rHp} : ∀ (ρ : Nat → Int) (γ : Nat → rHp), jn44 a g 1 (zAg (zNA a44_ 1) ρ) (γ 1) → zO 3 S a g q44a1_3 ρ γ → zGl (fun i vs g1 => jn44 a g i vs g1) (sn44 a g) q44a1_3 ρ γ := by
  intro ρ γ hJ h
  obtain ⟨ha, hg, hr, hf, hm, hc, hl⟩ := h
  have ha : a = [ρ 0, ρ 1, ρ 2] := ha
  subst ha
  subst hg
  have hJ : jn44 [ρ 0, ρ 1, ρ 2] (γ 0) 1 [ρ 0, ρ 1, ρ 2, ρ 3, ρ 4] (γ 1) := hJ
  have r3 : (0 : Int) ≤ ρ 3 ∧ ρ 3 ≤ 3 := zRnA hr 3
  have r5 : (1 : Int) ≤ ρ 5 ∧ ρ 5 ≤ 1 := zRnA hr 5
  have r8 : (0 : Int) ≤ ρ 8 ∧ ρ 8 ≤ 3 := zRnA hr 8
  have f0 : (0 : Int) ≤ ρ 7 + -ρ 3 + (-1) := zAllA hf 0
  obtain ⟨w_0, w_1, w_2⟩ : (¬ (ρ 3 ≥ 4)) ∧ (¬ (ρ 5 ≠ 1)) ∧ (¬ (ρ 3 ≥ ρ 7)) := ⟨by omega, by omega, by omega⟩
  have m3 : γ 0 77 0 (ρ 4) = ρ 5 := zAllA hm 3
  have m4 : γ 0 78 0 (ρ 4) = ρ 6 := zAllA hm 4
  have m5 : γ 0 66 0 (ρ 6) = ρ 7 := zAllA hm 5
  have m6 : γ 1 80 0 (4 * ρ 4 + ρ 3) = ρ 8 := zAllA hm 6
  have l0 : ρ 8 ≠ 1 := zAllA hl 0
  have wl_0 : ρ 8 ≠ 1 := by omega
  show jn44 [ρ 0, ρ 1, ρ 2] (γ 0) 1 [ρ 0, ρ 1, ρ 2, ρ 3 + 1, ρ 4] (γ 1)
  have hD : en44 (γ 0) (1, [ρ 3, ρ 4], γ 1) = .inl (1, [ρ 3 + 1, ρ 4], γ 1) := by
    unfold en44
    refine zIN (show ¬ (1 : Nat) = 0 by decide) (zIP (show (1 : Nat) = 1 by decide) (zLV (γ 1) rfl (zLV (ρ 3) rfl (zLV (ρ 4) rfl (zIN w_0 (zLE m3 (zIN w_1 ?_)))))))
    refine zLE m4 (zLE m5 (zIN w_2 (zLE m6 (zIP wl_0 ?_))))
    rfl
  exact zGoo_ato hJ hD
theorem vn44a1_4 {S : Nat → zSpc} (hS33 : zIm S 33 sn33) {a : List Int} {g : rHp} : ∀ (ρ : Nat → Int) (γ : Nat → rHp), jn44 a g 1 (zAg (zNA a44_ 1) ρ) (γ 1) → zO 3 S a g q44a1_4 ρ γ → zGl (fun i vs g1 => jn44 a g i vs g1) (sn44 a g) q44a1_4 ρ γ := by
  intro ρ γ hJ h
  obtain ⟨ha, hg, hr, hf, hm, hc, hl⟩ := h
  have ha : a = [ρ 0, ρ 1, ρ 2] := ha
  subst ha
  subst hg
  have hJ : jn44 [ρ 0, ρ 1, ρ 2] (γ 0) 1 [ρ 0, ρ 1, ρ 2, ρ 3, ρ 4] (γ 1) := hJ
  have r3 : (0 : Int) ≤ ρ 3 ∧ ρ 3 ≤ 3 := zRnA hr 3
  have r5 : (1 : Int) ≤ ρ 5 ∧ ρ 5 ≤ 1 := zRnA hr 5
  have r8 : (1 : Int) ≤ ρ 8 ∧ ρ 8 ≤ 1 := zRnA hr 8
  have r13 : (1 : Int) ≤ ρ 13 ∧ ρ 13 ≤ 1 := zRnA hr 13
  have f0 : (0 : Int) ≤ ρ 7 + -ρ 3 + (-1) := zAllA hf 0
  obtain ⟨w_0, w_1, w_2, w_3, w_4⟩ : (¬ (ρ 3 ≥ 4)) ∧ (¬ (ρ 5 ≠ 1)) ∧ (¬ (ρ 3 ≥ ρ 7)) ∧ (¬ (ρ 8 ≠ 1)) ∧ (ρ 13 ≠ 0) := ⟨by omega, by omega, by omega, by omega, by omega⟩
  have m3 : γ 0 77 0 (ρ 4) = ρ 5 := zAllA hm 3
  have m4 : γ 0 78 0 (ρ 4) = ρ 6 := zAllA hm 4
  have m5 : γ 0 66 0 (ρ 6) = ρ 7 := zAllA hm 5
  have m6 : γ 1 80 0 (4 * ρ 4 + ρ 3) = ρ 8 := zAllA hm 6
  have m7 : γ 0 79 0 (ρ 4) = ρ 9 := zAllA hm 7
  have m8 : γ 0 81 0 (4 * ρ 4 + ρ 3) = ρ 10 := zAllA hm 8
  have l0 : zOpP (.l2i) (γ 0) (γ 1) [ρ 10] (ρ 11) := zAllA hl 0
  have l1 : zOpP (.ishr) (γ 0) (γ 1) [ρ 9, ρ 11] (ρ 12) := zAllA hl 1
  have l2 : zOpP (.iand) (γ 0) (γ 1) [ρ 12, 1] (ρ 13) := zAllA hl 2
  show jn44 [ρ 0, ρ 1, ρ 2] (γ 0) 1 [ρ 0, ρ 1, ρ 2, ρ 3 + 1, ρ 4] (γ 1)
  have hD : en44 (γ 0) (1, [ρ 3, ρ 4], γ 1) = .inl (1, [ρ 3 + 1, ρ 4], γ 1) := by
    unfold en44
    refine zIN (show ¬ (1 : Nat) = 0 by decide) (zIP (show (1 : Nat) = 1 by decide) (zLV (γ 1) rfl (zLV (ρ 3) rfl (zLV (ρ 4) rfl (zIN w_0 (zLE m3 (zIN w_1 ?_)))))))
    refine zLE m4 (zLE m5 (zIN w_2 (zLE m6 (zIN w_3 (zLE m7 (zLE m8 (zLE (zF1_ok l0) ?_)))))))
    refine zLE (zF2_ok l1) (zLE (zF2_ok l2) (zIP w_4 ?_))
    rfl
  exact zGoo_ato hJ hD
theorem vn44a1_5 {S : Nat → zSpc} (hS33 : zIm S 33 sn33) {a : List Int} {g : rHp} : ∀ (ρ : Nat → Int) (γ : Nat → rHp), jn44 a g 1 (zAg (zNA a44_ 1) ρ) (γ 1) → zO 3 S a g q44a1_5 ρ γ → zGl (fun i vs g1 => jn44 a g i vs g1) (sn44 a g) q44a1_5 ρ γ := by
  intro ρ γ hJ h
  obtain ⟨ha, hg, hr, hf, hm, hc, hl⟩ := h
  have ha : a = [ρ 0, ρ 1, ρ 2] := ha
  subst ha
  subst hg
  have hJ : jn44 [ρ 0, ρ 1, ρ 2] (γ 0) 1 [ρ 0, ρ 1, ρ 2, ρ 3, ρ 4] (γ 1) := hJ
  have r3 : (0 : Int) ≤ ρ 3 ∧ ρ 3 ≤ 3 := zRnA hr 3
  have r5 : (1 : Int) ≤ ρ 5 ∧ ρ 5 ≤ 1 := zRnA hr 5
  have r8 : (1 : Int) ≤ ρ 8 ∧ ρ 8 ≤ 1 := zRnA hr 8
  have r13 : (0 : Int) ≤ ρ 13 ∧ ρ 13 ≤ 0 := zRnA hr 13
  have f0 : (0 : Int) ≤ ρ 7 + -ρ 3 + (-1) := zAllA hf 0
  obtain ⟨w_0, w_1, w_2, w_3, w_4⟩ : (¬ (ρ 3 ≥ 4)) ∧ (¬ (ρ 5 ≠ 1)) ∧ (¬ (ρ 3 ≥ ρ 7)) ∧ (¬ (ρ 8 ≠ 1)) ∧ (¬ (ρ 13 ≠ 0)) := ⟨by omega, by omega, by omega, by omega, by omega⟩
  have m3 : γ 0 77 0 (ρ 4) = ρ 5 := zAllA hm 3
  have m4 : γ 0 78 0 (ρ 4) = ρ 6 := zAllA hm 4
  have m5 : γ 0 66 0 (ρ 6) = ρ 7 := zAllA hm 5
  have m6 : γ 1 80 0 (4 * ρ 4 + ρ 3) = ρ 8 := zAllA hm 6
  have m7 : γ 0 79 0 (ρ 4) = ρ 9 := zAllA hm 7
  have m8 : γ 0 81 0 (4 * ρ 4 + ρ 3) = ρ 10 := zAllA hm 8
  have c2 : γ 2 = rUp (γ 1) 80 0 (4 * ρ 4 + ρ 3) 2 := And.right (zChA hc 0)
  have l0 : zOpP (.l2i) (γ 0) (γ 1) [ρ 10] (ρ 11) := zAllA hl 0
  have l1 : zOpP (.ishr) (γ 0) (γ 1) [ρ 9, ρ 11] (ρ 12) := zAllA hl 1
  have l2 : zOpP (.iand) (γ 0) (γ 1) [ρ 12, 1] (ρ 13) := zAllA hl 2
  show jn44 [ρ 0, ρ 1, ρ 2] (γ 0) 1 [ρ 0, ρ 1, ρ 2, ρ 3 + 1, ρ 4] (γ 2)
  have hD : en44 (γ 0) (1, [ρ 3, ρ 4], γ 1) = .inl (1, [ρ 3 + 1, ρ 4], γ 2) := by
    unfold en44
    refine zIN (show ¬ (1 : Nat) = 0 by decide) (zIP (show (1 : Nat) = 1 by decide) (zLV (γ 1) rfl (zLV (ρ 3) rfl (zLV (ρ 4) rfl (zIN w_0 (zLE m3 (zIN w_1 ?_)))))))
    refine zLE m4 (zLE m5 (zIN w_2 (zLE m6 (zIN w_3 (zLE m7 (zLE m8 (zLE (zF1_ok l0) ?_)))))))
    refine zLE (zF2_ok l1) (zLE (zF2_ok l2) (zIN w_4 (zLE c2.symm ?_)))
    rfl
  exact zGoo_ato hJ hD
theorem yn44 {S : Nat → zSpc} (hS33 : zIm S 33 sn33) : ∀ x g o v gz, zSem uW uT w44_.2.2.2.1 w44_.2.2.1.1.length S q44 (fun i => q44a.getD i []) (zNA a44_) x g o v gz → sn44 x g o v gz := by
  intro a g o v gz h
  exact zSem_all (l0 := q44) (las := q44a) (S := S) (J := (fun i vs g1 => jn44 a g i vs g1)) (P := sn44 a g) (fun _ => (show zAll _ [q44_0] from (zAll_c (vn44_0 hS33) zAll_n))) (fun _ => (show zAllI _ 0 [q44a0, q44a1] from ⟨(show zAll _ [q44a0_0, q44a0_1] from (zAll_c (vn44a0_0 hS33) (zAll_c (vn44a0_1 hS33) zAll_n))), ⟨(show zAll _ [q44a1_0, q44a1_1, q44a1_2, q44a1_3, q44a1_4, q44a1_5] from (zAll_c (vn44a1_0 hS33) (zAll_c (vn44a1_1 hS33) (zAll_c (vn44a1_2 hS33) (zAll_c (vn44a1_3 hS33) (zAll_c (vn44a1_4 hS33) (zAll_c (vn44a1_5 hS33) zAll_n))))))), trivial⟩⟩)) h
theorem vn45_0 {S : Nat → zSpc}  {a : List Int} {g : rHp} : ∀ (ρ : Nat → Int) (γ : Nat → rHp), zO 3 S a g q45_0 ρ γ → zGl (fun i vs g1 => jn45 a g i vs g1) (sn45 a g) q45_0 ρ γ := by
  intro ρ γ h
  obtain ⟨ha, hg, hr, hf, hm, hc, hl⟩ := h
  have ha : a = [ρ 0, ρ 1, ρ 2] := ha
  subst ha
  subst hg
  show jn45 [ρ 0, ρ 1, ρ 2] (γ 0) 0 [ρ 0, ρ 1, ρ 2, 0] (γ 0)
  have hD : dn45 [ρ 0, ρ 1] (γ 0) = .inl (0, [ρ 0, ρ 1, 0], γ 0) := by
    unfold dn45
    refine zLV (ρ 0) rfl (zLV (ρ 1) rfl ?_)
    rfl
  exact zGoo_to hD
theorem vn45a0_0 {S : Nat → zSpc}  {a : List Int} {g : rHp} : ∀ (ρ : Nat → Int) (γ : Nat → rHp), jn45 a g 0 (zAg (zNA a45_ 0) ρ) (γ 1) → zO 3 S a g q45a0_0 ρ γ → zGl (fun i vs g1 => jn45 a g i vs g1) (sn45 a g) q45a0_0 ρ γ := by
  intro ρ γ hJ h
  obtain ⟨ha, hg, hr, hf, hm, hc, hl⟩ := h
  have ha : a = [ρ 0, ρ 1, ρ 2] := ha
  subst ha
  subst hg
  have hJ : jn45 [ρ 0, ρ 1, ρ 2] (γ 0) 0 [ρ 0, ρ 1, ρ 2, ρ 3] (γ 1) := hJ
  have f0 : (0 : Int) ≤ ρ 3 + -ρ 1 := zAllA hf 0
  have w_0 : ρ 3 ≥ ρ 1 := by omega
  show sn45 [ρ 0, ρ 1, ρ 2] (γ 0) 0 (-1) (γ 1)
  have hD : en45 (γ 0) (0, [ρ 0, ρ 1, ρ 3], γ 1) = .inr (0, (-1), γ 1) := by
    unfold en45
    refine zIP (show (0 : Nat) = 0 by decide) (zLV (γ 1) rfl (zLV (ρ 0) rfl (zLV (ρ 1) rfl (zLV (ρ 3) rfl (zIP w_0 ?_)))))
    rfl
  exact zGoo_aend hJ hD
theorem vn45a0_1 {S : Nat → zSpc}  {a : List Int} {g : rHp} : ∀ (ρ : Nat → Int) (γ : Nat → rHp), jn45 a g 0 (zAg (zNA a45_ 0) ρ) (γ 1) → zO 3 S a g q45a0_1 ρ γ → zGl (fun i vs g1 => jn45 a g i vs g1) (sn45 a g) q45a0_1 ρ γ := by
  intro ρ γ hJ h
  obtain ⟨ha, hg, hr, hf, hm, hc, hl⟩ := h
  have ha : a = [ρ 0, ρ 1, ρ 2] := ha
  subst ha
  subst hg
  have hJ : jn45 [ρ 0, ρ 1, ρ 2] (γ 0) 0 [ρ 0, ρ 1, ρ 2, ρ 3] (γ 1) := hJ
  have r0 : (0 : Int) ≤ ρ 0 ∧ ρ 0 ≤ 19 := zRnA hr 0
  have r4 : (0 : Int) ≤ ρ 4 ∧ ρ 4 ≤ 19 := zRnA hr 4
  have f0 : (0 : Int) ≤ -ρ 3 + ρ 1 + (-1) := zAllA hf 0
  have w_0 : ¬ (ρ 3 ≥ ρ 1) := by omega
  have m1 : γ 0 67 0 (ρ 3) = ρ 4 := zAllA hm 1
  have l0 : ρ 4 ≠ ρ 0 := zAllA hl 0
  have wl_0 : ρ 4 ≠ ρ 0 := by omega
  show jn45 [ρ 0, ρ 1, ρ 2] (γ 0) 1 [ρ 0, ρ 1, ρ 2, 0, 0, ρ 3] (γ 1)
  have hD : en45 (γ 0) (0, [ρ 0, ρ 1, ρ 3], γ 1) = .inl (1, [ρ 0, ρ 1, 0, 0, ρ 3], γ 1) := by
    unfold en45
    refine zIP (show (0 : Nat) = 0 by decide) (zLV (γ 1) rfl (zLV (ρ 0) rfl (zLV (ρ 1) rfl (zLV (ρ 3) rfl (zIN w_0 (zLE m1 (zIP wl_0 ?_)))))))
    rfl
  exact zGoo_ato hJ hD
theorem vn45a0_2 {S : Nat → zSpc}  {a : List Int} {g : rHp} : ∀ (ρ : Nat → Int) (γ : Nat → rHp), jn45 a g 0 (zAg (zNA a45_ 0) ρ) (γ 1) → zO 3 S a g q45a0_2 ρ γ → zGl (fun i vs g1 => jn45 a g i vs g1) (sn45 a g) q45a0_2 ρ γ := by
  intro ρ γ hJ h
  obtain ⟨ha, hg, hr, hf, hm, hc, hl⟩ := h
  have ha : a = [ρ 0, ρ 1, ρ 2] := ha
  subst ha
  subst hg
  have hJ : jn45 [ρ 0, ρ 1, ρ 2] (γ 0) 0 [ρ 0, ρ 1, ρ 2, ρ 3] (γ 1) := hJ
  have f0 : (0 : Int) ≤ -ρ 4 + ρ 0 := zAllA hf 0
  have f1 : (0 : Int) ≤ ρ 4 + -ρ 0 := zAllA hf 1
  have f2 : (0 : Int) ≤ -ρ 3 + ρ 1 + (-1) := zAllA hf 2
  obtain ⟨w_0, w_1⟩ : (¬ (ρ 3 ≥ ρ 1)) ∧ (¬ (ρ 4 ≠ ρ 0)) := ⟨by omega, by omega⟩
  have m1 : γ 0 67 0 (ρ 3) = ρ 4 := zAllA hm 1
  show jn45 [ρ 0, ρ 1, ρ 2] (γ 0) 1 [ρ 0, ρ 1, ρ 2, 0, 1, ρ 3] (γ 1)
  have hD : en45 (γ 0) (0, [ρ 0, ρ 1, ρ 3], γ 1) = .inl (1, [ρ 0, ρ 1, 0, 1, ρ 3], γ 1) := by
    unfold en45
    refine zIP (show (0 : Nat) = 0 by decide) (zLV (γ 1) rfl (zLV (ρ 0) rfl (zLV (ρ 1) rfl (zLV (ρ 3) rfl (zIN w_0 (zLE m1 (zIN w_1 ?_)))))))
    rfl
  exact zGoo_ato hJ hD
theorem vn45a1_0 {S : Nat → zSpc}  {a : List Int} {g : rHp} : ∀ (ρ : Nat → Int) (γ : Nat → rHp), jn45 a g 1 (zAg (zNA a45_ 1) ρ) (γ 1) → zO 3 S a g q45a1_0 ρ γ → zGl (fun i vs g1 => jn45 a g i vs g1) (sn45 a g) q45a1_0 ρ γ := by
  intro ρ γ hJ h
  obtain ⟨ha, hg, hr, hf, hm, hc, hl⟩ := h
  have ha : a = [ρ 0, ρ 1, ρ 2] := ha
  subst ha
  subst hg
  have hJ : jn45 [ρ 0, ρ 1, ρ 2] (γ 0) 1 [ρ 0, ρ 1, ρ 2, ρ 3, ρ 4, ρ 5] (γ 1) := hJ
  have r4 : (0 : Int) ≤ ρ 4 ∧ ρ 4 ≤ 0 := zRnA hr 4
  have f0 : (0 : Int) ≤ ρ 3 + -ρ 2 := zAllA hf 0
  obtain ⟨w_0, w_1⟩ : (ρ 3 ≥ ρ 2) ∧ (ρ 4 = 0) := ⟨by omega, by omega⟩
  have m0 : γ 0 15 0 48 = ρ 2 := zAllA hm 0
  show jn45 [ρ 0, ρ 1, ρ 2] (γ 0) 0 [ρ 0, ρ 1, ρ 2, ρ 5 + 1] (γ 1)
  have hD : en45 (γ 0) (1, [ρ 0, ρ 1, ρ 3, ρ 4, ρ 5], γ 1) = .inl (0, [ρ 0, ρ 1, ρ 5 + 1], γ 1) := by
    unfold en45
    refine zIN (show ¬ (1 : Nat) = 0 by decide) (zIP (show (1 : Nat) = 1 by decide) (zLV (γ 1) rfl (zLV (ρ 0) rfl (zLV (ρ 1) rfl (zLV (ρ 3) rfl (zLV (ρ 4) rfl (zLV (ρ 5) rfl ?_)))))))
    refine zLE m0 (zIP w_0 (zIP w_1 ?_))
    rfl
  exact zGoo_ato hJ hD
theorem vn45a1_1 {S : Nat → zSpc}  {a : List Int} {g : rHp} : ∀ (ρ : Nat → Int) (γ : Nat → rHp), jn45 a g 1 (zAg (zNA a45_ 1) ρ) (γ 1) → zO 3 S a g q45a1_1 ρ γ → zGl (fun i vs g1 => jn45 a g i vs g1) (sn45 a g) q45a1_1 ρ γ := by
  intro ρ γ hJ h
  obtain ⟨ha, hg, hr, hf, hm, hc, hl⟩ := h
  have ha : a = [ρ 0, ρ 1, ρ 2] := ha
  subst ha
  subst hg
  have hJ : jn45 [ρ 0, ρ 1, ρ 2] (γ 0) 1 [ρ 0, ρ 1, ρ 2, ρ 3, ρ 4, ρ 5] (γ 1) := hJ
  have r4 : (1 : Int) ≤ ρ 4 ∧ ρ 4 ≤ 1 := zRnA hr 4
  have f0 : (0 : Int) ≤ ρ 3 + -ρ 2 := zAllA hf 0
  obtain ⟨w_0, w_1⟩ : (ρ 3 ≥ ρ 2) ∧ (¬ (ρ 4 = 0)) := ⟨by omega, by omega⟩
  have m0 : γ 0 15 0 48 = ρ 2 := zAllA hm 0
  show sn45 [ρ 0, ρ 1, ρ 2] (γ 0) 0 (ρ 5) (γ 1)
  have hD : en45 (γ 0) (1, [ρ 0, ρ 1, ρ 3, ρ 4, ρ 5], γ 1) = .inr (0, ρ 5, γ 1) := by
    unfold en45
    refine zIN (show ¬ (1 : Nat) = 0 by decide) (zIP (show (1 : Nat) = 1 by decide) (zLV (γ 1) rfl (zLV (ρ 0) rfl (zLV (ρ 1) rfl (zLV (ρ 3) rfl (zLV (ρ 4) rfl (zLV (ρ 5) rfl ?_)))))))
    refine zLE m0 (zIP w_0 (zIN w_1 ?_))
    rfl
  exact zGoo_aend hJ hD
theorem vn45a1_2 {S : Nat → zSpc}  {a : List Int} {g : rHp} : ∀ (ρ : Nat → Int) (γ : Nat → rHp), jn45 a g 1 (zAg (zNA a45_ 1) ρ) (γ 1) → zO 3 S a g q45a1_2 ρ γ → zGl (fun i vs g1 => jn45 a g i vs g1) (sn45 a g) q45a1_2 ρ γ := by
  intro ρ γ hJ h
  obtain ⟨ha, hg, hr, hf, hm, hc, hl⟩ := h
  have ha : a = [ρ 0, ρ 1, ρ 2] := ha
  subst ha
  subst hg
  have hJ : jn45 [ρ 0, ρ 1, ρ 2] (γ 0) 1 [ρ 0, ρ 1, ρ 2, ρ 3, ρ 4, ρ 5] (γ 1) := hJ
  have r4 : (0 : Int) ≤ ρ 4 ∧ ρ 4 ≤ 0 := zRnA hr 4
  have f0 : (0 : Int) ≤ -ρ 3 + ρ 2 + (-1) := zAllA hf 0
  obtain ⟨w_0, w_1⟩ : (¬ (ρ 3 ≥ ρ 2)) ∧ (ρ 4 = 0) := ⟨by omega, by omega⟩
  have m0 : γ 0 15 0 48 = ρ 2 := zAllA hm 0
  show jn45 [ρ 0, ρ 1, ρ 2] (γ 0) 0 [ρ 0, ρ 1, ρ 2, ρ 5 + 1] (γ 1)
  have hD : en45 (γ 0) (1, [ρ 0, ρ 1, ρ 3, ρ 4, ρ 5], γ 1) = .inl (0, [ρ 0, ρ 1, ρ 5 + 1], γ 1) := by
    unfold en45
    refine zIN (show ¬ (1 : Nat) = 0 by decide) (zIP (show (1 : Nat) = 1 by decide) (zLV (γ 1) rfl (zLV (ρ 0) rfl (zLV (ρ 1) rfl (zLV (ρ 3) rfl (zLV (ρ 4) rfl (zLV (ρ 5) rfl ?_)))))))
    refine zLE m0 (zIN w_0 (zIP w_1 ?_))
    rfl
  exact zGoo_ato hJ hD
theorem vn45a1_3 {S : Nat → zSpc}  {a : List Int} {g : rHp} : ∀ (ρ : Nat → Int) (γ : Nat → rHp), jn45 a g 1 (zAg (zNA a45_ 1) ρ) (γ 1) → zO 3 S a g q45a1_3 ρ γ → zGl (fun i vs g1 => jn45 a g i vs g1) (sn45 a g) q45a1_3 ρ γ := by
  intro ρ γ hJ h
  obtain ⟨ha, hg, hr, hf, hm, hc, hl⟩ := h
  have ha : a = [ρ 0, ρ 1, ρ 2] := ha
  subst ha
  subst hg
  have hJ : jn45 [ρ 0, ρ 1, ρ 2] (γ 0) 1 [ρ 0, ρ 1, ρ 2, ρ 3, ρ 4, ρ 5] (γ 1) := hJ
  have r4 : (1 : Int) ≤ ρ 4 ∧ ρ 4 ≤ 1 := zRnA hr 4
  have r6 : ((-2147483648) : Int) ≤ ρ 6 ∧ ρ 6 ≤ 1099511640064 := zRnA hr 6
  have r7 : ((-2147483648) : Int) ≤ ρ 7 ∧ ρ 7 ≤ 1099511640064 := zRnA hr 7
  have f0 : (0 : Int) ≤ -ρ 3 + ρ 2 + (-1) := zAllA hf 0
  obtain ⟨w_0, w_1⟩ : (¬ (ρ 3 ≥ ρ 2)) ∧ (¬ (ρ 4 = 0)) := ⟨by omega, by omega⟩
  have m0 : γ 0 15 0 48 = ρ 2 := zAllA hm 0
  have m1 : γ 0 68 0 (4 * ρ 5 + ρ 3) = ρ 6 := zAllA hm 1
  have m2 : γ 0 87 0 (ρ 3) = ρ 7 := zAllA hm 2
  have l0 : ρ 6 ≠ ρ 7 := zAllA hl 0
  have wl_0 : ρ 6 ≠ ρ 7 := by omega
  show jn45 [ρ 0, ρ 1, ρ 2] (γ 0) 1 [ρ 0, ρ 1, ρ 2, ρ 3 + 1, 0, ρ 5] (γ 1)
  have hD : en45 (γ 0) (1, [ρ 0, ρ 1, ρ 3, ρ 4, ρ 5], γ 1) = .inl (1, [ρ 0, ρ 1, ρ 3 + 1, 0, ρ 5], γ 1) := by
    unfold en45
    refine zIN (show ¬ (1 : Nat) = 0 by decide) (zIP (show (1 : Nat) = 1 by decide) (zLV (γ 1) rfl (zLV (ρ 0) rfl (zLV (ρ 1) rfl (zLV (ρ 3) rfl (zLV (ρ 4) rfl (zLV (ρ 5) rfl ?_)))))))
    refine zLE m0 (zIN w_0 (zIN w_1 (zLE m1 (zLE m2 (zIP wl_0 ?_)))))
    rfl
  exact zGoo_ato hJ hD
theorem vn45a1_4 {S : Nat → zSpc}  {a : List Int} {g : rHp} : ∀ (ρ : Nat → Int) (γ : Nat → rHp), jn45 a g 1 (zAg (zNA a45_ 1) ρ) (γ 1) → zO 3 S a g q45a1_4 ρ γ → zGl (fun i vs g1 => jn45 a g i vs g1) (sn45 a g) q45a1_4 ρ γ := by
  intro ρ γ hJ h
  obtain ⟨ha, hg, hr, hf, hm, hc, hl⟩ := h
  have ha : a = [ρ 0, ρ 1, ρ 2] := ha
  subst ha
  subst hg
  have hJ : jn45 [ρ 0, ρ 1, ρ 2] (γ 0) 1 [ρ 0, ρ 1, ρ 2, ρ 3, ρ 4, ρ 5] (γ 1) := hJ
  have r4 : (1 : Int) ≤ ρ 4 ∧ ρ 4 ≤ 1 := zRnA hr 4
  have f0 : (0 : Int) ≤ ρ 7 + -ρ 6 := zAllA hf 0
  have f1 : (0 : Int) ≤ -ρ 7 + ρ 6 := zAllA hf 1
  have f2 : (0 : Int) ≤ -ρ 3 + ρ 2 + (-1) := zAllA hf 2
  obtain ⟨w_0, w_1, w_2⟩ : (¬ (ρ 3 ≥ ρ 2)) ∧ (¬ (ρ 4 = 0)) ∧ (¬ (ρ 6 ≠ ρ 7)) := ⟨by omega, by omega, by omega⟩
  have m0 : γ 0 15 0 48 = ρ 2 := zAllA hm 0
  have m1 : γ 0 68 0 (4 * ρ 5 + ρ 3) = ρ 6 := zAllA hm 1
  have m2 : γ 0 87 0 (ρ 3) = ρ 7 := zAllA hm 2
  show jn45 [ρ 0, ρ 1, ρ 2] (γ 0) 1 [ρ 0, ρ 1, ρ 2, ρ 3 + 1, 1, ρ 5] (γ 1)
  have hD : en45 (γ 0) (1, [ρ 0, ρ 1, ρ 3, ρ 4, ρ 5], γ 1) = .inl (1, [ρ 0, ρ 1, ρ 3 + 1, 1, ρ 5], γ 1) := by
    unfold en45
    refine zIN (show ¬ (1 : Nat) = 0 by decide) (zIP (show (1 : Nat) = 1 by decide) (zLV (γ 1) rfl (zLV (ρ 0) rfl (zLV (ρ 1) rfl (zLV (ρ 3) rfl (zLV (ρ 4) rfl (zLV (ρ 5) rfl ?_)))))))
    refine zLE m0 (zIN w_0 (zIN w_1 (zLE m1 (zLE m2 (zIN w_2 ?_)))))
    rfl
  exact zGoo_ato hJ hD
theorem yn45 {S : Nat → zSpc}  : ∀ x g o v gz, zSem uW uT w45_.2.2.2.1 w45_.2.2.1.1.length S q45 (fun i => q45a.getD i []) (zNA a45_) x g o v gz → sn45 x g o v gz := by
  intro a g o v gz h
  exact zSem_all (l0 := q45) (las := q45a) (S := S) (J := (fun i vs g1 => jn45 a g i vs g1)) (P := sn45 a g) (fun _ => (show zAll _ [q45_0] from (zAll_c (vn45_0 ) zAll_n))) (fun _ => (show zAllI _ 0 [q45a0, q45a1] from ⟨(show zAll _ [q45a0_0, q45a0_1, q45a0_2] from (zAll_c (vn45a0_0 ) (zAll_c (vn45a0_1 ) (zAll_c (vn45a0_2 ) zAll_n)))), ⟨(show zAll _ [q45a1_0, q45a1_1, q45a1_2, q45a1_3, q45a1_4] from (zAll_c (vn45a1_0 ) (zAll_c (vn45a1_1 ) (zAll_c (vn45a1_2 ) (zAll_c (vn45a1_3 ) (zAll_c (vn45a1_4 ) zAll_n)))))), trivial⟩⟩)) h
theorem vn46_0 {S : Nat → zSpc}  {a : List Int} {g : rHp} : ∀ (ρ : Nat → Int) (γ : Nat → rHp), zO 6 S a g q46_0 ρ γ → zGl (fun i vs g1 => jn46 a g i vs g1) (sn46 a g) q46_0 ρ γ := by
  intro ρ γ h
  obtain ⟨ha, hg, hr, hf, hm, hc, hl⟩ := h
  have ha : a = [ρ 0, ρ 1, ρ 2, ρ 3, ρ 4, ρ 5] := ha
  subst ha
  subst hg
  show jn46 [ρ 0, ρ 1, ρ 2, ρ 3, ρ 4, ρ 5] (γ 0) 0 [ρ 0, ρ 1, ρ 2, ρ 3, ρ 4, ρ 5, 0] (γ 0)
  have hD : dn46 [ρ 0, ρ 1] (γ 0) = .inl (0, [ρ 0, ρ 1, 0], γ 0) := by
    unfold dn46
    refine zLV (ρ 0) rfl (zLV (ρ 1) rfl ?_)
    rfl
  exact zGoo_to hD
theorem vn46a0_0 {S : Nat → zSpc}  {a : List Int} {g : rHp} : ∀ (ρ : Nat → Int) (γ : Nat → rHp), jn46 a g 0 (zAg (zNA a46_ 0) ρ) (γ 1) → zO 6 S a g q46a0_0 ρ γ → zGl (fun i vs g1 => jn46 a g i vs g1) (sn46 a g) q46a0_0 ρ γ := by
  intro ρ γ hJ h
  obtain ⟨ha, hg, hr, hf, hm, hc, hl⟩ := h
  have ha : a = [ρ 0, ρ 1, ρ 2, ρ 3, ρ 4, ρ 5] := ha
  subst ha
  subst hg
  have hJ : jn46 [ρ 0, ρ 1, ρ 2, ρ 3, ρ 4, ρ 5] (γ 0) 0 [ρ 0, ρ 1, ρ 2, ρ 3, ρ 4, ρ 5, ρ 6] (γ 1) := hJ
  have f0 : (0 : Int) ≤ ρ 6 + -ρ 1 := zAllA hf 0
  have w_0 : ρ 6 ≥ ρ 1 := by omega
  show sn46 [ρ 0, ρ 1, ρ 2, ρ 3, ρ 4, ρ 5] (γ 0) 0 (-1) (γ 1)
  have hD : en46 (γ 0) (0, [ρ 0, ρ 1, ρ 6], γ 1) = .inr (0, (-1), γ 1) := by
    unfold en46
    refine zIP (show (0 : Nat) = 0 by decide) (zLV (γ 1) rfl (zLV (ρ 0) rfl (zLV (ρ 1) rfl (zLV (ρ 6) rfl (zIP w_0 ?_)))))
    rfl
  exact zGoo_aend hJ hD
theorem vn46a0_1 {S : Nat → zSpc}  {a : List Int} {g : rHp} : ∀ (ρ : Nat → Int) (γ : Nat → rHp), jn46 a g 0 (zAg (zNA a46_ 0) ρ) (γ 1) → zO 6 S a g q46a0_1 ρ γ → zGl (fun i vs g1 => jn46 a g i vs g1) (sn46 a g) q46a0_1 ρ γ := by
  intro ρ γ hJ h
  obtain ⟨ha, hg, hr, hf, hm, hc, hl⟩ := h
  have ha : a = [ρ 0, ρ 1, ρ 2, ρ 3, ρ 4, ρ 5] := ha
  subst ha
  subst hg
  have hJ : jn46 [ρ 0, ρ 1, ρ 2, ρ 3, ρ 4, ρ 5] (γ 0) 0 [ρ 0, ρ 1, ρ 2, ρ 3, ρ 4, ρ 5, ρ 6] (γ 1) := hJ
  have f1 : (0 : Int) ≤ -ρ 6 + ρ 1 + (-1) := zAllA hf 1
  have w_0 : ¬ (ρ 6 ≥ ρ 1) := by omega
  have l0 : ρ 7 ≠ ρ 0 := zAllA hl 0
  show jn46 [ρ 0, ρ 1, ρ 2, ρ 3, ρ 4, ρ 5] (γ 0) 1 [ρ 0, ρ 1, ρ 2, ρ 3, ρ 4, ρ 5, ρ 6] (γ 1)
  have hD : en46 (γ 0) (0, [ρ 0, ρ 1, ρ 6], γ 1) = .inl (1, [ρ 0, ρ 1, ρ 6], γ 1) := by
    unfold en46
    refine zIP (show (0 : Nat) = 0 by decide) (zLV (γ 1) rfl (zLV (ρ 0) rfl (zLV (ρ 1) rfl (zLV (ρ 6) rfl (zIN w_0 ?_)))))
    rfl
  exact zGoo_ato hJ hD
theorem vn46a1_0 {S : Nat → zSpc}  {a : List Int} {g : rHp} : ∀ (ρ : Nat → Int) (γ : Nat → rHp), jn46 a g 1 (zAg (zNA a46_ 1) ρ) (γ 1) → zO 6 S a g q46a1_0 ρ γ → zGl (fun i vs g1 => jn46 a g i vs g1) (sn46 a g) q46a1_0 ρ γ := by
  intro ρ γ hJ h
  obtain ⟨ha, hg, hr, hf, hm, hc, hl⟩ := h
  have ha : a = [ρ 0, ρ 1, ρ 2, ρ 3, ρ 4, ρ 5] := ha
  subst ha
  subst hg
  have hJ : jn46 [ρ 0, ρ 1, ρ 2, ρ 3, ρ 4, ρ 5] (γ 0) 1 [ρ 0, ρ 1, ρ 2, ρ 3, ρ 4, ρ 5, ρ 6] (γ 1) := hJ
  show jn46 [ρ 0, ρ 1, ρ 2, ρ 3, ρ 4, ρ 5] (γ 0) 0 [ρ 0, ρ 1, ρ 2, ρ 3, ρ 4, ρ 5, ρ 6 + 1] (γ 1)
  have hD : en46 (γ 0) (1, [ρ 0, ρ 1, ρ 6], γ 1) = .inl (0, [ρ 0, ρ 1, ρ 6 + 1], γ 1) := by
    unfold en46
    refine zIN (show ¬ (1 : Nat) = 0 by decide) (zIP (show (1 : Nat) = 1 by decide) (zLV (γ 1) rfl (zLV (ρ 0) rfl (zLV (ρ 1) rfl (zLV (ρ 6) rfl ?_)))))
    rfl
  exact zGoo_ato hJ hD
theorem vn46a1_1 {S : Nat → zSpc}  {a : List Int} {g : rHp} : ∀ (ρ : Nat → Int) (γ : Nat → rHp), jn46 a g 1 (zAg (zNA a46_ 1) ρ) (γ 1) → zO 6 S a g q46a1_1 ρ γ → zGl (fun i vs g1 => jn46 a g i vs g1) (sn46 a g) q46a1_1 ρ γ := by
  intro ρ γ hJ h
  obtain ⟨ha, hg, hr, hf, hm, hc, hl⟩ := h
  have ha : a = [ρ 0, ρ 1, ρ 2, ρ 3, ρ 4, ρ 5] := ha
  subst ha
  subst hg
  have hJ : jn46 [ρ 0, ρ 1, ρ 2, ρ 3, ρ 4, ρ 5] (γ 0) 1 [ρ 0, ρ 1, ρ 2, ρ 3, ρ 4, ρ 5, ρ 6] (γ 1) := hJ
  show jn46 [ρ 0, ρ 1, ρ 2, ρ 3, ρ 4, ρ 5] (γ 0) 0 [ρ 0, ρ 1, ρ 2, ρ 3, ρ 4, ρ 5, ρ 6 + 1] (γ 1)
  have hD : en46 (γ 0) (1, [ρ 0, ρ 1, ρ 6], γ 1) = .inl (0, [ρ 0, ρ 1, ρ 6 + 1], γ 1) := by
    unfold en46
    refine zIN (show ¬ (1 : Nat) = 0 by decide) (zIP (show (1 : Nat) = 1 by decide) (zLV (γ 1) rfl (zLV (ρ 0) rfl (zLV (ρ 1) rfl (zLV (ρ 6) rfl ?_)))))
    rfl
  exact zGoo_ato hJ hD
theorem yn46 {S : Nat → zSpc}  : ∀ x g o v gz, zSem uW uT w46_.2.2.2.1 w46_.2.2.1.1.length S q46 (fun i => q46a.getD i []) (zNA a46_) x g o v gz → sn46 x g o v gz := by
  intro a g o v gz h
  exact zSem_all (l0 := q46) (las := q46a) (S := S) (J := (fun i vs g1 => jn46 a g i vs g1)) (P := sn46 a g) (fun _ => (show zAll _ [q46_0] from (zAll_c (vn46_0 ) zAll_n))) (fun _ => (show zAllI _ 0 [q46a0, q46a1] from ⟨(show zAll _ [q46a0_0, q46a0_1] from (zAll_c (vn46a0_0 ) (zAll_c (vn46a0_1 ) zAll_n))), ⟨(show zAll _ [q46a1_0, q46a1_1] from (zAll_c (vn46a1_0 ) (zAll_c (vn46a1_1 ) zAll_n))), trivial⟩⟩)) h
theorem vn47_0 {S : Nat → zSpc}  {a : List Int} {g : rHp} : ∀ (ρ : Nat → Int) (γ : Nat → rHp), zO 7 S a g q47_0 ρ γ → zGl (fun _ _ _ => True) (sn47 a g) q47_0 ρ γ := by
  intro ρ γ h
  obtain ⟨ha, hg, hr, hf, hm, hc, hl⟩ := h
  have ha : a = [ρ 0, ρ 1, ρ 2, ρ 3, ρ 4, ρ 5, ρ 6] := ha
  subst ha
  subst hg
  have c1 : γ 1 = rUp (γ 0) 15 0 44 (ρ 0) := And.right (zChA hc 4)
  have c2 : γ 2 = rUp (γ 1) 73 0 (ρ 0) 0 := And.right (zChA hc 3)
  have c3 : γ 3 = rUp (γ 2) 74 0 (ρ 0) 0 := And.right (zChA hc 2)
  have c4 : γ 4 = rUp (γ 3) 15 0 45 0 := And.right (zChA hc 1)
  have c5 : γ 5 = rUp (γ 4) 15 0 58 0 := And.right (zChA hc 0)
  show sn47 [ρ 0, ρ 1, ρ 2, ρ 3, ρ 4, ρ 5, ρ 6] (γ 0) 0 0 (γ 5)
  refine Eq.symm ?_
  show fn47 [ρ 0] (γ 0) = _
  unfold fn47
  refine zLV (ρ 0) rfl (zLE c1.symm (zLE c2.symm (zLE c3.symm (zLE c4.symm (zLE c5.symm ?_)))))
  rfl
theorem yn47 {S : Nat → zSpc}  : ∀ x g o v gz, zSem uW uT w47_.2.2.2.1 w47_.2.2.1.1.length S q47 (fun i => q47a.getD i []) (zNA a47_) x g o v gz → sn47 x g o v gz := by
  intro a g o v gz h
  exact zSem_all (l0 := q47) (las := q47a) (S := S) (J := (fun _ _ _ => True)) (P := sn47 a g) (fun _ => (show zAll _ [q47_0] from (zAll_c (vn47_0 ) zAll_n))) (fun _ => (show zAllI _ 0 [] from trivial)) h
theorem vn48_0 {S : Nat → zSpc}  {a : List Int} {g : rHp} : ∀ (ρ : Nat → Int) (γ : Nat → rHp), zO 4 S a g q48_0 ρ γ → zGl (fun _ _ _ => True) (sn48 a g) q48_0 ρ γ := by
  intro ρ γ h
  obtain ⟨ha, hg, hr, hf, hm, hc, hl⟩ := h
  have ha : a = [ρ 0, ρ 1, ρ 2, ρ 3] := ha
  subst ha
  subst hg
  have c1 : γ 1 = rUp (γ 0) 15 0 44 61 := And.right (zChA hc 4)
  have c2 : γ 2 = rUp (γ 1) 73 0 61 0 := And.right (zChA hc 3)
  have c3 : γ 3 = rUp (γ 2) 74 0 61 0 := And.right (zChA hc 2)
  have c4 : γ 4 = rUp (γ 3) 15 0 45 0 := And.right (zChA hc 1)
  have c5 : γ 5 = rUp (γ 4) 15 0 58 0 := And.right (zChA hc 0)
  show sn48 [ρ 0, ρ 1, ρ 2, ρ 3] (γ 0) 0 0 (γ 5)
  refine Eq.symm ?_
  show fn48 [] (γ 0) = _
  unfold fn48
  refine zLE c1.symm (zLE c2.symm (zLE c3.symm (zLE c4.symm (zLE c5.symm ?_))))
  rfl
theorem yn48 {S : Nat → zSpc}  : ∀ x g o v gz, zSem uW uT w48_.2.2.2.1 w48_.2.2.1.1.length S q48 (fun i => q48a.getD i []) (zNA a48_) x g o v gz → sn48 x g o v gz := by
  intro a g o v gz h
  exact zSem_all (l0 := q48) (las := q48a) (S := S) (J := (fun _ _ _ => True)) (P := sn48 a g) (fun _ => (show zAll _ [q48_0] from (zAll_c (vn48_0 ) zAll_n))) (fun _ => (show zAllI _ 0 [] from trivial)) h
