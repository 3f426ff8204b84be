/-! ===== the runs are the functions ===== -/
theorem vn38_0 {S : Nat → zSpc} (hS6 : zIm S 6 sn6) (hS7 : zIm S 7 sn7) (hS8 : zIm S 8 sn8) (hS37 : zIm S 37 sn37) {a : List Int} {g : rHp} : ∀ (ρ : Nat → Int) (γ : Nat → rHp), zO 15 S a g q38_0 ρ γ → zGl (fun i vs g1 => jn38 a g i vs g1) (sn38 a g) q38_0 ρ γ := by
  intro ρ γ h
  obtain ⟨ha, hg, hr, hf, hm, hc, hl⟩ := h
  have ha : a = [ρ 0, ρ 1, ρ 2, ρ 3, ρ 4, ρ 5, ρ 6, ρ 7, ρ 8, ρ 9, ρ 10, ρ 11, ρ 12, ρ 13, ρ 14] := ha
  subst ha
  subst hg
  show jn38 [ρ 0, ρ 1, ρ 2, ρ 3, ρ 4, ρ 5, ρ 6, ρ 7, ρ 8, ρ 9, ρ 10, ρ 11, ρ 12, ρ 13, ρ 14] (γ 0) 0 [ρ 0, ρ 1, ρ 2, ρ 3, ρ 4, ρ 5, ρ 6, ρ 7, ρ 8, ρ 9, ρ 10, ρ 11, ρ 12, ρ 13, ρ 14, 1, ρ 1, ρ 3, ρ 4, ρ 5, ρ 9, ρ 11, ρ 12, ρ 13, ρ 14, ρ 8] (γ 0)
  have hD : dn38 [ρ 0] (γ 0) = .inl (0, [ρ 0, 1], γ 0) := by
    unfold dn38
    refine zLV (ρ 0) rfl ?_
    rfl
  exact zGoo_to hD
theorem vn38a0_0 {S : Nat → zSpc} (hS6 : zIm S 6 sn6) (hS7 : zIm S 7 sn7) (hS8 : zIm S 8 sn8) (hS37 : zIm S 37 sn37) {a : List Int} {g : rHp} : ∀ (ρ : Nat → Int) (γ : Nat → rHp), jn38 a g 0 (zAg (zNA a38_ 0) ρ) (γ 1) → zO 15 S a g q38a0_0 ρ γ → zGl (fun i vs g1 => jn38 a g i vs g1) (sn38 a g) q38a0_0 ρ γ := by
  intro ρ γ hJ h
  obtain ⟨ha, hg, hr, hf, hm, hc, hl⟩ := h
  have ha : a = [ρ 0, ρ 1, ρ 2, ρ 3, ρ 4, ρ 5, ρ 6, ρ 7, ρ 8, ρ 9, ρ 10, ρ 11, ρ 12, ρ 13, ρ 14] := ha
  subst ha
  subst hg
  have hJ : jn38 [ρ 0, ρ 1, ρ 2, ρ 3, ρ 4, ρ 5, ρ 6, ρ 7, ρ 8, ρ 9, ρ 10, ρ 11, ρ 12, ρ 13, ρ 14] (γ 0) 0 [ρ 0, ρ 1, ρ 2, ρ 3, ρ 4, ρ 5, ρ 6, ρ 7, ρ 8, ρ 9, ρ 10, ρ 11, ρ 12, ρ 13, ρ 14, ρ 15, ρ 16, ρ 17, ρ 18, ρ 19, ρ 20, ρ 21, ρ 22, ρ 23, ρ 24, ρ 25] (γ 1) := hJ
  have r15 : (0 : Int) ≤ ρ 15 ∧ ρ 15 ≤ 0 := zRnA hr 15
  have w_0 : ρ 15 = 0 := by omega
  have m1 : γ 0 15 0 34 = ρ 2 := zAllA hm 1
  have m6 : γ 0 15 0 44 = ρ 7 := zAllA hm 6
  have m24 : γ 1 73 0 (ρ 7) = ρ 25 := zAllA hm 24
  show sn38 [ρ 0, ρ 1, ρ 2, ρ 3, ρ 4, ρ 5, ρ 6, ρ 7, ρ 8, ρ 9, ρ 10, ρ 11, ρ 12, ρ 13, ρ 14] (γ 0) 0 1 (γ 1)
  have hD : en38 (γ 0) (0, [ρ 0, ρ 15], γ 1) = .inr (0, 1, γ 1) := by
    unfold en38
    refine zIP (show (0 : Nat) = 0 by decide) (zLV (γ 1) rfl (zLV (ρ 0) rfl (zLV (ρ 15) rfl (zLE m1 (zLE m6 (zLE m24 (zIP w_0 ?_)))))))
    rfl
  exact zGoo_aend hJ hD
theorem vn38a0_1 {S : Nat → zSpc} (hS6 : zIm S 6 sn6) (hS7 : zIm S 7 sn7) (hS8 : zIm S 8 sn8) (hS37 : zIm S 37 sn37) {a : List Int} {g : rHp} : ∀ (ρ : Nat → Int) (γ : Nat → rHp), jn38 a g 0 (zAg (zNA a38_ 0) ρ) (γ 1) → zO 15 S a g q38a0_1 ρ γ → zGl (fun i vs g1 => jn38 a g i vs g1) (sn38 a g) q38a0_1 ρ γ := by
  intro ρ γ hJ h
  obtain ⟨ha, hg, hr, hf, hm, hc, hl⟩ := h
  have ha : a = [ρ 0, ρ 1, ρ 2, ρ 3, ρ 4, ρ 5, ρ 6, ρ 7, ρ 8, ρ 9, ρ 10, ρ 11, ρ 12, ρ 13, ρ 14] := ha
  subst ha
  subst hg
  have hJ : jn38 [ρ 0, ρ 1, ρ 2, ρ 3, ρ 4, ρ 5, ρ 6, ρ 7, ρ 8, ρ 9, ρ 10, ρ 11, ρ 12, ρ 13, ρ 14] (γ 0) 0 [ρ 0, ρ 1, ρ 2, ρ 3, ρ 4, ρ 5, ρ 6, ρ 7, ρ 8, ρ 9, ρ 10, ρ 11, ρ 12, ρ 13, ρ 14, ρ 15, ρ 16, ρ 17, ρ 18, ρ 19, ρ 20, ρ 21, ρ 22, ρ 23, ρ 24, ρ 25] (γ 1) := hJ
  have r15 : (1 : Int) ≤ ρ 15 ∧ ρ 15 ≤ 1 := zRnA hr 15
  have r25 : (0 : Int) ≤ ρ 25 ∧ ρ 25 ≤ 7 := zRnA hr 25
  obtain ⟨w_0, w_1⟩ : (¬ (ρ 15 = 0)) ∧ (ρ 25 ≠ 8) := ⟨by omega, by omega⟩
  have m1 : γ 0 15 0 34 = ρ 2 := zAllA hm 1
  have m6 : γ 0 15 0 44 = ρ 7 := zAllA hm 6
  have m24 : γ 1 73 0 (ρ 7) = ρ 25 := zAllA hm 24
  have m25 : γ 2 15 0 35 = ρ 26 := zAllA hm 25
  have l0 : sn7 [ρ 16, ρ 2] (γ 1) 0 0 (γ 2) := hS7 _ _ _ _ _ (zAllA hl 0)
  have l1 : sn37 [ρ 0, ρ 26, ρ 2, ρ 17, ρ 18, ρ 19, ρ 7, ρ 25, ρ 27, ρ 28, ρ 20, ρ 10, ρ 21, ρ 22, ρ 23, ρ 24] (γ 2) 0 0 (γ 3) := hS37 _ _ _ _ _ (zAllA hl 1)
  show sn38 [ρ 0, ρ 1, ρ 2, ρ 3, ρ 4, ρ 5, ρ 6, ρ 7, ρ 8, ρ 9, ρ 10, ρ 11, ρ 12, ρ 13, ρ 14] (γ 0) 0 0 (γ 3)
  have hD : en38 (γ 0) (0, [ρ 0, ρ 15], γ 1) = .inr (0, 0, γ 3) := by
    unfold en38
    refine zIP (show (0 : Nat) = 0 by decide) (zLV (γ 1) rfl (zLV (ρ 0) rfl (zLV (ρ 15) rfl (zLE m1 (zLE m6 (zLE m24 (zIN w_0 ?_)))))))
    refine zLE (show fn7 [] (γ 1) = (0, 0, γ 2) from l0.symm) (zLV (γ 2) rfl (zLE m25 (zIP w_1 (zLE (show fn37 [ρ 0] (γ 2) = (0, 0, γ 3) from l1.symm) (zLV (γ 3) rfl (zIN zQ0_ ?_))))))
    rfl
  exact zGoo_aend hJ hD
theorem vn38a0_2 {S : Nat → zSpc} (hS6 : zIm S 6 sn6) (hS7 : zIm S 7 sn7) (hS8 : zIm S 8 sn8) (hS37 : zIm S 37 sn37) {a : List Int} {g : rHp} : ∀ (ρ : Nat → Int) (γ : Nat → rHp), jn38 a g 0 (zAg (zNA a38_ 0) ρ) (γ 1) → zO 15 S a g q38a0_2 ρ γ → zGl (fun i vs g1 => jn38 a g i vs g1) (sn38 a g) q38a0_2 ρ γ := by
  intro ρ γ hJ h
  obtain ⟨ha, hg, hr, hf, hm, hc, hl⟩ := h
  have ha : a = [ρ 0, ρ 1, ρ 2, ρ 3, ρ 4, ρ 5, ρ 6, ρ 7, ρ 8, ρ 9, ρ 10, ρ 11, ρ 12, ρ 13, ρ 14] := ha
  subst ha
  subst hg
  have hJ : jn38 [ρ 0, ρ 1, ρ 2, ρ 3, ρ 4, ρ 5, ρ 6, ρ 7, ρ 8, ρ 9, ρ 10, ρ 11, ρ 12, ρ 13, ρ 14] (γ 0) 0 [ρ 0, ρ 1, ρ 2, ρ 3, ρ 4, ρ 5, ρ 6, ρ 7, ρ 8, ρ 9, ρ 10, ρ 11, ρ 12, ρ 13, ρ 14, ρ 15, ρ 16, ρ 17, ρ 18, ρ 19, ρ 20, ρ 21, ρ 22, ρ 23, ρ 24, ρ 25] (γ 1) := hJ
  have r0 : (0 : Int) ≤ ρ 0 ∧ ρ 0 ≤ 1 := zRnA hr 0
  have r1 : (0 : Int) ≤ ρ 1 ∧ ρ 1 ≤ 2000 := zRnA hr 1
  have r2 : (0 : Int) ≤ ρ 2 ∧ ρ 2 ≤ 2000 := zRnA hr 2
  have r3 : (0 : Int) ≤ ρ 3 ∧ ρ 3 ≤ 12288 := zRnA hr 3
  have r4 : (0 : Int) ≤ ρ 4 ∧ ρ 4 ≤ 12288 := zRnA hr 4
  have r5 : (0 : Int) ≤ ρ 5 ∧ ρ 5 ≤ 64 := zRnA hr 5
  have r6 : (0 : Int) ≤ ρ 6 ∧ ρ 6 ≤ 60 := zRnA hr 6
  have r7 : (0 : Int) ≤ ρ 7 ∧ ρ 7 ≤ 61 := zRnA hr 7
  have r8 : (0 : Int) ≤ ρ 8 ∧ ρ 8 ≤ 8 := zRnA hr 8
  have r9 : (0 : Int) ≤ ρ 9 ∧ ρ 9 ≤ 20 := zRnA hr 9
  have r10 : (0 : Int) ≤ ρ 10 ∧ ρ 10 ≤ 2000 := zRnA hr 10
  have r11 : (0 : Int) ≤ ρ 11 ∧ ρ 11 ≤ 2000 := zRnA hr 11
  have r12 : (0 : Int) ≤ ρ 12 ∧ ρ 12 ≤ 2000 := zRnA hr 12
  have r13 : (0 : Int) ≤ ρ 13 ∧ ρ 13 ≤ 3 := zRnA hr 13
  have r14 : ((-2147483648) : Int) ≤ ρ 14 ∧ ρ 14 ≤ 2147483647 := zRnA hr 14
  have r15 : (1 : Int) ≤ ρ 15 ∧ ρ 15 ≤ 1 := zRnA hr 15
  have r16 : (0 : Int) ≤ ρ 16 ∧ ρ 16 ≤ 2000 := zRnA hr 16
  have r17 : (0 : Int) ≤ ρ 17 ∧ ρ 17 ≤ 12288 := zRnA hr 17
  have r18 : (0 : Int) ≤ ρ 18 ∧ ρ 18 ≤ 12288 := zRnA hr 18
  have r19 : (0 : Int) ≤ ρ 19 ∧ ρ 19 ≤ 43 := zRnA hr 19
  have r20 : (0 : Int) ≤ ρ 20 ∧ ρ 20 ≤ 20 := zRnA hr 20
  have r21 : (0 : Int) ≤ ρ 21 ∧ ρ 21 ≤ 2000 := zRnA hr 21
  have r22 : (0 : Int) ≤ ρ 22 ∧ ρ 22 ≤ 2000 := zRnA hr 22
  have r23 : (0 : Int) ≤ ρ 23 ∧ ρ 23 ≤ 3 := zRnA hr 23
  have r24 : ((-2147483648) : Int) ≤ ρ 24 ∧ ρ 24 ≤ 2147483647 := zRnA hr 24
  have r25 : (0 : Int) ≤ ρ 25 ∧ ρ 25 ≤ 7 := zRnA hr 25
  have r26 : (0 : Int) ≤ ρ 26 ∧ ρ 26 ≤ 2000 := zRnA hr 26
  have r27 : (0 : Int) ≤ ρ 27 ∧ ρ 27 ≤ 7 := zRnA hr 27
  have r28 : ((-2147483648) : Int) ≤ ρ 28 ∧ ρ 28 ≤ 1099511640064 := zRnA hr 28
  have r29 : (2 : Int) ≤ ρ 29 ∧ ρ 29 ≤ 2000 := zRnA hr 29
  have r30 : (0 : Int) ≤ ρ 30 ∧ ρ 30 ≤ 12288 := zRnA hr 30
  have r31 : (0 : Int) ≤ ρ 31 ∧ ρ 31 ≤ 12288 := zRnA hr 31
  have r32 : (0 : Int) ≤ ρ 32 ∧ ρ 32 ≤ 39 := zRnA hr 32
  have r33 : (0 : Int) ≤ ρ 33 ∧ ρ 33 ≤ 4 := zRnA hr 33
  have r34 : ((-2147483648) : Int) ≤ ρ 34 ∧ ρ 34 ≤ 1099511640064 := zRnA hr 34
  have r35 : (0 : Int) ≤ ρ 35 ∧ ρ 35 ≤ 20 := zRnA hr 35
  have r36 : (0 : Int) ≤ ρ 36 ∧ ρ 36 ≤ 2000 := zRnA hr 36
  have r37 : (0 : Int) ≤ ρ 37 ∧ ρ 37 ≤ 2000 := zRnA hr 37
  have r38 : (0 : Int) ≤ ρ 38 ∧ ρ 38 ≤ 3 := zRnA hr 38
  have r39 : ((-2147483648) : Int) ≤ ρ 39 ∧ ρ 39 ≤ 2147483647 := zRnA hr 39
  have r40 : (0 : Int) ≤ ρ 40 ∧ ρ 40 ≤ 2000 := zRnA hr 40
  have r41 : ((-128) : Int) ≤ ρ 41 ∧ ρ 41 ≤ 127 := zRnA hr 41
  have f0 : (0 : Int) ≤ -ρ 40 + ρ 2 + (-1) := zAllA hf 0
  have f1 : (0 : Int) ≤ -ρ 29 + ρ 2 := zAllA hf 1
  have f2 : (0 : Int) ≤ ρ 40 + -ρ 29 := zAllA hf 2
  have f3 : (0 : Int) ≤ -ρ 40 + ρ 2 := zAllA hf 3
  have f4 : (0 : Int) ≤ ρ 26 + (-ρ 17 + -ρ 2) + 12288 := zAllA hf 4
  have f5 : (0 : Int) ≤ ρ 26 + (-ρ 18 + -ρ 2) + 12288 := zAllA hf 5
  have f6 : (0 : Int) ≤ -ρ 26 + ρ 2 := zAllA hf 6
  have f7 : (0 : Int) ≤ 4 * ρ 25 + -ρ 19 + 6 := zAllA hf 7
  have f8 : (0 : Int) ≤ ρ 29 + -ρ 26 + (-1) := zAllA hf 8
  have f9 : (0 : Int) ≤ ρ 30 + -ρ 17 := zAllA hf 9
  have f10 : (0 : Int) ≤ ρ 31 + -ρ 18 := zAllA hf 10
  have f11 : (0 : Int) ≤ ρ 32 + -ρ 19 := zAllA hf 11
  have f12 : (0 : Int) ≤ ρ 35 + -ρ 20 := zAllA hf 12
  have f13 : (0 : Int) ≤ ρ 2 + -ρ 0 + (-1) := zAllA hf 13
  have f14 : (0 : Int) ≤ -ρ 26 + ρ 2 + (-1) := zAllA hf 14
  have f15 : (0 : Int) ≤ -ρ 30 + (ρ 29 + (-ρ 26 + ρ 17)) := zAllA hf 15
  have f16 : (0 : Int) ≤ -ρ 31 + (ρ 29 + (-ρ 26 + ρ 18)) := zAllA hf 16
  have f17 : (0 : Int) ≤ -ρ 32 + 4 * ρ 25 + 10 := zAllA hf 17
  have f18 : (0 : Int) ≤ -ρ 16 + ρ 2 := zAllA hf 18
  have f19 : (0 : Int) ≤ ρ 26 + -ρ 16 := zAllA hf 19
  have f20 : (0 : Int) ≤ -ρ 18 + (ρ 16 + -ρ 2) + 12288 := zAllA hf 20
  have f21 : (0 : Int) ≤ -ρ 17 + (ρ 16 + -ρ 2) + 12288 := zAllA hf 21
  have f22 : (0 : Int) ≤ -ρ 18 + (ρ 16 + (ρ 4 + -ρ 1)) := zAllA hf 22
  have f23 : (0 : Int) ≤ -ρ 17 + (ρ 16 + (ρ 3 + -ρ 1)) := zAllA hf 23
  have f24 : (0 : Int) ≤ ρ 25 + -ρ 8 := zAllA hf 24
  have f25 : (0 : Int) ≤ ρ 20 + -ρ 9 := zAllA hf 25
  have f26 : (0 : Int) ≤ ρ 19 + -ρ 5 := zAllA hf 26
  have f27 : (0 : Int) ≤ ρ 18 + -ρ 4 := zAllA hf 27
  have f28 : (0 : Int) ≤ ρ 17 + -ρ 3 := zAllA hf 28
  have f29 : (0 : Int) ≤ ρ 16 + -ρ 1 := zAllA hf 29
  have f30 : (0 : Int) ≤ ρ 7 + -ρ 6 := zAllA hf 30
  have f31 : (0 : Int) ≤ 4 * ρ 8 + -ρ 5 + 6 := zAllA hf 31
  have f32 : (0 : Int) ≤ ρ 2 + -ρ 1 := zAllA hf 32
  have f33 : (0 : Int) ≤ -ρ 4 + (-ρ 2 + ρ 1) + 12288 := zAllA hf 33
  have f34 : (0 : Int) ≤ -ρ 3 + (-ρ 2 + ρ 1) + 12288 := zAllA hf 34
  have m0 : γ 0 15 0 35 = ρ 1 := zAllA hm 0
  have m1 : γ 0 15 0 34 = ρ 2 := zAllA hm 1
  have m2 : γ 0 15 0 8 = ρ 3 := zAllA hm 2
  have m3 : γ 0 15 0 9 = ρ 4 := zAllA hm 3
  have m4 : γ 0 15 0 58 = ρ 5 := zAllA hm 4
  have m5 : γ 0 15 0 32 = ρ 6 := zAllA hm 5
  have m6 : γ 0 15 0 44 = ρ 7 := zAllA hm 6
  have m7 : γ 0 73 0 (ρ 7) = ρ 8 := zAllA hm 7
  have m8 : γ 0 15 0 14 = ρ 9 := zAllA hm 8
  have m9 : γ 0 15 0 36 = ρ 10 := zAllA hm 9
  have m10 : γ 0 15 0 37 = ρ 11 := zAllA hm 10
  have m11 : γ 0 15 0 38 = ρ 12 := zAllA hm 11
  have m12 : γ 0 15 0 40 = ρ 13 := zAllA hm 12
  have m13 : γ 0 15 0 45 = ρ 14 := zAllA hm 13
  have m14 : γ 1 15 0 35 = ρ 16 := zAllA hm 14
  have m15 : γ 1 15 0 8 = ρ 17 := zAllA hm 15
  have m16 : γ 1 15 0 9 = ρ 18 := zAllA hm 16
  have m17 : γ 1 15 0 58 = ρ 19 := zAllA hm 17
  have m18 : γ 1 15 0 14 = ρ 20 := zAllA hm 18
  have m19 : γ 1 15 0 36 = ρ 10 := zAllA hm 19
  have m20 : γ 1 15 0 37 = ρ 21 := zAllA hm 20
  have m21 : γ 1 15 0 38 = ρ 22 := zAllA hm 21
  have m22 : γ 1 15 0 40 = ρ 23 := zAllA hm 22
  have m23 : γ 1 15 0 45 = ρ 24 := zAllA hm 23
  have m24 : γ 1 73 0 (ρ 7) = ρ 25 := zAllA hm 24
  have m25 : γ 2 15 0 35 = ρ 26 := zAllA hm 25
  have m26 : γ 1 77 0 (ρ 25 + 8 * ρ 7) = ρ 27 := zAllA hm 26
  have m27 : γ 1 81 0 (4 * ρ 25 + 32 * ρ 7) = ρ 28 := zAllA hm 27
  have m28 : γ 3 15 0 35 = ρ 29 := zAllA hm 28
  have m29 : γ 3 15 0 8 = ρ 30 := zAllA hm 29
  have m30 : γ 3 15 0 9 = ρ 31 := zAllA hm 30
  have m31 : γ 3 15 0 58 = ρ 32 := zAllA hm 31
  have m32 : γ 3 77 0 (ρ 25 + 8 * ρ 7) = ρ 33 := zAllA hm 32
  have m33 : γ 3 81 0 (4 * ρ 25 + 32 * ρ 7) = ρ 34 := zAllA hm 33
  have m34 : γ 3 15 0 14 = ρ 35 := zAllA hm 34
  have m35 : γ 3 15 0 36 = ρ 10 := zAllA hm 35
  have m36 : γ 3 15 0 37 = ρ 36 := zAllA hm 36
  have m37 : γ 3 15 0 38 = ρ 37 := zAllA hm 37
  have m38 : γ 3 15 0 40 = ρ 38 := zAllA hm 38
  have m39 : γ 3 15 0 45 = ρ 39 := zAllA hm 39
  have m40 : γ 5 15 0 35 = ρ 40 := zAllA hm 40
  have c1 : ∀ (G : Nat) (k j : Int), ¬ rMdP m27_ G j → γ 1 G k j = γ 0 G k j := And.right (zChA hc 5)
  have c2 : ∀ (G : Nat) (k j : Int), ¬ rMdP m6_ G j → γ 2 G k j = γ 1 G k j := And.right (zChA hc 4)
  have c3 : ∀ (G : Nat) (k j : Int), ¬ rMdP m25_ G j → γ 3 G k j = γ 2 G k j := And.right (zChA hc 3)
  have c4 : γ 4 = rUp (γ 3) 73 0 (ρ 7) (ρ 25 + 1) := And.right (zChA hc 2)
  have c5 : ∀ (G : Nat) (k j : Int), ¬ rMdP m6_ G j → γ 5 G k j = γ 4 G k j := And.right (zChA hc 1)
  have c6 : ∀ (G : Nat) (k j : Int), ¬ rMdP m0_ G j → γ 6 G k j = γ 5 G k j := And.right (zChA hc 0)
  have l0 : sn7 [ρ 16, ρ 2] (γ 1) 0 0 (γ 2) := hS7 _ _ _ _ _ (zAllA hl 0)
  have l1 : sn37 [ρ 0, ρ 26, ρ 2, ρ 17, ρ 18, ρ 19, ρ 7, ρ 25, ρ 27, ρ 28, ρ 20, ρ 10, ρ 21, ρ 22, ρ 23, ρ 24] (γ 2) 0 1 (γ 3) := hS37 _ _ _ _ _ (zAllA hl 1)
  have l2 : sn7 [ρ 29, ρ 2] (γ 4) 0 0 (γ 5) := hS7 _ _ _ _ _ (zAllA hl 2)
  have l3 : sn6 [ρ 40, ρ 2] (γ 5) 0 (ρ 41) (γ 6) := hS6 _ _ _ _ _ (zAllA hl 3)
  have l4 : ρ 41 ≠ 44 := zAllA hl 4
  show jn38 [ρ 0, ρ 1, ρ 2, ρ 3, ρ 4, ρ 5, ρ 6, ρ 7, ρ 8, ρ 9, ρ 10, ρ 11, ρ 12, ρ 13, ρ 14] (γ 0) 0 [ρ 0, ρ 1, ρ 2, ρ 3, ρ 4, ρ 5, ρ 6, ρ 7, ρ 8, ρ 9, ρ 10, ρ 11, ρ 12, ρ 13, ρ 14, 0, ρ 40, ρ 30, ρ 31, ρ 32, ρ 35, ρ 36, ρ 37, ρ 38, ρ 39, ρ 25 + 1] (γ 6)
  have hD : en38 (γ 0) (0, [ρ 0, ρ 15], γ 1) = .inl (0, [ρ 0, 0], γ 6) := by
    unfold en38
    refine zIP (show (0 : Nat) = 0 by decide) (zLV (γ 1) rfl (zLV (ρ 0) rfl (zLV (ρ 15) rfl (zLE m1 (zLE m6 (zLE m24 (zIN (show ¬ (ρ 15 = 0) by omega) ?_)))))))
    refine zLE (show fn7 [] (γ 1) = (0, 0, γ 2) from l0.symm) (zLV (γ 2) rfl (zLE m25 (zIP (show ρ 25 ≠ 8 by omega) (zLE (show fn37 [ρ 0] (γ 2) = (0, 1, γ 3) from l1.symm) (zLV (γ 3) rfl (zIP (show (1 : Int) ≤ 1 by omega) (zIN (show ¬ (5 ≤ γ 3 77 0 (ρ 25 + 8 * ρ 7)) by omega) ?_)))))))
    refine zLE c4.symm (zLE (show fn7 [] (γ 4) = (0, 0, γ 5) from l2.symm) (zLV (γ 5) rfl (zLE m40 (zLE (show fn6 [ρ 40] (γ 5) = (0, ρ 41, γ 6) from l3.symm) (zLV (γ 6) rfl (zIP (show 0 ≤ -ρ 40 + ρ 2 + (-1) by omega) (zLV (ρ 41) rfl ?_)))))))
    refine zIP (show ρ 41 ≠ 44 by omega) ?_
    rfl
  exact zGoo_ato hJ hD
theorem vn38a0_3 {S : Nat → zSpc} (hS6 : zIm S 6 sn6) (hS7 : zIm S 7 sn7) (hS8 : zIm S 8 sn8) (hS37 : zIm S 37 sn37) {a : List Int} {g : rHp} : ∀ (ρ : Nat → Int) (γ : Nat → rHp), jn38 a g 0 (zAg (zNA a38_ 0) ρ) (γ 1) → zO 15 S a g q38a0_3 ρ γ → zGl (fun i vs g1 => jn38 a g i vs g1) (sn38 a g) q38a0_3 ρ γ := by
  intro ρ γ hJ h
  obtain ⟨ha, hg, hr, hf, hm, hc, hl⟩ := h
  have ha : a = [ρ 0, ρ 1, ρ 2, ρ 3, ρ 4, ρ 5, ρ 6, ρ 7, ρ 8, ρ 9, ρ 10, ρ 11, ρ 12, ρ 13, ρ 14] := ha
  subst ha
  subst hg
  have hJ : jn38 [ρ 0, ρ 1, ρ 2, ρ 3, ρ 4, ρ 5, ρ 6, ρ 7, ρ 8, ρ 9, ρ 10, ρ 11, ρ 12, ρ 13, ρ 14] (γ 0) 0 [ρ 0, ρ 1, ρ 2, ρ 3, ρ 4, ρ 5, ρ 6, ρ 7, ρ 8, ρ 9, ρ 10, ρ 11, ρ 12, ρ 13, ρ 14, ρ 15, ρ 16, ρ 17, ρ 18, ρ 19, ρ 20, ρ 21, ρ 22, ρ 23, ρ 24, ρ 25] (γ 1) := hJ
  have r0 : (0 : Int) ≤ ρ 0 ∧ ρ 0 ≤ 1 := zRnA hr 0
  have r1 : (0 : Int) ≤ ρ 1 ∧ ρ 1 ≤ 2000 := zRnA hr 1
  have r2 : (0 : Int) ≤ ρ 2 ∧ ρ 2 ≤ 2000 := zRnA hr 2
  have r3 : (0 : Int) ≤ ρ 3 ∧ ρ 3 ≤ 12288 := zRnA hr 3
  have r4 : (0 : Int) ≤ ρ 4 ∧ ρ 4 ≤ 12288 := zRnA hr 4
  have r5 : (0 : Int) ≤ ρ 5 ∧ ρ 5 ≤ 64 := zRnA hr 5
  have r6 : (0 : Int) ≤ ρ 6 ∧ ρ 6 ≤ 60 := zRnA hr 6
  have r7 : (0 : Int) ≤ ρ 7 ∧ ρ 7 ≤ 61 := zRnA hr 7
  have r8 : (0 : Int) ≤ ρ 8 ∧ ρ 8 ≤ 8 := zRnA hr 8
  have r9 : (0 : Int) ≤ ρ 9 ∧ ρ 9 ≤ 20 := zRnA hr 9
  have r10 : (0 : Int) ≤ ρ 10 ∧ ρ 10 ≤ 2000 := zRnA hr 10
  have r11 : (0 : Int) ≤ ρ 11 ∧ ρ 11 ≤ 2000 := zRnA hr 11
  have r12 : (0 : Int) ≤ ρ 12 ∧ ρ 12 ≤ 2000 := zRnA hr 12
  have r13 : (0 : Int) ≤ ρ 13 ∧ ρ 13 ≤ 3 := zRnA hr 13
  have r14 : ((-2147483648) : Int) ≤ ρ 14 ∧ ρ 14 ≤ 2147483647 := zRnA hr 14
  have r15 : (1 : Int) ≤ ρ 15 ∧ ρ 15 ≤ 1 := zRnA hr 15
  have r16 : (0 : Int) ≤ ρ 16 ∧ ρ 16 ≤ 2000 := zRnA hr 16
  have r17 : (0 : Int) ≤ ρ 17 ∧ ρ 17 ≤ 12288 := zRnA hr 17
  have r18 : (0 : Int) ≤ ρ 18 ∧ ρ 18 ≤ 12288 := zRnA hr 18
  have r19 : (0 : Int) ≤ ρ 19 ∧ ρ 19 ≤ 43 := zRnA hr 19
  have r20 : (0 : Int) ≤ ρ 20 ∧ ρ 20 ≤ 20 := zRnA hr 20
  have r21 : (0 : Int) ≤ ρ 21 ∧ ρ 21 ≤ 2000 := zRnA hr 21
  have r22 : (0 : Int) ≤ ρ 22 ∧ ρ 22 ≤ 2000 := zRnA hr 22
  have r23 : (0 : Int) ≤ ρ 23 ∧ ρ 23 ≤ 3 := zRnA hr 23
  have r24 : ((-2147483648) : Int) ≤ ρ 24 ∧ ρ 24 ≤ 2147483647 := zRnA hr 24
  have r25 : (0 : Int) ≤ ρ 25 ∧ ρ 25 ≤ 7 := zRnA hr 25
  have r26 : (0 : Int) ≤ ρ 26 ∧ ρ 26 ≤ 2000 := zRnA hr 26
  have r27 : (0 : Int) ≤ ρ 27 ∧ ρ 27 ≤ 7 := zRnA hr 27
  have r28 : ((-2147483648) : Int) ≤ ρ 28 ∧ ρ 28 ≤ 1099511640064 := zRnA hr 28
  have r29 : (2 : Int) ≤ ρ 29 ∧ ρ 29 ≤ 2000 := zRnA hr 29
  have r30 : (0 : Int) ≤ ρ 30 ∧ ρ 30 ≤ 12288 := zRnA hr 30
  have r31 : (0 : Int) ≤ ρ 31 ∧ ρ 31 ≤ 12288 := zRnA hr 31
  have r32 : (0 : Int) ≤ ρ 32 ∧ ρ 32 ≤ 39 := zRnA hr 32
  have r33 : (0 : Int) ≤ ρ 33 ∧ ρ 33 ≤ 4 := zRnA hr 33
  have r34 : ((-2147483648) : Int) ≤ ρ 34 ∧ ρ 34 ≤ 1099511640064 := zRnA hr 34
  have r35 : (0 : Int) ≤ ρ 35 ∧ ρ 35 ≤ 20 := zRnA hr 35
  have r36 : (0 : Int) ≤ ρ 36 ∧ ρ 36 ≤ 2000 := zRnA hr 36
  have r37 : (0 : Int) ≤ ρ 37 ∧ ρ 37 ≤ 2000 := zRnA hr 37
  have r38 : (0 : Int) ≤ ρ 38 ∧ ρ 38 ≤ 3 := zRnA hr 38
  have r39 : ((-2147483648) : Int) ≤ ρ 39 ∧ ρ 39 ≤ 2147483647 := zRnA hr 39
  have r40 : (0 : Int) ≤ ρ 40 ∧ ρ 40 ≤ 2000 := zRnA hr 40
  have r41 : (44 : Int) ≤ ρ 41 ∧ ρ 41 ≤ 44 := zRnA hr 41
  have f0 : (0 : Int) ≤ -ρ 40 + ρ 2 + (-1) := zAllA hf 0
  have f1 : (0 : Int) ≤ -ρ 29 + ρ 2 := zAllA hf 1
  have f2 : (0 : Int) ≤ ρ 40 + -ρ 29 := zAllA hf 2
  have f3 : (0 : Int) ≤ -ρ 40 + ρ 2 := zAllA hf 3
  have f4 : (0 : Int) ≤ ρ 26 + (-ρ 17 + -ρ 2) + 12288 := zAllA hf 4
  have f5 : (0 : Int) ≤ ρ 26 + (-ρ 18 + -ρ 2) + 12288 := zAllA hf 5
  have f6 : (0 : Int) ≤ -ρ 26 + ρ 2 := zAllA hf 6
  have f7 : (0 : Int) ≤ 4 * ρ 25 + -ρ 19 + 6 := zAllA hf 7
  have f8 : (0 : Int) ≤ ρ 29 + -ρ 26 + (-1) := zAllA hf 8
  have f9 : (0 : Int) ≤ ρ 30 + -ρ 17 := zAllA hf 9
  have f10 : (0 : Int) ≤ ρ 31 + -ρ 18 := zAllA hf 10
  have f11 : (0 : Int) ≤ ρ 32 + -ρ 19 := zAllA hf 11
  have f12 : (0 : Int) ≤ ρ 35 + -ρ 20 := zAllA hf 12
  have f13 : (0 : Int) ≤ ρ 2 + -ρ 0 + (-1) := zAllA hf 13
  have f14 : (0 : Int) ≤ -ρ 26 + ρ 2 + (-1) := zAllA hf 14
  have f15 : (0 : Int) ≤ -ρ 30 + (ρ 29 + (-ρ 26 + ρ 17)) := zAllA hf 15
  have f16 : (0 : Int) ≤ -ρ 31 + (ρ 29 + (-ρ 26 + ρ 18)) := zAllA hf 16
  have f17 : (0 : Int) ≤ -ρ 32 + 4 * ρ 25 + 10 := zAllA hf 17
  have f18 : (0 : Int) ≤ -ρ 16 + ρ 2 := zAllA hf 18
  have f19 : (0 : Int) ≤ ρ 26 + -ρ 16 := zAllA hf 19
  have f20 : (0 : Int) ≤ -ρ 18 + (ρ 16 + -ρ 2) + 12288 := zAllA hf 20
  have f21 : (0 : Int) ≤ -ρ 17 + (ρ 16 + -ρ 2) + 12288 := zAllA hf 21
  have f22 : (0 : Int) ≤ -ρ 18 + (ρ 16 + (ρ 4 + -ρ 1)) := zAllA hf 22
  have f23 : (0 : Int) ≤ -ρ 17 + (ρ 16 + (ρ 3 + -ρ 1)) := zAllA hf 23
  have f24 : (0 : Int) ≤ ρ 25 + -ρ 8 := zAllA hf 24
  have f25 : (0 : Int) ≤ ρ 20 + -ρ 9 := zAllA hf 25
  have f26 : (0 : Int) ≤ ρ 19 + -ρ 5 := zAllA hf 26
  have f27 : (0 : Int) ≤ ρ 18 + -ρ 4 := zAllA hf 27
  have f28 : (0 : Int) ≤ ρ 17 + -ρ 3 := zAllA hf 28
  have f29 : (0 : Int) ≤ ρ 16 + -ρ 1 := zAllA hf 29
  have f30 : (0 : Int) ≤ ρ 7 + -ρ 6 := zAllA hf 30
  have f31 : (0 : Int) ≤ 4 * ρ 8 + -ρ 5 + 6 := zAllA hf 31
  have f32 : (0 : Int) ≤ ρ 2 + -ρ 1 := zAllA hf 32
  have f33 : (0 : Int) ≤ -ρ 4 + (-ρ 2 + ρ 1) + 12288 := zAllA hf 33
  have f34 : (0 : Int) ≤ -ρ 3 + (-ρ 2 + ρ 1) + 12288 := zAllA hf 34
  have m0 : γ 0 15 0 35 = ρ 1 := zAllA hm 0
  have m1 : γ 0 15 0 34 = ρ 2 := zAllA hm 1
  have m2 : γ 0 15 0 8 = ρ 3 := zAllA hm 2
  have m3 : γ 0 15 0 9 = ρ 4 := zAllA hm 3
  have m4 : γ 0 15 0 58 = ρ 5 := zAllA hm 4
  have m5 : γ 0 15 0 32 = ρ 6 := zAllA hm 5
  have m6 : γ 0 15 0 44 = ρ 7 := zAllA hm 6
  have m7 : γ 0 73 0 (ρ 7) = ρ 8 := zAllA hm 7
  have m8 : γ 0 15 0 14 = ρ 9 := zAllA hm 8
  have m9 : γ 0 15 0 36 = ρ 10 := zAllA hm 9
  have m10 : γ 0 15 0 37 = ρ 11 := zAllA hm 10
  have m11 : γ 0 15 0 38 = ρ 12 := zAllA hm 11
  have m12 : γ 0 15 0 40 = ρ 13 := zAllA hm 12
  have m13 : γ 0 15 0 45 = ρ 14 := zAllA hm 13
  have m14 : γ 1 15 0 35 = ρ 16 := zAllA hm 14
  have m15 : γ 1 15 0 8 = ρ 17 := zAllA hm 15
  have m16 : γ 1 15 0 9 = ρ 18 := zAllA hm 16
  have m17 : γ 1 15 0 58 = ρ 19 := zAllA hm 17
  have m18 : γ 1 15 0 14 = ρ 20 := zAllA hm 18
  have m19 : γ 1 15 0 36 = ρ 10 := zAllA hm 19
  have m20 : γ 1 15 0 37 = ρ 21 := zAllA hm 20
  have m21 : γ 1 15 0 38 = ρ 22 := zAllA hm 21
  have m22 : γ 1 15 0 40 = ρ 23 := zAllA hm 22
  have m23 : γ 1 15 0 45 = ρ 24 := zAllA hm 23
  have m24 : γ 1 73 0 (ρ 7) = ρ 25 := zAllA hm 24
  have m25 : γ 2 15 0 35 = ρ 26 := zAllA hm 25
  have m26 : γ 1 77 0 (ρ 25 + 8 * ρ 7) = ρ 27 := zAllA hm 26
  have m27 : γ 1 81 0 (4 * ρ 25 + 32 * ρ 7) = ρ 28 := zAllA hm 27
  have m28 : γ 3 15 0 35 = ρ 29 := zAllA hm 28
  have m29 : γ 3 15 0 8 = ρ 30 := zAllA hm 29
  have m30 : γ 3 15 0 9 = ρ 31 := zAllA hm 30
  have m31 : γ 3 15 0 58 = ρ 32 := zAllA hm 31
  have m32 : γ 3 77 0 (ρ 25 + 8 * ρ 7) = ρ 33 := zAllA hm 32
  have m33 : γ 3 81 0 (4 * ρ 25 + 32 * ρ 7) = ρ 34 := zAllA hm 33
  have m34 : γ 3 15 0 14 = ρ 35 := zAllA hm 34
  have m35 : γ 3 15 0 36 = ρ 10 := zAllA hm 35
  have m36 : γ 3 15 0 37 = ρ 36 := zAllA hm 36
  have m37 : γ 3 15 0 38 = ρ 37 := zAllA hm 37
  have m38 : γ 3 15 0 40 = ρ 38 := zAllA hm 38
  have m39 : γ 3 15 0 45 = ρ 39 := zAllA hm 39
  have m40 : γ 5 15 0 35 = ρ 40 := zAllA hm 40
  have c1 : ∀ (G : Nat) (k j : Int), ¬ rMdP m27_ G j → γ 1 G k j = γ 0 G k j := And.right (zChA hc 6)
  have c2 : ∀ (G : Nat) (k j : Int), ¬ rMdP m6_ G j → γ 2 G k j = γ 1 G k j := And.right (zChA hc 5)
  have c3 : ∀ (G : Nat) (k j : Int), ¬ rMdP m25_ G j → γ 3 G k j = γ 2 G k j := And.right (zChA hc 4)
  have c4 : γ 4 = rUp (γ 3) 73 0 (ρ 7) (ρ 25 + 1) := And.right (zChA hc 3)
  have c5 : ∀ (G : Nat) (k j : Int), ¬ rMdP m6_ G j → γ 5 G k j = γ 4 G k j := And.right (zChA hc 2)
  have c6 : ∀ (G : Nat) (k j : Int), ¬ rMdP m0_ G j → γ 6 G k j = γ 5 G k j := And.right (zChA hc 1)
  have c7 : γ 7 = rUp (γ 6) 15 0 35 (ρ 40 + 1) := And.right (zChA hc 0)
  have l0 : sn7 [ρ 16, ρ 2] (γ 1) 0 0 (γ 2) := hS7 _ _ _ _ _ (zAllA hl 0)
  have l1 : sn37 [ρ 0, ρ 26, ρ 2, ρ 17, ρ 18, ρ 19, ρ 7, ρ 25, ρ 27, ρ 28, ρ 20, ρ 10, ρ 21, ρ 22, ρ 23, ρ 24] (γ 2) 0 1 (γ 3) := hS37 _ _ _ _ _ (zAllA hl 1)
  have l2 : sn7 [ρ 29, ρ 2] (γ 4) 0 0 (γ 5) := hS7 _ _ _ _ _ (zAllA hl 2)
  have l3 : sn6 [ρ 40, ρ 2] (γ 5) 0 (ρ 41) (γ 6) := hS6 _ _ _ _ _ (zAllA hl 3)
  show jn38 [ρ 0, ρ 1, ρ 2, ρ 3, ρ 4, ρ 5, ρ 6, ρ 7, ρ 8, ρ 9, ρ 10, ρ 11, ρ 12, ρ 13, ρ 14] (γ 0) 0 [ρ 0, ρ 1, ρ 2, ρ 3, ρ 4, ρ 5, ρ 6, ρ 7, ρ 8, ρ 9, ρ 10, ρ 11, ρ 12, ρ 13, ρ 14, 1, ρ 40 + 1, ρ 30, ρ 31, ρ 32, ρ 35, ρ 36, ρ 37, ρ 38, ρ 39, ρ 25 + 1] (γ 7)
  have hD : en38 (γ 0) (0, [ρ 0, ρ 15], γ 1) = .inl (0, [ρ 0, 1], γ 7) := by
    unfold en38
    refine zIP (show (0 : Nat) = 0 by decide) (zLV (γ 1) rfl (zLV (ρ 0) rfl (zLV (ρ 15) rfl (zLE m1 (zLE m6 (zLE m24 (zIN (show ¬ (ρ 15 = 0) by omega) ?_)))))))
    refine zLE (show fn7 [] (γ 1) = (0, 0, γ 2) from l0.symm) (zLV (γ 2) rfl (zLE m25 (zIP (show ρ 25 ≠ 8 by omega) (zLE (show fn37 [ρ 0] (γ 2) = (0, 1, γ 3) from l1.symm) (zLV (γ 3) rfl (zIP (show (1 : Int) ≤ 1 by omega) (zIN (show ¬ (5 ≤ γ 3 77 0 (ρ 25 + 8 * ρ 7)) by omega) ?_)))))))
    refine zLE c4.symm (zLE (show fn7 [] (γ 4) = (0, 0, γ 5) from l2.symm) (zLV (γ 5) rfl (zLE m40 (zLE (show fn6 [ρ 40] (γ 5) = (0, ρ 41, γ 6) from l3.symm) (zLV (γ 6) rfl (zIP (show 0 ≤ -ρ 40 + ρ 2 + (-1) by omega) (zLV (ρ 41) rfl ?_)))))))
    refine zIN (show ¬ (ρ 41 ≠ 44) by omega) (zLE c7.symm ?_)
    rfl
  exact zGoo_ato hJ hD
theorem vn38a0_4 {S : Nat → zSpc} (hS6 : zIm S 6 sn6) (hS7 : zIm S 7 sn7) (hS8 : zIm S 8 sn8) (hS37 : zIm S 37 sn37) {a : List Int} {g : rHp} : ∀ (ρ : Nat → Int) (γ : Nat → rHp), jn38 a g 0 (zAg (zNA a38_ 0) ρ) (γ 1) → zO 15 S a g q38a0_4 ρ γ → zGl (fun i vs g1 => jn38 a g i vs g1) (sn38 a g) q38a0_4 ρ γ := by
  intro ρ γ hJ h
  obtain ⟨ha, hg, hr, hf, hm, hc, hl⟩ := h
  have ha : a = [ρ 0, ρ 1, ρ 2, ρ 3, ρ 4, ρ 5, ρ 6, ρ 7, ρ 8, ρ 9, ρ 10, ρ 11, ρ 12, ρ 13, ρ 14] := ha
  subst ha
  subst hg
  have hJ : jn38 [ρ 0, ρ 1, ρ 2, ρ 3, ρ 4, ρ 5, ρ 6, ρ 7, ρ 8, ρ 9, ρ 10, ρ 11, ρ 12, ρ 13, ρ 14] (γ 0) 0 [ρ 0, ρ 1, ρ 2, ρ 3, ρ 4, ρ 5, ρ 6, ρ 7, ρ 8, ρ 9, ρ 10, ρ 11, ρ 12, ρ 13, ρ 14, ρ 15, ρ 16, ρ 17, ρ 18, ρ 19, ρ 20, ρ 21, ρ 22, ρ 23, ρ 24, ρ 25] (γ 1) := hJ
  have r0 : (0 : Int) ≤ ρ 0 ∧ ρ 0 ≤ 1 := zRnA hr 0
  have r1 : (0 : Int) ≤ ρ 1 ∧ ρ 1 ≤ 2000 := zRnA hr 1
  have r2 : (0 : Int) ≤ ρ 2 ∧ ρ 2 ≤ 2000 := zRnA hr 2
  have r3 : (0 : Int) ≤ ρ 3 ∧ ρ 3 ≤ 12288 := zRnA hr 3
  have r4 : (0 : Int) ≤ ρ 4 ∧ ρ 4 ≤ 12288 := zRnA hr 4
  have r5 : (0 : Int) ≤ ρ 5 ∧ ρ 5 ≤ 64 := zRnA hr 5
  have r6 : (0 : Int) ≤ ρ 6 ∧ ρ 6 ≤ 60 := zRnA hr 6
  have r7 : (0 : Int) ≤ ρ 7 ∧ ρ 7 ≤ 61 := zRnA hr 7
  have r8 : (0 : Int) ≤ ρ 8 ∧ ρ 8 ≤ 8 := zRnA hr 8
  have r9 : (0 : Int) ≤ ρ 9 ∧ ρ 9 ≤ 20 := zRnA hr 9
  have r10 : (0 : Int) ≤ ρ 10 ∧ ρ 10 ≤ 2000 := zRnA hr 10
  have r11 : (0 : Int) ≤ ρ 11 ∧ ρ 11 ≤ 2000 := zRnA hr 11
  have r12 : (0 : Int) ≤ ρ 12 ∧ ρ 12 ≤ 2000 := zRnA hr 12
  have r13 : (0 : Int) ≤ ρ 13 ∧ ρ 13 ≤ 3 := zRnA hr 13
  have r14 : ((-2147483648) : Int) ≤ ρ 14 ∧ ρ 14 ≤ 2147483647 := zRnA hr 14
  have r15 : (1 : Int) ≤ ρ 15 ∧ ρ 15 ≤ 1 := zRnA hr 15
  have r16 : (0 : Int) ≤ ρ 16 ∧ ρ 16 ≤ 2000 := zRnA hr 16
  have r17 : (0 : Int) ≤ ρ 17 ∧ ρ 17 ≤ 12288 := zRnA hr 17
  have r18 : (0 : Int) ≤ ρ 18 ∧ ρ 18 ≤ 12288 := zRnA hr 18
  have r19 : (0 : Int) ≤ ρ 19 ∧ ρ 19 ≤ 43 := zRnA hr 19
  have r20 : (0 : Int) ≤ ρ 20 ∧ ρ 20 ≤ 20 := zRnA hr 20
  have r21 : (0 : Int) ≤ ρ 21 ∧ ρ 21 ≤ 2000 := zRnA hr 21
  have r22 : (0 : Int) ≤ ρ 22 ∧ ρ 22 ≤ 2000 := zRnA hr 22
  have r23 : (0 : Int) ≤ ρ 23 ∧ ρ 23 ≤ 3 := zRnA hr 23
  have r24 : ((-2147483648) : Int) ≤ ρ 24 ∧ ρ 24 ≤ 2147483647 := zRnA hr 24
  have r25 : (0 : Int) ≤ ρ 25 ∧ ρ 25 ≤ 7 := zRnA hr 25
  have r26 : (0 : Int) ≤ ρ 26 ∧ ρ 26 ≤ 2000 := zRnA hr 26
  have r27 : (0 : Int) ≤ ρ 27 ∧ ρ 27 ≤ 7 := zRnA hr 27
  have r28 : ((-2147483648) : Int) ≤ ρ 28 ∧ ρ 28 ≤ 1099511640064 := zRnA hr 28
  have r29 : (2 : Int) ≤ ρ 29 ∧ ρ 29 ≤ 2000 := zRnA hr 29
  have r30 : (0 : Int) ≤ ρ 30 ∧ ρ 30 ≤ 12288 := zRnA hr 30
  have r31 : (0 : Int) ≤ ρ 31 ∧ ρ 31 ≤ 12288 := zRnA hr 31
  have r32 : (0 : Int) ≤ ρ 32 ∧ ρ 32 ≤ 39 := zRnA hr 32
  have r33 : (0 : Int) ≤ ρ 33 ∧ ρ 33 ≤ 4 := zRnA hr 33
  have r34 : ((-2147483648) : Int) ≤ ρ 34 ∧ ρ 34 ≤ 1099511640064 := zRnA hr 34
  have r35 : (0 : Int) ≤ ρ 35 ∧ ρ 35 ≤ 20 := zRnA hr 35
  have r36 : (0 : Int) ≤ ρ 36 ∧ ρ 36 ≤ 2000 := zRnA hr 36
  have r37 : (0 : Int) ≤ ρ 37 ∧ ρ 37 ≤ 2000 := zRnA hr 37
  have r38 : (0 : Int) ≤ ρ 38 ∧ ρ 38 ≤ 3 := zRnA hr 38
  have r39 : ((-2147483648) : Int) ≤ ρ 39 ∧ ρ 39 ≤ 2147483647 := zRnA hr 39
  have r40 : (0 : Int) ≤ ρ 40 ∧ ρ 40 ≤ 2000 := zRnA hr 40
  have f0 : (0 : Int) ≤ ρ 40 + -ρ 2 := zAllA hf 0
  have f1 : (0 : Int) ≤ -ρ 29 + ρ 2 := zAllA hf 1
  have f2 : (0 : Int) ≤ ρ 40 + -ρ 29 := zAllA hf 2
  have f3 : (0 : Int) ≤ -ρ 40 + ρ 2 := zAllA hf 3
  have f4 : (0 : Int) ≤ ρ 26 + (-ρ 17 + -ρ 2) + 12288 := zAllA hf 4
  have f5 : (0 : Int) ≤ ρ 26 + (-ρ 18 + -ρ 2) + 12288 := zAllA hf 5
  have f6 : (0 : Int) ≤ -ρ 26 + ρ 2 := zAllA hf 6
  have f7 : (0 : Int) ≤ 4 * ρ 25 + -ρ 19 + 6 := zAllA hf 7
  have f8 : (0 : Int) ≤ ρ 29 + -ρ 26 + (-1) := zAllA hf 8
  have f9 : (0 : Int) ≤ ρ 30 + -ρ 17 := zAllA hf 9
  have f10 : (0 : Int) ≤ ρ 31 + -ρ 18 := zAllA hf 10
  have f11 : (0 : Int) ≤ ρ 32 + -ρ 19 := zAllA hf 11
  have f12 : (0 : Int) ≤ ρ 35 + -ρ 20 := zAllA hf 12
  have f13 : (0 : Int) ≤ ρ 2 + -ρ 0 + (-1) := zAllA hf 13
  have f14 : (0 : Int) ≤ -ρ 26 + ρ 2 + (-1) := zAllA hf 14
  have f15 : (0 : Int) ≤ -ρ 30 + (ρ 29 + (-ρ 26 + ρ 17)) := zAllA hf 15
  have f16 : (0 : Int) ≤ -ρ 31 + (ρ 29 + (-ρ 26 + ρ 18)) := zAllA hf 16
  have f17 : (0 : Int) ≤ -ρ 32 + 4 * ρ 25 + 10 := zAllA hf 17
  have f18 : (0 : Int) ≤ -ρ 16 + ρ 2 := zAllA hf 18
  have f19 : (0 : Int) ≤ ρ 26 + -ρ 16 := zAllA hf 19
  have f20 : (0 : Int) ≤ -ρ 18 + (ρ 16 + -ρ 2) + 12288 := zAllA hf 20
  have f21 : (0 : Int) ≤ -ρ 17 + (ρ 16 + -ρ 2) + 12288 := zAllA hf 21
  have f22 : (0 : Int) ≤ -ρ 18 + (ρ 16 + (ρ 4 + -ρ 1)) := zAllA hf 22
  have f23 : (0 : Int) ≤ -ρ 17 + (ρ 16 + (ρ 3 + -ρ 1)) := zAllA hf 23
  have f24 : (0 : Int) ≤ ρ 25 + -ρ 8 := zAllA hf 24
  have f25 : (0 : Int) ≤ ρ 20 + -ρ 9 := zAllA hf 25
  have f26 : (0 : Int) ≤ ρ 19 + -ρ 5 := zAllA hf 26
  have f27 : (0 : Int) ≤ ρ 18 + -ρ 4 := zAllA hf 27
  have f28 : (0 : Int) ≤ ρ 17 + -ρ 3 := zAllA hf 28
  have f29 : (0 : Int) ≤ ρ 16 + -ρ 1 := zAllA hf 29
  have f30 : (0 : Int) ≤ ρ 7 + -ρ 6 := zAllA hf 30
  have f31 : (0 : Int) ≤ 4 * ρ 8 + -ρ 5 + 6 := zAllA hf 31
  have f32 : (0 : Int) ≤ ρ 2 + -ρ 1 := zAllA hf 32
  have f33 : (0 : Int) ≤ -ρ 4 + (-ρ 2 + ρ 1) + 12288 := zAllA hf 33
  have f34 : (0 : Int) ≤ -ρ 3 + (-ρ 2 + ρ 1) + 12288 := zAllA hf 34
  have m0 : γ 0 15 0 35 = ρ 1 := zAllA hm 0
  have m1 : γ 0 15 0 34 = ρ 2 := zAllA hm 1
  have m2 : γ 0 15 0 8 = ρ 3 := zAllA hm 2
  have m3 : γ 0 15 0 9 = ρ 4 := zAllA hm 3
  have m4 : γ 0 15 0 58 = ρ 5 := zAllA hm 4
  have m5 : γ 0 15 0 32 = ρ 6 := zAllA hm 5
  have m6 : γ 0 15 0 44 = ρ 7 := zAllA hm 6
  have m7 : γ 0 73 0 (ρ 7) = ρ 8 := zAllA hm 7
  have m8 : γ 0 15 0 14 = ρ 9 := zAllA hm 8
  have m9 : γ 0 15 0 36 = ρ 10 := zAllA hm 9
  have m10 : γ 0 15 0 37 = ρ 11 := zAllA hm 10
  have m11 : γ 0 15 0 38 = ρ 12 := zAllA hm 11
  have m12 : γ 0 15 0 40 = ρ 13 := zAllA hm 12
  have m13 : γ 0 15 0 45 = ρ 14 := zAllA hm 13
  have m14 : γ 1 15 0 35 = ρ 16 := zAllA hm 14
  have m15 : γ 1 15 0 8 = ρ 17 := zAllA hm 15
  have m16 : γ 1 15 0 9 = ρ 18 := zAllA hm 16
  have m17 : γ 1 15 0 58 = ρ 19 := zAllA hm 17
  have m18 : γ 1 15 0 14 = ρ 20 := zAllA hm 18
  have m19 : γ 1 15 0 36 = ρ 10 := zAllA hm 19
  have m20 : γ 1 15 0 37 = ρ 21 := zAllA hm 20
  have m21 : γ 1 15 0 38 = ρ 22 := zAllA hm 21
  have m22 : γ 1 15 0 40 = ρ 23 := zAllA hm 22
  have m23 : γ 1 15 0 45 = ρ 24 := zAllA hm 23
  have m24 : γ 1 73 0 (ρ 7) = ρ 25 := zAllA hm 24
  have m25 : γ 2 15 0 35 = ρ 26 := zAllA hm 25
  have m26 : γ 1 77 0 (ρ 25 + 8 * ρ 7) = ρ 27 := zAllA hm 26
  have m27 : γ 1 81 0 (4 * ρ 25 + 32 * ρ 7) = ρ 28 := zAllA hm 27
  have m28 : γ 3 15 0 35 = ρ 29 := zAllA hm 28
  have m29 : γ 3 15 0 8 = ρ 30 := zAllA hm 29
  have m30 : γ 3 15 0 9 = ρ 31 := zAllA hm 30
  have m31 : γ 3 15 0 58 = ρ 32 := zAllA hm 31
  have m32 : γ 3 77 0 (ρ 25 + 8 * ρ 7) = ρ 33 := zAllA hm 32
  have m33 : γ 3 81 0 (4 * ρ 25 + 32 * ρ 7) = ρ 34 := zAllA hm 33
  have m34 : γ 3 15 0 14 = ρ 35 := zAllA hm 34
  have m35 : γ 3 15 0 36 = ρ 10 := zAllA hm 35
  have m36 : γ 3 15 0 37 = ρ 36 := zAllA hm 36
  have m37 : γ 3 15 0 38 = ρ 37 := zAllA hm 37
  have m38 : γ 3 15 0 40 = ρ 38 := zAllA hm 38
  have m39 : γ 3 15 0 45 = ρ 39 := zAllA hm 39
  have m40 : γ 5 15 0 35 = ρ 40 := zAllA hm 40
  have c1 : ∀ (G : Nat) (k j : Int), ¬ rMdP m27_ G j → γ 1 G k j = γ 0 G k j := And.right (zChA hc 5)
  have c2 : ∀ (G : Nat) (k j : Int), ¬ rMdP m6_ G j → γ 2 G k j = γ 1 G k j := And.right (zChA hc 4)
  have c3 : ∀ (G : Nat) (k j : Int), ¬ rMdP m25_ G j → γ 3 G k j = γ 2 G k j := And.right (zChA hc 3)
  have c4 : γ 4 = rUp (γ 3) 73 0 (ρ 7) (ρ 25 + 1) := And.right (zChA hc 2)
  have c5 : ∀ (G : Nat) (k j : Int), ¬ rMdP m6_ G j → γ 5 G k j = γ 4 G k j := And.right (zChA hc 1)
  have c6 : ∀ (G : Nat) (k j : Int), ¬ rMdP m0_ G j → γ 6 G k j = γ 5 G k j := And.right (zChA hc 0)
  have l0 : sn7 [ρ 16, ρ 2] (γ 1) 0 0 (γ 2) := hS7 _ _ _ _ _ (zAllA hl 0)
  have l1 : sn37 [ρ 0, ρ 26, ρ 2, ρ 17, ρ 18, ρ 19, ρ 7, ρ 25, ρ 27, ρ 28, ρ 20, ρ 10, ρ 21, ρ 22, ρ 23, ρ 24] (γ 2) 0 1 (γ 3) := hS37 _ _ _ _ _ (zAllA hl 1)
  have l2 : sn7 [ρ 29, ρ 2] (γ 4) 0 0 (γ 5) := hS7 _ _ _ _ _ (zAllA hl 2)
  have l3 : sn6 [ρ 40, ρ 2] (γ 5) 0 (-1) (γ 6) := hS6 _ _ _ _ _ (zAllA hl 3)
  show jn38 [ρ 0, ρ 1, ρ 2, ρ 3, ρ 4, ρ 5, ρ 6, ρ 7, ρ 8, ρ 9, ρ 10, ρ 11, ρ 12, ρ 13, ρ 14] (γ 0) 0 [ρ 0, ρ 1, ρ 2, ρ 3, ρ 4, ρ 5, ρ 6, ρ 7, ρ 8, ρ 9, ρ 10, ρ 11, ρ 12, ρ 13, ρ 14, 0, ρ 40, ρ 30, ρ 31, ρ 32, ρ 35, ρ 36, ρ 37, ρ 38, ρ 39, ρ 25 + 1] (γ 6)
  have hD : en38 (γ 0) (0, [ρ 0, ρ 15], γ 1) = .inl (0, [ρ 0, 0], γ 6) := by
    unfold en38
    refine zIP (show (0 : Nat) = 0 by decide) (zLV (γ 1) rfl (zLV (ρ 0) rfl (zLV (ρ 15) rfl (zLE m1 (zLE m6 (zLE m24 (zIN (show ¬ (ρ 15 = 0) by omega) ?_)))))))
    refine zLE (show fn7 [] (γ 1) = (0, 0, γ 2) from l0.symm) (zLV (γ 2) rfl (zLE m25 (zIP (show ρ 25 ≠ 8 by omega) (zLE (show fn37 [ρ 0] (γ 2) = (0, 1, γ 3) from l1.symm) (zLV (γ 3) rfl (zIP (show (1 : Int) ≤ 1 by omega) (zIN (show ¬ (5 ≤ γ 3 77 0 (ρ 25 + 8 * ρ 7)) by omega) ?_)))))))
    refine zLE c4.symm (zLE (show fn7 [] (γ 4) = (0, 0, γ 5) from l2.symm) (zLV (γ 5) rfl (zLE m40 (zLE (show fn6 [ρ 40] (γ 5) = (0, (-1), γ 6) from l3.symm) (zLV (γ 6) rfl (zIN (show ¬ (0 ≤ -ρ 40 + ρ 2 + (-1)) by omega) ?_))))))
    rfl
  exact zGoo_ato hJ hD
theorem vn38a0_5 {S : Nat → zSpc} (hS6 : zIm S 6 sn6) (hS7 : zIm S 7 sn7) (hS8 : zIm S 8 sn8) (hS37 : zIm S 37 sn37) {a : List Int} {g : rHp} : ∀ (ρ : Nat → Int) (γ : Nat → rHp), jn38 a g 0 (zAg (zNA a38_ 0) ρ) (γ 1) → zO 15 S a g q38a0_5 ρ γ → zGl (fun i vs g1 => jn38 a g i vs g1) (sn38 a g) q38a0_5 ρ γ := by
  intro ρ γ hJ h
  obtain ⟨ha, hg, hr, hf, hm, hc, hl⟩ := h
  have ha : a = [ρ 0, ρ 1, ρ 2, ρ 3, ρ 4, ρ 5, ρ 6, ρ 7, ρ 8, ρ 9, ρ 10, ρ 11, ρ 12, ρ 13, ρ 14] := ha
  subst ha
  subst hg
  have hJ : jn38 [ρ 0, ρ 1, ρ 2, ρ 3, ρ 4, ρ 5, ρ 6, ρ 7, ρ 8, ρ 9, ρ 10, ρ 11, ρ 12, ρ 13, ρ 14] (γ 0) 0 [ρ 0, ρ 1, ρ 2, ρ 3, ρ 4, ρ 5, ρ 6, ρ 7, ρ 8, ρ 9, ρ 10, ρ 11, ρ 12, ρ 13, ρ 14, ρ 15, ρ 16, ρ 17, ρ 18, ρ 19, ρ 20, ρ 21, ρ 22, ρ 23, ρ 24, ρ 25] (γ 1) := hJ
  have r0 : (0 : Int) ≤ ρ 0 ∧ ρ 0 ≤ 1 := zRnA hr 0
  have r1 : (0 : Int) ≤ ρ 1 ∧ ρ 1 ≤ 2000 := zRnA hr 1
  have r2 : (0 : Int) ≤ ρ 2 ∧ ρ 2 ≤ 2000 := zRnA hr 2
  have r3 : (0 : Int) ≤ ρ 3 ∧ ρ 3 ≤ 12288 := zRnA hr 3
  have r4 : (0 : Int) ≤ ρ 4 ∧ ρ 4 ≤ 12288 := zRnA hr 4
  have r5 : (0 : Int) ≤ ρ 5 ∧ ρ 5 ≤ 64 := zRnA hr 5
  have r6 : (0 : Int) ≤ ρ 6 ∧ ρ 6 ≤ 60 := zRnA hr 6
  have r7 : (0 : Int) ≤ ρ 7 ∧ ρ 7 ≤ 61 := zRnA hr 7
  have r8 : (0 : Int) ≤ ρ 8 ∧ ρ 8 ≤ 8 := zRnA hr 8
  have r9 : (0 : Int) ≤ ρ 9 ∧ ρ 9 ≤ 20 := zRnA hr 9
  have r10 : (0 : Int) ≤ ρ 10 ∧ ρ 10 ≤ 2000 := zRnA hr 10
  have r11 : (0 : Int) ≤ ρ 11 ∧ ρ 11 ≤ 2000 := zRnA hr 11
  have r12 : (0 : Int) ≤ ρ 12 ∧ ρ 12 ≤ 2000 := zRnA hr 12
  have r13 : (0 : Int) ≤ ρ 13 ∧ ρ 13 ≤ 3 := zRnA hr 13
  have r14 : ((-2147483648) : Int) ≤ ρ 14 ∧ ρ 14 ≤ 2147483647 := zRnA hr 14
  have r15 : (1 : Int) ≤ ρ 15 ∧ ρ 15 ≤ 1 := zRnA hr 15
  have r16 : (0 : Int) ≤ ρ 16 ∧ ρ 16 ≤ 2000 := zRnA hr 16
  have r17 : (0 : Int) ≤ ρ 17 ∧ ρ 17 ≤ 12288 := zRnA hr 17
  have r18 : (0 : Int) ≤ ρ 18 ∧ ρ 18 ≤ 12288 := zRnA hr 18
  have r19 : (0 : Int) ≤ ρ 19 ∧ ρ 19 ≤ 43 := zRnA hr 19
  have r20 : (0 : Int) ≤ ρ 20 ∧ ρ 20 ≤ 20 := zRnA hr 20
  have r21 : (0 : Int) ≤ ρ 21 ∧ ρ 21 ≤ 2000 := zRnA hr 21
  have r22 : (0 : Int) ≤ ρ 22 ∧ ρ 22 ≤ 2000 := zRnA hr 22
  have r23 : (0 : Int) ≤ ρ 23 ∧ ρ 23 ≤ 3 := zRnA hr 23
  have r24 : ((-2147483648) : Int) ≤ ρ 24 ∧ ρ 24 ≤ 2147483647 := zRnA hr 24
  have r25 : (0 : Int) ≤ ρ 25 ∧ ρ 25 ≤ 7 := zRnA hr 25
  have r26 : (0 : Int) ≤ ρ 26 ∧ ρ 26 ≤ 2000 := zRnA hr 26
  have r27 : (0 : Int) ≤ ρ 27 ∧ ρ 27 ≤ 7 := zRnA hr 27
  have r28 : ((-2147483648) : Int) ≤ ρ 28 ∧ ρ 28 ≤ 1099511640064 := zRnA hr 28
  have r29 : (5 : Int) ≤ ρ 29 ∧ ρ 29 ≤ 2000 := zRnA hr 29
  have r30 : (0 : Int) ≤ ρ 30 ∧ ρ 30 ≤ 12288 := zRnA hr 30
  have r31 : (0 : Int) ≤ ρ 31 ∧ ρ 31 ≤ 12288 := zRnA hr 31
  have r32 : (5 : Int) ≤ ρ 32 ∧ ρ 32 ≤ 7 := zRnA hr 32
  have r33 : (0 : Int) ≤ ρ 33 ∧ ρ 33 ≤ 7 := zRnA hr 33
  have r34 : (0 : Int) ≤ ρ 34 ∧ ρ 34 ≤ 2000 := zRnA hr 34
  have r35 : (0 : Int) ≤ ρ 35 ∧ ρ 35 ≤ 2000 := zRnA hr 35
  have r36 : (0 : Int) ≤ ρ 36 ∧ ρ 36 ≤ 2 := zRnA hr 36
  have r37 : ((-2147483648) : Int) ≤ ρ 37 ∧ ρ 37 ≤ 2147483647 := zRnA hr 37
  have r38 : (0 : Int) ≤ ρ 38 ∧ ρ 38 ≤ 2000 := zRnA hr 38
  have r39 : ((-128) : Int) ≤ ρ 39 ∧ ρ 39 ≤ 127 := zRnA hr 39
  have f0 : (0 : Int) ≤ -ρ 38 + ρ 2 + (-1) := zAllA hf 0
  have f1 : (0 : Int) ≤ -ρ 29 + ρ 2 := zAllA hf 1
  have f2 : (0 : Int) ≤ ρ 38 + -ρ 29 := zAllA hf 2
  have f3 : (0 : Int) ≤ -ρ 38 + ρ 2 := zAllA hf 3
  have f4 : (0 : Int) ≤ ρ 26 + (-ρ 17 + -ρ 2) + 12288 := zAllA hf 4
  have f5 : (0 : Int) ≤ ρ 26 + (-ρ 18 + -ρ 2) + 12288 := zAllA hf 5
  have f6 : (0 : Int) ≤ -ρ 26 + ρ 2 := zAllA hf 6
  have f7 : (0 : Int) ≤ 4 * ρ 25 + -ρ 19 + 6 := zAllA hf 7
  have f8 : (0 : Int) ≤ ρ 29 + -ρ 26 + (-1) := zAllA hf 8
  have f9 : (0 : Int) ≤ ρ 30 + -ρ 17 := zAllA hf 9
  have f10 : (0 : Int) ≤ ρ 31 + -ρ 18 := zAllA hf 10
  have f11 : (0 : Int) ≤ -ρ 36 + ρ 2 + (-1) := zAllA hf 11
  have f12 : (0 : Int) ≤ ρ 2 + -ρ 0 + (-1) := zAllA hf 12
  have f13 : (0 : Int) ≤ -ρ 26 + ρ 2 + (-1) := zAllA hf 13
  have f14 : (0 : Int) ≤ -ρ 23 + ρ 2 := zAllA hf 14
  have f15 : (0 : Int) ≤ -ρ 30 + (ρ 29 + (-ρ 26 + ρ 17)) := zAllA hf 15
  have f16 : (0 : Int) ≤ -ρ 31 + (ρ 29 + (-ρ 26 + ρ 18)) := zAllA hf 16
  have f17 : (0 : Int) ≤ -ρ 16 + ρ 2 := zAllA hf 17
  have f18 : (0 : Int) ≤ ρ 26 + -ρ 16 := zAllA hf 18
  have f19 : (0 : Int) ≤ -ρ 18 + (ρ 16 + -ρ 2) + 12288 := zAllA hf 19
  have f20 : (0 : Int) ≤ -ρ 17 + (ρ 16 + -ρ 2) + 12288 := zAllA hf 20
  have f21 : (0 : Int) ≤ -ρ 18 + (ρ 16 + (ρ 4 + -ρ 1)) := zAllA hf 21
  have f22 : (0 : Int) ≤ -ρ 17 + (ρ 16 + (ρ 3 + -ρ 1)) := zAllA hf 22
  have f23 : (0 : Int) ≤ ρ 25 + -ρ 8 := zAllA hf 23
  have f24 : (0 : Int) ≤ ρ 20 + -ρ 9 := zAllA hf 24
  have f25 : (0 : Int) ≤ ρ 19 + -ρ 5 := zAllA hf 25
  have f26 : (0 : Int) ≤ ρ 18 + -ρ 4 := zAllA hf 26
  have f27 : (0 : Int) ≤ ρ 17 + -ρ 3 := zAllA hf 27
  have f28 : (0 : Int) ≤ ρ 16 + -ρ 1 := zAllA hf 28
  have f29 : (0 : Int) ≤ ρ 7 + -ρ 6 := zAllA hf 29
  have f30 : (0 : Int) ≤ 4 * ρ 8 + -ρ 5 + 6 := zAllA hf 30
  have f31 : (0 : Int) ≤ ρ 2 + -ρ 1 := zAllA hf 31
  have f32 : (0 : Int) ≤ -ρ 4 + (-ρ 2 + ρ 1) + 12288 := zAllA hf 32
  have f33 : (0 : Int) ≤ -ρ 3 + (-ρ 2 + ρ 1) + 12288 := zAllA hf 33
  have m0 : γ 0 15 0 35 = ρ 1 := zAllA hm 0
  have m1 : γ 0 15 0 34 = ρ 2 := zAllA hm 1
  have m2 : γ 0 15 0 8 = ρ 3 := zAllA hm 2
  have m3 : γ 0 15 0 9 = ρ 4 := zAllA hm 3
  have m4 : γ 0 15 0 58 = ρ 5 := zAllA hm 4
  have m5 : γ 0 15 0 32 = ρ 6 := zAllA hm 5
  have m6 : γ 0 15 0 44 = ρ 7 := zAllA hm 6
  have m7 : γ 0 73 0 (ρ 7) = ρ 8 := zAllA hm 7
  have m8 : γ 0 15 0 14 = ρ 9 := zAllA hm 8
  have m9 : γ 0 15 0 36 = ρ 10 := zAllA hm 9
  have m10 : γ 0 15 0 37 = ρ 11 := zAllA hm 10
  have m11 : γ 0 15 0 38 = ρ 12 := zAllA hm 11
  have m12 : γ 0 15 0 40 = ρ 13 := zAllA hm 12
  have m13 : γ 0 15 0 45 = ρ 14 := zAllA hm 13
  have m14 : γ 1 15 0 35 = ρ 16 := zAllA hm 14
  have m15 : γ 1 15 0 8 = ρ 17 := zAllA hm 15
  have m16 : γ 1 15 0 9 = ρ 18 := zAllA hm 16
  have m17 : γ 1 15 0 58 = ρ 19 := zAllA hm 17
  have m18 : γ 1 15 0 14 = ρ 20 := zAllA hm 18
  have m19 : γ 1 15 0 36 = ρ 10 := zAllA hm 19
  have m20 : γ 1 15 0 37 = ρ 21 := zAllA hm 20
  have m21 : γ 1 15 0 38 = ρ 22 := zAllA hm 21
  have m22 : γ 1 15 0 40 = ρ 23 := zAllA hm 22
  have m23 : γ 1 15 0 45 = ρ 24 := zAllA hm 23
  have m24 : γ 1 73 0 (ρ 7) = ρ 25 := zAllA hm 24
  have m25 : γ 2 15 0 35 = ρ 26 := zAllA hm 25
  have m26 : γ 1 77 0 (ρ 25 + 8 * ρ 7) = ρ 27 := zAllA hm 26
  have m27 : γ 1 81 0 (4 * ρ 25 + 32 * ρ 7) = ρ 28 := zAllA hm 27
  have m28 : γ 3 15 0 35 = ρ 29 := zAllA hm 28
  have m29 : γ 3 15 0 8 = ρ 30 := zAllA hm 29
  have m30 : γ 3 15 0 9 = ρ 31 := zAllA hm 30
  have m31 : γ 3 15 0 58 = ρ 19 := zAllA hm 31
  have m32 : γ 3 77 0 (ρ 25 + 8 * ρ 7) = ρ 32 := zAllA hm 32
  have m33 : γ 3 81 0 (4 * ρ 25 + 32 * ρ 7) = ρ 33 := zAllA hm 33
  have m34 : γ 3 15 0 14 = ρ 20 := zAllA hm 34
  have m35 : γ 3 15 0 36 = ρ 10 := zAllA hm 35
  have m36 : γ 3 15 0 37 = ρ 34 := zAllA hm 36
  have m37 : γ 3 15 0 38 = ρ 35 := zAllA hm 37
  have m38 : γ 3 15 0 40 = ρ 36 := zAllA hm 38
  have m39 : γ 3 15 0 45 = ρ 37 := zAllA hm 39
  have m40 : γ 5 15 0 35 = ρ 38 := zAllA hm 40
  have c1 : ∀ (G : Nat) (k j : Int), ¬ rMdP m27_ G j → γ 1 G k j = γ 0 G k j := And.right (zChA hc 5)
  have c2 : ∀ (G : Nat) (k j : Int), ¬ rMdP m6_ G j → γ 2 G k j = γ 1 G k j := And.right (zChA hc 4)
  have c3 : ∀ (G : Nat) (k j : Int), ¬ rMdP m25_ G j → γ 3 G k j = γ 2 G k j := And.right (zChA hc 3)
  have c4 : γ 4 = rUp (γ 3) 73 0 (ρ 7) (ρ 25 + 1) := And.right (zChA hc 2)
  have c5 : ∀ (G : Nat) (k j : Int), ¬ rMdP m6_ G j → γ 5 G k j = γ 4 G k j := And.right (zChA hc 1)
  have c6 : ∀ (G : Nat) (k j : Int), ¬ rMdP m0_ G j → γ 6 G k j = γ 5 G k j := And.right (zChA hc 0)
  have l0 : sn7 [ρ 16, ρ 2] (γ 1) 0 0 (γ 2) := hS7 _ _ _ _ _ (zAllA hl 0)
  have l1 : sn37 [ρ 0, ρ 26, ρ 2, ρ 17, ρ 18, ρ 19, ρ 7, ρ 25, ρ 27, ρ 28, ρ 20, ρ 10, ρ 21, ρ 22, ρ 23, ρ 24] (γ 2) 0 1 (γ 3) := hS37 _ _ _ _ _ (zAllA hl 1)
  have l2 : sn7 [ρ 29, ρ 2] (γ 4) 0 0 (γ 5) := hS7 _ _ _ _ _ (zAllA hl 2)
  have l3 : sn6 [ρ 38, ρ 2] (γ 5) 0 (ρ 39) (γ 6) := hS6 _ _ _ _ _ (zAllA hl 3)
  have l4 : ρ 39 ≠ 44 := zAllA hl 4
  show jn38 [ρ 0, ρ 1, ρ 2, ρ 3, ρ 4, ρ 5, ρ 6, ρ 7, ρ 8, ρ 9, ρ 10, ρ 11, ρ 12, ρ 13, ρ 14] (γ 0) 0 [ρ 0, ρ 1, ρ 2, ρ 3, ρ 4, ρ 5, ρ 6, ρ 7, ρ 8, ρ 9, ρ 10, ρ 11, ρ 12, ρ 13, ρ 14, 0, ρ 38, ρ 30, ρ 31, ρ 19, ρ 20, ρ 34, ρ 35, ρ 36, ρ 37, ρ 25 + 1] (γ 6)
  have hD : en38 (γ 0) (0, [ρ 0, ρ 15], γ 1) = .inl (0, [ρ 0, 0], γ 6) := by
    unfold en38
    refine zIP (show (0 : Nat) = 0 by decide) (zLV (γ 1) rfl (zLV (ρ 0) rfl (zLV (ρ 15) rfl (zLE m1 (zLE m6 (zLE m24 (zIN (show ¬ (ρ 15 = 0) by omega) ?_)))))))
    refine zLE (show fn7 [] (γ 1) = (0, 0, γ 2) from l0.symm) (zLV (γ 2) rfl (zLE m25 (zIP (show ρ 25 ≠ 8 by omega) (zLE (show fn37 [ρ 0] (γ 2) = (0, 1, γ 3) from l1.symm) (zLV (γ 3) rfl (zIP (show (1 : Int) ≤ 1 by omega) (zIP (show 5 ≤ γ 3 77 0 (ρ 25 + 8 * ρ 7) by omega) ?_)))))))
    refine zLE c4.symm (zLE (show fn7 [] (γ 4) = (0, 0, γ 5) from l2.symm) (zLV (γ 5) rfl (zLE m40 (zLE (show fn6 [ρ 38] (γ 5) = (0, ρ 39, γ 6) from l3.symm) (zLV (γ 6) rfl (zIP (show 0 ≤ -ρ 38 + ρ 2 + (-1) by omega) (zLV (ρ 39) rfl ?_)))))))
    refine zIP (show ρ 39 ≠ 44 by omega) ?_
    rfl
  exact zGoo_ato hJ hD
theorem vn38a0_6 {S : Nat → zSpc} (hS6 : zIm S 6 sn6) (hS7 : zIm S 7 sn7) (hS8 : zIm S 8 sn8) (hS37 : zIm S 37 sn37) {a : List Int} {g : rHp} : ∀ (ρ : Nat → Int) (γ : Nat → rHp), jn38 a g 0 (zAg (zNA a38_ 0) ρ) (γ 1) → zO 15 S a g q38a0_6 ρ γ → zGl (fun i vs g1 => jn38 a g i vs g1) (sn38 a g) q38a0_6 ρ γ := by
  intro ρ γ hJ h
  obtain ⟨ha, hg, hr, hf, hm, hc, hl⟩ := h
  have ha : a = [ρ 0, ρ 1, ρ 2, ρ 3, ρ 4, ρ 5, ρ 6, ρ 7, ρ 8, ρ 9, ρ 10, ρ 11, ρ 12, ρ 13, ρ 14] := ha
  subst ha
  subst hg
  have hJ : jn38 [ρ 0, ρ 1, ρ 2, ρ 3, ρ 4, ρ 5, ρ 6, ρ 7, ρ 8, ρ 9, ρ 10, ρ 11, ρ 12, ρ 13, ρ 14] (γ 0) 0 [ρ 0, ρ 1, ρ 2, ρ 3, ρ 4, ρ 5, ρ 6, ρ 7, ρ 8, ρ 9, ρ 10, ρ 11, ρ 12, ρ 13, ρ 14, ρ 15, ρ 16, ρ 17, ρ 18, ρ 19, ρ 20, ρ 21, ρ 22, ρ 23, ρ 24, ρ 25] (γ 1) := hJ
  have r0 : (0 : Int) ≤ ρ 0 ∧ ρ 0 ≤ 1 := zRnA hr 0
  have r1 : (0 : Int) ≤ ρ 1 ∧ ρ 1 ≤ 2000 := zRnA hr 1
  have r2 : (0 : Int) ≤ ρ 2 ∧ ρ 2 ≤ 2000 := zRnA hr 2
  have r3 : (0 : Int) ≤ ρ 3 ∧ ρ 3 ≤ 12288 := zRnA hr 3
  have r4 : (0 : Int) ≤ ρ 4 ∧ ρ 4 ≤ 12288 := zRnA hr 4
  have r5 : (0 : Int) ≤ ρ 5 ∧ ρ 5 ≤ 64 := zRnA hr 5
  have r6 : (0 : Int) ≤ ρ 6 ∧ ρ 6 ≤ 60 := zRnA hr 6
  have r7 : (0 : Int) ≤ ρ 7 ∧ ρ 7 ≤ 61 := zRnA hr 7
  have r8 : (0 : Int) ≤ ρ 8 ∧ ρ 8 ≤ 8 := zRnA hr 8
  have r9 : (0 : Int) ≤ ρ 9 ∧ ρ 9 ≤ 20 := zRnA hr 9
  have r10 : (0 : Int) ≤ ρ 10 ∧ ρ 10 ≤ 2000 := zRnA hr 10
  have r11 : (0 : Int) ≤ ρ 11 ∧ ρ 11 ≤ 2000 := zRnA hr 11
  have r12 : (0 : Int) ≤ ρ 12 ∧ ρ 12 ≤ 2000 := zRnA hr 12
  have r13 : (0 : Int) ≤ ρ 13 ∧ ρ 13 ≤ 3 := zRnA hr 13
  have r14 : ((-2147483648) : Int) ≤ ρ 14 ∧ ρ 14 ≤ 2147483647 := zRnA hr 14
  have r15 : (1 : Int) ≤ ρ 15 ∧ ρ 15 ≤ 1 := zRnA hr 15
  have r16 : (0 : Int) ≤ ρ 16 ∧ ρ 16 ≤ 2000 := zRnA hr 16
  have r17 : (0 : Int) ≤ ρ 17 ∧ ρ 17 ≤ 12288 := zRnA hr 17
  have r18 : (0 : Int) ≤ ρ 18 ∧ ρ 18 ≤ 12288 := zRnA hr 18
  have r19 : (0 : Int) ≤ ρ 19 ∧ ρ 19 ≤ 43 := zRnA hr 19
  have r20 : (0 : Int) ≤ ρ 20 ∧ ρ 20 ≤ 20 := zRnA hr 20
  have r21 : (0 : Int) ≤ ρ 21 ∧ ρ 21 ≤ 2000 := zRnA hr 21
  have r22 : (0 : Int) ≤ ρ 22 ∧ ρ 22 ≤ 2000 := zRnA hr 22
  have r23 : (0 : Int) ≤ ρ 23 ∧ ρ 23 ≤ 3 := zRnA hr 23
  have r24 : ((-2147483648) : Int) ≤ ρ 24 ∧ ρ 24 ≤ 2147483647 := zRnA hr 24
  have r25 : (0 : Int) ≤ ρ 25 ∧ ρ 25 ≤ 7 := zRnA hr 25
  have r26 : (0 : Int) ≤ ρ 26 ∧ ρ 26 ≤ 2000 := zRnA hr 26
  have r27 : (0 : Int) ≤ ρ 27 ∧ ρ 27 ≤ 7 := zRnA hr 27
  have r28 : ((-2147483648) : Int) ≤ ρ 28 ∧ ρ 28 ≤ 1099511640064 := zRnA hr 28
  have r29 : (5 : Int) ≤ ρ 29 ∧ ρ 29 ≤ 2000 := zRnA hr 29
  have r30 : (0 : Int) ≤ ρ 30 ∧ ρ 30 ≤ 12288 := zRnA hr 30
  have r31 : (0 : Int) ≤ ρ 31 ∧ ρ 31 ≤ 12288 := zRnA hr 31
  have r32 : (5 : Int) ≤ ρ 32 ∧ ρ 32 ≤ 7 := zRnA hr 32
  have r33 : (0 : Int) ≤ ρ 33 ∧ ρ 33 ≤ 7 := zRnA hr 33
  have r34 : (0 : Int) ≤ ρ 34 ∧ ρ 34 ≤ 2000 := zRnA hr 34
  have r35 : (0 : Int) ≤ ρ 35 ∧ ρ 35 ≤ 2000 := zRnA hr 35
  have r36 : (0 : Int) ≤ ρ 36 ∧ ρ 36 ≤ 2 := zRnA hr 36
  have r37 : ((-2147483648) : Int) ≤ ρ 37 ∧ ρ 37 ≤ 2147483647 := zRnA hr 37
  have r38 : (0 : Int) ≤ ρ 38 ∧ ρ 38 ≤ 2000 := zRnA hr 38
  have r39 : (44 : Int) ≤ ρ 39 ∧ ρ 39 ≤ 44 := zRnA hr 39
  have f0 : (0 : Int) ≤ -ρ 38 + ρ 2 + (-1) := zAllA hf 0
  have f1 : (0 : Int) ≤ -ρ 29 + ρ 2 := zAllA hf 1
  have f2 : (0 : Int) ≤ ρ 38 + -ρ 29 := zAllA hf 2
  have f3 : (0 : Int) ≤ -ρ 38 + ρ 2 := zAllA hf 3
  have f4 : (0 : Int) ≤ ρ 26 + (-ρ 17 + -ρ 2) + 12288 := zAllA hf 4
  have f5 : (0 : Int) ≤ ρ 26 + (-ρ 18 + -ρ 2) + 12288 := zAllA hf 5
  have f6 : (0 : Int) ≤ -ρ 26 + ρ 2 := zAllA hf 6
  have f7 : (0 : Int) ≤ 4 * ρ 25 + -ρ 19 + 6 := zAllA hf 7
  have f8 : (0 : Int) ≤ ρ 29 + -ρ 26 + (-1) := zAllA hf 8
  have f9 : (0 : Int) ≤ ρ 30 + -ρ 17 := zAllA hf 9
  have f10 : (0 : Int) ≤ ρ 31 + -ρ 18 := zAllA hf 10
  have f11 : (0 : Int) ≤ -ρ 36 + ρ 2 + (-1) := zAllA hf 11
  have f12 : (0 : Int) ≤ ρ 2 + -ρ 0 + (-1) := zAllA hf 12
  have f13 : (0 : Int) ≤ -ρ 26 + ρ 2 + (-1) := zAllA hf 13
  have f14 : (0 : Int) ≤ -ρ 23 + ρ 2 := zAllA hf 14
  have f15 : (0 : Int) ≤ -ρ 30 + (ρ 29 + (-ρ 26 + ρ 17)) := zAllA hf 15
  have f16 : (0 : Int) ≤ -ρ 31 + (ρ 29 + (-ρ 26 + ρ 18)) := zAllA hf 16
  have f17 : (0 : Int) ≤ -ρ 16 + ρ 2 := zAllA hf 17
  have f18 : (0 : Int) ≤ ρ 26 + -ρ 16 := zAllA hf 18
  have f19 : (0 : Int) ≤ -ρ 18 + (ρ 16 + -ρ 2) + 12288 := zAllA hf 19
  have f20 : (0 : Int) ≤ -ρ 17 + (ρ 16 + -ρ 2) + 12288 := zAllA hf 20
  have f21 : (0 : Int) ≤ -ρ 18 + (ρ 16 + (ρ 4 + -ρ 1)) := zAllA hf 21
  have f22 : (0 : Int) ≤ -ρ 17 + (ρ 16 + (ρ 3 + -ρ 1)) := zAllA hf 22
  have f23 : (0 : Int) ≤ ρ 25 + -ρ 8 := zAllA hf 23
  have f24 : (0 : Int) ≤ ρ 20 + -ρ 9 := zAllA hf 24
  have f25 : (0 : Int) ≤ ρ 19 + -ρ 5 := zAllA hf 25
  have f26 : (0 : Int) ≤ ρ 18 + -ρ 4 := zAllA hf 26
  have f27 : (0 : Int) ≤ ρ 17 + -ρ 3 := zAllA hf 27
  have f28 : (0 : Int) ≤ ρ 16 + -ρ 1 := zAllA hf 28
  have f29 : (0 : Int) ≤ ρ 7 + -ρ 6 := zAllA hf 29
  have f30 : (0 : Int) ≤ 4 * ρ 8 + -ρ 5 + 6 := zAllA hf 30
  have f31 : (0 : Int) ≤ ρ 2 + -ρ 1 := zAllA hf 31
  have f32 : (0 : Int) ≤ -ρ 4 + (-ρ 2 + ρ 1) + 12288 := zAllA hf 32
  have f33 : (0 : Int) ≤ -ρ 3 + (-ρ 2 + ρ 1) + 12288 := zAllA hf 33
  have m0 : γ 0 15 0 35 = ρ 1 := zAllA hm 0
  have m1 : γ 0 15 0 34 = ρ 2 := zAllA hm 1
  have m2 : γ 0 15 0 8 = ρ 3 := zAllA hm 2
  have m3 : γ 0 15 0 9 = ρ 4 := zAllA hm 3
  have m4 : γ 0 15 0 58 = ρ 5 := zAllA hm 4
  have m5 : γ 0 15 0 32 = ρ 6 := zAllA hm 5
  have m6 : γ 0 15 0 44 = ρ 7 := zAllA hm 6
  have m7 : γ 0 73 0 (ρ 7) = ρ 8 := zAllA hm 7
  have m8 : γ 0 15 0 14 = ρ 9 := zAllA hm 8
  have m9 : γ 0 15 0 36 = ρ 10 := zAllA hm 9
  have m10 : γ 0 15 0 37 = ρ 11 := zAllA hm 10
  have m11 : γ 0 15 0 38 = ρ 12 := zAllA hm 11
  have m12 : γ 0 15 0 40 = ρ 13 := zAllA hm 12
  have m13 : γ 0 15 0 45 = ρ 14 := zAllA hm 13
  have m14 : γ 1 15 0 35 = ρ 16 := zAllA hm 14
  have m15 : γ 1 15 0 8 = ρ 17 := zAllA hm 15
  have m16 : γ 1 15 0 9 = ρ 18 := zAllA hm 16
  have m17 : γ 1 15 0 58 = ρ 19 := zAllA hm 17
  have m18 : γ 1 15 0 14 = ρ 20 := zAllA hm 18
  have m19 : γ 1 15 0 36 = ρ 10 := zAllA hm 19
  have m20 : γ 1 15 0 37 = ρ 21 := zAllA hm 20
  have m21 : γ 1 15 0 38 = ρ 22 := zAllA hm 21
  have m22 : γ 1 15 0 40 = ρ 23 := zAllA hm 22
  have m23 : γ 1 15 0 45 = ρ 24 := zAllA hm 23
  have m24 : γ 1 73 0 (ρ 7) = ρ 25 := zAllA hm 24
  have m25 : γ 2 15 0 35 = ρ 26 := zAllA hm 25
  have m26 : γ 1 77 0 (ρ 25 + 8 * ρ 7) = ρ 27 := zAllA hm 26
  have m27 : γ 1 81 0 (4 * ρ 25 + 32 * ρ 7) = ρ 28 := zAllA hm 27
  have m28 : γ 3 15 0 35 = ρ 29 := zAllA hm 28
  have m29 : γ 3 15 0 8 = ρ 30 := zAllA hm 29
  have m30 : γ 3 15 0 9 = ρ 31 := zAllA hm 30
  have m31 : γ 3 15 0 58 = ρ 19 := zAllA hm 31
  have m32 : γ 3 77 0 (ρ 25 + 8 * ρ 7) = ρ 32 := zAllA hm 32
  have m33 : γ 3 81 0 (4 * ρ 25 + 32 * ρ 7) = ρ 33 := zAllA hm 33
  have m34 : γ 3 15 0 14 = ρ 20 := zAllA hm 34
  have m35 : γ 3 15 0 36 = ρ 10 := zAllA hm 35
  have m36 : γ 3 15 0 37 = ρ 34 := zAllA hm 36
  have m37 : γ 3 15 0 38 = ρ 35 := zAllA hm 37
  have m38 : γ 3 15 0 40 = ρ 36 := zAllA hm 38
  have m39 : γ 3 15 0 45 = ρ 37 := zAllA hm 39
  have m40 : γ 5 15 0 35 = ρ 38 := zAllA hm 40
  have c1 : ∀ (G : Nat) (k j : Int), ¬ rMdP m27_ G j → γ 1 G k j = γ 0 G k j := And.right (zChA hc 6)
  have c2 : ∀ (G : Nat) (k j : Int), ¬ rMdP m6_ G j → γ 2 G k j = γ 1 G k j := And.right (zChA hc 5)
  have c3 : ∀ (G : Nat) (k j : Int), ¬ rMdP m25_ G j → γ 3 G k j = γ 2 G k j := And.right (zChA hc 4)
  have c4 : γ 4 = rUp (γ 3) 73 0 (ρ 7) (ρ 25 + 1) := And.right (zChA hc 3)
  have c5 : ∀ (G : Nat) (k j : Int), ¬ rMdP m6_ G j → γ 5 G k j = γ 4 G k j := And.right (zChA hc 2)
  have c6 : ∀ (G : Nat) (k j : Int), ¬ rMdP m0_ G j → γ 6 G k j = γ 5 G k j := And.right (zChA hc 1)
  have c7 : γ 7 = rUp (γ 6) 15 0 35 (ρ 38 + 1) := And.right (zChA hc 0)
  have l0 : sn7 [ρ 16, ρ 2] (γ 1) 0 0 (γ 2) := hS7 _ _ _ _ _ (zAllA hl 0)
  have l1 : sn37 [ρ 0, ρ 26, ρ 2, ρ 17, ρ 18, ρ 19, ρ 7, ρ 25, ρ 27, ρ 28, ρ 20, ρ 10, ρ 21, ρ 22, ρ 23, ρ 24] (γ 2) 0 1 (γ 3) := hS37 _ _ _ _ _ (zAllA hl 1)
  have l2 : sn7 [ρ 29, ρ 2] (γ 4) 0 0 (γ 5) := hS7 _ _ _ _ _ (zAllA hl 2)
  have l3 : sn6 [ρ 38, ρ 2] (γ 5) 0 (ρ 39) (γ 6) := hS6 _ _ _ _ _ (zAllA hl 3)
  show jn38 [ρ 0, ρ 1, ρ 2, ρ 3, ρ 4, ρ 5, ρ 6, ρ 7, ρ 8, ρ 9, ρ 10, ρ 11, ρ 12, ρ 13, ρ 14] (γ 0) 0 [ρ 0, ρ 1, ρ 2, ρ 3, ρ 4, ρ 5, ρ 6, ρ 7, ρ 8, ρ 9, ρ 10, ρ 11, ρ 12, ρ 13, ρ 14, 1, ρ 38 + 1, ρ 30, ρ 31, ρ 19, ρ 20, ρ 34, ρ 35, ρ 36, ρ 37, ρ 25 + 1] (γ 7)
  have hD : en38 (γ 0) (0, [ρ 0, ρ 15], γ 1) = .inl (0, [ρ 0, 1], γ 7) := by
    unfold en38
    refine zIP (show (0 : Nat) = 0 by decide) (zLV (γ 1) rfl (zLV (ρ 0) rfl (zLV (ρ 15) rfl (zLE m1 (zLE m6 (zLE m24 (zIN (show ¬ (ρ 15 = 0) by omega) ?_)))))))
    refine zLE (show fn7 [] (γ 1) = (0, 0, γ 2) from l0.symm) (zLV (γ 2) rfl (zLE m25 (zIP (show ρ 25 ≠ 8 by omega) (zLE (show fn37 [ρ 0] (γ 2) = (0, 1, γ 3) from l1.symm) (zLV (γ 3) rfl (zIP (show (1 : Int) ≤ 1 by omega) (zIP (show 5 ≤ γ 3 77 0 (ρ 25 + 8 * ρ 7) by omega) ?_)))))))
    refine zLE c4.symm (zLE (show fn7 [] (γ 4) = (0, 0, γ 5) from l2.symm) (zLV (γ 5) rfl (zLE m40 (zLE (show fn6 [ρ 38] (γ 5) = (0, ρ 39, γ 6) from l3.symm) (zLV (γ 6) rfl (zIP (show 0 ≤ -ρ 38 + ρ 2 + (-1) by omega) (zLV (ρ 39) rfl ?_)))))))
    refine zIN (show ¬ (ρ 39 ≠ 44) by omega) (zLE c7.symm ?_)
    rfl
  exact zGoo_ato hJ hD
theorem vn38a0_7 {S : Nat → zSpc} (hS6 : zIm S 6 sn6) (hS7 : zIm S 7 sn7) (hS8 : zIm S 8 sn8) (hS37 : zIm S 37 sn37) {a : List Int} {g : rHp} : ∀ (ρ : Nat → Int) (γ : Nat → rHp), jn38 a g 0 (zAg (zNA a38_ 0) ρ) (γ 1) → zO 15 S a g q38a0_7 ρ γ → zGl (fun i vs g1 => jn38 a g i vs g1) (sn38 a g) q38a0_7 ρ γ := by
  intro ρ γ hJ h
  obtain ⟨ha, hg, hr, hf, hm, hc, hl⟩ := h
  have ha : a = [ρ 0, ρ 1, ρ 2, ρ 3, ρ 4, ρ 5, ρ 6, ρ 7, ρ 8, ρ 9, ρ 10, ρ 11, ρ 12, ρ 13, ρ 14] := ha
  subst ha
  subst hg
  have hJ : jn38 [ρ 0, ρ 1, ρ 2, ρ 3, ρ 4, ρ 5, ρ 6, ρ 7, ρ 8, ρ 9, ρ 10, ρ 11, ρ 12, ρ 13, ρ 14] (γ 0) 0 [ρ 0, ρ 1, ρ 2, ρ 3, ρ 4, ρ 5, ρ 6, ρ 7, ρ 8, ρ 9, ρ 10, ρ 11, ρ 12, ρ 13, ρ 14, ρ 15, ρ 16, ρ 17, ρ 18, ρ 19, ρ 20, ρ 21, ρ 22, ρ 23, ρ 24, ρ 25] (γ 1) := hJ
  have r0 : (0 : Int) ≤ ρ 0 ∧ ρ 0 ≤ 1 := zRnA hr 0
  have r1 : (0 : Int) ≤ ρ 1 ∧ ρ 1 ≤ 2000 := zRnA hr 1
  have r2 : (0 : Int) ≤ ρ 2 ∧ ρ 2 ≤ 2000 := zRnA hr 2
  have r3 : (0 : Int) ≤ ρ 3 ∧ ρ 3 ≤ 12288 := zRnA hr 3
  have r4 : (0 : Int) ≤ ρ 4 ∧ ρ 4 ≤ 12288 := zRnA hr 4
  have r5 : (0 : Int) ≤ ρ 5 ∧ ρ 5 ≤ 64 := zRnA hr 5
  have r6 : (0 : Int) ≤ ρ 6 ∧ ρ 6 ≤ 60 := zRnA hr 6
  have r7 : (0 : Int) ≤ ρ 7 ∧ ρ 7 ≤ 61 := zRnA hr 7
  have r8 : (0 : Int) ≤ ρ 8 ∧ ρ 8 ≤ 8 := zRnA hr 8
  have r9 : (0 : Int) ≤ ρ 9 ∧ ρ 9 ≤ 20 := zRnA hr 9
  have r10 : (0 : Int) ≤ ρ 10 ∧ ρ 10 ≤ 2000 := zRnA hr 10
  have r11 : (0 : Int) ≤ ρ 11 ∧ ρ 11 ≤ 2000 := zRnA hr 11
  have r12 : (0 : Int) ≤ ρ 12 ∧ ρ 12 ≤ 2000 := zRnA hr 12
  have r13 : (0 : Int) ≤ ρ 13 ∧ ρ 13 ≤ 3 := zRnA hr 13
  have r14 : ((-2147483648) : Int) ≤ ρ 14 ∧ ρ 14 ≤ 2147483647 := zRnA hr 14
  have r15 : (1 : Int) ≤ ρ 15 ∧ ρ 15 ≤ 1 := zRnA hr 15
  have r16 : (0 : Int) ≤ ρ 16 ∧ ρ 16 ≤ 2000 := zRnA hr 16
  have r17 : (0 : Int) ≤ ρ 17 ∧ ρ 17 ≤ 12288 := zRnA hr 17
  have r18 : (0 : Int) ≤ ρ 18 ∧ ρ 18 ≤ 12288 := zRnA hr 18
  have r19 : (0 : Int) ≤ ρ 19 ∧ ρ 19 ≤ 43 := zRnA hr 19
  have r20 : (0 : Int) ≤ ρ 20 ∧ ρ 20 ≤ 20 := zRnA hr 20
  have r21 : (0 : Int) ≤ ρ 21 ∧ ρ 21 ≤ 2000 := zRnA hr 21
  have r22 : (0 : Int) ≤ ρ 22 ∧ ρ 22 ≤ 2000 := zRnA hr 22
  have r23 : (0 : Int) ≤ ρ 23 ∧ ρ 23 ≤ 3 := zRnA hr 23
  have r24 : ((-2147483648) : Int) ≤ ρ 24 ∧ ρ 24 ≤ 2147483647 := zRnA hr 24
  have r25 : (0 : Int) ≤ ρ 25 ∧ ρ 25 ≤ 7 := zRnA hr 25
  have r26 : (0 : Int) ≤ ρ 26 ∧ ρ 26 ≤ 2000 := zRnA hr 26
  have r27 : (0 : Int) ≤ ρ 27 ∧ ρ 27 ≤ 7 := zRnA hr 27
  have r28 : ((-2147483648) : Int) ≤ ρ 28 ∧ ρ 28 ≤ 1099511640064 := zRnA hr 28
  have r29 : (5 : Int) ≤ ρ 29 ∧ ρ 29 ≤ 2000 := zRnA hr 29
  have r30 : (0 : Int) ≤ ρ 30 ∧ ρ 30 ≤ 12288 := zRnA hr 30
  have r31 : (0 : Int) ≤ ρ 31 ∧ ρ 31 ≤ 12288 := zRnA hr 31
  have r32 : (5 : Int) ≤ ρ 32 ∧ ρ 32 ≤ 7 := zRnA hr 32
  have r33 : (0 : Int) ≤ ρ 33 ∧ ρ 33 ≤ 7 := zRnA hr 33
  have r34 : (0 : Int) ≤ ρ 34 ∧ ρ 34 ≤ 2000 := zRnA hr 34
  have r35 : (0 : Int) ≤ ρ 35 ∧ ρ 35 ≤ 2000 := zRnA hr 35
  have r36 : (0 : Int) ≤ ρ 36 ∧ ρ 36 ≤ 2 := zRnA hr 36
  have r37 : ((-2147483648) : Int) ≤ ρ 37 ∧ ρ 37 ≤ 2147483647 := zRnA hr 37
  have r38 : (0 : Int) ≤ ρ 38 ∧ ρ 38 ≤ 2000 := zRnA hr 38
  have f0 : (0 : Int) ≤ ρ 38 + -ρ 2 := zAllA hf 0
  have f1 : (0 : Int) ≤ -ρ 29 + ρ 2 := zAllA hf 1
  have f2 : (0 : Int) ≤ ρ 38 + -ρ 29 := zAllA hf 2
  have f3 : (0 : Int) ≤ -ρ 38 + ρ 2 := zAllA hf 3
  have f4 : (0 : Int) ≤ ρ 26 + (-ρ 17 + -ρ 2) + 12288 := zAllA hf 4
  have f5 : (0 : Int) ≤ ρ 26 + (-ρ 18 + -ρ 2) + 12288 := zAllA hf 5
  have f6 : (0 : Int) ≤ -ρ 26 + ρ 2 := zAllA hf 6
  have f7 : (0 : Int) ≤ 4 * ρ 25 + -ρ 19 + 6 := zAllA hf 7
  have f8 : (0 : Int) ≤ ρ 29 + -ρ 26 + (-1) := zAllA hf 8
  have f9 : (0 : Int) ≤ ρ 30 + -ρ 17 := zAllA hf 9
  have f10 : (0 : Int) ≤ ρ 31 + -ρ 18 := zAllA hf 10
  have f11 : (0 : Int) ≤ -ρ 36 + ρ 2 + (-1) := zAllA hf 11
  have f12 : (0 : Int) ≤ ρ 2 + -ρ 0 + (-1) := zAllA hf 12
  have f13 : (0 : Int) ≤ -ρ 26 + ρ 2 + (-1) := zAllA hf 13
  have f14 : (0 : Int) ≤ -ρ 23 + ρ 2 := zAllA hf 14
  have f15 : (0 : Int) ≤ -ρ 30 + (ρ 29 + (-ρ 26 + ρ 17)) := zAllA hf 15
  have f16 : (0 : Int) ≤ -ρ 31 + (ρ 29 + (-ρ 26 + ρ 18)) := zAllA hf 16
  have f17 : (0 : Int) ≤ -ρ 16 + ρ 2 := zAllA hf 17
  have f18 : (0 : Int) ≤ ρ 26 + -ρ 16 := zAllA hf 18
  have f19 : (0 : Int) ≤ -ρ 18 + (ρ 16 + -ρ 2) + 12288 := zAllA hf 19
  have f20 : (0 : Int) ≤ -ρ 17 + (ρ 16 + -ρ 2) + 12288 := zAllA hf 20
  have f21 : (0 : Int) ≤ -ρ 18 + (ρ 16 + (ρ 4 + -ρ 1)) := zAllA hf 21
  have f22 : (0 : Int) ≤ -ρ 17 + (ρ 16 + (ρ 3 + -ρ 1)) := zAllA hf 22
  have f23 : (0 : Int) ≤ ρ 25 + -ρ 8 := zAllA hf 23
  have f24 : (0 : Int) ≤ ρ 20 + -ρ 9 := zAllA hf 24
  have f25 : (0 : Int) ≤ ρ 19 + -ρ 5 := zAllA hf 25
  have f26 : (0 : Int) ≤ ρ 18 + -ρ 4 := zAllA hf 26
  have f27 : (0 : Int) ≤ ρ 17 + -ρ 3 := zAllA hf 27
  have f28 : (0 : Int) ≤ ρ 16 + -ρ 1 := zAllA hf 28
  have f29 : (0 : Int) ≤ ρ 7 + -ρ 6 := zAllA hf 29
  have f30 : (0 : Int) ≤ 4 * ρ 8 + -ρ 5 + 6 := zAllA hf 30
  have f31 : (0 : Int) ≤ ρ 2 + -ρ 1 := zAllA hf 31
  have f32 : (0 : Int) ≤ -ρ 4 + (-ρ 2 + ρ 1) + 12288 := zAllA hf 32
  have f33 : (0 : Int) ≤ -ρ 3 + (-ρ 2 + ρ 1) + 12288 := zAllA hf 33
  have m0 : γ 0 15 0 35 = ρ 1 := zAllA hm 0
  have m1 : γ 0 15 0 34 = ρ 2 := zAllA hm 1
  have m2 : γ 0 15 0 8 = ρ 3 := zAllA hm 2
  have m3 : γ 0 15 0 9 = ρ 4 := zAllA hm 3
  have m4 : γ 0 15 0 58 = ρ 5 := zAllA hm 4
  have m5 : γ 0 15 0 32 = ρ 6 := zAllA hm 5
  have m6 : γ 0 15 0 44 = ρ 7 := zAllA hm 6
  have m7 : γ 0 73 0 (ρ 7) = ρ 8 := zAllA hm 7
  have m8 : γ 0 15 0 14 = ρ 9 := zAllA hm 8
  have m9 : γ 0 15 0 36 = ρ 10 := zAllA hm 9
  have m10 : γ 0 15 0 37 = ρ 11 := zAllA hm 10
  have m11 : γ 0 15 0 38 = ρ 12 := zAllA hm 11
  have m12 : γ 0 15 0 40 = ρ 13 := zAllA hm 12
  have m13 : γ 0 15 0 45 = ρ 14 := zAllA hm 13
  have m14 : γ 1 15 0 35 = ρ 16 := zAllA hm 14
  have m15 : γ 1 15 0 8 = ρ 17 := zAllA hm 15
  have m16 : γ 1 15 0 9 = ρ 18 := zAllA hm 16
  have m17 : γ 1 15 0 58 = ρ 19 := zAllA hm 17
  have m18 : γ 1 15 0 14 = ρ 20 := zAllA hm 18
  have m19 : γ 1 15 0 36 = ρ 10 := zAllA hm 19
  have m20 : γ 1 15 0 37 = ρ 21 := zAllA hm 20
  have m21 : γ 1 15 0 38 = ρ 22 := zAllA hm 21
  have m22 : γ 1 15 0 40 = ρ 23 := zAllA hm 22
  have m23 : γ 1 15 0 45 = ρ 24 := zAllA hm 23
  have m24 : γ 1 73 0 (ρ 7) = ρ 25 := zAllA hm 24
  have m25 : γ 2 15 0 35 = ρ 26 := zAllA hm 25
  have m26 : γ 1 77 0 (ρ 25 + 8 * ρ 7) = ρ 27 := zAllA hm 26
  have m27 : γ 1 81 0 (4 * ρ 25 + 32 * ρ 7) = ρ 28 := zAllA hm 27
  have m28 : γ 3 15 0 35 = ρ 29 := zAllA hm 28
  have m29 : γ 3 15 0 8 = ρ 30 := zAllA hm 29
  have m30 : γ 3 15 0 9 = ρ 31 := zAllA hm 30
  have m31 : γ 3 15 0 58 = ρ 19 := zAllA hm 31
  have m32 : γ 3 77 0 (ρ 25 + 8 * ρ 7) = ρ 32 := zAllA hm 32
  have m33 : γ 3 81 0 (4 * ρ 25 + 32 * ρ 7) = ρ 33 := zAllA hm 33
  have m34 : γ 3 15 0 14 = ρ 20 := zAllA hm 34
  have m35 : γ 3 15 0 36 = ρ 10 := zAllA hm 35
  have m36 : γ 3 15 0 37 = ρ 34 := zAllA hm 36
  have m37 : γ 3 15 0 38 = ρ 35 := zAllA hm 37
  have m38 : γ 3 15 0 40 = ρ 36 := zAllA hm 38
  have m39 : γ 3 15 0 45 = ρ 37 := zAllA hm 39
  have m40 : γ 5 15 0 35 = ρ 38 := zAllA hm 40
  have c1 : ∀ (G : Nat) (k j : Int), ¬ rMdP m27_ G j → γ 1 G k j = γ 0 G k j := And.right (zChA hc 5)
  have c2 : ∀ (G : Nat) (k j : Int), ¬ rMdP m6_ G j → γ 2 G k j = γ 1 G k j := And.right (zChA hc 4)
  have c3 : ∀ (G : Nat) (k j : Int), ¬ rMdP m25_ G j → γ 3 G k j = γ 2 G k j := And.right (zChA hc 3)
  have c4 : γ 4 = rUp (γ 3) 73 0 (ρ 7) (ρ 25 + 1) := And.right (zChA hc 2)
  have c5 : ∀ (G : Nat) (k j : Int), ¬ rMdP m6_ G j → γ 5 G k j = γ 4 G k j := And.right (zChA hc 1)
  have c6 : ∀ (G : Nat) (k j : Int), ¬ rMdP m0_ G j → γ 6 G k j = γ 5 G k j := And.right (zChA hc 0)
  have l0 : sn7 [ρ 16, ρ 2] (γ 1) 0 0 (γ 2) := hS7 _ _ _ _ _ (zAllA hl 0)
  have l1 : sn37 [ρ 0, ρ 26, ρ 2, ρ 17, ρ 18, ρ 19, ρ 7, ρ 25, ρ 27, ρ 28, ρ 20, ρ 10, ρ 21, ρ 22, ρ 23, ρ 24] (γ 2) 0 1 (γ 3) := hS37 _ _ _ _ _ (zAllA hl 1)
  have l2 : sn7 [ρ 29, ρ 2] (γ 4) 0 0 (γ 5) := hS7 _ _ _ _ _ (zAllA hl 2)
  have l3 : sn6 [ρ 38, ρ 2] (γ 5) 0 (-1) (γ 6) := hS6 _ _ _ _ _ (zAllA hl 3)
  show jn38 [ρ 0, ρ 1, ρ 2, ρ 3, ρ 4, ρ 5, ρ 6, ρ 7, ρ 8, ρ 9, ρ 10, ρ 11, ρ 12, ρ 13, ρ 14] (γ 0) 0 [ρ 0, ρ 1, ρ 2, ρ 3, ρ 4, ρ 5, ρ 6, ρ 7, ρ 8, ρ 9, ρ 10, ρ 11, ρ 12, ρ 13, ρ 14, 0, ρ 38, ρ 30, ρ 31, ρ 19, ρ 20, ρ 34, ρ 35, ρ 36, ρ 37, ρ 25 + 1] (γ 6)
  have hD : en38 (γ 0) (0, [ρ 0, ρ 15], γ 1) = .inl (0, [ρ 0, 0], γ 6) := by
    unfold en38
    refine zIP (show (0 : Nat) = 0 by decide) (zLV (γ 1) rfl (zLV (ρ 0) rfl (zLV (ρ 15) rfl (zLE m1 (zLE m6 (zLE m24 (zIN (show ¬ (ρ 15 = 0) by omega) ?_)))))))
    refine zLE (show fn7 [] (γ 1) = (0, 0, γ 2) from l0.symm) (zLV (γ 2) rfl (zLE m25 (zIP (show ρ 25 ≠ 8 by omega) (zLE (show fn37 [ρ 0] (γ 2) = (0, 1, γ 3) from l1.symm) (zLV (γ 3) rfl (zIP (show (1 : Int) ≤ 1 by omega) (zIP (show 5 ≤ γ 3 77 0 (ρ 25 + 8 * ρ 7) by omega) ?_)))))))
    refine zLE c4.symm (zLE (show fn7 [] (γ 4) = (0, 0, γ 5) from l2.symm) (zLV (γ 5) rfl (zLE m40 (zLE (show fn6 [ρ 38] (γ 5) = (0, (-1), γ 6) from l3.symm) (zLV (γ 6) rfl (zIN (show ¬ (0 ≤ -ρ 38 + ρ 2 + (-1)) by omega) ?_))))))
    rfl
  exact zGoo_ato hJ hD
theorem vn38a0_8 {S : Nat → zSpc} (hS6 : zIm S 6 sn6) (hS7 : zIm S 7 sn7) (hS8 : zIm S 8 sn8) (hS37 : zIm S 37 sn37) {a : List Int} {g : rHp} : ∀ (ρ : Nat → Int) (γ : Nat → rHp), jn38 a g 0 (zAg (zNA a38_ 0) ρ) (γ 1) → zO 15 S a g q38a0_8 ρ γ → zGl (fun i vs g1 => jn38 a g i vs g1) (sn38 a g) q38a0_8 ρ γ := by
  intro ρ γ hJ h
  obtain ⟨ha, hg, hr, hf, hm, hc, hl⟩ := h
  have ha : a = [ρ 0, ρ 1, ρ 2, ρ 3, ρ 4, ρ 5, ρ 6, ρ 7, ρ 8, ρ 9, ρ 10, ρ 11, ρ 12, ρ 13, ρ 14] := ha
  subst ha
  subst hg
  have hJ : jn38 [ρ 0, ρ 1, ρ 2, ρ 3, ρ 4, ρ 5, ρ 6, ρ 7, ρ 8, ρ 9, ρ 10, ρ 11, ρ 12, ρ 13, ρ 14] (γ 0) 0 [ρ 0, ρ 1, ρ 2, ρ 3, ρ 4, ρ 5, ρ 6, ρ 7, ρ 8, ρ 9, ρ 10, ρ 11, ρ 12, ρ 13, ρ 14, ρ 15, ρ 16, ρ 17, ρ 18, ρ 19, ρ 20, ρ 21, ρ 22, ρ 23, ρ 24, ρ 25] (γ 1) := hJ
  have r15 : (1 : Int) ≤ ρ 15 ∧ ρ 15 ≤ 1 := zRnA hr 15
  have r25 : (8 : Int) ≤ ρ 25 ∧ ρ 25 ≤ 8 := zRnA hr 25
  obtain ⟨w_0, w_1⟩ : (¬ (ρ 15 = 0)) ∧ (¬ (ρ 25 ≠ 8)) := ⟨by omega, by omega⟩
  have m1 : γ 0 15 0 34 = ρ 2 := zAllA hm 1
  have m6 : γ 0 15 0 44 = ρ 7 := zAllA hm 6
  have m24 : γ 1 73 0 (ρ 7) = ρ 25 := zAllA hm 24
  have m25 : γ 2 15 0 35 = ρ 26 := zAllA hm 25
  have l0 : sn7 [ρ 16, ρ 2] (γ 1) 0 0 (γ 2) := hS7 _ _ _ _ _ (zAllA hl 0)
  have l1 : sn8 [ρ 26, ρ 2, ρ 10] (γ 2) 0 0 (γ 3) := hS8 _ _ _ _ _ (zAllA hl 1)
  show sn38 [ρ 0, ρ 1, ρ 2, ρ 3, ρ 4, ρ 5, ρ 6, ρ 7, ρ 8, ρ 9, ρ 10, ρ 11, ρ 12, ρ 13, ρ 14] (γ 0) 0 0 (γ 3)
  have hD : en38 (γ 0) (0, [ρ 0, ρ 15], γ 1) = .inr (0, 0, γ 3) := by
    unfold en38
    refine zIP (show (0 : Nat) = 0 by decide) (zLV (γ 1) rfl (zLV (ρ 0) rfl (zLV (ρ 15) rfl (zLE m1 (zLE m6 (zLE m24 (zIN w_0 ?_)))))))
    refine zLE (show fn7 [] (γ 1) = (0, 0, γ 2) from l0.symm) (zLV (γ 2) rfl (zLE m25 (zIN w_1 (zLE (show fn8 [ρ 26] (γ 2) = (0, 0, γ 3) from l1.symm) (zLV (γ 3) rfl ?_)))))
    rfl
  exact zGoo_aend hJ hD
theorem yn38 {S : Nat → zSpc} (hS6 : zIm S 6 sn6) (hS7 : zIm S 7 sn7) (hS8 : zIm S 8 sn8) (hS37 : zIm S 37 sn37) : ∀ x g o v gz, zSem uW uT w38_.2.2.2.1 w38_.2.2.1.1.length S q38 (fun i => q38a.getD i []) (zNA a38_) x g o v gz → sn38 x g o v gz := by
  intro a g o v gz h
  exact zSem_all (l0 := q38) (las := q38a) (S := S) (J := (fun i vs g1 => jn38 a g i vs g1)) (P := sn38 a g) (fun _ => (show zAll _ [q38_0] from (zAll_c (vn38_0 hS6 hS7 hS8 hS37) zAll_n))) (fun _ => (show zAllI _ 0 [q38a0] from ⟨(show zAll _ [q38a0_0, q38a0_1, q38a0_2, q38a0_3, q38a0_4, q38a0_5, q38a0_6, q38a0_7, q38a0_8] from (zAll_c (vn38a0_0 hS6 hS7 hS8 hS37) (zAll_c (vn38a0_1 hS6 hS7 hS8 hS37) (zAll_c (vn38a0_2 hS6 hS7 hS8 hS37) (zAll_c (vn38a0_3 hS6 hS7 hS8 hS37) (zAll_c (vn38a0_4 hS6 hS7 hS8 hS37) (zAll_c (vn38a0_5 hS6 hS7 hS8 hS37) (zAll_c (vn38a0_6 hS6 hS7 hS8 hS37) (zAll_c (vn38a0_7 hS6 hS7 hS8 hS37) (zAll_c (vn38a0_8 hS6 hS7 hS8 hS37) zAll_n)))))))))), trivial⟩)) h
theorem vn39_0 {S : Nat → zSpc}  {a : List Int} {g : rHp} : ∀ (ρ : Nat → Int) (γ : Nat → rHp), zO 4 S a g q39_0 ρ γ → zGl (fun i vs g1 => jn39 a g i vs g1) (sn39 a g) q39_0 ρ γ := by
  intro ρ γ h
  obtain ⟨ha, hg, hr, hf, hm, hc, hl⟩ := h
  have ha : a = [ρ 0, ρ 1, ρ 2, ρ 3] := ha
  subst ha
  subst hg
  have m0 : γ 0 15 0 14 = ρ 3 := zAllA hm 0
  have c1 : γ 1 = rUp (γ 0) 66 0 (ρ 3) (ρ 2) := And.right (zChA hc 1)
  have c2 : γ 2 = rUp (γ 1) 65 0 (ρ 3) (ρ 1) := And.right (zChA hc 0)
  show jn39 [ρ 0, ρ 1, ρ 2, ρ 3] (γ 0) 0 [ρ 0, ρ 1, ρ 2, ρ 3, 0] (γ 2)
  have hD : dn39 [ρ 0, ρ 1, ρ 2] (γ 0) = .inl (0, [ρ 0, ρ 1, ρ 2, 0], γ 2) := by
    unfold dn39
    refine zLV (ρ 0) rfl (zLV (ρ 1) rfl (zLV (ρ 2) rfl (zLE m0 (zLE c1.symm (zLE c2.symm ?_)))))
    rfl
  exact zGoo_to hD
theorem vn39a0_0 {S : Nat → zSpc}  {a : List Int} {g : rHp} : ∀ (ρ : Nat → Int) (γ : Nat → rHp), jn39 a g 0 (zAg (zNA a39_ 0) ρ) (γ 1) → zO 4 S a g q39a0_0 ρ γ → zGl (fun i vs g1 => jn39 a g i vs g1) (sn39 a g) q39a0_0 ρ γ := by
  intro ρ γ hJ h
  obtain ⟨ha, hg, hr, hf, hm, hc, hl⟩ := h
  have ha : a = [ρ 0, ρ 1, ρ 2, ρ 3] := ha
  subst ha
  subst hg
  have hJ : jn39 [ρ 0, ρ 1, ρ 2, ρ 3] (γ 0) 0 [ρ 0, ρ 1, ρ 2, ρ 3, ρ 4] (γ 1) := hJ
  have f0 : (0 : Int) ≤ ρ 4 + -ρ 1 := zAllA hf 0
  have w_0 : ρ 4 ≥ ρ 1 := by omega
  have m0 : γ 0 15 0 14 = ρ 3 := zAllA hm 0
  have c2 : γ 2 = rUp (γ 1) 15 0 14 (ρ 3 + 1) := And.right (zChA hc 0)
  show sn39 [ρ 0, ρ 1, ρ 2, ρ 3] (γ 0) 0 (ρ 3) (γ 2)
  have hD : en39 (γ 0) (0, [ρ 0, ρ 1, ρ 2, ρ 4], γ 1) = .inr (0, ρ 3, γ 2) := by
    unfold en39
    refine zIP (show (0 : Nat) = 0 by decide) (zLV (γ 1) rfl (zLV (ρ 0) rfl (zLV (ρ 1) rfl (zLV (ρ 2) rfl (zLV (ρ 4) rfl (zLE m0 (zIP w_0 ?_)))))))
    refine zLE c2.symm ?_
    rfl
  exact zGoo_aend hJ hD
theorem vn39a0_1 {S : Nat → zSpc}  {a : List Int} {g : rHp} : ∀ (ρ : Nat → Int) (γ : Nat → rHp), jn39 a g 0 (zAg (zNA a39_ 0) ρ) (γ 1) → zO 4 S a g q39a0_1 ρ γ → zGl (fun i vs g1 => jn39 a g i vs g1) (sn39 a g) q39a0_1 ρ γ := by
  intro ρ γ hJ h
  obtain ⟨ha, hg, hr, hf, hm, hc, hl⟩ := h
  have ha : a = [ρ 0, ρ 1, ρ 2, ρ 3] := ha
  subst ha
  subst hg
  have hJ : jn39 [ρ 0, ρ 1, ρ 2, ρ 3] (γ 0) 0 [ρ 0, ρ 1, ρ 2, ρ 3, ρ 4] (γ 1) := hJ
  have f0 : (0 : Int) ≤ -ρ 4 + ρ 1 + (-1) := zAllA hf 0
  have w_0 : ¬ (ρ 4 ≥ ρ 1) := by omega
  have m0 : γ 0 15 0 14 = ρ 3 := zAllA hm 0
  have m1 : γ 0 59 0 (ρ 4 + ρ 0) = ρ 5 := zAllA hm 1
  have c2 : γ 2 = rUp (γ 1) 64 0 (ρ 4 + 12 * ρ 3) (ρ 5) := And.right (zChA hc 0)
  show jn39 [ρ 0, ρ 1, ρ 2, ρ 3] (γ 0) 0 [ρ 0, ρ 1, ρ 2, ρ 3, ρ 4 + 1] (γ 2)
  have hD : en39 (γ 0) (0, [ρ 0, ρ 1, ρ 2, ρ 4], γ 1) = .inl (0, [ρ 0, ρ 1, ρ 2, ρ 4 + 1], γ 2) := by
    unfold en39
    refine zIP (show (0 : Nat) = 0 by decide) (zLV (γ 1) rfl (zLV (ρ 0) rfl (zLV (ρ 1) rfl (zLV (ρ 2) rfl (zLV (ρ 4) rfl (zLE m0 (zIN w_0 ?_)))))))
    refine zLE m1 (zLE c2.symm ?_)
    rfl
  exact zGoo_ato hJ hD
theorem yn39 {S : Nat → zSpc}  : ∀ x g o v gz, zSem uW uT w39_.2.2.2.1 w39_.2.2.1.1.length S q39 (fun i => q39a.getD i []) (zNA a39_) x g o v gz → sn39 x g o v gz := by
  intro a g o v gz h
  exact zSem_all (l0 := q39) (las := q39a) (S := S) (J := (fun i vs g1 => jn39 a g i vs g1)) (P := sn39 a g) (fun _ => (show zAll _ [q39_0] from (zAll_c (vn39_0 ) zAll_n))) (fun _ => (show zAllI _ 0 [q39a0] from ⟨(show zAll _ [q39a0_0, q39a0_1] from (zAll_c (vn39a0_0 ) (zAll_c (vn39a0_1 ) zAll_n))), trivial⟩)) h
theorem vn40_0 {S : Nat → zSpc} (hS6 : zIm S 6 sn6) (hS7 : zIm S 7 sn7) (hS8 : zIm S 8 sn8) (hS19 : zIm S 19 sn19) (hS33 : zIm S 33 sn33) (hS34 : zIm S 34 sn34) {a : List Int} {g : rHp} : ∀ (ρ : Nat → Int) (γ : Nat → rHp), zO 16 S a g q40_0 ρ γ → zGl (fun _ _ _ => True) (sn40 a g) q40_0 ρ γ := by
  intro ρ γ h
  obtain ⟨ha, hg, hr, hf, hm, hc, hl⟩ := h
  have ha : a = [ρ 0, ρ 1, ρ 2, ρ 3, ρ 4, ρ 5, ρ 6, ρ 7, ρ 8, ρ 9, ρ 10, ρ 11, ρ 12, ρ 13, ρ 14, ρ 15] := ha
  subst ha
  subst hg
  have r17 : (60 : Int) ≤ ρ 17 ∧ ρ 17 ≤ 60 := zRnA hr 17
  have r18 : ((-128) : Int) ≤ ρ 18 ∧ ρ 18 ≤ 127 := zRnA hr 18
  have r19 : (0 : Int) ≤ ρ 19 ∧ ρ 19 ≤ 3 := zRnA hr 19
  have f2 : (0 : Int) ≤ -ρ 16 + ρ 2 + (-1) := zAllA hf 2
  have f10 : (0 : Int) ≤ -ρ 16 + ρ 2 + (-2) := zAllA hf 10
  obtain ⟨w_0, w_1, w_2⟩ : (0 ≤ -ρ 16 + ρ 2 + (-1)) ∧ (ρ 17 = 60) ∧ (0 ≤ -ρ 16 + ρ 2 + (-2)) := ⟨by omega, by omega, by omega⟩
  have m1 : γ 0 15 0 34 = ρ 2 := zAllA hm 1
  have m6 : γ 0 15 0 44 = ρ 7 := zAllA hm 6
  have m7 : γ 0 73 0 (ρ 7) = ρ 8 := zAllA hm 7
  have m9 : γ 0 81 0 (4 * ρ 8 + 32 * ρ 7) = ρ 10 := zAllA hm 9
  have m15 : γ 2 15 0 35 = ρ 16 := zAllA hm 15
  have m16 : γ 0 80 0 (4 * ρ 8 + 32 * ρ 7) = ρ 19 := zAllA hm 16
  have c4 : γ 4 = rUp (γ 3) 15 0 35 (ρ 16 + 1) := And.right (zChA hc 3)
  have c5 : γ 5 = rUp (γ 4) 77 0 (ρ 8 + 8 * ρ 7) 2 := And.right (zChA hc 2)
  have l0 : sn33 [ρ 7, ρ 8] (γ 0) 0 (ρ 8 + 8 * ρ 7) (γ 1) := hS33 _ _ _ _ _ (zAllA hl 0)
  have l1 : sn7 [ρ 1, ρ 2] (γ 1) 0 0 (γ 2) := hS7 _ _ _ _ _ (zAllA hl 1)
  have l2 : sn6 [ρ 16, ρ 2] (γ 2) 0 (ρ 17) (γ 3) := hS6 _ _ _ _ _ (zAllA hl 2)
  have l3 : sn6 [ρ 16 + 1, ρ 2] (γ 5) 0 (ρ 18) (γ 6) := hS6 _ _ _ _ _ (zAllA hl 3)
  have l4 : ρ 18 ≠ 62 := zAllA hl 4
  have l5 : ρ 19 ≠ 1 := zAllA hl 5
  have l6 : sn34 [1, ρ 16 + 1, ρ 2, ρ 3, ρ 4, ρ 7, ρ 8, 2, ρ 10, ρ 11, ρ 12, ρ 13, ρ 14, ρ 15] (γ 6) 0 0 (γ 7) := hS34 _ _ _ _ _ (zAllA hl 6)
  obtain ⟨wl_0, wl_1⟩ : (ρ 18 ≠ 62) ∧ (ρ 19 ≠ 1) := ⟨by omega, by omega⟩
  show sn40 [ρ 0, ρ 1, ρ 2, ρ 3, ρ 4, ρ 5, ρ 6, ρ 7, ρ 8, ρ 9, ρ 10, ρ 11, ρ 12, ρ 13, ρ 14, ρ 15] (γ 0) 0 0 (γ 7)
  refine Eq.symm ?_
  show fn40 [ρ 0] (γ 0) = _
  unfold fn40
  refine zLV (ρ 0) rfl (zLE m1 (zLE m6 (zLE m7 (zLE m9 (zLE (show fn33 [] (γ 0) = (0, ρ 8 + 8 * ρ 7, γ 1) from l0.symm) (zLV (γ 1) rfl (zLE (show fn7 [] (γ 1) = (0, 0, γ 2) from l1.symm) ?_)))))))
  refine zLV (γ 2) rfl (zLE m15 (zLE (show fn6 [ρ 16] (γ 2) = (0, ρ 17, γ 3) from l2.symm) (zLV (γ 3) rfl (zIP w_0 (zLV (ρ 17) rfl (zIP w_1 (zLE c4.symm ?_)))))))
  refine zLE c5.symm (zLE (show fn6 [ρ 16 + 1] (γ 5) = (0, ρ 18, γ 6) from l3.symm) (zLV (γ 6) rfl (zIP w_2 (zLV (ρ 18) rfl (zIP wl_0 (zLE m16 (zIP wl_1 ?_)))))))
  refine zLE (show fn34 [1] (γ 6) = (0, 0, γ 7) from l6.symm) (zLV (γ 7) rfl (zIN zQ0_ ?_))
  rfl
theorem vn40_1 {S : Nat → zSpc} (hS6 : zIm S 6 sn6) (hS7 : zIm S 7 sn7) (hS8 : zIm S 8 sn8) (hS19 : zIm S 19 sn19) (hS33 : zIm S 33 sn33) (hS34 : zIm S 34 sn34) {a : List Int} {g : rHp} : ∀ (ρ : Nat → Int) (γ : Nat → rHp), zO 16 S a g q40_1 ρ γ → zGl (fun _ _ _ => True) (sn40 a g) q40_1 ρ γ := by
  intro ρ γ h
  obtain ⟨ha, hg, hr, hf, hm, hc, hl⟩ := h
  have ha : a = [ρ 0, ρ 1, ρ 2, ρ 3, ρ 4, ρ 5, ρ 6, ρ 7, ρ 8, ρ 9, ρ 10, ρ 11, ρ 12, ρ 13, ρ 14, ρ 15] := ha
  subst ha
  subst hg
  have r17 : (60 : Int) ≤ ρ 17 ∧ ρ 17 ≤ 60 := zRnA hr 17
  have r18 : ((-128) : Int) ≤ ρ 18 ∧ ρ 18 ≤ 127 := zRnA hr 18
  have r19 : (0 : Int) ≤ ρ 19 ∧ ρ 19 ≤ 3 := zRnA hr 19
  have f2 : (0 : Int) ≤ -ρ 16 + ρ 2 + (-1) := zAllA hf 2
  have f7 : (0 : Int) ≤ -ρ 16 + ρ 2 + (-2) := zAllA hf 7
  obtain ⟨w_0, w_1, w_2⟩ : (0 ≤ -ρ 16 + ρ 2 + (-1)) ∧ (ρ 17 = 60) ∧ (0 ≤ -ρ 16 + ρ 2 + (-2)) := ⟨by omega, by omega, by omega⟩
  have m1 : γ 0 15 0 34 = ρ 2 := zAllA hm 1
  have m6 : γ 0 15 0 44 = ρ 7 := zAllA hm 6
  have m7 : γ 0 73 0 (ρ 7) = ρ 8 := zAllA hm 7
  have m9 : γ 0 81 0 (4 * ρ 8 + 32 * ρ 7) = ρ 10 := zAllA hm 9
  have m15 : γ 2 15 0 35 = ρ 16 := zAllA hm 15
  have m16 : γ 0 80 0 (4 * ρ 8 + 32 * ρ 7) = ρ 19 := zAllA hm 16
  have c4 : γ 4 = rUp (γ 3) 15 0 35 (ρ 16 + 1) := And.right (zChA hc 3)
  have c5 : γ 5 = rUp (γ 4) 77 0 (ρ 8 + 8 * ρ 7) 2 := And.right (zChA hc 2)
  have l0 : sn33 [ρ 7, ρ 8] (γ 0) 0 (ρ 8 + 8 * ρ 7) (γ 1) := hS33 _ _ _ _ _ (zAllA hl 0)
  have l1 : sn7 [ρ 1, ρ 2] (γ 1) 0 0 (γ 2) := hS7 _ _ _ _ _ (zAllA hl 1)
  have l2 : sn6 [ρ 16, ρ 2] (γ 2) 0 (ρ 17) (γ 3) := hS6 _ _ _ _ _ (zAllA hl 2)
  have l3 : sn6 [ρ 16 + 1, ρ 2] (γ 5) 0 (ρ 18) (γ 6) := hS6 _ _ _ _ _ (zAllA hl 3)
  have l4 : ρ 18 ≠ 62 := zAllA hl 4
  have l5 : ρ 19 ≠ 1 := zAllA hl 5
  have l6 : sn34 [1, ρ 16 + 1, ρ 2, ρ 3, ρ 4, ρ 7, ρ 8, 2, ρ 10, ρ 11, ρ 12, ρ 13, ρ 14, ρ 15] (γ 6) 0 1 (γ 7) := hS34 _ _ _ _ _ (zAllA hl 6)
  obtain ⟨wl_0, wl_1⟩ : (ρ 18 ≠ 62) ∧ (ρ 19 ≠ 1) := ⟨by omega, by omega⟩
  show sn40 [ρ 0, ρ 1, ρ 2, ρ 3, ρ 4, ρ 5, ρ 6, ρ 7, ρ 8, ρ 9, ρ 10, ρ 11, ρ 12, ρ 13, ρ 14, ρ 15] (γ 0) 0 1 (γ 7)
  refine Eq.symm ?_
  show fn40 [ρ 0] (γ 0) = _
  unfold fn40
  refine zLV (ρ 0) rfl (zLE m1 (zLE m6 (zLE m7 (zLE m9 (zLE (show fn33 [] (γ 0) = (0, ρ 8 + 8 * ρ 7, γ 1) from l0.symm) (zLV (γ 1) rfl (zLE (show fn7 [] (γ 1) = (0, 0, γ 2) from l1.symm) ?_)))))))
  refine zLV (γ 2) rfl (zLE m15 (zLE (show fn6 [ρ 16] (γ 2) = (0, ρ 17, γ 3) from l2.symm) (zLV (γ 3) rfl (zIP w_0 (zLV (ρ 17) rfl (zIP w_1 (zLE c4.symm ?_)))))))
  refine zLE c5.symm (zLE (show fn6 [ρ 16 + 1] (γ 5) = (0, ρ 18, γ 6) from l3.symm) (zLV (γ 6) rfl (zIP w_2 (zLV (ρ 18) rfl (zIP wl_0 (zLE m16 (zIP wl_1 ?_)))))))
  refine zLE (show fn34 [1] (γ 6) = (0, 1, γ 7) from l6.symm) (zLV (γ 7) rfl (zIP zQ1_ ?_))
  rfl
theorem vn40_2 {S : Nat → zSpc} (hS6 : zIm S 6 sn6) (hS7 : zIm S 7 sn7) (hS8 : zIm S 8 sn8) (hS19 : zIm S 19 sn19) (hS33 : zIm S 33 sn33) (hS34 : zIm S 34 sn34) {a : List Int} {g : rHp} : ∀ (ρ : Nat → Int) (γ : Nat → rHp), zO 16 S a g q40_2 ρ γ → zGl (fun _ _ _ => True) (sn40 a g) q40_2 ρ γ := by
  intro ρ γ h
  obtain ⟨ha, hg, hr, hf, hm, hc, hl⟩ := h
  have ha : a = [ρ 0, ρ 1, ρ 2, ρ 3, ρ 4, ρ 5, ρ 6, ρ 7, ρ 8, ρ 9, ρ 10, ρ 11, ρ 12, ρ 13, ρ 14, ρ 15] := ha
  subst ha
  subst hg
  have r17 : (60 : Int) ≤ ρ 17 ∧ ρ 17 ≤ 60 := zRnA hr 17
  have r18 : ((-128) : Int) ≤ ρ 18 ∧ ρ 18 ≤ 127 := zRnA hr 18
  have r19 : (1 : Int) ≤ ρ 19 ∧ ρ 19 ≤ 1 := zRnA hr 19
  have f2 : (0 : Int) ≤ -ρ 16 + ρ 2 + (-2) := zAllA hf 2
  obtain ⟨w_0, w_1, w_2, w_3⟩ : (0 ≤ -ρ 16 + ρ 2 + (-1)) ∧ (ρ 17 = 60) ∧ (0 ≤ -ρ 16 + ρ 2 + (-2)) ∧ (¬ (ρ 19 ≠ 1)) := ⟨by omega, by omega, by omega, by omega⟩
  have m1 : γ 0 15 0 34 = ρ 2 := zAllA hm 1
  have m6 : γ 0 15 0 44 = ρ 7 := zAllA hm 6
  have m7 : γ 0 73 0 (ρ 7) = ρ 8 := zAllA hm 7
  have m9 : γ 0 81 0 (4 * ρ 8 + 32 * ρ 7) = ρ 10 := zAllA hm 9
  have m15 : γ 2 15 0 35 = ρ 16 := zAllA hm 15
  have m16 : γ 0 80 0 (4 * ρ 8 + 32 * ρ 7) = ρ 19 := zAllA hm 16
  have c4 : γ 4 = rUp (γ 3) 15 0 35 (ρ 16 + 1) := And.right (zChA hc 4)
  have c5 : γ 5 = rUp (γ 4) 77 0 (ρ 8 + 8 * ρ 7) 2 := And.right (zChA hc 3)
  have l0 : sn33 [ρ 7, ρ 8] (γ 0) 0 (ρ 8 + 8 * ρ 7) (γ 1) := hS33 _ _ _ _ _ (zAllA hl 0)
  have l1 : sn7 [ρ 1, ρ 2] (γ 1) 0 0 (γ 2) := hS7 _ _ _ _ _ (zAllA hl 1)
  have l2 : sn6 [ρ 16, ρ 2] (γ 2) 0 (ρ 17) (γ 3) := hS6 _ _ _ _ _ (zAllA hl 2)
  have l3 : sn6 [ρ 16 + 1, ρ 2] (γ 5) 0 (ρ 18) (γ 6) := hS6 _ _ _ _ _ (zAllA hl 3)
  have l4 : ρ 18 ≠ 62 := zAllA hl 4
  have l5 : sn19 [ρ 10, ρ 15] (γ 6) 0 0 (γ 7) := hS19 _ _ _ _ _ (zAllA hl 5)
  have l6 : sn8 [ρ 0, ρ 2, ρ 11] (γ 7) 0 0 (γ 8) := hS8 _ _ _ _ _ (zAllA hl 6)
  have wl_0 : ρ 18 ≠ 62 := by omega
  show sn40 [ρ 0, ρ 1, ρ 2, ρ 3, ρ 4, ρ 5, ρ 6, ρ 7, ρ 8, ρ 9, ρ 10, ρ 11, ρ 12, ρ 13, ρ 14, ρ 15] (γ 0) 0 0 (γ 8)
  refine Eq.symm ?_
  show fn40 [ρ 0] (γ 0) = _
  unfold fn40
  refine zLV (ρ 0) rfl (zLE m1 (zLE m6 (zLE m7 (zLE m9 (zLE (show fn33 [] (γ 0) = (0, ρ 8 + 8 * ρ 7, γ 1) from l0.symm) (zLV (γ 1) rfl (zLE (show fn7 [] (γ 1) = (0, 0, γ 2) from l1.symm) ?_)))))))
  refine zLV (γ 2) rfl (zLE m15 (zLE (show fn6 [ρ 16] (γ 2) = (0, ρ 17, γ 3) from l2.symm) (zLV (γ 3) rfl (zIP w_0 (zLV (ρ 17) rfl (zIP w_1 (zLE c4.symm ?_)))))))
  refine zLE c5.symm (zLE (show fn6 [ρ 16 + 1] (γ 5) = (0, ρ 18, γ 6) from l3.symm) (zLV (γ 6) rfl (zIP w_2 (zLV (ρ 18) rfl (zIP wl_0 (zLE m16 (zIN w_3 ?_)))))))
  refine zLE (show fn19 [ρ 10] (γ 6) = (0, 0, γ 7) from l5.symm) (zLV (γ 7) rfl (zIN zQ0_ (zLE (show fn8 [ρ 0] (γ 7) = (0, 0, γ 8) from l6.symm) (zLV (γ 8) rfl ?_))))
  rfl
theorem vn40_3 {S : Nat → zSpc} (hS6 : zIm S 6 sn6) (hS7 : zIm S 7 sn7) (hS8 : zIm S 8 sn8) (hS19 : zIm S 19 sn19) (hS33 : zIm S 33 sn33) (hS34 : zIm S 34 sn34) {a : List Int} {g : rHp} : ∀ (ρ : Nat → Int) (γ : Nat → rHp), zO 16 S a g q40_3 ρ γ → zGl (fun _ _ _ => True) (sn40 a g) q40_3 ρ γ := by
  intro ρ γ h
  obtain ⟨ha, hg, hr, hf, hm, hc, hl⟩ := h
  have ha : a = [ρ 0, ρ 1, ρ 2, ρ 3, ρ 4, ρ 5, ρ 6, ρ 7, ρ 8, ρ 9, ρ 10, ρ 11, ρ 12, ρ 13, ρ 14, ρ 15] := ha
  subst ha
  subst hg
  have r17 : (60 : Int) ≤ ρ 17 ∧ ρ 17 ≤ 60 := zRnA hr 17
  have r18 : ((-128) : Int) ≤ ρ 18 ∧ ρ 18 ≤ 127 := zRnA hr 18
  have r19 : (1 : Int) ≤ ρ 19 ∧ ρ 19 ≤ 1 := zRnA hr 19
  have f2 : (0 : Int) ≤ -ρ 16 + ρ 2 + (-1) := zAllA hf 2
  have f10 : (0 : Int) ≤ -ρ 16 + ρ 2 + (-2) := zAllA hf 10
  obtain ⟨w_0, w_1, w_2, w_3⟩ : (0 ≤ -ρ 16 + ρ 2 + (-1)) ∧ (ρ 17 = 60) ∧ (0 ≤ -ρ 16 + ρ 2 + (-2)) ∧ (¬ (ρ 19 ≠ 1)) := ⟨by omega, by omega, by omega, by omega⟩
  have m1 : γ 0 15 0 34 = ρ 2 := zAllA hm 1
  have m6 : γ 0 15 0 44 = ρ 7 := zAllA hm 6
  have m7 : γ 0 73 0 (ρ 7) = ρ 8 := zAllA hm 7
  have m9 : γ 0 81 0 (4 * ρ 8 + 32 * ρ 7) = ρ 10 := zAllA hm 9
  have m15 : γ 2 15 0 35 = ρ 16 := zAllA hm 15
  have m16 : γ 0 80 0 (4 * ρ 8 + 32 * ρ 7) = ρ 19 := zAllA hm 16
  have c4 : γ 4 = rUp (γ 3) 15 0 35 (ρ 16 + 1) := And.right (zChA hc 4)
  have c5 : γ 5 = rUp (γ 4) 77 0 (ρ 8 + 8 * ρ 7) 2 := And.right (zChA hc 3)
  have l0 : sn33 [ρ 7, ρ 8] (γ 0) 0 (ρ 8 + 8 * ρ 7) (γ 1) := hS33 _ _ _ _ _ (zAllA hl 0)
  have l1 : sn7 [ρ 1, ρ 2] (γ 1) 0 0 (γ 2) := hS7 _ _ _ _ _ (zAllA hl 1)
  have l2 : sn6 [ρ 16, ρ 2] (γ 2) 0 (ρ 17) (γ 3) := hS6 _ _ _ _ _ (zAllA hl 2)
  have l3 : sn6 [ρ 16 + 1, ρ 2] (γ 5) 0 (ρ 18) (γ 6) := hS6 _ _ _ _ _ (zAllA hl 3)
  have l4 : ρ 18 ≠ 62 := zAllA hl 4
  have l5 : sn19 [ρ 10, ρ 15] (γ 6) 0 1 (γ 7) := hS19 _ _ _ _ _ (zAllA hl 5)
  have l6 : sn34 [1, ρ 16 + 1, ρ 2, ρ 3, ρ 4, ρ 7, ρ 8, 2, ρ 10, ρ 11, ρ 12, ρ 13, ρ 14, ρ 15] (γ 7) 0 0 (γ 8) := hS34 _ _ _ _ _ (zAllA hl 6)
  have wl_0 : ρ 18 ≠ 62 := by omega
  show sn40 [ρ 0, ρ 1, ρ 2, ρ 3, ρ 4, ρ 5, ρ 6, ρ 7, ρ 8, ρ 9, ρ 10, ρ 11, ρ 12, ρ 13, ρ 14, ρ 15] (γ 0) 0 0 (γ 8)
  refine Eq.symm ?_
  show fn40 [ρ 0] (γ 0) = _
  unfold fn40
  refine zLV (ρ 0) rfl (zLE m1 (zLE m6 (zLE m7 (zLE m9 (zLE (show fn33 [] (γ 0) = (0, ρ 8 + 8 * ρ 7, γ 1) from l0.symm) (zLV (γ 1) rfl (zLE (show fn7 [] (γ 1) = (0, 0, γ 2) from l1.symm) ?_)))))))
  refine zLV (γ 2) rfl (zLE m15 (zLE (show fn6 [ρ 16] (γ 2) = (0, ρ 17, γ 3) from l2.symm) (zLV (γ 3) rfl (zIP w_0 (zLV (ρ 17) rfl (zIP w_1 (zLE c4.symm ?_)))))))
  refine zLE c5.symm (zLE (show fn6 [ρ 16 + 1] (γ 5) = (0, ρ 18, γ 6) from l3.symm) (zLV (γ 6) rfl (zIP w_2 (zLV (ρ 18) rfl (zIP wl_0 (zLE m16 (zIN w_3 ?_)))))))
  refine zLE (show fn19 [ρ 10] (γ 6) = (0, 1, γ 7) from l5.symm) (zLV (γ 7) rfl (zIP zQ1_ (zLE (show fn34 [1] (γ 7) = (0, 0, γ 8) from l6.symm) (zLV (γ 8) rfl (zIN zQ0_ ?_)))))
  rfl
theorem vn40_4 {S : Nat → zSpc} (hS6 : zIm S 6 sn6) (hS7 : zIm S 7 sn7) (hS8 : zIm S 8 sn8) (hS19 : zIm S 19 sn19) (hS33 : zIm S 33 sn33) (hS34 : zIm S 34 sn34) {a : List Int} {g : rHp} : ∀ (ρ : Nat → Int) (γ : Nat → rHp), zO 16 S a g q40_4 ρ γ → zGl (fun _ _ _ => True) (sn40 a g) q40_4 ρ γ := by
  intro ρ γ h
  obtain ⟨ha, hg, hr, hf, hm, hc, hl⟩ := h
  have ha : a = [ρ 0, ρ 1, ρ 2, ρ 3, ρ 4, ρ 5, ρ 6, ρ 7, ρ 8, ρ 9, ρ 10, ρ 11, ρ 12, ρ 13, ρ 14, ρ 15] := ha
  subst ha
  subst hg
  have r17 : (60 : Int) ≤ ρ 17 ∧ ρ 17 ≤ 60 := zRnA hr 17
  have r18 : ((-128) : Int) ≤ ρ 18 ∧ ρ 18 ≤ 127 := zRnA hr 18
  have r19 : (1 : Int) ≤ ρ 19 ∧ ρ 19 ≤ 1 := zRnA hr 19
  have f2 : (0 : Int) ≤ -ρ 16 + ρ 2 + (-1) := zAllA hf 2
  have f7 : (0 : Int) ≤ -ρ 16 + ρ 2 + (-2) := zAllA hf 7
  obtain ⟨w_0, w_1, w_2, w_3⟩ : (0 ≤ -ρ 16 + ρ 2 + (-1)) ∧ (ρ 17 = 60) ∧ (0 ≤ -ρ 16 + ρ 2 + (-2)) ∧ (¬ (ρ 19 ≠ 1)) := ⟨by omega, by omega, by omega, by omega⟩
  have m1 : γ 0 15 0 34 = ρ 2 := zAllA hm 1
  have m6 : γ 0 15 0 44 = ρ 7 := zAllA hm 6
  have m7 : γ 0 73 0 (ρ 7) = ρ 8 := zAllA hm 7
  have m9 : γ 0 81 0 (4 * ρ 8 + 32 * ρ 7) = ρ 10 := zAllA hm 9
  have m15 : γ 2 15 0 35 = ρ 16 := zAllA hm 15
  have m16 : γ 0 80 0 (4 * ρ 8 + 32 * ρ 7) = ρ 19 := zAllA hm 16
  have c4 : γ 4 = rUp (γ 3) 15 0 35 (ρ 16 + 1) := And.right (zChA hc 4)
  have c5 : γ 5 = rUp (γ 4) 77 0 (ρ 8 + 8 * ρ 7) 2 := And.right (zChA hc 3)
  have l0 : sn33 [ρ 7, ρ 8] (γ 0) 0 (ρ 8 + 8 * ρ 7) (γ 1) := hS33 _ _ _ _ _ (zAllA hl 0)
  have l1 : sn7 [ρ 1, ρ 2] (γ 1) 0 0 (γ 2) := hS7 _ _ _ _ _ (zAllA hl 1)
  have l2 : sn6 [ρ 16, ρ 2] (γ 2) 0 (ρ 17) (γ 3) := hS6 _ _ _ _ _ (zAllA hl 2)
  have l3 : sn6 [ρ 16 + 1, ρ 2] (γ 5) 0 (ρ 18) (γ 6) := hS6 _ _ _ _ _ (zAllA hl 3)
  have l4 : ρ 18 ≠ 62 := zAllA hl 4
  have l5 : sn19 [ρ 10, ρ 15] (γ 6) 0 1 (γ 7) := hS19 _ _ _ _ _ (zAllA hl 5)
  have l6 : sn34 [1, ρ 16 + 1, ρ 2, ρ 3, ρ 4, ρ 7, ρ 8, 2, ρ 10, ρ 11, ρ 12, ρ 13, ρ 14, ρ 15] (γ 7) 0 1 (γ 8) := hS34 _ _ _ _ _ (zAllA hl 6)
  have wl_0 : ρ 18 ≠ 62 := by omega
  show sn40 [ρ 0, ρ 1, ρ 2, ρ 3, ρ 4, ρ 5, ρ 6, ρ 7, ρ 8, ρ 9, ρ 10, ρ 11, ρ 12, ρ 13, ρ 14, ρ 15] (γ 0) 0 1 (γ 8)
  refine Eq.symm ?_
  show fn40 [ρ 0] (γ 0) = _
  unfold fn40
  refine zLV (ρ 0) rfl (zLE m1 (zLE m6 (zLE m7 (zLE m9 (zLE (show fn33 [] (γ 0) = (0, ρ 8 + 8 * ρ 7, γ 1) from l0.symm) (zLV (γ 1) rfl (zLE (show fn7 [] (γ 1) = (0, 0, γ 2) from l1.symm) ?_)))))))
  refine zLV (γ 2) rfl (zLE m15 (zLE (show fn6 [ρ 16] (γ 2) = (0, ρ 17, γ 3) from l2.symm) (zLV (γ 3) rfl (zIP w_0 (zLV (ρ 17) rfl (zIP w_1 (zLE c4.symm ?_)))))))
  refine zLE c5.symm (zLE (show fn6 [ρ 16 + 1] (γ 5) = (0, ρ 18, γ 6) from l3.symm) (zLV (γ 6) rfl (zIP w_2 (zLV (ρ 18) rfl (zIP wl_0 (zLE m16 (zIN w_3 ?_)))))))
  refine zLE (show fn19 [ρ 10] (γ 6) = (0, 1, γ 7) from l5.symm) (zLV (γ 7) rfl (zIP zQ1_ (zLE (show fn34 [1] (γ 7) = (0, 1, γ 8) from l6.symm) (zLV (γ 8) rfl (zIP zQ1_ ?_)))))
  rfl
theorem vn40_5 {S : Nat → zSpc} (hS6 : zIm S 6 sn6) (hS7 : zIm S 7 sn7) (hS8 : zIm S 8 sn8) (hS19 : zIm S 19 sn19) (hS33 : zIm S 33 sn33) (hS34 : zIm S 34 sn34) {a : List Int} {g : rHp} : ∀ (ρ : Nat → Int) (γ : Nat → rHp), zO 16 S a g q40_5 ρ γ → zGl (fun _ _ _ => True) (sn40 a g) q40_5 ρ γ := by
  intro ρ γ h
  obtain ⟨ha, hg, hr, hf, hm, hc, hl⟩ := h
  have ha : a = [ρ 0, ρ 1, ρ 2, ρ 3, ρ 4, ρ 5, ρ 6, ρ 7, ρ 8, ρ 9, ρ 10, ρ 11, ρ 12, ρ 13, ρ 14, ρ 15] := ha
  subst ha
  subst hg
  have r17 : (60 : Int) ≤ ρ 17 ∧ ρ 17 ≤ 60 := zRnA hr 17
  have r18 : (62 : Int) ≤ ρ 18 ∧ ρ 18 ≤ 62 := zRnA hr 18
  have r19 : (0 : Int) ≤ ρ 19 ∧ ρ 19 ≤ 3 := zRnA hr 19
  have f2 : (0 : Int) ≤ -ρ 16 + ρ 2 + (-2) := zAllA hf 2
  obtain ⟨w_0, w_1, w_2, w_3⟩ : (0 ≤ -ρ 16 + ρ 2 + (-1)) ∧ (ρ 17 = 60) ∧ (0 ≤ -ρ 16 + ρ 2 + (-2)) ∧ (¬ (ρ 18 ≠ 62)) := ⟨by omega, by omega, by omega, by omega⟩
  have m1 : γ 0 15 0 34 = ρ 2 := zAllA hm 1
  have m6 : γ 0 15 0 44 = ρ 7 := zAllA hm 6
  have m7 : γ 0 73 0 (ρ 7) = ρ 8 := zAllA hm 7
  have m9 : γ 0 81 0 (4 * ρ 8 + 32 * ρ 7) = ρ 10 := zAllA hm 9
  have m15 : γ 2 15 0 35 = ρ 16 := zAllA hm 15
  have m16 : γ 0 80 0 (4 * ρ 8 + 32 * ρ 7) = ρ 19 := zAllA hm 16
  have c4 : γ 4 = rUp (γ 3) 15 0 35 (ρ 16 + 1) := And.right (zChA hc 5)
  have c5 : γ 5 = rUp (γ 4) 77 0 (ρ 8 + 8 * ρ 7) 2 := And.right (zChA hc 4)
  have c7 : γ 7 = rUp (γ 6) 15 0 35 (ρ 16 + 2) := And.right (zChA hc 2)
  have c8 : γ 8 = rUp (γ 7) 77 0 (ρ 8 + 8 * ρ 7) 4 := And.right (zChA hc 1)
  have l0 : sn33 [ρ 7, ρ 8] (γ 0) 0 (ρ 8 + 8 * ρ 7) (γ 1) := hS33 _ _ _ _ _ (zAllA hl 0)
  have l1 : sn7 [ρ 1, ρ 2] (γ 1) 0 0 (γ 2) := hS7 _ _ _ _ _ (zAllA hl 1)
  have l2 : sn6 [ρ 16, ρ 2] (γ 2) 0 (ρ 17) (γ 3) := hS6 _ _ _ _ _ (zAllA hl 2)
  have l3 : sn6 [ρ 16 + 1, ρ 2] (γ 5) 0 (ρ 18) (γ 6) := hS6 _ _ _ _ _ (zAllA hl 3)
  have l4 : ρ 19 ≠ 1 := zAllA hl 4
  have l5 : sn34 [1, ρ 16 + 2, ρ 2, ρ 3, ρ 4, ρ 7, ρ 8, 4, ρ 10, ρ 11, ρ 12, ρ 13, ρ 14, ρ 15] (γ 8) 0 0 (γ 9) := hS34 _ _ _ _ _ (zAllA hl 5)
  have wl_0 : ρ 19 ≠ 1 := by omega
  show sn40 [ρ 0, ρ 1, ρ 2, ρ 3, ρ 4, ρ 5, ρ 6, ρ 7, ρ 8, ρ 9, ρ 10, ρ 11, ρ 12, ρ 13, ρ 14, ρ 15] (γ 0) 0 0 (γ 9)
  refine Eq.symm ?_
  show fn40 [ρ 0] (γ 0) = _
  unfold fn40
  refine zLV (ρ 0) rfl (zLE m1 (zLE m6 (zLE m7 (zLE m9 (zLE (show fn33 [] (γ 0) = (0, ρ 8 + 8 * ρ 7, γ 1) from l0.symm) (zLV (γ 1) rfl (zLE (show fn7 [] (γ 1) = (0, 0, γ 2) from l1.symm) ?_)))))))
  refine zLV (γ 2) rfl (zLE m15 (zLE (show fn6 [ρ 16] (γ 2) = (0, ρ 17, γ 3) from l2.symm) (zLV (γ 3) rfl (zIP w_0 (zLV (ρ 17) rfl (zIP w_1 (zLE c4.symm ?_)))))))
  refine zLE c5.symm (zLE (show fn6 [ρ 16 + 1] (γ 5) = (0, ρ 18, γ 6) from l3.symm) (zLV (γ 6) rfl (zIP w_2 (zLV (ρ 18) rfl (zIN w_3 (zLE c7.symm (zLE c8.symm ?_)))))))
  refine zLE m16 (zIP wl_0 (zLE (show fn34 [1] (γ 8) = (0, 0, γ 9) from l5.symm) (zLV (γ 9) rfl (zIN zQ0_ ?_))))
  rfl
theorem vn40_6 {S : Nat → zSpc} (hS6 : zIm S 6 sn6) (hS7 : zIm S 7 sn7) (hS8 : zIm S 8 sn8) (hS19 : zIm S 19 sn19) (hS33 : zIm S 33 sn33) (hS34 : zIm S 34 sn34) {a : List Int} {g : rHp} : ∀ (ρ : Nat → Int) (γ : Nat → rHp), zO 16 S a g q40_6 ρ γ → zGl (fun _ _ _ => True) (sn40 a g) q40_6 ρ γ := by
  intro ρ γ h
  obtain ⟨ha, hg, hr, hf, hm, hc, hl⟩ := h
  have ha : a = [ρ 0, ρ 1, ρ 2, ρ 3, ρ 4, ρ 5, ρ 6, ρ 7, ρ 8, ρ 9, ρ 10, ρ 11, ρ 12, ρ 13, ρ 14, ρ 15] := ha
  subst ha
  subst hg
  have r17 : (60 : Int) ≤ ρ 17 ∧ ρ 17 ≤ 60 := zRnA hr 17
  have r18 : (62 : Int) ≤ ρ 18 ∧ ρ 18 ≤ 62 := zRnA hr 18
  have r19 : (0 : Int) ≤ ρ 19 ∧ ρ 19 ≤ 3 := zRnA hr 19
  have f2 : (0 : Int) ≤ -ρ 16 + ρ 2 + (-2) := zAllA hf 2
  obtain ⟨w_0, w_1, w_2, w_3⟩ : (0 ≤ -ρ 16 + ρ 2 + (-1)) ∧ (ρ 17 = 60) ∧ (0 ≤ -ρ 16 + ρ 2 + (-2)) ∧ (¬ (ρ 18 ≠ 62)) := ⟨by omega, by omega, by omega, by omega⟩
  have m1 : γ 0 15 0 34 = ρ 2 := zAllA hm 1
  have m6 : γ 0 15 0 44 = ρ 7 := zAllA hm 6
  have m7 : γ 0 73 0 (ρ 7) = ρ 8 := zAllA hm 7
  have m9 : γ 0 81 0 (4 * ρ 8 + 32 * ρ 7) = ρ 10 := zAllA hm 9
  have m15 : γ 2 15 0 35 = ρ 16 := zAllA hm 15
  have m16 : γ 0 80 0 (4 * ρ 8 + 32 * ρ 7) = ρ 19 := zAllA hm 16
  have c4 : γ 4 = rUp (γ 3) 15 0 35 (ρ 16 + 1) := And.right (zChA hc 5)
  have c5 : γ 5 = rUp (γ 4) 77 0 (ρ 8 + 8 * ρ 7) 2 := And.right (zChA hc 4)
  have c7 : γ 7 = rUp (γ 6) 15 0 35 (ρ 16 + 2) := And.right (zChA hc 2)
  have c8 : γ 8 = rUp (γ 7) 77 0 (ρ 8 + 8 * ρ 7) 4 := And.right (zChA hc 1)
  have l0 : sn33 [ρ 7, ρ 8] (γ 0) 0 (ρ 8 + 8 * ρ 7) (γ 1) := hS33 _ _ _ _ _ (zAllA hl 0)
  have l1 : sn7 [ρ 1, ρ 2] (γ 1) 0 0 (γ 2) := hS7 _ _ _ _ _ (zAllA hl 1)
  have l2 : sn6 [ρ 16, ρ 2] (γ 2) 0 (ρ 17) (γ 3) := hS6 _ _ _ _ _ (zAllA hl 2)
  have l3 : sn6 [ρ 16 + 1, ρ 2] (γ 5) 0 (ρ 18) (γ 6) := hS6 _ _ _ _ _ (zAllA hl 3)
  have l4 : ρ 19 ≠ 1 := zAllA hl 4
  have l5 : sn34 [1, ρ 16 + 2, ρ 2, ρ 3, ρ 4, ρ 7, ρ 8, 4, ρ 10, ρ 11, ρ 12, ρ 13, ρ 14, ρ 15] (γ 8) 0 1 (γ 9) := hS34 _ _ _ _ _ (zAllA hl 5)
  have wl_0 : ρ 19 ≠ 1 := by omega
  show sn40 [ρ 0, ρ 1, ρ 2, ρ 3, ρ 4, ρ 5, ρ 6, ρ 7, ρ 8, ρ 9, ρ 10, ρ 11, ρ 12, ρ 13, ρ 14, ρ 15] (γ 0) 0 1 (γ 9)
  refine Eq.symm ?_
  show fn40 [ρ 0] (γ 0) = _
  unfold fn40
  refine zLV (ρ 0) rfl (zLE m1 (zLE m6 (zLE m7 (zLE m9 (zLE (show fn33 [] (γ 0) = (0, ρ 8 + 8 * ρ 7, γ 1) from l0.symm) (zLV (γ 1) rfl (zLE (show fn7 [] (γ 1) = (0, 0, γ 2) from l1.symm) ?_)))))))
  refine zLV (γ 2) rfl (zLE m15 (zLE (show fn6 [ρ 16] (γ 2) = (0, ρ 17, γ 3) from l2.symm) (zLV (γ 3) rfl (zIP w_0 (zLV (ρ 17) rfl (zIP w_1 (zLE c4.symm ?_)))))))
  refine zLE c5.symm (zLE (show fn6 [ρ 16 + 1] (γ 5) = (0, ρ 18, γ 6) from l3.symm) (zLV (γ 6) rfl (zIP w_2 (zLV (ρ 18) rfl (zIN w_3 (zLE c7.symm (zLE c8.symm ?_)))))))
  refine zLE m16 (zIP wl_0 (zLE (show fn34 [1] (γ 8) = (0, 1, γ 9) from l5.symm) (zLV (γ 9) rfl (zIP zQ1_ ?_))))
  rfl
theorem vn40_7 {S : Nat → zSpc} (hS6 : zIm S 6 sn6) (hS7 : zIm S 7 sn7) (hS8 : zIm S 8 sn8) (hS19 : zIm S 19 sn19) (hS33 : zIm S 33 sn33) (hS34 : zIm S 34 sn34) {a : List Int} {g : rHp} : ∀ (ρ : Nat → Int) (γ : Nat → rHp), zO 16 S a g q40_7 ρ γ → zGl (fun _ _ _ => True) (sn40 a g) q40_7 ρ γ := by
  intro ρ γ h
  obtain ⟨ha, hg, hr, hf, hm, hc, hl⟩ := h
  have ha : a = [ρ 0, ρ 1, ρ 2, ρ 3, ρ 4, ρ 5, ρ 6, ρ 7, ρ 8, ρ 9, ρ 10, ρ 11, ρ 12, ρ 13, ρ 14, ρ 15] := ha
  subst ha
  subst hg
  have r17 : (60 : Int) ≤ ρ 17 ∧ ρ 17 ≤ 60 := zRnA hr 17
  have r18 : (62 : Int) ≤ ρ 18 ∧ ρ 18 ≤ 62 := zRnA hr 18
  have r19 : (1 : Int) ≤ ρ 19 ∧ ρ 19 ≤ 1 := zRnA hr 19
  have f2 : (0 : Int) ≤ -ρ 16 + ρ 2 + (-2) := zAllA hf 2
  obtain ⟨w_0, w_1, w_2, w_3, w_4⟩ : (0 ≤ -ρ 16 + ρ 2 + (-1)) ∧ (ρ 17 = 60) ∧ (0 ≤ -ρ 16 + ρ 2 + (-2)) ∧ (¬ (ρ 18 ≠ 62)) ∧ (¬ (ρ 19 ≠ 1)) := ⟨by omega, by omega, by omega, by omega, by omega⟩
  have m1 : γ 0 15 0 34 = ρ 2 := zAllA hm 1
  have m6 : γ 0 15 0 44 = ρ 7 := zAllA hm 6
  have m7 : γ 0 73 0 (ρ 7) = ρ 8 := zAllA hm 7
  have m9 : γ 0 81 0 (4 * ρ 8 + 32 * ρ 7) = ρ 10 := zAllA hm 9
  have m15 : γ 2 15 0 35 = ρ 16 := zAllA hm 15
  have m16 : γ 0 80 0 (4 * ρ 8 + 32 * ρ 7) = ρ 19 := zAllA hm 16
  have c4 : γ 4 = rUp (γ 3) 15 0 35 (ρ 16 + 1) := And.right (zChA hc 6)
  have c5 : γ 5 = rUp (γ 4) 77 0 (ρ 8 + 8 * ρ 7) 2 := And.right (zChA hc 5)
  have c7 : γ 7 = rUp (γ 6) 15 0 35 (ρ 16 + 2) := And.right (zChA hc 3)
  have c8 : γ 8 = rUp (γ 7) 77 0 (ρ 8 + 8 * ρ 7) 4 := And.right (zChA hc 2)
  have l0 : sn33 [ρ 7, ρ 8] (γ 0) 0 (ρ 8 + 8 * ρ 7) (γ 1) := hS33 _ _ _ _ _ (zAllA hl 0)
  have l1 : sn7 [ρ 1, ρ 2] (γ 1) 0 0 (γ 2) := hS7 _ _ _ _ _ (zAllA hl 1)
  have l2 : sn6 [ρ 16, ρ 2] (γ 2) 0 (ρ 17) (γ 3) := hS6 _ _ _ _ _ (zAllA hl 2)
  have l3 : sn6 [ρ 16 + 1, ρ 2] (γ 5) 0 (ρ 18) (γ 6) := hS6 _ _ _ _ _ (zAllA hl 3)
  have l4 : sn19 [ρ 10, ρ 15] (γ 8) 0 0 (γ 9) := hS19 _ _ _ _ _ (zAllA hl 4)
  have l5 : sn8 [ρ 0, ρ 2, ρ 11] (γ 9) 0 0 (γ 10) := hS8 _ _ _ _ _ (zAllA hl 5)
  show sn40 [ρ 0, ρ 1, ρ 2, ρ 3, ρ 4, ρ 5, ρ 6, ρ 7, ρ 8, ρ 9, ρ 10, ρ 11, ρ 12, ρ 13, ρ 14, ρ 15] (γ 0) 0 0 (γ 10)
  refine Eq.symm ?_
  show fn40 [ρ 0] (γ 0) = _
  unfold fn40
  refine zLV (ρ 0) rfl (zLE m1 (zLE m6 (zLE m7 (zLE m9 (zLE (show fn33 [] (γ 0) = (0, ρ 8 + 8 * ρ 7, γ 1) from l0.symm) (zLV (γ 1) rfl (zLE (show fn7 [] (γ 1) = (0, 0, γ 2) from l1.symm) ?_)))))))
  refine zLV (γ 2) rfl (zLE m15 (zLE (show fn6 [ρ 16] (γ 2) = (0, ρ 17, γ 3) from l2.symm) (zLV (γ 3) rfl (zIP w_0 (zLV (ρ 17) rfl (zIP w_1 (zLE c4.symm ?_)))))))
  refine zLE c5.symm (zLE (show fn6 [ρ 16 + 1] (γ 5) = (0, ρ 18, γ 6) from l3.symm) (zLV (γ 6) rfl (zIP w_2 (zLV (ρ 18) rfl (zIN w_3 (zLE c7.symm (zLE c8.symm ?_)))))))
  refine zLE m16 (zIN w_4 (zLE (show fn19 [ρ 10] (γ 8) = (0, 0, γ 9) from l4.symm) (zLV (γ 9) rfl (zIN zQ0_ (zLE (show fn8 [ρ 0] (γ 9) = (0, 0, γ 10) from l5.symm) (zLV (γ 10) rfl ?_))))))
  rfl
theorem vn40_8 {S : Nat → zSpc} (hS6 : zIm S 6 sn6) (hS7 : zIm S 7 sn7) (hS8 : zIm S 8 sn8) (hS19 : zIm S 19 sn19) (hS33 : zIm S 33 sn33) (hS34 : zIm S 34 sn34) {a : List Int} {g : rHp} : ∀ (ρ : Nat → Int) (γ : Nat → rHp), zO 16 S a g q40_8 ρ γ → zGl (fun _ _ _ => True) (sn40 a g) q40_8 ρ γ := by
  intro ρ γ h
  obtain ⟨ha, hg, hr, hf, hm, hc, hl⟩ := h
  have ha : a = [ρ 0, ρ 1, ρ 2, ρ 3, ρ 4, ρ 5, ρ 6, ρ 7, ρ 8, ρ 9, ρ 10, ρ 11, ρ 12, ρ 13, ρ 14, ρ 15] := ha
  subst ha
  subst hg
  have r17 : (60 : Int) ≤ ρ 17 ∧ ρ 17 ≤ 60 := zRnA hr 17
  have r18 : (62 : Int) ≤ ρ 18 ∧ ρ 18 ≤ 62 := zRnA hr 18
  have r19 : (1 : Int) ≤ ρ 19 ∧ ρ 19 ≤ 1 := zRnA hr 19
  have f2 : (0 : Int) ≤ -ρ 16 + ρ 2 + (-2) := zAllA hf 2
  obtain ⟨w_0, w_1, w_2, w_3, w_4⟩ : (0 ≤ -ρ 16 + ρ 2 + (-1)) ∧ (ρ 17 = 60) ∧ (0 ≤ -ρ 16 + ρ 2 + (-2)) ∧ (¬ (ρ 18 ≠ 62)) ∧ (¬ (ρ 19 ≠ 1)) := ⟨by omega, by omega, by omega, by omega, by omega⟩
  have m1 : γ 0 15 0 34 = ρ 2 := zAllA hm 1
  have m6 : γ 0 15 0 44 = ρ 7 := zAllA hm 6
  have m7 : γ 0 73 0 (ρ 7) = ρ 8 := zAllA hm 7
  have m9 : γ 0 81 0 (4 * ρ 8 + 32 * ρ 7) = ρ 10 := zAllA hm 9
  have m15 : γ 2 15 0 35 = ρ 16 := zAllA hm 15
  have m16 : γ 0 80 0 (4 * ρ 8 + 32 * ρ 7) = ρ 19 := zAllA hm 16
  have c4 : γ 4 = rUp (γ 3) 15 0 35 (ρ 16 + 1) := And.right (zChA hc 6)
  have c5 : γ 5 = rUp (γ 4) 77 0 (ρ 8 + 8 * ρ 7) 2 := And.right (zChA hc 5)
  have c7 : γ 7 = rUp (γ 6) 15 0 35 (ρ 16 + 2) := And.right (zChA hc 3)
  have c8 : γ 8 = rUp (γ 7) 77 0 (ρ 8 + 8 * ρ 7) 4 := And.right (zChA hc 2)
  have l0 : sn33 [ρ 7, ρ 8] (γ 0) 0 (ρ 8 + 8 * ρ 7) (γ 1) := hS33 _ _ _ _ _ (zAllA hl 0)
  have l1 : sn7 [ρ 1, ρ 2] (γ 1) 0 0 (γ 2) := hS7 _ _ _ _ _ (zAllA hl 1)
  have l2 : sn6 [ρ 16, ρ 2] (γ 2) 0 (ρ 17) (γ 3) := hS6 _ _ _ _ _ (zAllA hl 2)
  have l3 : sn6 [ρ 16 + 1, ρ 2] (γ 5) 0 (ρ 18) (γ 6) := hS6 _ _ _ _ _ (zAllA hl 3)
  have l4 : sn19 [ρ 10, ρ 15] (γ 8) 0 1 (γ 9) := hS19 _ _ _ _ _ (zAllA hl 4)
  have l5 : sn34 [1, ρ 16 + 2, ρ 2, ρ 3, ρ 4, ρ 7, ρ 8, 4, ρ 10, ρ 11, ρ 12, ρ 13, ρ 14, ρ 15] (γ 9) 0 0 (γ 10) := hS34 _ _ _ _ _ (zAllA hl 5)
  show sn40 [ρ 0, ρ 1, ρ 2, ρ 3, ρ 4, ρ 5, ρ 6, ρ 7, ρ 8, ρ 9, ρ 10, ρ 11, ρ 12, ρ 13, ρ 14, ρ 15] (γ 0) 0 0 (γ 10)
  refine Eq.symm ?_
  show fn40 [ρ 0] (γ 0) = _
  unfold fn40
  refine zLV (ρ 0) rfl (zLE m1 (zLE m6 (zLE m7 (zLE m9 (zLE (show fn33 [] (γ 0) = (0, ρ 8 + 8 * ρ 7, γ 1) from l0.symm) (zLV (γ 1) rfl (zLE (show fn7 [] (γ 1) = (0, 0, γ 2) from l1.symm) ?_)))))))
  refine zLV (γ 2) rfl (zLE m15 (zLE (show fn6 [ρ 16] (γ 2) = (0, ρ 17, γ 3) from l2.symm) (zLV (γ 3) rfl (zIP w_0 (zLV (ρ 17) rfl (zIP w_1 (zLE c4.symm ?_)))))))
  refine zLE c5.symm (zLE (show fn6 [ρ 16 + 1] (γ 5) = (0, ρ 18, γ 6) from l3.symm) (zLV (γ 6) rfl (zIP w_2 (zLV (ρ 18) rfl (zIN w_3 (zLE c7.symm (zLE c8.symm ?_)))))))
  refine zLE m16 (zIN w_4 (zLE (show fn19 [ρ 10] (γ 8) = (0, 1, γ 9) from l4.symm) (zLV (γ 9) rfl (zIP zQ1_ (zLE (show fn34 [1] (γ 9) = (0, 0, γ 10) from l5.symm) (zLV (γ 10) rfl (zIN zQ0_ ?_)))))))
  rfl
theorem vn40_9 {S : Nat → zSpc} (hS6 : zIm S 6 sn6) (hS7 : zIm S 7 sn7) (hS8 : zIm S 8 sn8) (hS19 : zIm S 19 sn19) (hS33 : zIm S 33 sn33) (hS34 : zIm S 34 sn34) {a : List Int} {g : rHp} : ∀ (ρ : Nat → Int) (γ : Nat → rHp), zO 16 S a g q40_9 ρ γ → zGl (fun _ _ _ => True) (sn40 a g) q40_9 ρ γ := by
  intro ρ γ h
  obtain ⟨ha, hg, hr, hf, hm, hc, hl⟩ := h
  have ha : a = [ρ 0, ρ 1, ρ 2, ρ 3, ρ 4, ρ 5, ρ 6, ρ 7, ρ 8, ρ 9, ρ 10, ρ 11, ρ 12, ρ 13, ρ 14, ρ 15] := ha
  subst ha
  subst hg
  have r17 : (60 : Int) ≤ ρ 17 ∧ ρ 17 ≤ 60 := zRnA hr 17
  have r18 : (62 : Int) ≤ ρ 18 ∧ ρ 18 ≤ 62 := zRnA hr 18
  have r19 : (1 : Int) ≤ ρ 19 ∧ ρ 19 ≤ 1 := zRnA hr 19
  have f2 : (0 : Int) ≤ -ρ 16 + ρ 2 + (-2) := zAllA hf 2
  obtain ⟨w_0, w_1, w_2, w_3, w_4⟩ : (0 ≤ -ρ 16 + ρ 2 + (-1)) ∧ (ρ 17 = 60) ∧ (0 ≤ -ρ 16 + ρ 2 + (-2)) ∧ (¬ (ρ 18 ≠ 62)) ∧ (¬ (ρ 19 ≠ 1)) := ⟨by omega, by omega, by omega, by omega, by omega⟩
  have m1 : γ 0 15 0 34 = ρ 2 := zAllA hm 1
  have m6 : γ 0 15 0 44 = ρ 7 := zAllA hm 6
  have m7 : γ 0 73 0 (ρ 7) = ρ 8 := zAllA hm 7
  have m9 : γ 0 81 0 (4 * ρ 8 + 32 * ρ 7) = ρ 10 := zAllA hm 9
  have m15 : γ 2 15 0 35 = ρ 16 := zAllA hm 15
  have m16 : γ 0 80 0 (4 * ρ 8 + 32 * ρ 7) = ρ 19 := zAllA hm 16
  have c4 : γ 4 = rUp (γ 3) 15 0 35 (ρ 16 + 1) := And.right (zChA hc 6)
  have c5 : γ 5 = rUp (γ 4) 77 0 (ρ 8 + 8 * ρ 7) 2 := And.right (zChA hc 5)
  have c7 : γ 7 = rUp (γ 6) 15 0 35 (ρ 16 + 2) := And.right (zChA hc 3)
  have c8 : γ 8 = rUp (γ 7) 77 0 (ρ 8 + 8 * ρ 7) 4 := And.right (zChA hc 2)
  have l0 : sn33 [ρ 7, ρ 8] (γ 0) 0 (ρ 8 + 8 * ρ 7) (γ 1) := hS33 _ _ _ _ _ (zAllA hl 0)
  have l1 : sn7 [ρ 1, ρ 2] (γ 1) 0 0 (γ 2) := hS7 _ _ _ _ _ (zAllA hl 1)
  have l2 : sn6 [ρ 16, ρ 2] (γ 2) 0 (ρ 17) (γ 3) := hS6 _ _ _ _ _ (zAllA hl 2)
  have l3 : sn6 [ρ 16 + 1, ρ 2] (γ 5) 0 (ρ 18) (γ 6) := hS6 _ _ _ _ _ (zAllA hl 3)
  have l4 : sn19 [ρ 10, ρ 15] (γ 8) 0 1 (γ 9) := hS19 _ _ _ _ _ (zAllA hl 4)
  have l5 : sn34 [1, ρ 16 + 2, ρ 2, ρ 3, ρ 4, ρ 7, ρ 8, 4, ρ 10, ρ 11, ρ 12, ρ 13, ρ 14, ρ 15] (γ 9) 0 1 (γ 10) := hS34 _ _ _ _ _ (zAllA hl 5)
  show sn40 [ρ 0, ρ 1, ρ 2, ρ 3, ρ 4, ρ 5, ρ 6, ρ 7, ρ 8, ρ 9, ρ 10, ρ 11, ρ 12, ρ 13, ρ 14, ρ 15] (γ 0) 0 1 (γ 10)
  refine Eq.symm ?_
  show fn40 [ρ 0] (γ 0) = _
  unfold fn40
  refine zLV (ρ 0) rfl (zLE m1 (zLE m6 (zLE m7 (zLE m9 (zLE (show fn33 [] (γ 0) = (0, ρ 8 + 8 * ρ 7, γ 1) from l0.symm) (zLV (γ 1) rfl (zLE (show fn7 [] (γ 1) = (0, 0, γ 2) from l1.symm) ?_)))))))
  refine zLV (γ 2) rfl (zLE m15 (zLE (show fn6 [ρ 16] (γ 2) = (0, ρ 17, γ 3) from l2.symm) (zLV (γ 3) rfl (zIP w_0 (zLV (ρ 17) rfl (zIP w_1 (zLE c4.symm ?_)))))))
  refine zLE c5.symm (zLE (show fn6 [ρ 16 + 1] (γ 5) = (0, ρ 18, γ 6) from l3.symm) (zLV (γ 6) rfl (zIP w_2 (zLV (ρ 18) rfl (zIN w_3 (zLE c7.symm (zLE c8.symm ?_)))))))
  refine zLE m16 (zIN w_4 (zLE (show fn19 [ρ 10] (γ 8) = (0, 1, γ 9) from l4.symm) (zLV (γ 9) rfl (zIP zQ1_ (zLE (show fn34 [1] (γ 9) = (0, 1, γ 10) from l5.symm) (zLV (γ 10) rfl (zIP zQ1_ ?_)))))))
  rfl
theorem vn40_10 {S : Nat → zSpc} (hS6 : zIm S 6 sn6) (hS7 : zIm S 7 sn7) (hS8 : zIm S 8 sn8) (hS19 : zIm S 19 sn19) (hS33 : zIm S 33 sn33) (hS34 : zIm S 34 sn34) {a : List Int} {g : rHp} : ∀ (ρ : Nat → Int) (γ : Nat → rHp), zO 16 S a g q40_10 ρ γ → zGl (fun _ _ _ => True) (sn40 a g) q40_10 ρ γ := by
  intro ρ γ h
  obtain ⟨ha, hg, hr, hf, hm, hc, hl⟩ := h
  have ha : a = [ρ 0, ρ 1, ρ 2, ρ 3, ρ 4, ρ 5, ρ 6, ρ 7, ρ 8, ρ 9, ρ 10, ρ 11, ρ 12, ρ 13, ρ 14, ρ 15] := ha
  subst ha
  subst hg
  have r17 : (60 : Int) ≤ ρ 17 ∧ ρ 17 ≤ 60 := zRnA hr 17
  have r18 : (0 : Int) ≤ ρ 18 ∧ ρ 18 ≤ 3 := zRnA hr 18
  have f2 : (0 : Int) ≤ -ρ 16 + ρ 2 + (-1) := zAllA hf 2
  have f10 : (0 : Int) ≤ ρ 16 + -ρ 2 + 1 := zAllA hf 10
  obtain ⟨w_0, w_1, w_2⟩ : (0 ≤ -ρ 16 + ρ 2 + (-1)) ∧ (ρ 17 = 60) ∧ (¬ (0 ≤ -ρ 16 + ρ 2 + (-2))) := ⟨by omega, by omega, by omega⟩
  have m1 : γ 0 15 0 34 = ρ 2 := zAllA hm 1
  have m6 : γ 0 15 0 44 = ρ 7 := zAllA hm 6
  have m7 : γ 0 73 0 (ρ 7) = ρ 8 := zAllA hm 7
  have m9 : γ 0 81 0 (4 * ρ 8 + 32 * ρ 7) = ρ 10 := zAllA hm 9
  have m15 : γ 2 15 0 35 = ρ 16 := zAllA hm 15
  have m16 : γ 0 80 0 (4 * ρ 8 + 32 * ρ 7) = ρ 18 := zAllA hm 16
  have c4 : γ 4 = rUp (γ 3) 15 0 35 (ρ 16 + 1) := And.right (zChA hc 3)
  have c5 : γ 5 = rUp (γ 4) 77 0 (ρ 8 + 8 * ρ 7) 2 := And.right (zChA hc 2)
  have l0 : sn33 [ρ 7, ρ 8] (γ 0) 0 (ρ 8 + 8 * ρ 7) (γ 1) := hS33 _ _ _ _ _ (zAllA hl 0)
  have l1 : sn7 [ρ 1, ρ 2] (γ 1) 0 0 (γ 2) := hS7 _ _ _ _ _ (zAllA hl 1)
  have l2 : sn6 [ρ 16, ρ 2] (γ 2) 0 (ρ 17) (γ 3) := hS6 _ _ _ _ _ (zAllA hl 2)
  have l3 : sn6 [ρ 16 + 1, ρ 2] (γ 5) 0 (-1) (γ 6) := hS6 _ _ _ _ _ (zAllA hl 3)
  have l4 : ρ 18 ≠ 1 := zAllA hl 4
  have l5 : sn34 [1, ρ 16 + 1, ρ 2, ρ 3, ρ 4, ρ 7, ρ 8, 2, ρ 10, ρ 11, ρ 12, ρ 13, ρ 14, ρ 15] (γ 6) 0 0 (γ 7) := hS34 _ _ _ _ _ (zAllA hl 5)
  have wl_0 : ρ 18 ≠ 1 := by omega
  show sn40 [ρ 0, ρ 1, ρ 2, ρ 3, ρ 4, ρ 5, ρ 6, ρ 7, ρ 8, ρ 9, ρ 10, ρ 11, ρ 12, ρ 13, ρ 14, ρ 15] (γ 0) 0 0 (γ 7)
  refine Eq.symm ?_
  show fn40 [ρ 0] (γ 0) = _
  unfold fn40
  refine zLV (ρ 0) rfl (zLE m1 (zLE m6 (zLE m7 (zLE m9 (zLE (show fn33 [] (γ 0) = (0, ρ 8 + 8 * ρ 7, γ 1) from l0.symm) (zLV (γ 1) rfl (zLE (show fn7 [] (γ 1) = (0, 0, γ 2) from l1.symm) ?_)))))))
  refine zLV (γ 2) rfl (zLE m15 (zLE (show fn6 [ρ 16] (γ 2) = (0, ρ 17, γ 3) from l2.symm) (zLV (γ 3) rfl (zIP w_0 (zLV (ρ 17) rfl (zIP w_1 (zLE c4.symm ?_)))))))
  refine zLE c5.symm (zLE (show fn6 [ρ 16 + 1] (γ 5) = (0, (-1), γ 6) from l3.symm) (zLV (γ 6) rfl (zIN w_2 (zLE m16 (zIP wl_0 (zLE (show fn34 [1] (γ 6) = (0, 0, γ 7) from l5.symm) (zLV (γ 7) rfl ?_)))))))
  rfl
theorem vn40_11 {S : Nat → zSpc} (hS6 : zIm S 6 sn6) (hS7 : zIm S 7 sn7) (hS8 : zIm S 8 sn8) (hS19 : zIm S 19 sn19) (hS33 : zIm S 33 sn33) (hS34 : zIm S 34 sn34) {a : List Int} {g : rHp} : ∀ (ρ : Nat → Int) (γ : Nat → rHp), zO 16 S a g q40_11 ρ γ → zGl (fun _ _ _ => True) (sn40 a g) q40_11 ρ γ := by
  intro ρ γ h
  obtain ⟨ha, hg, hr, hf, hm, hc, hl⟩ := h
  have ha : a = [ρ 0, ρ 1, ρ 2, ρ 3, ρ 4, ρ 5, ρ 6, ρ 7, ρ 8, ρ 9, ρ 10, ρ 11, ρ 12, ρ 13, ρ 14, ρ 15] := ha
  subst ha
  subst hg
  have r17 : (60 : Int) ≤ ρ 17 ∧ ρ 17 ≤ 60 := zRnA hr 17
  have r18 : (1 : Int) ≤ ρ 18 ∧ ρ 18 ≤ 1 := zRnA hr 18
  have f2 : (0 : Int) ≤ ρ 16 + -ρ 2 + 1 := zAllA hf 2
  have f3 : (0 : Int) ≤ -ρ 16 + ρ 2 + (-1) := zAllA hf 3
  obtain ⟨w_0, w_1, w_2, w_3⟩ : (0 ≤ -ρ 16 + ρ 2 + (-1)) ∧ (ρ 17 = 60) ∧ (¬ (0 ≤ -ρ 16 + ρ 2 + (-2))) ∧ (¬ (ρ 18 ≠ 1)) := ⟨by omega, by omega, by omega, by omega⟩
  have m1 : γ 0 15 0 34 = ρ 2 := zAllA hm 1
  have m6 : γ 0 15 0 44 = ρ 7 := zAllA hm 6
  have m7 : γ 0 73 0 (ρ 7) = ρ 8 := zAllA hm 7
  have m9 : γ 0 81 0 (4 * ρ 8 + 32 * ρ 7) = ρ 10 := zAllA hm 9
  have m15 : γ 2 15 0 35 = ρ 16 := zAllA hm 15
  have m16 : γ 0 80 0 (4 * ρ 8 + 32 * ρ 7) = ρ 18 := zAllA hm 16
  have c4 : γ 4 = rUp (γ 3) 15 0 35 (ρ 16 + 1) := And.right (zChA hc 4)
  have c5 : γ 5 = rUp (γ 4) 77 0 (ρ 8 + 8 * ρ 7) 2 := And.right (zChA hc 3)
  have l0 : sn33 [ρ 7, ρ 8] (γ 0) 0 (ρ 8 + 8 * ρ 7) (γ 1) := hS33 _ _ _ _ _ (zAllA hl 0)
  have l1 : sn7 [ρ 1, ρ 2] (γ 1) 0 0 (γ 2) := hS7 _ _ _ _ _ (zAllA hl 1)
  have l2 : sn6 [ρ 16, ρ 2] (γ 2) 0 (ρ 17) (γ 3) := hS6 _ _ _ _ _ (zAllA hl 2)
  have l3 : sn6 [ρ 16 + 1, ρ 2] (γ 5) 0 (-1) (γ 6) := hS6 _ _ _ _ _ (zAllA hl 3)
  have l4 : sn19 [ρ 10, ρ 15] (γ 6) 0 0 (γ 7) := hS19 _ _ _ _ _ (zAllA hl 4)
  have l5 : sn8 [ρ 0, ρ 2, ρ 11] (γ 7) 0 0 (γ 8) := hS8 _ _ _ _ _ (zAllA hl 5)
  show sn40 [ρ 0, ρ 1, ρ 2, ρ 3, ρ 4, ρ 5, ρ 6, ρ 7, ρ 8, ρ 9, ρ 10, ρ 11, ρ 12, ρ 13, ρ 14, ρ 15] (γ 0) 0 0 (γ 8)
  refine Eq.symm ?_
  show fn40 [ρ 0] (γ 0) = _
  unfold fn40
  refine zLV (ρ 0) rfl (zLE m1 (zLE m6 (zLE m7 (zLE m9 (zLE (show fn33 [] (γ 0) = (0, ρ 8 + 8 * ρ 7, γ 1) from l0.symm) (zLV (γ 1) rfl (zLE (show fn7 [] (γ 1) = (0, 0, γ 2) from l1.symm) ?_)))))))
  refine zLV (γ 2) rfl (zLE m15 (zLE (show fn6 [ρ 16] (γ 2) = (0, ρ 17, γ 3) from l2.symm) (zLV (γ 3) rfl (zIP w_0 (zLV (ρ 17) rfl (zIP w_1 (zLE c4.symm ?_)))))))
  refine zLE c5.symm (zLE (show fn6 [ρ 16 + 1] (γ 5) = (0, (-1), γ 6) from l3.symm) (zLV (γ 6) rfl (zIN w_2 (zLE m16 (zIN w_3 (zLE (show fn19 [ρ 10] (γ 6) = (0, 0, γ 7) from l4.symm) (zLV (γ 7) rfl ?_)))))))
  refine zIN zQ0_ (zLE (show fn8 [ρ 0] (γ 7) = (0, 0, γ 8) from l5.symm) (zLV (γ 8) rfl ?_))
  rfl
theorem vn40_12 {S : Nat → zSpc} (hS6 : zIm S 6 sn6) (hS7 : zIm S 7 sn7) (hS8 : zIm S 8 sn8) (hS19 : zIm S 19 sn19) (hS33 : zIm S 33 sn33) (hS34 : zIm S 34 sn34) {a : List Int} {g : rHp} : ∀ (ρ : Nat → Int) (γ : Nat → rHp), zO 16 S a g q40_12 ρ γ → zGl (fun _ _ _ => True) (sn40 a g) q40_12 ρ γ := by
  intro ρ γ h
  obtain ⟨ha, hg, hr, hf, hm, hc, hl⟩ := h
  have ha : a = [ρ 0, ρ 1, ρ 2, ρ 3, ρ 4, ρ 5, ρ 6, ρ 7, ρ 8, ρ 9, ρ 10, ρ 11, ρ 12, ρ 13, ρ 14, ρ 15] := ha
  subst ha
  subst hg
  have r17 : (60 : Int) ≤ ρ 17 ∧ ρ 17 ≤ 60 := zRnA hr 17
  have r18 : (1 : Int) ≤ ρ 18 ∧ ρ 18 ≤ 1 := zRnA hr 18
  have f2 : (0 : Int) ≤ -ρ 16 + ρ 2 + (-1) := zAllA hf 2
  have f10 : (0 : Int) ≤ ρ 16 + -ρ 2 + 1 := zAllA hf 10
  obtain ⟨w_0, w_1, w_2, w_3⟩ : (0 ≤ -ρ 16 + ρ 2 + (-1)) ∧ (ρ 17 = 60) ∧ (¬ (0 ≤ -ρ 16 + ρ 2 + (-2))) ∧ (¬ (ρ 18 ≠ 1)) := ⟨by omega, by omega, by omega, by omega⟩
  have m1 : γ 0 15 0 34 = ρ 2 := zAllA hm 1
  have m6 : γ 0 15 0 44 = ρ 7 := zAllA hm 6
  have m7 : γ 0 73 0 (ρ 7) = ρ 8 := zAllA hm 7
  have m9 : γ 0 81 0 (4 * ρ 8 + 32 * ρ 7) = ρ 10 := zAllA hm 9
  have m15 : γ 2 15 0 35 = ρ 16 := zAllA hm 15
  have m16 : γ 0 80 0 (4 * ρ 8 + 32 * ρ 7) = ρ 18 := zAllA hm 16
  have c4 : γ 4 = rUp (γ 3) 15 0 35 (ρ 16 + 1) := And.right (zChA hc 4)
  have c5 : γ 5 = rUp (γ 4) 77 0 (ρ 8 + 8 * ρ 7) 2 := And.right (zChA hc 3)
  have l0 : sn33 [ρ 7, ρ 8] (γ 0) 0 (ρ 8 + 8 * ρ 7) (γ 1) := hS33 _ _ _ _ _ (zAllA hl 0)
  have l1 : sn7 [ρ 1, ρ 2] (γ 1) 0 0 (γ 2) := hS7 _ _ _ _ _ (zAllA hl 1)
  have l2 : sn6 [ρ 16, ρ 2] (γ 2) 0 (ρ 17) (γ 3) := hS6 _ _ _ _ _ (zAllA hl 2)
  have l3 : sn6 [ρ 16 + 1, ρ 2] (γ 5) 0 (-1) (γ 6) := hS6 _ _ _ _ _ (zAllA hl 3)
  have l4 : sn19 [ρ 10, ρ 15] (γ 6) 0 1 (γ 7) := hS19 _ _ _ _ _ (zAllA hl 4)
  have l5 : sn34 [1, ρ 16 + 1, ρ 2, ρ 3, ρ 4, ρ 7, ρ 8, 2, ρ 10, ρ 11, ρ 12, ρ 13, ρ 14, ρ 15] (γ 7) 0 0 (γ 8) := hS34 _ _ _ _ _ (zAllA hl 5)
  show sn40 [ρ 0, ρ 1, ρ 2, ρ 3, ρ 4, ρ 5, ρ 6, ρ 7, ρ 8, ρ 9, ρ 10, ρ 11, ρ 12, ρ 13, ρ 14, ρ 15] (γ 0) 0 0 (γ 8)
  refine Eq.symm ?_
  show fn40 [ρ 0] (γ 0) = _
  unfold fn40
  refine zLV (ρ 0) rfl (zLE m1 (zLE m6 (zLE m7 (zLE m9 (zLE (show fn33 [] (γ 0) = (0, ρ 8 + 8 * ρ 7, γ 1) from l0.symm) (zLV (γ 1) rfl (zLE (show fn7 [] (γ 1) = (0, 0, γ 2) from l1.symm) ?_)))))))
  refine zLV (γ 2) rfl (zLE m15 (zLE (show fn6 [ρ 16] (γ 2) = (0, ρ 17, γ 3) from l2.symm) (zLV (γ 3) rfl (zIP w_0 (zLV (ρ 17) rfl (zIP w_1 (zLE c4.symm ?_)))))))
  refine zLE c5.symm (zLE (show fn6 [ρ 16 + 1] (γ 5) = (0, (-1), γ 6) from l3.symm) (zLV (γ 6) rfl (zIN w_2 (zLE m16 (zIN w_3 (zLE (show fn19 [ρ 10] (γ 6) = (0, 1, γ 7) from l4.symm) (zLV (γ 7) rfl ?_)))))))
  refine zIP zQ1_ (zLE (show fn34 [1] (γ 7) = (0, 0, γ 8) from l5.symm) (zLV (γ 8) rfl ?_))
  rfl
theorem vn40_13 {S : Nat → zSpc} (hS6 : zIm S 6 sn6) (hS7 : zIm S 7 sn7) (hS8 : zIm S 8 sn8) (hS19 : zIm S 19 sn19) (hS33 : zIm S 33 sn33) (hS34 : zIm S 34 sn34) {a : List Int} {g : rHp} : ∀ (ρ : Nat → Int) (γ : Nat → rHp), zO 16 S a g q40_13 ρ γ → zGl (fun _ _ _ => True) (sn40 a g) q40_13 ρ γ := by
  intro ρ γ h
  obtain ⟨ha, hg, hr, hf, hm, hc, hl⟩ := h
  have ha : a = [ρ 0, ρ 1, ρ 2, ρ 3, ρ 4, ρ 5, ρ 6, ρ 7, ρ 8, ρ 9, ρ 10, ρ 11, ρ 12, ρ 13, ρ 14, ρ 15] := ha
  subst ha
  subst hg
  have r17 : (61 : Int) ≤ ρ 17 ∧ ρ 17 ≤ 61 := zRnA hr 17
  have r18 : (0 : Int) ≤ ρ 18 ∧ ρ 18 ≤ 3 := zRnA hr 18
  have f2 : (0 : Int) ≤ -ρ 16 + ρ 2 + (-1) := zAllA hf 2
  obtain ⟨w_0, w_1, w_2⟩ : (0 ≤ -ρ 16 + ρ 2 + (-1)) ∧ (¬ (ρ 17 = 60)) ∧ (ρ 17 = 61) := ⟨by omega, by omega, by omega⟩
  have m1 : γ 0 15 0 34 = ρ 2 := zAllA hm 1
  have m6 : γ 0 15 0 44 = ρ 7 := zAllA hm 6
  have m7 : γ 0 73 0 (ρ 7) = ρ 8 := zAllA hm 7
  have m9 : γ 0 81 0 (4 * ρ 8 + 32 * ρ 7) = ρ 10 := zAllA hm 9
  have m15 : γ 2 15 0 35 = ρ 16 := zAllA hm 15
  have m16 : γ 0 80 0 (4 * ρ 8 + 32 * ρ 7) = ρ 18 := zAllA hm 16
  have c4 : γ 4 = rUp (γ 3) 15 0 35 (ρ 16 + 1) := And.right (zChA hc 2)
  have c5 : γ 5 = rUp (γ 4) 77 0 (ρ 8 + 8 * ρ 7) 3 := And.right (zChA hc 1)
  have l0 : sn33 [ρ 7, ρ 8] (γ 0) 0 (ρ 8 + 8 * ρ 7) (γ 1) := hS33 _ _ _ _ _ (zAllA hl 0)
  have l1 : sn7 [ρ 1, ρ 2] (γ 1) 0 0 (γ 2) := hS7 _ _ _ _ _ (zAllA hl 1)
  have l2 : sn6 [ρ 16, ρ 2] (γ 2) 0 (ρ 17) (γ 3) := hS6 _ _ _ _ _ (zAllA hl 2)
  have l3 : ρ 17 ≠ 60 := zAllA hl 3
  have l4 : ρ 18 ≠ 1 := zAllA hl 4
  have l5 : sn34 [1, ρ 16 + 1, ρ 2, ρ 3, ρ 4, ρ 7, ρ 8, 3, ρ 10, ρ 11, ρ 12, ρ 13, ρ 14, ρ 15] (γ 5) 0 0 (γ 6) := hS34 _ _ _ _ _ (zAllA hl 5)
  have wl_0 : ρ 18 ≠ 1 := by omega
  show sn40 [ρ 0, ρ 1, ρ 2, ρ 3, ρ 4, ρ 5, ρ 6, ρ 7, ρ 8, ρ 9, ρ 10, ρ 11, ρ 12, ρ 13, ρ 14, ρ 15] (γ 0) 0 0 (γ 6)
  refine Eq.symm ?_
  show fn40 [ρ 0] (γ 0) = _
  unfold fn40
  refine zLV (ρ 0) rfl (zLE m1 (zLE m6 (zLE m7 (zLE m9 (zLE (show fn33 [] (γ 0) = (0, ρ 8 + 8 * ρ 7, γ 1) from l0.symm) (zLV (γ 1) rfl (zLE (show fn7 [] (γ 1) = (0, 0, γ 2) from l1.symm) ?_)))))))
  refine zLV (γ 2) rfl (zLE m15 (zLE (show fn6 [ρ 16] (γ 2) = (0, ρ 17, γ 3) from l2.symm) (zLV (γ 3) rfl (zIP w_0 (zLV (ρ 17) rfl (zIN w_1 (zIP w_2 ?_)))))))
  refine zLE c4.symm (zLE c5.symm (zLE m16 (zIP wl_0 (zLE (show fn34 [1] (γ 5) = (0, 0, γ 6) from l5.symm) (zLV (γ 6) rfl (zIN zQ0_ ?_))))))
  rfl
theorem vn40_14 {S : Nat → zSpc} (hS6 : zIm S 6 sn6) (hS7 : zIm S 7 sn7) (hS8 : zIm S 8 sn8) (hS19 : zIm S 19 sn19) (hS33 : zIm S 33 sn33) (hS34 : zIm S 34 sn34) {a : List Int} {g : rHp} : ∀ (ρ : Nat → Int) (γ : Nat → rHp), zO 16 S a g q40_14 ρ γ → zGl (fun _ _ _ => True) (sn40 a g) q40_14 ρ γ := by
  intro ρ γ h
  obtain ⟨ha, hg, hr, hf, hm, hc, hl⟩ := h
  have ha : a = [ρ 0, ρ 1, ρ 2, ρ 3, ρ 4, ρ 5, ρ 6, ρ 7, ρ 8, ρ 9, ρ 10, ρ 11, ρ 12, ρ 13, ρ 14, ρ 15] := ha
  subst ha
  subst hg
  have r17 : (61 : Int) ≤ ρ 17 ∧ ρ 17 ≤ 61 := zRnA hr 17
  have r18 : (0 : Int) ≤ ρ 18 ∧ ρ 18 ≤ 3 := zRnA hr 18
  have f2 : (0 : Int) ≤ -ρ 16 + ρ 2 + (-1) := zAllA hf 2
  obtain ⟨w_0, w_1, w_2⟩ : (0 ≤ -ρ 16 + ρ 2 + (-1)) ∧ (¬ (ρ 17 = 60)) ∧ (ρ 17 = 61) := ⟨by omega, by omega, by omega⟩
  have m1 : γ 0 15 0 34 = ρ 2 := zAllA hm 1
  have m6 : γ 0 15 0 44 = ρ 7 := zAllA hm 6
  have m7 : γ 0 73 0 (ρ 7) = ρ 8 := zAllA hm 7
  have m9 : γ 0 81 0 (4 * ρ 8 + 32 * ρ 7) = ρ 10 := zAllA hm 9
  have m15 : γ 2 15 0 35 = ρ 16 := zAllA hm 15
  have m16 : γ 0 80 0 (4 * ρ 8 + 32 * ρ 7) = ρ 18 := zAllA hm 16
  have c4 : γ 4 = rUp (γ 3) 15 0 35 (ρ 16 + 1) := And.right (zChA hc 2)
  have c5 : γ 5 = rUp (γ 4) 77 0 (ρ 8 + 8 * ρ 7) 3 := And.right (zChA hc 1)
  have l0 : sn33 [ρ 7, ρ 8] (γ 0) 0 (ρ 8 + 8 * ρ 7) (γ 1) := hS33 _ _ _ _ _ (zAllA hl 0)
  have l1 : sn7 [ρ 1, ρ 2] (γ 1) 0 0 (γ 2) := hS7 _ _ _ _ _ (zAllA hl 1)
  have l2 : sn6 [ρ 16, ρ 2] (γ 2) 0 (ρ 17) (γ 3) := hS6 _ _ _ _ _ (zAllA hl 2)
  have l3 : ρ 17 ≠ 60 := zAllA hl 3
  have l4 : ρ 18 ≠ 1 := zAllA hl 4
  have l5 : sn34 [1, ρ 16 + 1, ρ 2, ρ 3, ρ 4, ρ 7, ρ 8, 3, ρ 10, ρ 11, ρ 12, ρ 13, ρ 14, ρ 15] (γ 5) 0 1 (γ 6) := hS34 _ _ _ _ _ (zAllA hl 5)
  have wl_0 : ρ 18 ≠ 1 := by omega
  show sn40 [ρ 0, ρ 1, ρ 2, ρ 3, ρ 4, ρ 5, ρ 6, ρ 7, ρ 8, ρ 9, ρ 10, ρ 11, ρ 12, ρ 13, ρ 14, ρ 15] (γ 0) 0 1 (γ 6)
  refine Eq.symm ?_
  show fn40 [ρ 0] (γ 0) = _
  unfold fn40
  refine zLV (ρ 0) rfl (zLE m1 (zLE m6 (zLE m7 (zLE m9 (zLE (show fn33 [] (γ 0) = (0, ρ 8 + 8 * ρ 7, γ 1) from l0.symm) (zLV (γ 1) rfl (zLE (show fn7 [] (γ 1) = (0, 0, γ 2) from l1.symm) ?_)))))))
  refine zLV (γ 2) rfl (zLE m15 (zLE (show fn6 [ρ 16] (γ 2) = (0, ρ 17, γ 3) from l2.symm) (zLV (γ 3) rfl (zIP w_0 (zLV (ρ 17) rfl (zIN w_1 (zIP w_2 ?_)))))))
  refine zLE c4.symm (zLE c5.symm (zLE m16 (zIP wl_0 (zLE (show fn34 [1] (γ 5) = (0, 1, γ 6) from l5.symm) (zLV (γ 6) rfl (zIP zQ1_ ?_))))))
  rfl
theorem vn40_15 {S : Nat → zSpc} (hS6 : zIm S 6 sn6) (hS7 : zIm S 7 sn7) (hS8 : zIm S 8 sn8) (hS19 : zIm S 19 sn19) (hS33 : zIm S 33 sn33) (hS34 : zIm S 34 sn34) {a : List Int} {g : rHp} : ∀ (ρ : Nat → Int) (γ : Nat → rHp), zO 16 S a g q40_15 ρ γ → zGl (fun _ _ _ => True) (sn40 a g) q40_15 ρ γ := by
  intro ρ γ h
  obtain ⟨ha, hg, hr, hf, hm, hc, hl⟩ := h
  have ha : a = [ρ 0, ρ 1, ρ 2, ρ 3, ρ 4, ρ 5, ρ 6, ρ 7, ρ 8, ρ 9, ρ 10, ρ 11, ρ 12, ρ 13, ρ 14, ρ 15] := ha
  subst ha
  subst hg
  have r17 : (61 : Int) ≤ ρ 17 ∧ ρ 17 ≤ 61 := zRnA hr 17
  have r18 : (1 : Int) ≤ ρ 18 ∧ ρ 18 ≤ 1 := zRnA hr 18
  have f2 : (0 : Int) ≤ -ρ 16 + ρ 2 + (-1) := zAllA hf 2
  obtain ⟨w_0, w_1, w_2, w_3⟩ : (0 ≤ -ρ 16 + ρ 2 + (-1)) ∧ (¬ (ρ 17 = 60)) ∧ (ρ 17 = 61) ∧ (¬ (ρ 18 ≠ 1)) := ⟨by omega, by omega, by omega, by omega⟩
  have m1 : γ 0 15 0 34 = ρ 2 := zAllA hm 1
  have m6 : γ 0 15 0 44 = ρ 7 := zAllA hm 6
  have m7 : γ 0 73 0 (ρ 7) = ρ 8 := zAllA hm 7
  have m9 : γ 0 81 0 (4 * ρ 8 + 32 * ρ 7) = ρ 10 := zAllA hm 9
  have m15 : γ 2 15 0 35 = ρ 16 := zAllA hm 15
  have m16 : γ 0 80 0 (4 * ρ 8 + 32 * ρ 7) = ρ 18 := zAllA hm 16
  have c4 : γ 4 = rUp (γ 3) 15 0 35 (ρ 16 + 1) := And.right (zChA hc 3)
  have c5 : γ 5 = rUp (γ 4) 77 0 (ρ 8 + 8 * ρ 7) 3 := And.right (zChA hc 2)
  have l0 : sn33 [ρ 7, ρ 8] (γ 0) 0 (ρ 8 + 8 * ρ 7) (γ 1) := hS33 _ _ _ _ _ (zAllA hl 0)
  have l1 : sn7 [ρ 1, ρ 2] (γ 1) 0 0 (γ 2) := hS7 _ _ _ _ _ (zAllA hl 1)
  have l2 : sn6 [ρ 16, ρ 2] (γ 2) 0 (ρ 17) (γ 3) := hS6 _ _ _ _ _ (zAllA hl 2)
  have l3 : ρ 17 ≠ 60 := zAllA hl 3
  have l4 : sn19 [ρ 10, ρ 15] (γ 5) 0 0 (γ 6) := hS19 _ _ _ _ _ (zAllA hl 4)
  have l5 : sn8 [ρ 0, ρ 2, ρ 11] (γ 6) 0 0 (γ 7) := hS8 _ _ _ _ _ (zAllA hl 5)
  show sn40 [ρ 0, ρ 1, ρ 2, ρ 3, ρ 4, ρ 5, ρ 6, ρ 7, ρ 8, ρ 9, ρ 10, ρ 11, ρ 12, ρ 13, ρ 14, ρ 15] (γ 0) 0 0 (γ 7)
  refine Eq.symm ?_
  show fn40 [ρ 0] (γ 0) = _
  unfold fn40
  refine zLV (ρ 0) rfl (zLE m1 (zLE m6 (zLE m7 (zLE m9 (zLE (show fn33 [] (γ 0) = (0, ρ 8 + 8 * ρ 7, γ 1) from l0.symm) (zLV (γ 1) rfl (zLE (show fn7 [] (γ 1) = (0, 0, γ 2) from l1.symm) ?_)))))))
  refine zLV (γ 2) rfl (zLE m15 (zLE (show fn6 [ρ 16] (γ 2) = (0, ρ 17, γ 3) from l2.symm) (zLV (γ 3) rfl (zIP w_0 (zLV (ρ 17) rfl (zIN w_1 (zIP w_2 ?_)))))))
  refine zLE c4.symm (zLE c5.symm (zLE m16 (zIN w_3 (zLE (show fn19 [ρ 10] (γ 5) = (0, 0, γ 6) from l4.symm) (zLV (γ 6) rfl (zIN zQ0_ (zLE (show fn8 [ρ 0] (γ 6) = (0, 0, γ 7) from l5.symm) ?_)))))))
  refine zLV (γ 7) rfl ?_
  rfl
theorem vn40_16 {S : Nat → zSpc} (hS6 : zIm S 6 sn6) (hS7 : zIm S 7 sn7) (hS8 : zIm S 8 sn8) (hS19 : zIm S 19 sn19) (hS33 : zIm S 33 sn33) (hS34 : zIm S 34 sn34) {a : List Int} {g : rHp} : ∀ (ρ : Nat → Int) (γ : Nat → rHp), zO 16 S a g q40_16 ρ γ → zGl (fun _ _ _ => True) (sn40 a g) q40_16 ρ γ := by
  intro ρ γ h
  obtain ⟨ha, hg, hr, hf, hm, hc, hl⟩ := h
  have ha : a = [ρ 0, ρ 1, ρ 2, ρ 3, ρ 4, ρ 5, ρ 6, ρ 7, ρ 8, ρ 9, ρ 10, ρ 11, ρ 12, ρ 13, ρ 14, ρ 15] := ha
  subst ha
  subst hg
  have r17 : (61 : Int) ≤ ρ 17 ∧ ρ 17 ≤ 61 := zRnA hr 17
  have r18 : (1 : Int) ≤ ρ 18 ∧ ρ 18 ≤ 1 := zRnA hr 18
  have f2 : (0 : Int) ≤ -ρ 16 + ρ 2 + (-1) := zAllA hf 2
  obtain ⟨w_0, w_1, w_2, w_3⟩ : (0 ≤ -ρ 16 + ρ 2 + (-1)) ∧ (¬ (ρ 17 = 60)) ∧ (ρ 17 = 61) ∧ (¬ (ρ 18 ≠ 1)) := ⟨by omega, by omega, by omega, by omega⟩
  have m1 : γ 0 15 0 34 = ρ 2 := zAllA hm 1
  have m6 : γ 0 15 0 44 = ρ 7 := zAllA hm 6
  have m7 : γ 0 73 0 (ρ 7) = ρ 8 := zAllA hm 7
  have m9 : γ 0 81 0 (4 * ρ 8 + 32 * ρ 7) = ρ 10 := zAllA hm 9
  have m15 : γ 2 15 0 35 = ρ 16 := zAllA hm 15
  have m16 : γ 0 80 0 (4 * ρ 8 + 32 * ρ 7) = ρ 18 := zAllA hm 16
  have c4 : γ 4 = rUp (γ 3) 15 0 35 (ρ 16 + 1) := And.right (zChA hc 3)
  have c5 : γ 5 = rUp (γ 4) 77 0 (ρ 8 + 8 * ρ 7) 3 := And.right (zChA hc 2)
  have l0 : sn33 [ρ 7, ρ 8] (γ 0) 0 (ρ 8 + 8 * ρ 7) (γ 1) := hS33 _ _ _ _ _ (zAllA hl 0)
  have l1 : sn7 [ρ 1, ρ 2] (γ 1) 0 0 (γ 2) := hS7 _ _ _ _ _ (zAllA hl 1)
  have l2 : sn6 [ρ 16, ρ 2] (γ 2) 0 (ρ 17) (γ 3) := hS6 _ _ _ _ _ (zAllA hl 2)
  have l3 : ρ 17 ≠ 60 := zAllA hl 3
  have l4 : sn19 [ρ 10, ρ 15] (γ 5) 0 1 (γ 6) := hS19 _ _ _ _ _ (zAllA hl 4)
  have l5 : sn34 [1, ρ 16 + 1, ρ 2, ρ 3, ρ 4, ρ 7, ρ 8, 3, ρ 10, ρ 11, ρ 12, ρ 13, ρ 14, ρ 15] (γ 6) 0 0 (γ 7) := hS34 _ _ _ _ _ (zAllA hl 5)
  show sn40 [ρ 0, ρ 1, ρ 2, ρ 3, ρ 4, ρ 5, ρ 6, ρ 7, ρ 8, ρ 9, ρ 10, ρ 11, ρ 12, ρ 13, ρ 14, ρ 15] (γ 0) 0 0 (γ 7)
  refine Eq.symm ?_
  show fn40 [ρ 0] (γ 0) = _
  unfold fn40
  refine zLV (ρ 0) rfl (zLE m1 (zLE m6 (zLE m7 (zLE m9 (zLE (show fn33 [] (γ 0) = (0, ρ 8 + 8 * ρ 7, γ 1) from l0.symm) (zLV (γ 1) rfl (zLE (show fn7 [] (γ 1) = (0, 0, γ 2) from l1.symm) ?_)))))))
  refine zLV (γ 2) rfl (zLE m15 (zLE (show fn6 [ρ 16] (γ 2) = (0, ρ 17, γ 3) from l2.symm) (zLV (γ 3) rfl (zIP w_0 (zLV (ρ 17) rfl (zIN w_1 (zIP w_2 ?_)))))))
  refine zLE c4.symm (zLE c5.symm (zLE m16 (zIN w_3 (zLE (show fn19 [ρ 10] (γ 5) = (0, 1, γ 6) from l4.symm) (zLV (γ 6) rfl (zIP zQ1_ (zLE (show fn34 [1] (γ 6) = (0, 0, γ 7) from l5.symm) ?_)))))))
  refine zLV (γ 7) rfl (zIN zQ0_ ?_)
  rfl
theorem vn40_17 {S : Nat → zSpc} (hS6 : zIm S 6 sn6) (hS7 : zIm S 7 sn7) (hS8 : zIm S 8 sn8) (hS19 : zIm S 19 sn19) (hS33 : zIm S 33 sn33) (hS34 : zIm S 34 sn34) {a : List Int} {g : rHp} : ∀ (ρ : Nat → Int) (γ : Nat → rHp), zO 16 S a g q40_17 ρ γ → zGl (fun _ _ _ => True) (sn40 a g) q40_17 ρ γ := by
  intro ρ γ h
  obtain ⟨ha, hg, hr, hf, hm, hc, hl⟩ := h
  have ha : a = [ρ 0, ρ 1, ρ 2, ρ 3, ρ 4, ρ 5, ρ 6, ρ 7, ρ 8, ρ 9, ρ 10, ρ 11, ρ 12, ρ 13, ρ 14, ρ 15] := ha
  subst ha
  subst hg
  have r17 : (61 : Int) ≤ ρ 17 ∧ ρ 17 ≤ 61 := zRnA hr 17
  have r18 : (1 : Int) ≤ ρ 18 ∧ ρ 18 ≤ 1 := zRnA hr 18
  have f2 : (0 : Int) ≤ -ρ 16 + ρ 2 + (-1) := zAllA hf 2
  obtain ⟨w_0, w_1, w_2, w_3⟩ : (0 ≤ -ρ 16 + ρ 2 + (-1)) ∧ (¬ (ρ 17 = 60)) ∧ (ρ 17 = 61) ∧ (¬ (ρ 18 ≠ 1)) := ⟨by omega, by omega, by omega, by omega⟩
  have m1 : γ 0 15 0 34 = ρ 2 := zAllA hm 1
  have m6 : γ 0 15 0 44 = ρ 7 := zAllA hm 6
  have m7 : γ 0 73 0 (ρ 7) = ρ 8 := zAllA hm 7
  have m9 : γ 0 81 0 (4 * ρ 8 + 32 * ρ 7) = ρ 10 := zAllA hm 9
  have m15 : γ 2 15 0 35 = ρ 16 := zAllA hm 15
  have m16 : γ 0 80 0 (4 * ρ 8 + 32 * ρ 7) = ρ 18 := zAllA hm 16
  have c4 : γ 4 = rUp (γ 3) 15 0 35 (ρ 16 + 1) := And.right (zChA hc 3)
  have c5 : γ 5 = rUp (γ 4) 77 0 (ρ 8 + 8 * ρ 7) 3 := And.right (zChA hc 2)
  have l0 : sn33 [ρ 7, ρ 8] (γ 0) 0 (ρ 8 + 8 * ρ 7) (γ 1) := hS33 _ _ _ _ _ (zAllA hl 0)
  have l1 : sn7 [ρ 1, ρ 2] (γ 1) 0 0 (γ 2) := hS7 _ _ _ _ _ (zAllA hl 1)
  have l2 : sn6 [ρ 16, ρ 2] (γ 2) 0 (ρ 17) (γ 3) := hS6 _ _ _ _ _ (zAllA hl 2)
  have l3 : ρ 17 ≠ 60 := zAllA hl 3
  have l4 : sn19 [ρ 10, ρ 15] (γ 5) 0 1 (γ 6) := hS19 _ _ _ _ _ (zAllA hl 4)
  have l5 : sn34 [1, ρ 16 + 1, ρ 2, ρ 3, ρ 4, ρ 7, ρ 8, 3, ρ 10, ρ 11, ρ 12, ρ 13, ρ 14, ρ 15] (γ 6) 0 1 (γ 7) := hS34 _ _ _ _ _ (zAllA hl 5)
  show sn40 [ρ 0, ρ 1, ρ 2, ρ 3, ρ 4, ρ 5, ρ 6, ρ 7, ρ 8, ρ 9, ρ 10, ρ 11, ρ 12, ρ 13, ρ 14, ρ 15] (γ 0) 0 1 (γ 7)
  refine Eq.symm ?_
  show fn40 [ρ 0] (γ 0) = _
  unfold fn40
  refine zLV (ρ 0) rfl (zLE m1 (zLE m6 (zLE m7 (zLE m9 (zLE (show fn33 [] (γ 0) = (0, ρ 8 + 8 * ρ 7, γ 1) from l0.symm) (zLV (γ 1) rfl (zLE (show fn7 [] (γ 1) = (0, 0, γ 2) from l1.symm) ?_)))))))
  refine zLV (γ 2) rfl (zLE m15 (zLE (show fn6 [ρ 16] (γ 2) = (0, ρ 17, γ 3) from l2.symm) (zLV (γ 3) rfl (zIP w_0 (zLV (ρ 17) rfl (zIN w_1 (zIP w_2 ?_)))))))
  refine zLE c4.symm (zLE c5.symm (zLE m16 (zIN w_3 (zLE (show fn19 [ρ 10] (γ 5) = (0, 1, γ 6) from l4.symm) (zLV (γ 6) rfl (zIP zQ1_ (zLE (show fn34 [1] (γ 6) = (0, 1, γ 7) from l5.symm) ?_)))))))
  refine zLV (γ 7) rfl (zIP zQ1_ ?_)
  rfl
theorem vn40_18 {S : Nat → zSpc} (hS6 : zIm S 6 sn6) (hS7 : zIm S 7 sn7) (hS8 : zIm S 8 sn8) (hS19 : zIm S 19 sn19) (hS33 : zIm S 33 sn33) (hS34 : zIm S 34 sn34) {a : List Int} {g : rHp} : ∀ (ρ : Nat → Int) (γ : Nat → rHp), zO 16 S a g q40_18 ρ γ → zGl (fun _ _ _ => True) (sn40 a g) q40_18 ρ γ := by
  intro ρ γ h
  obtain ⟨ha, hg, hr, hf, hm, hc, hl⟩ := h
  have ha : a = [ρ 0, ρ 1, ρ 2, ρ 3, ρ 4, ρ 5, ρ 6, ρ 7, ρ 8, ρ 9, ρ 10, ρ 11, ρ 12, ρ 13, ρ 14, ρ 15] := ha
  subst ha
  subst hg
  have r17 : ((-128) : Int) ≤ ρ 17 ∧ ρ 17 ≤ 127 := zRnA hr 17
  have f2 : (0 : Int) ≤ -ρ 16 + ρ 2 + (-1) := zAllA hf 2
  have w_0 : 0 ≤ -ρ 16 + ρ 2 + (-1) := by omega
  have m1 : γ 0 15 0 34 = ρ 2 := zAllA hm 1
  have m6 : γ 0 15 0 44 = ρ 7 := zAllA hm 6
  have m7 : γ 0 73 0 (ρ 7) = ρ 8 := zAllA hm 7
  have m9 : γ 0 81 0 (4 * ρ 8 + 32 * ρ 7) = ρ 10 := zAllA hm 9
  have m15 : γ 2 15 0 35 = ρ 16 := zAllA hm 15
  have l0 : sn33 [ρ 7, ρ 8] (γ 0) 0 (ρ 8 + 8 * ρ 7) (γ 1) := hS33 _ _ _ _ _ (zAllA hl 0)
  have l1 : sn7 [ρ 1, ρ 2] (γ 1) 0 0 (γ 2) := hS7 _ _ _ _ _ (zAllA hl 1)
  have l2 : sn6 [ρ 16, ρ 2] (γ 2) 0 (ρ 17) (γ 3) := hS6 _ _ _ _ _ (zAllA hl 2)
  have l3 : ρ 17 ≠ 60 := zAllA hl 3
  have l4 : ρ 17 ≠ 61 := zAllA hl 4
  have l5 : sn8 [ρ 16, ρ 2, ρ 11] (γ 3) 0 0 (γ 4) := hS8 _ _ _ _ _ (zAllA hl 5)
  obtain ⟨wl_0, wl_1⟩ : (¬ (ρ 17 = 60)) ∧ (¬ (ρ 17 = 61)) := ⟨by omega, by omega⟩
  show sn40 [ρ 0, ρ 1, ρ 2, ρ 3, ρ 4, ρ 5, ρ 6, ρ 7, ρ 8, ρ 9, ρ 10, ρ 11, ρ 12, ρ 13, ρ 14, ρ 15] (γ 0) 0 0 (γ 4)
  refine Eq.symm ?_
  show fn40 [ρ 0] (γ 0) = _
  unfold fn40
  refine zLV (ρ 0) rfl (zLE m1 (zLE m6 (zLE m7 (zLE m9 (zLE (show fn33 [] (γ 0) = (0, ρ 8 + 8 * ρ 7, γ 1) from l0.symm) (zLV (γ 1) rfl (zLE (show fn7 [] (γ 1) = (0, 0, γ 2) from l1.symm) ?_)))))))
  refine zLV (γ 2) rfl (zLE m15 (zLE (show fn6 [ρ 16] (γ 2) = (0, ρ 17, γ 3) from l2.symm) (zLV (γ 3) rfl (zIP w_0 (zLV (ρ 17) rfl (zIN wl_0 (zIN wl_1 ?_)))))))
  refine zLE (show fn8 [ρ 16] (γ 3) = (0, 0, γ 4) from l5.symm) (zLV (γ 4) rfl ?_)
  rfl
theorem vn40_19 {S : Nat → zSpc} (hS6 : zIm S 6 sn6) (hS7 : zIm S 7 sn7) (hS8 : zIm S 8 sn8) (hS19 : zIm S 19 sn19) (hS33 : zIm S 33 sn33) (hS34 : zIm S 34 sn34) {a : List Int} {g : rHp} : ∀ (ρ : Nat → Int) (γ : Nat → rHp), zO 16 S a g q40_19 ρ γ → zGl (fun _ _ _ => True) (sn40 a g) q40_19 ρ γ := by
  intro ρ γ h
  obtain ⟨ha, hg, hr, hf, hm, hc, hl⟩ := h
  have ha : a = [ρ 0, ρ 1, ρ 2, ρ 3, ρ 4, ρ 5, ρ 6, ρ 7, ρ 8, ρ 9, ρ 10, ρ 11, ρ 12, ρ 13, ρ 14, ρ 15] := ha
  subst ha
  subst hg
  have f2 : (0 : Int) ≤ ρ 16 + -ρ 2 := zAllA hf 2
  have w_0 : ¬ (0 ≤ -ρ 16 + ρ 2 + (-1)) := by omega
  have m1 : γ 0 15 0 34 = ρ 2 := zAllA hm 1
  have m6 : γ 0 15 0 44 = ρ 7 := zAllA hm 6
  have m7 : γ 0 73 0 (ρ 7) = ρ 8 := zAllA hm 7
  have m9 : γ 0 81 0 (4 * ρ 8 + 32 * ρ 7) = ρ 10 := zAllA hm 9
  have m15 : γ 2 15 0 35 = ρ 16 := zAllA hm 15
  have l0 : sn33 [ρ 7, ρ 8] (γ 0) 0 (ρ 8 + 8 * ρ 7) (γ 1) := hS33 _ _ _ _ _ (zAllA hl 0)
  have l1 : sn7 [ρ 1, ρ 2] (γ 1) 0 0 (γ 2) := hS7 _ _ _ _ _ (zAllA hl 1)
  have l2 : sn6 [ρ 16, ρ 2] (γ 2) 0 (-1) (γ 3) := hS6 _ _ _ _ _ (zAllA hl 2)
  have l3 : sn8 [ρ 16, ρ 2, ρ 11] (γ 3) 0 0 (γ 4) := hS8 _ _ _ _ _ (zAllA hl 3)
  show sn40 [ρ 0, ρ 1, ρ 2, ρ 3, ρ 4, ρ 5, ρ 6, ρ 7, ρ 8, ρ 9, ρ 10, ρ 11, ρ 12, ρ 13, ρ 14, ρ 15] (γ 0) 0 0 (γ 4)
  refine Eq.symm ?_
  show fn40 [ρ 0] (γ 0) = _
  unfold fn40
  refine zLV (ρ 0) rfl (zLE m1 (zLE m6 (zLE m7 (zLE m9 (zLE (show fn33 [] (γ 0) = (0, ρ 8 + 8 * ρ 7, γ 1) from l0.symm) (zLV (γ 1) rfl (zLE (show fn7 [] (γ 1) = (0, 0, γ 2) from l1.symm) ?_)))))))
  refine zLV (γ 2) rfl (zLE m15 (zLE (show fn6 [ρ 16] (γ 2) = (0, (-1), γ 3) from l2.symm) (zLV (γ 3) rfl (zIN w_0 (zLE (show fn8 [ρ 16] (γ 3) = (0, 0, γ 4) from l3.symm) (zLV (γ 4) rfl ?_))))))
  rfl
theorem yn40 {S : Nat → zSpc} (hS6 : zIm S 6 sn6) (hS7 : zIm S 7 sn7) (hS8 : zIm S 8 sn8) (hS19 : zIm S 19 sn19) (hS33 : zIm S 33 sn33) (hS34 : zIm S 34 sn34) : ∀ x g o v gz, zSem uW uT w40_.2.2.2.1 w40_.2.2.1.1.length S q40 (fun i => q40a.getD i []) (zNA a40_) x g o v gz → sn40 x g o v gz := by
  intro a g o v gz h
  exact zSem_all (l0 := q40) (las := q40a) (S := S) (J := (fun _ _ _ => True)) (P := sn40 a g) (fun _ => (show zAll _ [q40_0, q40_1, q40_2, q40_3, q40_4, q40_5, q40_6, q40_7, q40_8, q40_9, q40_10, q40_11, q40_12, q40_13, q40_14, q40_15, q40_16, q40_17, q40_18, q40_19] from (zAll_c (vn40_0 hS6 hS7 hS8 hS19 hS33 hS34) (zAll_c (vn40_1 hS6 hS7 hS8 hS19 hS33 hS34) (zAll_c (vn40_2 hS6 hS7 hS8 hS19 hS33 hS34) (zAll_c (vn40_3 hS6 hS7 hS8 hS19 hS33 hS34) (zAll_c (vn40_4 hS6 hS7 hS8 hS19 hS33 hS34) (zAll_c (vn40_5 hS6 hS7 hS8 hS19 hS33 hS34) (zAll_c (vn40_6 hS6 hS7 hS8 hS19 hS33 hS34) (zAll_c (vn40_7 hS6 hS7 hS8 hS19 hS33 hS34) (zAll_c (vn40_8 hS6 hS7 hS8 hS19 hS33 hS34) (zAll_c (vn40_9 hS6 hS7 hS8 hS19 hS33 hS34) (zAll_c (vn40_10 hS6 hS7 hS8 hS19 hS33 hS34) (zAll_c (vn40_11 hS6 hS7 hS8 hS19 hS33 hS34) (zAll_c (vn40_12 hS6 hS7 hS8 hS19 hS33 hS34) (zAll_c (vn40_13 hS6 hS7 hS8 hS19 hS33 hS34) (zAll_c (vn40_14 hS6 hS7 hS8 hS19 hS33 hS34) (zAll_c (vn40_15 hS6 hS7 hS8 hS19 hS33 hS34) (zAll_c (vn40_16 hS6 hS7 hS8 hS19 hS33 hS34) (zAll_c (vn40_17 hS6 hS7 hS8 hS19 hS33 hS34) (zAll_c (vn40_18 hS6 hS7 hS8 hS19 hS33 hS34) (zAll_c (vn40_19 hS6 hS7 hS8 hS19 hS33 hS34) zAll_n)))))))))))))))))))))) (fun _ => (show zAllI _ 0 [] from trivial)) h
