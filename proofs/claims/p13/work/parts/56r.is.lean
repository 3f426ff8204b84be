/-! ===== the runs are the functions ===== -/
theorem vn167_0 {S : Nat → zSpc} (hS111 : zIm S 111 sn111) (hS112 : zIm S 112 sn112) (hS128 : zIm S 128 sn128) (hS130 : zIm S 130 sn130) (hS131 : zIm S 131 sn131) (hS146 : zIm S 146 sn146) (hS148 : zIm S 148 sn148) (hS149 : zIm S 149 sn149) (hS163 : zIm S 163 sn163) {a : List Int} {g : rHp} : ∀ (ρ : Nat → Int) (γ : Nat → rHp), zO 24 S a g q167_0 ρ γ → zGl (fun _ _ _ => True) (sn167 a g) q167_0 ρ γ := by
  intro ρ γ h
  obtain ⟨ha, hg, hr, hf, hm, hc, hl⟩ := h
  have ha : a = [ρ 0, ρ 1, ρ 2, ρ 3, ρ 4, ρ 5, ρ 6, ρ 7, ρ 8, ρ 9, ρ 10, ρ 11, ρ 12, ρ 13, ρ 14, ρ 15, ρ 16, ρ 17, ρ 18, ρ 19, ρ 20, ρ 21, ρ 22, ρ 23] := ha
  subst ha
  subst hg
  have m0 : γ 0 1 0 10 = ρ 0 := zAllA hm 0
  have m1 : γ 0 40 0 (ρ 0) = ρ 1 := zAllA hm 1
  have m35 : γ 3 2 0 4 = ρ 29 := zAllA hm 35
  have l0 : sn131 [ρ 0, ρ 1] (γ 0) 0 (ρ 1) (γ 1) := hS131 _ _ _ _ _ (zAllA hl 0)
  have l1 : sn111 [1, ρ 9, ρ 3, ρ 5, ρ 11, ρ 12] (γ 1) 0 0 (γ 2) := hS111 _ _ _ _ _ (zAllA hl 1)
  have l2 : sn146 [ρ 0, ρ 1, ρ 2, 0, ρ 4, ρ 20, ρ 22, ρ 18, 1, ρ 6, ρ 8, 0, ρ 10, 0, 0, ρ 13, ρ 14, ρ 15, ρ 16, ρ 17, ρ 19, ρ 21, ρ 23] (γ 2) 0 0 (γ 3) := hS146 _ _ _ _ _ (zAllA hl 2)
  have l3 : sn112 [ρ 4] (γ 3) 0 0 (γ 4) := hS112 _ _ _ _ _ (zAllA hl 3)
  show sn167 [ρ 0, ρ 1, ρ 2, ρ 3, ρ 4, ρ 5, ρ 6, ρ 7, ρ 8, ρ 9, ρ 10, ρ 11, ρ 12, ρ 13, ρ 14, ρ 15, ρ 16, ρ 17, ρ 18, ρ 19, ρ 20, ρ 21, ρ 22, ρ 23] (γ 0) 0 (-ρ 29 + (-1)) (γ 4)
  refine Eq.symm ?_
  show fn167 [] (γ 0) = _
  unfold fn167
  refine zLE m0 (zLE m1 (zLE (show fn131 [ρ 0] (γ 0) = (0, ρ 1, γ 1) from l0.symm) (zLV (γ 1) rfl (zLE (show fn111 [1] (γ 1) = (0, 0, γ 2) from l1.symm) (zLV (γ 2) rfl (zLE (show fn146 [] (γ 2) = (0, 0, γ 3) from l2.symm) (zLV (γ 3) rfl ?_)))))))
  refine zIN zQ0_ (zLE m35 (zLE (show fn112 [] (γ 3) = (0, 0, γ 4) from l3.symm) (zLV (γ 4) rfl ?_)))
  rfl
theorem vn167_1 {S : Nat → zSpc} (hS111 : zIm S 111 sn111) (hS112 : zIm S 112 sn112) (hS128 : zIm S 128 sn128) (hS130 : zIm S 130 sn130) (hS131 : zIm S 131 sn131) (hS146 : zIm S 146 sn146) (hS148 : zIm S 148 sn148) (hS149 : zIm S 149 sn149) (hS163 : zIm S 163 sn163) {a : List Int} {g : rHp} : ∀ (ρ : Nat → Int) (γ : Nat → rHp), zO 24 S a g q167_1 ρ γ → zGl (fun _ _ _ => True) (sn167 a g) q167_1 ρ γ := by
  intro ρ γ h
  obtain ⟨ha, hg, hr, hf, hm, hc, hl⟩ := h
  have ha : a = [ρ 0, ρ 1, ρ 2, ρ 3, ρ 4, ρ 5, ρ 6, ρ 7, ρ 8, ρ 9, ρ 10, ρ 11, ρ 12, ρ 13, ρ 14, ρ 15, ρ 16, ρ 17, ρ 18, ρ 19, ρ 20, ρ 21, ρ 22, ρ 23] := ha
  subst ha
  subst hg
  have r0 : (0 : Int) ≤ ρ 0 ∧ ρ 0 ≤ 60 := zRnA hr 0
  have r1 : (0 : Int) ≤ ρ 1 ∧ ρ 1 ≤ 60 := zRnA hr 1
  have r2 : (0 : Int) ≤ ρ 2 ∧ ρ 2 ≤ 8 := zRnA hr 2
  have r3 : (0 : Int) ≤ ρ 3 ∧ ρ 3 ≤ 2001 := zRnA hr 3
  have r4 : (2 : Int) ≤ ρ 4 ∧ ρ 4 ≤ 2000 := zRnA hr 4
  have r5 : (0 : Int) ≤ ρ 5 ∧ ρ 5 ≤ 2 := zRnA hr 5
  have r6 : (0 : Int) ≤ ρ 6 ∧ ρ 6 ≤ 20 := zRnA hr 6
  have r7 : (0 : Int) ≤ ρ 7 ∧ ρ 7 ≤ 400 := zRnA hr 7
  have r8 : ((-2147483648) : Int) ≤ ρ 8 ∧ ρ 8 ≤ 2147483647 := zRnA hr 8
  have r9 : ((-2147483648) : Int) ≤ ρ 9 ∧ ρ 9 ≤ 2147483647 := zRnA hr 9
  have r10 : ((-2147483648) : Int) ≤ ρ 10 ∧ ρ 10 ≤ 2147483647 := zRnA hr 10
  have r11 : (0 : Int) ≤ ρ 11 ∧ ρ 11 ≤ 8 := zRnA hr 11
  have r12 : (0 : Int) ≤ ρ 12 ∧ ρ 12 ≤ 32 := zRnA hr 12
  have r13 : (0 : Int) ≤ ρ 13 ∧ ρ 13 ≤ 5120 := zRnA hr 13
  have r14 : (0 : Int) ≤ ρ 14 ∧ ρ 14 ≤ 8 := zRnA hr 14
  have r15 : (0 : Int) ≤ ρ 15 ∧ ρ 15 ≤ 8 := zRnA hr 15
  have r16 : (0 : Int) ≤ ρ 16 ∧ ρ 16 ≤ 4 := zRnA hr 16
  have r17 : ((-2147483648) : Int) ≤ ρ 17 ∧ ρ 17 ≤ 2147483647 := zRnA hr 17
  have r18 : ((-1) : Int) ≤ ρ 18 ∧ ρ 18 ≤ 19 := zRnA hr 18
  have r19 : ((-1) : Int) ≤ ρ 19 ∧ ρ 19 ≤ 3 := zRnA hr 19
  have r20 : (0 : Int) ≤ ρ 20 ∧ ρ 20 ≤ 4 := zRnA hr 20
  have r21 : (0 : Int) ≤ ρ 21 ∧ ρ 21 ≤ 3 := zRnA hr 21
  have r22 : ((-1) : Int) ≤ ρ 22 ∧ ρ 22 ≤ 7 := zRnA hr 22
  have r23 : ((-2147483648) : Int) ≤ ρ 23 ∧ ρ 23 ≤ 2147483647 := zRnA hr 23
  have r24 : (3 : Int) ≤ ρ 24 ∧ ρ 24 ≤ 2000 := zRnA hr 24
  have r25 : (0 : Int) ≤ ρ 25 ∧ ρ 25 ≤ 4 := zRnA hr 25
  have r26 : ((-1) : Int) ≤ ρ 26 ∧ ρ 26 ≤ 7 := zRnA hr 26
  have r27 : ((-1) : Int) ≤ ρ 27 ∧ ρ 27 ≤ (-1) := zRnA hr 27
  have r28 : ((-2147483648) : Int) ≤ ρ 28 ∧ ρ 28 ≤ 2147483647 := zRnA hr 28
  have r29 : ((-2147483648) : Int) ≤ ρ 29 ∧ ρ 29 ≤ 2147483647 := zRnA hr 29
  have r30 : (0 : Int) ≤ ρ 30 ∧ ρ 30 ≤ 8 := zRnA hr 30
  have r31 : (0 : Int) ≤ ρ 31 ∧ ρ 31 ≤ 32 := zRnA hr 31
  have r32 : (0 : Int) ≤ ρ 32 ∧ ρ 32 ≤ 5120 := zRnA hr 32
  have r33 : (0 : Int) ≤ ρ 33 ∧ ρ 33 ≤ 0 := zRnA hr 33
  have r34 : (1 : Int) ≤ ρ 34 ∧ ρ 34 ≤ 4 := zRnA hr 34
  have r35 : (0 : Int) ≤ ρ 35 ∧ ρ 35 ≤ 1999 := zRnA hr 35
  have r36 : ((-1) : Int) ≤ ρ 36 ∧ ρ 36 ≤ 3 := zRnA hr 36
  have r37 : (0 : Int) ≤ ρ 37 ∧ ρ 37 ≤ 3 := zRnA hr 37
  have r38 : ((-2147483648) : Int) ≤ ρ 38 ∧ ρ 38 ≤ 2147483647 := zRnA hr 38
  have r39 : (0 : Int) ≤ ρ 39 ∧ ρ 39 ≤ 2000 := zRnA hr 39
  have r40 : ((-2147483648) : Int) ≤ ρ 40 ∧ ρ 40 ≤ 2147483647 := zRnA hr 40
  have f0 : (0 : Int) ≤ ρ 39 + -ρ 24 := zAllA hf 0
  have f1 : (0 : Int) ≤ -ρ 34 + ρ 24 + (-1) := zAllA hf 1
  have f2 : (0 : Int) ≤ -ρ 35 + ρ 24 + (-1) := zAllA hf 2
  have f3 : (0 : Int) ≤ -ρ 36 + ρ 24 + (-1) := zAllA hf 3
  have f4 : (0 : Int) ≤ ρ 32 + -ρ 13 := zAllA hf 4
  have f5 : (0 : Int) ≤ -ρ 24 + ρ 4 := zAllA hf 5
  have f6 : (0 : Int) ≤ -ρ 37 + ρ 4 := zAllA hf 6
  have f7 : (0 : Int) ≤ -ρ 19 + ρ 4 := zAllA hf 7
  have f8 : (0 : Int) ≤ -ρ 21 + ρ 4 := zAllA hf 8
  have f9 : (0 : Int) ≤ 3 * ρ 26 + -ρ 25 + 4 := zAllA hf 9
  have m0 : γ 0 1 0 10 = ρ 0 := zAllA hm 0
  have m1 : γ 0 40 0 (ρ 0) = ρ 1 := zAllA hm 1
  have m2 : γ 0 9 (ρ 1) 2 = ρ 2 := zAllA hm 2
  have m3 : γ 0 2 0 6 = ρ 3 := zAllA hm 3
  have m4 : γ 0 2 0 3 = ρ 4 := zAllA hm 4
  have m5 : γ 0 2 0 7 = ρ 5 := zAllA hm 5
  have m6 : γ 0 1 0 7 = ρ 6 := zAllA hm 6
  have m7 : γ 0 1 0 9 = ρ 7 := zAllA hm 7
  have m8 : γ 0 2 0 4 = ρ 8 := zAllA hm 8
  have m9 : γ 0 2 0 5 = ρ 9 := zAllA hm 9
  have m10 : γ 0 2 0 9 = ρ 10 := zAllA hm 10
  have m11 : γ 0 2 0 13 = ρ 11 := zAllA hm 11
  have m12 : γ 0 2 0 16 = ρ 12 := zAllA hm 12
  have m13 : γ 0 3 0 1 = ρ 13 := zAllA hm 13
  have m14 : γ 0 9 (ρ 1) 3 = ρ 14 := zAllA hm 14
  have m15 : γ 0 10 (9 * ρ 1) 4 = ρ 15 := zAllA hm 15
  have m16 : γ 0 10 (9 * ρ 1) 5 = ρ 16 := zAllA hm 16
  have m17 : γ 0 10 (9 * ρ 1) 7 = ρ 17 := zAllA hm 17
  have m18 : γ 0 10 (9 * ρ 1) 8 = ρ 18 := zAllA hm 18
  have m19 : γ 0 10 (9 * ρ 1) 9 = ρ 19 := zAllA hm 19
  have m20 : γ 0 10 (9 * ρ 1) 12 = ρ 20 := zAllA hm 20
  have m21 : γ 0 10 (9 * ρ 1) 13 = ρ 21 := zAllA hm 21
  have m22 : γ 0 10 (9 * ρ 1) 14 = ρ 22 := zAllA hm 22
  have m23 : γ 0 10 (9 * ρ 1) 15 = ρ 23 := zAllA hm 23
  have m24 : γ 2 2 0 5 = 0 := zAllA hm 24
  have m25 : γ 2 2 0 6 = 0 := zAllA hm 25
  have m26 : γ 2 2 0 7 = 1 := zAllA hm 26
  have m27 : γ 2 2 0 13 = 0 := zAllA hm 27
  have m28 : γ 2 2 0 16 = 0 := zAllA hm 28
  have m29 : γ 3 9 (ρ 1) 2 = 0 := zAllA hm 29
  have m30 : γ 3 2 0 6 = ρ 24 := zAllA hm 30
  have m31 : γ 3 10 (9 * ρ 1) 12 = ρ 25 := zAllA hm 31
  have m32 : γ 3 10 (9 * ρ 1) 14 = ρ 26 := zAllA hm 32
  have m33 : γ 3 10 (9 * ρ 1) 8 = ρ 27 := zAllA hm 33
  have m34 : γ 3 1 0 7 = ρ 6 := zAllA hm 34
  have m35 : γ 3 2 0 4 = ρ 8 := zAllA hm 35
  have m36 : γ 3 2 0 5 = ρ 28 := zAllA hm 36
  have m37 : γ 3 2 0 9 = ρ 29 := zAllA hm 37
  have m38 : γ 3 2 0 13 = ρ 30 := zAllA hm 38
  have m39 : γ 3 2 0 16 = ρ 31 := zAllA hm 39
  have m40 : γ 3 3 0 1 = ρ 32 := zAllA hm 40
  have m41 : γ 3 9 (ρ 1) 3 = 0 := zAllA hm 41
  have m42 : γ 3 10 (9 * ρ 1) 4 = ρ 33 := zAllA hm 42
  have m43 : γ 3 10 (9 * ρ 1) 5 = ρ 34 := zAllA hm 43
  have m44 : γ 3 10 (9 * ρ 1) 7 = ρ 35 := zAllA hm 44
  have m45 : γ 3 10 (9 * ρ 1) 9 = ρ 36 := zAllA hm 45
  have m46 : γ 3 10 (9 * ρ 1) 13 = ρ 37 := zAllA hm 46
  have m47 : γ 3 10 (9 * ρ 1) 15 = ρ 38 := zAllA hm 47
  have m48 : γ 4 2 0 6 = ρ 39 := zAllA hm 48
  have m49 : γ 4 2 0 4 = ρ 40 := zAllA hm 49
  have m50 : γ 5 2 0 3 = 0 := zAllA hm 50
  have c1 : ∀ (G : Nat) (k j : Int), ¬ rMdP m0_ G j → γ 1 G k j = γ 0 G k j := And.right (zChA hc 4)
  have c2 : ∀ (G : Nat) (k j : Int), ¬ rMdP m74_ G j → γ 2 G k j = γ 1 G k j := And.right (zChA hc 3)
  have c3 : ∀ (G : Nat) (k j : Int), ¬ rMdP m100_ G j → γ 3 G k j = γ 2 G k j := And.right (zChA hc 2)
  have c4 : ∀ (G : Nat) (k j : Int), ¬ rMdP m101_ G j → γ 4 G k j = γ 3 G k j := And.right (zChA hc 1)
  have c5 : ∀ (G : Nat) (k j : Int), ¬ rMdP m75_ G j → γ 5 G k j = γ 4 G k j := And.right (zChA hc 0)
  have l0 : sn131 [ρ 0, ρ 1] (γ 0) 0 (ρ 1) (γ 1) := hS131 _ _ _ _ _ (zAllA hl 0)
  have l1 : sn111 [1, ρ 9, ρ 3, ρ 5, ρ 11, ρ 12] (γ 1) 0 0 (γ 2) := hS111 _ _ _ _ _ (zAllA hl 1)
  have l2 : sn146 [ρ 0, ρ 1, ρ 2, 0, ρ 4, ρ 20, ρ 22, ρ 18, 1, ρ 6, ρ 8, 0, ρ 10, 0, 0, ρ 13, ρ 14, ρ 15, ρ 16, ρ 17, ρ 19, ρ 21, ρ 23] (γ 2) 0 1 (γ 3) := hS146 _ _ _ _ _ (zAllA hl 2)
  have l3 : sn148 [9 * ρ 1, ρ 24, ρ 4, ρ 8, ρ 34] (γ 3) 0 0 (γ 4) := hS148 _ _ _ _ _ (zAllA hl 3)
  have l4 : sn112 [ρ 4] (γ 4) 0 0 (γ 5) := hS112 _ _ _ _ _ (zAllA hl 4)
  show sn167 [ρ 0, ρ 1, ρ 2, ρ 3, ρ 4, ρ 5, ρ 6, ρ 7, ρ 8, ρ 9, ρ 10, ρ 11, ρ 12, ρ 13, ρ 14, ρ 15, ρ 16, ρ 17, ρ 18, ρ 19, ρ 20, ρ 21, ρ 22, ρ 23] (γ 0) 0 (-ρ 40 + (-1)) (γ 5)
  refine Eq.symm ?_
  show fn167 [] (γ 0) = _
  unfold fn167
  refine zLE m0 (zLE m1 (zLE (show fn131 [ρ 0] (γ 0) = (0, ρ 1, γ 1) from l0.symm) (zLV (γ 1) rfl (zLE (show fn111 [1] (γ 1) = (0, 0, γ 2) from l1.symm) (zLV (γ 2) rfl (zLE (show fn146 [] (γ 2) = (0, 1, γ 3) from l2.symm) (zLV (γ 3) rfl ?_)))))))
  refine zIP (show (1 : Int) ≤ 1 by omega) (zIN (show ¬ (0 ≤ γ 3 10 (9 * ρ 1) 8) by omega) (zLE (show fn148 [9 * ρ 1] (γ 3) = (0, 0, γ 4) from l3.symm) (zLV (γ 4) rfl (zIN (show ¬ ((1 : Int) ≤ 0) by omega) (zLE m49 (zLE (show fn112 [] (γ 4) = (0, 0, γ 5) from l4.symm) (zLV (γ 5) rfl ?_)))))))
  rfl
theorem vn167_2 {S : Nat → zSpc} (hS111 : zIm S 111 sn111) (hS112 : zIm S 112 sn112) (hS128 : zIm S 128 sn128) (hS130 : zIm S 130 sn130) (hS131 : zIm S 131 sn131) (hS146 : zIm S 146 sn146) (hS148 : zIm S 148 sn148) (hS149 : zIm S 149 sn149) (hS163 : zIm S 163 sn163) {a : List Int} {g : rHp} : ∀ (ρ : Nat → Int) (γ : Nat → rHp), zO 24 S a g q167_2 ρ γ → zGl (fun _ _ _ => True) (sn167 a g) q167_2 ρ γ := by
  intro ρ γ h
  obtain ⟨ha, hg, hr, hf, hm, hc, hl⟩ := h
  have ha : a = [ρ 0, ρ 1, ρ 2, ρ 3, ρ 4, ρ 5, ρ 6, ρ 7, ρ 8, ρ 9, ρ 10, ρ 11, ρ 12, ρ 13, ρ 14, ρ 15, ρ 16, ρ 17, ρ 18, ρ 19, ρ 20, ρ 21, ρ 22, ρ 23] := ha
  subst ha
  subst hg
  have r0 : (0 : Int) ≤ ρ 0 ∧ ρ 0 ≤ 60 := zRnA hr 0
  have r1 : (0 : Int) ≤ ρ 1 ∧ ρ 1 ≤ 60 := zRnA hr 1
  have r2 : (0 : Int) ≤ ρ 2 ∧ ρ 2 ≤ 8 := zRnA hr 2
  have r3 : (0 : Int) ≤ ρ 3 ∧ ρ 3 ≤ 2001 := zRnA hr 3
  have r4 : (2 : Int) ≤ ρ 4 ∧ ρ 4 ≤ 2000 := zRnA hr 4
  have r5 : (0 : Int) ≤ ρ 5 ∧ ρ 5 ≤ 2 := zRnA hr 5
  have r6 : (0 : Int) ≤ ρ 6 ∧ ρ 6 ≤ 20 := zRnA hr 6
  have r7 : (0 : Int) ≤ ρ 7 ∧ ρ 7 ≤ 400 := zRnA hr 7
  have r8 : ((-2147483648) : Int) ≤ ρ 8 ∧ ρ 8 ≤ 2147483647 := zRnA hr 8
  have r9 : ((-2147483648) : Int) ≤ ρ 9 ∧ ρ 9 ≤ 2147483647 := zRnA hr 9
  have r10 : ((-2147483648) : Int) ≤ ρ 10 ∧ ρ 10 ≤ 2147483647 := zRnA hr 10
  have r11 : (0 : Int) ≤ ρ 11 ∧ ρ 11 ≤ 8 := zRnA hr 11
  have r12 : (0 : Int) ≤ ρ 12 ∧ ρ 12 ≤ 32 := zRnA hr 12
  have r13 : (0 : Int) ≤ ρ 13 ∧ ρ 13 ≤ 5120 := zRnA hr 13
  have r14 : (0 : Int) ≤ ρ 14 ∧ ρ 14 ≤ 8 := zRnA hr 14
  have r15 : (0 : Int) ≤ ρ 15 ∧ ρ 15 ≤ 8 := zRnA hr 15
  have r16 : (0 : Int) ≤ ρ 16 ∧ ρ 16 ≤ 4 := zRnA hr 16
  have r17 : ((-2147483648) : Int) ≤ ρ 17 ∧ ρ 17 ≤ 2147483647 := zRnA hr 17
  have r18 : ((-1) : Int) ≤ ρ 18 ∧ ρ 18 ≤ 19 := zRnA hr 18
  have r19 : ((-1) : Int) ≤ ρ 19 ∧ ρ 19 ≤ 3 := zRnA hr 19
  have r20 : (0 : Int) ≤ ρ 20 ∧ ρ 20 ≤ 4 := zRnA hr 20
  have r21 : (0 : Int) ≤ ρ 21 ∧ ρ 21 ≤ 3 := zRnA hr 21
  have r22 : ((-1) : Int) ≤ ρ 22 ∧ ρ 22 ≤ 7 := zRnA hr 22
  have r23 : ((-2147483648) : Int) ≤ ρ 23 ∧ ρ 23 ≤ 2147483647 := zRnA hr 23
  have r24 : (3 : Int) ≤ ρ 24 ∧ ρ 24 ≤ 2000 := zRnA hr 24
  have r25 : (0 : Int) ≤ ρ 25 ∧ ρ 25 ≤ 4 := zRnA hr 25
  have r26 : ((-1) : Int) ≤ ρ 26 ∧ ρ 26 ≤ 7 := zRnA hr 26
  have r27 : ((-1) : Int) ≤ ρ 27 ∧ ρ 27 ≤ (-1) := zRnA hr 27
  have r28 : ((-2147483648) : Int) ≤ ρ 28 ∧ ρ 28 ≤ 2147483647 := zRnA hr 28
  have r29 : ((-2147483648) : Int) ≤ ρ 29 ∧ ρ 29 ≤ 2147483647 := zRnA hr 29
  have r30 : (0 : Int) ≤ ρ 30 ∧ ρ 30 ≤ 8 := zRnA hr 30
  have r31 : (0 : Int) ≤ ρ 31 ∧ ρ 31 ≤ 32 := zRnA hr 31
  have r32 : (0 : Int) ≤ ρ 32 ∧ ρ 32 ≤ 5120 := zRnA hr 32
  have r33 : (0 : Int) ≤ ρ 33 ∧ ρ 33 ≤ 0 := zRnA hr 33
  have r34 : (1 : Int) ≤ ρ 34 ∧ ρ 34 ≤ 4 := zRnA hr 34
  have r35 : (0 : Int) ≤ ρ 35 ∧ ρ 35 ≤ 1999 := zRnA hr 35
  have r36 : ((-1) : Int) ≤ ρ 36 ∧ ρ 36 ≤ 3 := zRnA hr 36
  have r37 : (0 : Int) ≤ ρ 37 ∧ ρ 37 ≤ 3 := zRnA hr 37
  have r38 : ((-2147483648) : Int) ≤ ρ 38 ∧ ρ 38 ≤ 2147483647 := zRnA hr 38
  have r39 : (1 : Int) ≤ ρ 39 ∧ ρ 39 ≤ 2000 := zRnA hr 39
  have r40 : (0 : Int) ≤ ρ 40 ∧ ρ 40 ≤ 2000 := zRnA hr 40
  have r41 : (0 : Int) ≤ ρ 41 ∧ ρ 41 ≤ 2000 := zRnA hr 41
  have f0 : (0 : Int) ≤ -ρ 41 + ρ 40 := zAllA hf 0
  have f1 : (0 : Int) ≤ ρ 40 + -ρ 39 := zAllA hf 1
  have f2 : (0 : Int) ≤ ρ 41 + -ρ 40 := zAllA hf 2
  have f3 : (0 : Int) ≤ -ρ 40 + ρ 4 + (-1) := zAllA hf 3
  have f4 : (0 : Int) ≤ -ρ 39 + ρ 4 + (-1) := zAllA hf 4
  have f5 : (0 : Int) ≤ ρ 39 + -ρ 24 + (-1) := zAllA hf 5
  have f6 : (0 : Int) ≤ -ρ 39 + ρ 4 := zAllA hf 6
  have f7 : (0 : Int) ≤ -ρ 24 + ρ 4 + (-1) := zAllA hf 7
  have f8 : (0 : Int) ≤ -ρ 34 + ρ 24 + (-1) := zAllA hf 8
  have f9 : (0 : Int) ≤ -ρ 35 + ρ 24 + (-1) := zAllA hf 9
  have f10 : (0 : Int) ≤ -ρ 36 + ρ 24 + (-1) := zAllA hf 10
  have f11 : (0 : Int) ≤ ρ 32 + -ρ 13 := zAllA hf 11
  have f12 : (0 : Int) ≤ -ρ 24 + ρ 4 := zAllA hf 12
  have f13 : (0 : Int) ≤ -ρ 37 + ρ 4 := zAllA hf 13
  have f14 : (0 : Int) ≤ -ρ 19 + ρ 4 := zAllA hf 14
  have f15 : (0 : Int) ≤ -ρ 21 + ρ 4 := zAllA hf 15
  have f16 : (0 : Int) ≤ 3 * ρ 26 + -ρ 25 + 4 := zAllA hf 16
  have m0 : γ 0 1 0 10 = ρ 0 := zAllA hm 0
  have m1 : γ 0 40 0 (ρ 0) = ρ 1 := zAllA hm 1
  have m2 : γ 0 9 (ρ 1) 2 = ρ 2 := zAllA hm 2
  have m3 : γ 0 2 0 6 = ρ 3 := zAllA hm 3
  have m4 : γ 0 2 0 3 = ρ 4 := zAllA hm 4
  have m5 : γ 0 2 0 7 = ρ 5 := zAllA hm 5
  have m6 : γ 0 1 0 7 = ρ 6 := zAllA hm 6
  have m7 : γ 0 1 0 9 = ρ 7 := zAllA hm 7
  have m8 : γ 0 2 0 4 = ρ 8 := zAllA hm 8
  have m9 : γ 0 2 0 5 = ρ 9 := zAllA hm 9
  have m10 : γ 0 2 0 9 = ρ 10 := zAllA hm 10
  have m11 : γ 0 2 0 13 = ρ 11 := zAllA hm 11
  have m12 : γ 0 2 0 16 = ρ 12 := zAllA hm 12
  have m13 : γ 0 3 0 1 = ρ 13 := zAllA hm 13
  have m14 : γ 0 9 (ρ 1) 3 = ρ 14 := zAllA hm 14
  have m15 : γ 0 10 (9 * ρ 1) 4 = ρ 15 := zAllA hm 15
  have m16 : γ 0 10 (9 * ρ 1) 5 = ρ 16 := zAllA hm 16
  have m17 : γ 0 10 (9 * ρ 1) 7 = ρ 17 := zAllA hm 17
  have m18 : γ 0 10 (9 * ρ 1) 8 = ρ 18 := zAllA hm 18
  have m19 : γ 0 10 (9 * ρ 1) 9 = ρ 19 := zAllA hm 19
  have m20 : γ 0 10 (9 * ρ 1) 12 = ρ 20 := zAllA hm 20
  have m21 : γ 0 10 (9 * ρ 1) 13 = ρ 21 := zAllA hm 21
  have m22 : γ 0 10 (9 * ρ 1) 14 = ρ 22 := zAllA hm 22
  have m23 : γ 0 10 (9 * ρ 1) 15 = ρ 23 := zAllA hm 23
  have m24 : γ 2 2 0 5 = 0 := zAllA hm 24
  have m25 : γ 2 2 0 6 = 0 := zAllA hm 25
  have m26 : γ 2 2 0 7 = 1 := zAllA hm 26
  have m27 : γ 2 2 0 13 = 0 := zAllA hm 27
  have m28 : γ 2 2 0 16 = 0 := zAllA hm 28
  have m29 : γ 3 9 (ρ 1) 2 = 0 := zAllA hm 29
  have m30 : γ 3 2 0 6 = ρ 24 := zAllA hm 30
  have m31 : γ 3 10 (9 * ρ 1) 12 = ρ 25 := zAllA hm 31
  have m32 : γ 3 10 (9 * ρ 1) 14 = ρ 26 := zAllA hm 32
  have m33 : γ 3 10 (9 * ρ 1) 8 = ρ 27 := zAllA hm 33
  have m34 : γ 3 1 0 7 = ρ 6 := zAllA hm 34
  have m35 : γ 3 2 0 4 = ρ 8 := zAllA hm 35
  have m36 : γ 3 2 0 5 = ρ 28 := zAllA hm 36
  have m37 : γ 3 2 0 9 = ρ 29 := zAllA hm 37
  have m38 : γ 3 2 0 13 = ρ 30 := zAllA hm 38
  have m39 : γ 3 2 0 16 = ρ 31 := zAllA hm 39
  have m40 : γ 3 3 0 1 = ρ 32 := zAllA hm 40
  have m41 : γ 3 9 (ρ 1) 3 = 0 := zAllA hm 41
  have m42 : γ 3 10 (9 * ρ 1) 4 = ρ 33 := zAllA hm 42
  have m43 : γ 3 10 (9 * ρ 1) 5 = ρ 34 := zAllA hm 43
  have m44 : γ 3 10 (9 * ρ 1) 7 = ρ 35 := zAllA hm 44
  have m45 : γ 3 10 (9 * ρ 1) 9 = ρ 36 := zAllA hm 45
  have m46 : γ 3 10 (9 * ρ 1) 13 = ρ 37 := zAllA hm 46
  have m47 : γ 3 10 (9 * ρ 1) 15 = ρ 38 := zAllA hm 47
  have m48 : γ 4 2 0 6 = ρ 39 := zAllA hm 48
  have m49 : γ 4 2 0 4 = ρ 8 := zAllA hm 49
  have m50 : γ 5 2 0 6 = ρ 40 := zAllA hm 50
  have m51 : γ 5 2 0 4 = ρ 41 := zAllA hm 51
  have m52 : γ 6 2 0 3 = 0 := zAllA hm 52
  have c1 : ∀ (G : Nat) (k j : Int), ¬ rMdP m0_ G j → γ 1 G k j = γ 0 G k j := And.right (zChA hc 5)
  have c2 : ∀ (G : Nat) (k j : Int), ¬ rMdP m74_ G j → γ 2 G k j = γ 1 G k j := And.right (zChA hc 4)
  have c3 : ∀ (G : Nat) (k j : Int), ¬ rMdP m100_ G j → γ 3 G k j = γ 2 G k j := And.right (zChA hc 3)
  have c4 : ∀ (G : Nat) (k j : Int), ¬ rMdP m101_ G j → γ 4 G k j = γ 3 G k j := And.right (zChA hc 2)
  have c5 : ∀ (G : Nat) (k j : Int), ¬ rMdP m101_ G j → γ 5 G k j = γ 4 G k j := And.right (zChA hc 1)
  have c6 : ∀ (G : Nat) (k j : Int), ¬ rMdP m75_ G j → γ 6 G k j = γ 5 G k j := And.right (zChA hc 0)
  have l0 : sn131 [ρ 0, ρ 1] (γ 0) 0 (ρ 1) (γ 1) := hS131 _ _ _ _ _ (zAllA hl 0)
  have l1 : sn111 [1, ρ 9, ρ 3, ρ 5, ρ 11, ρ 12] (γ 1) 0 0 (γ 2) := hS111 _ _ _ _ _ (zAllA hl 1)
  have l2 : sn146 [ρ 0, ρ 1, ρ 2, 0, ρ 4, ρ 20, ρ 22, ρ 18, 1, ρ 6, ρ 8, 0, ρ 10, 0, 0, ρ 13, ρ 14, ρ 15, ρ 16, ρ 17, ρ 19, ρ 21, ρ 23] (γ 2) 0 1 (γ 3) := hS146 _ _ _ _ _ (zAllA hl 2)
  have l3 : sn148 [9 * ρ 1, ρ 24, ρ 4, ρ 8, ρ 34] (γ 3) 0 1 (γ 4) := hS148 _ _ _ _ _ (zAllA hl 3)
  have l4 : sn149 [ρ 39, ρ 4, ρ 8] (γ 4) 0 0 (γ 5) := hS149 _ _ _ _ _ (zAllA hl 4)
  have l5 : sn112 [ρ 4] (γ 5) 0 0 (γ 6) := hS112 _ _ _ _ _ (zAllA hl 5)
  show sn167 [ρ 0, ρ 1, ρ 2, ρ 3, ρ 4, ρ 5, ρ 6, ρ 7, ρ 8, ρ 9, ρ 10, ρ 11, ρ 12, ρ 13, ρ 14, ρ 15, ρ 16, ρ 17, ρ 18, ρ 19, ρ 20, ρ 21, ρ 22, ρ 23] (γ 0) 0 (-ρ 41 + (-1)) (γ 6)
  refine Eq.symm ?_
  show fn167 [] (γ 0) = _
  unfold fn167
  refine zLE m0 (zLE m1 (zLE (show fn131 [ρ 0] (γ 0) = (0, ρ 1, γ 1) from l0.symm) (zLV (γ 1) rfl (zLE (show fn111 [1] (γ 1) = (0, 0, γ 2) from l1.symm) (zLV (γ 2) rfl (zLE (show fn146 [] (γ 2) = (0, 1, γ 3) from l2.symm) (zLV (γ 3) rfl ?_)))))))
  refine zIP (show (1 : Int) ≤ 1 by omega) (zIN (show ¬ (0 ≤ γ 3 10 (9 * ρ 1) 8) by omega) (zLE (show fn148 [9 * ρ 1] (γ 3) = (0, 1, γ 4) from l3.symm) (zLV (γ 4) rfl (zIP (show (1 : Int) ≤ 1 by omega) (zLE (show fn149 [] (γ 4) = (0, 0, γ 5) from l4.symm) (zLV (γ 5) rfl (zIN (show ¬ ((1 : Int) ≤ 0) by omega) ?_)))))))
  refine zLE m51 (zLE (show fn112 [] (γ 5) = (0, 0, γ 6) from l5.symm) (zLV (γ 6) rfl ?_))
  rfl
theorem vn167_3 {S : Nat → zSpc} (hS111 : zIm S 111 sn111) (hS112 : zIm S 112 sn112) (hS128 : zIm S 128 sn128) (hS130 : zIm S 130 sn130) (hS131 : zIm S 131 sn131) (hS146 : zIm S 146 sn146) (hS148 : zIm S 148 sn148) (hS149 : zIm S 149 sn149) (hS163 : zIm S 163 sn163) {a : List Int} {g : rHp} : ∀ (ρ : Nat → Int) (γ : Nat → rHp), zO 24 S a g q167_3 ρ γ → zGl (fun _ _ _ => True) (sn167 a g) q167_3 ρ γ := by
  intro ρ γ h
  obtain ⟨ha, hg, hr, hf, hm, hc, hl⟩ := h
  have ha : a = [ρ 0, ρ 1, ρ 2, ρ 3, ρ 4, ρ 5, ρ 6, ρ 7, ρ 8, ρ 9, ρ 10, ρ 11, ρ 12, ρ 13, ρ 14, ρ 15, ρ 16, ρ 17, ρ 18, ρ 19, ρ 20, ρ 21, ρ 22, ρ 23] := ha
  subst ha
  subst hg
  have r0 : (0 : Int) ≤ ρ 0 ∧ ρ 0 ≤ 60 := zRnA hr 0
  have r1 : (0 : Int) ≤ ρ 1 ∧ ρ 1 ≤ 60 := zRnA hr 1
  have r2 : (0 : Int) ≤ ρ 2 ∧ ρ 2 ≤ 8 := zRnA hr 2
  have r3 : (0 : Int) ≤ ρ 3 ∧ ρ 3 ≤ 2001 := zRnA hr 3
  have r4 : (2 : Int) ≤ ρ 4 ∧ ρ 4 ≤ 2000 := zRnA hr 4
  have r5 : (0 : Int) ≤ ρ 5 ∧ ρ 5 ≤ 2 := zRnA hr 5
  have r6 : (0 : Int) ≤ ρ 6 ∧ ρ 6 ≤ 20 := zRnA hr 6
  have r7 : (0 : Int) ≤ ρ 7 ∧ ρ 7 ≤ 400 := zRnA hr 7
  have r8 : ((-2147483648) : Int) ≤ ρ 8 ∧ ρ 8 ≤ 2147483647 := zRnA hr 8
  have r9 : ((-2147483648) : Int) ≤ ρ 9 ∧ ρ 9 ≤ 2147483647 := zRnA hr 9
  have r10 : ((-2147483648) : Int) ≤ ρ 10 ∧ ρ 10 ≤ 2147483647 := zRnA hr 10
  have r11 : (0 : Int) ≤ ρ 11 ∧ ρ 11 ≤ 8 := zRnA hr 11
  have r12 : (0 : Int) ≤ ρ 12 ∧ ρ 12 ≤ 32 := zRnA hr 12
  have r13 : (0 : Int) ≤ ρ 13 ∧ ρ 13 ≤ 5120 := zRnA hr 13
  have r14 : (0 : Int) ≤ ρ 14 ∧ ρ 14 ≤ 8 := zRnA hr 14
  have r15 : (0 : Int) ≤ ρ 15 ∧ ρ 15 ≤ 8 := zRnA hr 15
  have r16 : (0 : Int) ≤ ρ 16 ∧ ρ 16 ≤ 4 := zRnA hr 16
  have r17 : ((-2147483648) : Int) ≤ ρ 17 ∧ ρ 17 ≤ 2147483647 := zRnA hr 17
  have r18 : ((-1) : Int) ≤ ρ 18 ∧ ρ 18 ≤ 19 := zRnA hr 18
  have r19 : ((-1) : Int) ≤ ρ 19 ∧ ρ 19 ≤ 3 := zRnA hr 19
  have r20 : (0 : Int) ≤ ρ 20 ∧ ρ 20 ≤ 4 := zRnA hr 20
  have r21 : (0 : Int) ≤ ρ 21 ∧ ρ 21 ≤ 3 := zRnA hr 21
  have r22 : ((-1) : Int) ≤ ρ 22 ∧ ρ 22 ≤ 7 := zRnA hr 22
  have r23 : ((-2147483648) : Int) ≤ ρ 23 ∧ ρ 23 ≤ 2147483647 := zRnA hr 23
  have r24 : (3 : Int) ≤ ρ 24 ∧ ρ 24 ≤ 2000 := zRnA hr 24
  have r25 : (0 : Int) ≤ ρ 25 ∧ ρ 25 ≤ 4 := zRnA hr 25
  have r26 : ((-1) : Int) ≤ ρ 26 ∧ ρ 26 ≤ 7 := zRnA hr 26
  have r27 : ((-1) : Int) ≤ ρ 27 ∧ ρ 27 ≤ (-1) := zRnA hr 27
  have r28 : ((-2147483648) : Int) ≤ ρ 28 ∧ ρ 28 ≤ 2147483647 := zRnA hr 28
  have r29 : ((-2147483648) : Int) ≤ ρ 29 ∧ ρ 29 ≤ 2147483647 := zRnA hr 29
  have r30 : (0 : Int) ≤ ρ 30 ∧ ρ 30 ≤ 8 := zRnA hr 30
  have r31 : (0 : Int) ≤ ρ 31 ∧ ρ 31 ≤ 32 := zRnA hr 31
  have r32 : (0 : Int) ≤ ρ 32 ∧ ρ 32 ≤ 5120 := zRnA hr 32
  have r33 : (0 : Int) ≤ ρ 33 ∧ ρ 33 ≤ 0 := zRnA hr 33
  have r34 : (1 : Int) ≤ ρ 34 ∧ ρ 34 ≤ 4 := zRnA hr 34
  have r35 : (0 : Int) ≤ ρ 35 ∧ ρ 35 ≤ 1999 := zRnA hr 35
  have r36 : ((-1) : Int) ≤ ρ 36 ∧ ρ 36 ≤ 3 := zRnA hr 36
  have r37 : (0 : Int) ≤ ρ 37 ∧ ρ 37 ≤ 3 := zRnA hr 37
  have r38 : ((-2147483648) : Int) ≤ ρ 38 ∧ ρ 38 ≤ 2147483647 := zRnA hr 38
  have r39 : (1 : Int) ≤ ρ 39 ∧ ρ 39 ≤ 2000 := zRnA hr 39
  have r40 : (0 : Int) ≤ ρ 40 ∧ ρ 40 ≤ 2000 := zRnA hr 40
  have r41 : (0 : Int) ≤ ρ 41 ∧ ρ 41 ≤ 400 := zRnA hr 41
  have r42 : (0 : Int) ≤ ρ 42 ∧ ρ 42 ≤ 399 := zRnA hr 42
  have f0 : (0 : Int) ≤ -ρ 42 + ρ 7 := zAllA hf 0
  have f1 : (0 : Int) ≤ -ρ 41 + ρ 7 + (-1) := zAllA hf 1
  have f2 : (0 : Int) ≤ ρ 40 + -ρ 39 := zAllA hf 2
  have f3 : (0 : Int) ≤ ρ 40 + -ρ 4 := zAllA hf 3
  have f4 : (0 : Int) ≤ ρ 39 + -ρ 24 + (-1) := zAllA hf 4
  have f5 : (0 : Int) ≤ -ρ 39 + ρ 4 := zAllA hf 5
  have f6 : (0 : Int) ≤ -ρ 24 + ρ 4 + (-1) := zAllA hf 6
  have f7 : (0 : Int) ≤ -ρ 34 + ρ 24 + (-1) := zAllA hf 7
  have f8 : (0 : Int) ≤ -ρ 35 + ρ 24 + (-1) := zAllA hf 8
  have f9 : (0 : Int) ≤ -ρ 36 + ρ 24 + (-1) := zAllA hf 9
  have f10 : (0 : Int) ≤ ρ 32 + -ρ 13 := zAllA hf 10
  have f11 : (0 : Int) ≤ -ρ 24 + ρ 4 := zAllA hf 11
  have f12 : (0 : Int) ≤ -ρ 37 + ρ 4 := zAllA hf 12
  have f13 : (0 : Int) ≤ -ρ 19 + ρ 4 := zAllA hf 13
  have f14 : (0 : Int) ≤ -ρ 21 + ρ 4 := zAllA hf 14
  have f15 : (0 : Int) ≤ 3 * ρ 26 + -ρ 25 + 4 := zAllA hf 15
  have m0 : γ 0 1 0 10 = ρ 0 := zAllA hm 0
  have m1 : γ 0 40 0 (ρ 0) = ρ 1 := zAllA hm 1
  have m2 : γ 0 9 (ρ 1) 2 = ρ 2 := zAllA hm 2
  have m3 : γ 0 2 0 6 = ρ 3 := zAllA hm 3
  have m4 : γ 0 2 0 3 = ρ 4 := zAllA hm 4
  have m5 : γ 0 2 0 7 = ρ 5 := zAllA hm 5
  have m6 : γ 0 1 0 7 = ρ 6 := zAllA hm 6
  have m7 : γ 0 1 0 9 = ρ 7 := zAllA hm 7
  have m8 : γ 0 2 0 4 = ρ 8 := zAllA hm 8
  have m9 : γ 0 2 0 5 = ρ 9 := zAllA hm 9
  have m10 : γ 0 2 0 9 = ρ 10 := zAllA hm 10
  have m11 : γ 0 2 0 13 = ρ 11 := zAllA hm 11
  have m12 : γ 0 2 0 16 = ρ 12 := zAllA hm 12
  have m13 : γ 0 3 0 1 = ρ 13 := zAllA hm 13
  have m14 : γ 0 9 (ρ 1) 3 = ρ 14 := zAllA hm 14
  have m15 : γ 0 10 (9 * ρ 1) 4 = ρ 15 := zAllA hm 15
  have m16 : γ 0 10 (9 * ρ 1) 5 = ρ 16 := zAllA hm 16
  have m17 : γ 0 10 (9 * ρ 1) 7 = ρ 17 := zAllA hm 17
  have m18 : γ 0 10 (9 * ρ 1) 8 = ρ 18 := zAllA hm 18
  have m19 : γ 0 10 (9 * ρ 1) 9 = ρ 19 := zAllA hm 19
  have m20 : γ 0 10 (9 * ρ 1) 12 = ρ 20 := zAllA hm 20
  have m21 : γ 0 10 (9 * ρ 1) 13 = ρ 21 := zAllA hm 21
  have m22 : γ 0 10 (9 * ρ 1) 14 = ρ 22 := zAllA hm 22
  have m23 : γ 0 10 (9 * ρ 1) 15 = ρ 23 := zAllA hm 23
  have m24 : γ 2 2 0 5 = 0 := zAllA hm 24
  have m25 : γ 2 2 0 6 = 0 := zAllA hm 25
  have m26 : γ 2 2 0 7 = 1 := zAllA hm 26
  have m27 : γ 2 2 0 13 = 0 := zAllA hm 27
  have m28 : γ 2 2 0 16 = 0 := zAllA hm 28
  have m29 : γ 3 9 (ρ 1) 2 = 0 := zAllA hm 29
  have m30 : γ 3 2 0 6 = ρ 24 := zAllA hm 30
  have m31 : γ 3 10 (9 * ρ 1) 12 = ρ 25 := zAllA hm 31
  have m32 : γ 3 10 (9 * ρ 1) 14 = ρ 26 := zAllA hm 32
  have m33 : γ 3 10 (9 * ρ 1) 8 = ρ 27 := zAllA hm 33
  have m34 : γ 3 1 0 7 = ρ 6 := zAllA hm 34
  have m35 : γ 3 2 0 4 = ρ 8 := zAllA hm 35
  have m36 : γ 3 2 0 5 = ρ 28 := zAllA hm 36
  have m37 : γ 3 2 0 9 = ρ 29 := zAllA hm 37
  have m38 : γ 3 2 0 13 = ρ 30 := zAllA hm 38
  have m39 : γ 3 2 0 16 = ρ 31 := zAllA hm 39
  have m40 : γ 3 3 0 1 = ρ 32 := zAllA hm 40
  have m41 : γ 3 9 (ρ 1) 3 = 0 := zAllA hm 41
  have m42 : γ 3 10 (9 * ρ 1) 4 = ρ 33 := zAllA hm 42
  have m43 : γ 3 10 (9 * ρ 1) 5 = ρ 34 := zAllA hm 43
  have m44 : γ 3 10 (9 * ρ 1) 7 = ρ 35 := zAllA hm 44
  have m45 : γ 3 10 (9 * ρ 1) 9 = ρ 36 := zAllA hm 45
  have m46 : γ 3 10 (9 * ρ 1) 13 = ρ 37 := zAllA hm 46
  have m47 : γ 3 10 (9 * ρ 1) 15 = ρ 38 := zAllA hm 47
  have m48 : γ 4 2 0 6 = ρ 39 := zAllA hm 48
  have m49 : γ 4 2 0 4 = ρ 8 := zAllA hm 49
  have m50 : γ 5 2 0 6 = ρ 40 := zAllA hm 50
  have m51 : γ 5 2 0 4 = ρ 8 := zAllA hm 51
  have m52 : γ 6 2 0 3 = 0 := zAllA hm 52
  have m53 : γ 8 1 0 9 = ρ 42 := zAllA hm 53
  have c1 : ∀ (G : Nat) (k j : Int), ¬ rMdP m0_ G j → γ 1 G k j = γ 0 G k j := And.right (zChA hc 8)
  have c2 : ∀ (G : Nat) (k j : Int), ¬ rMdP m74_ G j → γ 2 G k j = γ 1 G k j := And.right (zChA hc 7)
  have c3 : ∀ (G : Nat) (k j : Int), ¬ rMdP m100_ G j → γ 3 G k j = γ 2 G k j := And.right (zChA hc 6)
  have c4 : ∀ (G : Nat) (k j : Int), ¬ rMdP m101_ G j → γ 4 G k j = γ 3 G k j := And.right (zChA hc 5)
  have c5 : ∀ (G : Nat) (k j : Int), ¬ rMdP m101_ G j → γ 5 G k j = γ 4 G k j := And.right (zChA hc 4)
  have c6 : ∀ (G : Nat) (k j : Int), ¬ rMdP m75_ G j → γ 6 G k j = γ 5 G k j := And.right (zChA hc 3)
  have c7 : ∀ (G : Nat) (k j : Int), ¬ rMdP m0_ G j → γ 7 G k j = γ 6 G k j := And.right (zChA hc 2)
  have c8 : ∀ (G : Nat) (k j : Int), ¬ rMdP m86_ G j → γ 8 G k j = γ 7 G k j := And.right (zChA hc 1)
  have c9 : ∀ (G : Nat) (k j : Int), ¬ rMdP m111_ G j → γ 9 G k j = γ 8 G k j := And.right (zChA hc 0)
  have l0 : sn131 [ρ 0, ρ 1] (γ 0) 0 (ρ 1) (γ 1) := hS131 _ _ _ _ _ (zAllA hl 0)
  have l1 : sn111 [1, ρ 9, ρ 3, ρ 5, ρ 11, ρ 12] (γ 1) 0 0 (γ 2) := hS111 _ _ _ _ _ (zAllA hl 1)
  have l2 : sn146 [ρ 0, ρ 1, ρ 2, 0, ρ 4, ρ 20, ρ 22, ρ 18, 1, ρ 6, ρ 8, 0, ρ 10, 0, 0, ρ 13, ρ 14, ρ 15, ρ 16, ρ 17, ρ 19, ρ 21, ρ 23] (γ 2) 0 1 (γ 3) := hS146 _ _ _ _ _ (zAllA hl 2)
  have l3 : sn148 [9 * ρ 1, ρ 24, ρ 4, ρ 8, ρ 34] (γ 3) 0 1 (γ 4) := hS148 _ _ _ _ _ (zAllA hl 3)
  have l4 : sn149 [ρ 39, ρ 4, ρ 8] (γ 4) 0 1 (γ 5) := hS149 _ _ _ _ _ (zAllA hl 4)
  have l5 : sn112 [ρ 4] (γ 5) 0 0 (γ 6) := hS112 _ _ _ _ _ (zAllA hl 5)
  have l6 : sn128 [9 * ρ 1, ρ 7, ρ 27] (γ 6) 0 (ρ 41) (γ 7) := hS128 _ _ _ _ _ (zAllA hl 6)
  have l7 : sn130 [ρ 41, ρ 7] (γ 7) 0 0 (γ 8) := hS130 _ _ _ _ _ (zAllA hl 7)
  have l8 : sn163 [] (γ 8) 0 0 (γ 9) := hS163 _ _ _ _ _ (zAllA hl 8)
  show sn167 [ρ 0, ρ 1, ρ 2, ρ 3, ρ 4, ρ 5, ρ 6, ρ 7, ρ 8, ρ 9, ρ 10, ρ 11, ρ 12, ρ 13, ρ 14, ρ 15, ρ 16, ρ 17, ρ 18, ρ 19, ρ 20, ρ 21, ρ 22, ρ 23] (γ 0) 0 1 (γ 9)
  refine Eq.symm ?_
  show fn167 [] (γ 0) = _
  unfold fn167
  refine zLE m0 (zLE m1 (zLE (show fn131 [ρ 0] (γ 0) = (0, ρ 1, γ 1) from l0.symm) (zLV (γ 1) rfl (zLE (show fn111 [1] (γ 1) = (0, 0, γ 2) from l1.symm) (zLV (γ 2) rfl (zLE (show fn146 [] (γ 2) = (0, 1, γ 3) from l2.symm) (zLV (γ 3) rfl ?_)))))))
  refine zIP (show (1 : Int) ≤ 1 by omega) (zIN (show ¬ (0 ≤ γ 3 10 (9 * ρ 1) 8) by omega) (zLE (show fn148 [9 * ρ 1] (γ 3) = (0, 1, γ 4) from l3.symm) (zLV (γ 4) rfl (zIP (show (1 : Int) ≤ 1 by omega) (zLE (show fn149 [] (γ 4) = (0, 1, γ 5) from l4.symm) (zLV (γ 5) rfl (zIP (show (1 : Int) ≤ 1 by omega) ?_)))))))
  refine zLE (show fn112 [] (γ 5) = (0, 0, γ 6) from l5.symm) (zLV (γ 6) rfl (zLE (show fn128 [9 * ρ 1] (γ 6) = (0, ρ 41, γ 7) from l6.symm) (zLV (γ 7) rfl (zLV (ρ 41) rfl (zIP (show ρ 41 ≥ 0 by omega) (zLE (show fn130 [ρ 41] (γ 7) = (0, 0, γ 8) from l7.symm) (zLV (γ 8) rfl ?_)))))))
  refine zLE (show fn163 [] (γ 8) = (0, 0, γ 9) from l8.symm) (zLV (γ 9) rfl ?_)
  rfl
theorem vn167_4 {S : Nat → zSpc} (hS111 : zIm S 111 sn111) (hS112 : zIm S 112 sn112) (hS128 : zIm S 128 sn128) (hS130 : zIm S 130 sn130) (hS131 : zIm S 131 sn131) (hS146 : zIm S 146 sn146) (hS148 : zIm S 148 sn148) (hS149 : zIm S 149 sn149) (hS163 : zIm S 163 sn163) {a : List Int} {g : rHp} : ∀ (ρ : Nat → Int) (γ : Nat → rHp), zO 24 S a g q167_4 ρ γ → zGl (fun _ _ _ => True) (sn167 a g) q167_4 ρ γ := by
  intro ρ γ h
  obtain ⟨ha, hg, hr, hf, hm, hc, hl⟩ := h
  have ha : a = [ρ 0, ρ 1, ρ 2, ρ 3, ρ 4, ρ 5, ρ 6, ρ 7, ρ 8, ρ 9, ρ 10, ρ 11, ρ 12, ρ 13, ρ 14, ρ 15, ρ 16, ρ 17, ρ 18, ρ 19, ρ 20, ρ 21, ρ 22, ρ 23] := ha
  subst ha
  subst hg
  have r0 : (0 : Int) ≤ ρ 0 ∧ ρ 0 ≤ 60 := zRnA hr 0
  have r1 : (0 : Int) ≤ ρ 1 ∧ ρ 1 ≤ 60 := zRnA hr 1
  have r2 : (0 : Int) ≤ ρ 2 ∧ ρ 2 ≤ 8 := zRnA hr 2
  have r3 : (0 : Int) ≤ ρ 3 ∧ ρ 3 ≤ 2001 := zRnA hr 3
  have r4 : (2 : Int) ≤ ρ 4 ∧ ρ 4 ≤ 2000 := zRnA hr 4
  have r5 : (0 : Int) ≤ ρ 5 ∧ ρ 5 ≤ 2 := zRnA hr 5
  have r6 : (0 : Int) ≤ ρ 6 ∧ ρ 6 ≤ 20 := zRnA hr 6
  have r7 : (0 : Int) ≤ ρ 7 ∧ ρ 7 ≤ 400 := zRnA hr 7
  have r8 : ((-2147483648) : Int) ≤ ρ 8 ∧ ρ 8 ≤ 2147483647 := zRnA hr 8
  have r9 : ((-2147483648) : Int) ≤ ρ 9 ∧ ρ 9 ≤ 2147483647 := zRnA hr 9
  have r10 : ((-2147483648) : Int) ≤ ρ 10 ∧ ρ 10 ≤ 2147483647 := zRnA hr 10
  have r11 : (0 : Int) ≤ ρ 11 ∧ ρ 11 ≤ 8 := zRnA hr 11
  have r12 : (0 : Int) ≤ ρ 12 ∧ ρ 12 ≤ 32 := zRnA hr 12
  have r13 : (0 : Int) ≤ ρ 13 ∧ ρ 13 ≤ 5120 := zRnA hr 13
  have r14 : (0 : Int) ≤ ρ 14 ∧ ρ 14 ≤ 8 := zRnA hr 14
  have r15 : (0 : Int) ≤ ρ 15 ∧ ρ 15 ≤ 8 := zRnA hr 15
  have r16 : (0 : Int) ≤ ρ 16 ∧ ρ 16 ≤ 4 := zRnA hr 16
  have r17 : ((-2147483648) : Int) ≤ ρ 17 ∧ ρ 17 ≤ 2147483647 := zRnA hr 17
  have r18 : ((-1) : Int) ≤ ρ 18 ∧ ρ 18 ≤ 19 := zRnA hr 18
  have r19 : ((-1) : Int) ≤ ρ 19 ∧ ρ 19 ≤ 3 := zRnA hr 19
  have r20 : (0 : Int) ≤ ρ 20 ∧ ρ 20 ≤ 4 := zRnA hr 20
  have r21 : (0 : Int) ≤ ρ 21 ∧ ρ 21 ≤ 3 := zRnA hr 21
  have r22 : ((-1) : Int) ≤ ρ 22 ∧ ρ 22 ≤ 7 := zRnA hr 22
  have r23 : ((-2147483648) : Int) ≤ ρ 23 ∧ ρ 23 ≤ 2147483647 := zRnA hr 23
  have r24 : (3 : Int) ≤ ρ 24 ∧ ρ 24 ≤ 2000 := zRnA hr 24
  have r25 : (0 : Int) ≤ ρ 25 ∧ ρ 25 ≤ 4 := zRnA hr 25
  have r26 : ((-1) : Int) ≤ ρ 26 ∧ ρ 26 ≤ 7 := zRnA hr 26
  have r27 : ((-1) : Int) ≤ ρ 27 ∧ ρ 27 ≤ (-1) := zRnA hr 27
  have r28 : ((-2147483648) : Int) ≤ ρ 28 ∧ ρ 28 ≤ 2147483647 := zRnA hr 28
  have r29 : ((-2147483648) : Int) ≤ ρ 29 ∧ ρ 29 ≤ 2147483647 := zRnA hr 29
  have r30 : (0 : Int) ≤ ρ 30 ∧ ρ 30 ≤ 8 := zRnA hr 30
  have r31 : (0 : Int) ≤ ρ 31 ∧ ρ 31 ≤ 32 := zRnA hr 31
  have r32 : (0 : Int) ≤ ρ 32 ∧ ρ 32 ≤ 5120 := zRnA hr 32
  have r33 : (0 : Int) ≤ ρ 33 ∧ ρ 33 ≤ 0 := zRnA hr 33
  have r34 : (1 : Int) ≤ ρ 34 ∧ ρ 34 ≤ 4 := zRnA hr 34
  have r35 : (0 : Int) ≤ ρ 35 ∧ ρ 35 ≤ 1999 := zRnA hr 35
  have r36 : ((-1) : Int) ≤ ρ 36 ∧ ρ 36 ≤ 3 := zRnA hr 36
  have r37 : (0 : Int) ≤ ρ 37 ∧ ρ 37 ≤ 3 := zRnA hr 37
  have r38 : ((-2147483648) : Int) ≤ ρ 38 ∧ ρ 38 ≤ 2147483647 := zRnA hr 38
  have r39 : (1 : Int) ≤ ρ 39 ∧ ρ 39 ≤ 2000 := zRnA hr 39
  have r40 : (0 : Int) ≤ ρ 40 ∧ ρ 40 ≤ 2000 := zRnA hr 40
  have r41 : ((-1) : Int) ≤ ρ 41 ∧ ρ 41 ≤ (-1) := zRnA hr 41
  have f0 : (0 : Int) ≤ -ρ 41 + ρ 7 + (-1) := zAllA hf 0
  have f1 : (0 : Int) ≤ ρ 40 + -ρ 39 := zAllA hf 1
  have f2 : (0 : Int) ≤ ρ 40 + -ρ 4 := zAllA hf 2
  have f3 : (0 : Int) ≤ ρ 39 + -ρ 24 + (-1) := zAllA hf 3
  have f4 : (0 : Int) ≤ -ρ 39 + ρ 4 := zAllA hf 4
  have f5 : (0 : Int) ≤ -ρ 24 + ρ 4 + (-1) := zAllA hf 5
  have f6 : (0 : Int) ≤ -ρ 34 + ρ 24 + (-1) := zAllA hf 6
  have f7 : (0 : Int) ≤ -ρ 35 + ρ 24 + (-1) := zAllA hf 7
  have f8 : (0 : Int) ≤ -ρ 36 + ρ 24 + (-1) := zAllA hf 8
  have f9 : (0 : Int) ≤ ρ 32 + -ρ 13 := zAllA hf 9
  have f10 : (0 : Int) ≤ -ρ 24 + ρ 4 := zAllA hf 10
  have f11 : (0 : Int) ≤ -ρ 37 + ρ 4 := zAllA hf 11
  have f12 : (0 : Int) ≤ -ρ 19 + ρ 4 := zAllA hf 12
  have f13 : (0 : Int) ≤ -ρ 21 + ρ 4 := zAllA hf 13
  have f14 : (0 : Int) ≤ 3 * ρ 26 + -ρ 25 + 4 := zAllA hf 14
  have m0 : γ 0 1 0 10 = ρ 0 := zAllA hm 0
  have m1 : γ 0 40 0 (ρ 0) = ρ 1 := zAllA hm 1
  have m2 : γ 0 9 (ρ 1) 2 = ρ 2 := zAllA hm 2
  have m3 : γ 0 2 0 6 = ρ 3 := zAllA hm 3
  have m4 : γ 0 2 0 3 = ρ 4 := zAllA hm 4
  have m5 : γ 0 2 0 7 = ρ 5 := zAllA hm 5
  have m6 : γ 0 1 0 7 = ρ 6 := zAllA hm 6
  have m7 : γ 0 1 0 9 = ρ 7 := zAllA hm 7
  have m8 : γ 0 2 0 4 = ρ 8 := zAllA hm 8
  have m9 : γ 0 2 0 5 = ρ 9 := zAllA hm 9
  have m10 : γ 0 2 0 9 = ρ 10 := zAllA hm 10
  have m11 : γ 0 2 0 13 = ρ 11 := zAllA hm 11
  have m12 : γ 0 2 0 16 = ρ 12 := zAllA hm 12
  have m13 : γ 0 3 0 1 = ρ 13 := zAllA hm 13
  have m14 : γ 0 9 (ρ 1) 3 = ρ 14 := zAllA hm 14
  have m15 : γ 0 10 (9 * ρ 1) 4 = ρ 15 := zAllA hm 15
  have m16 : γ 0 10 (9 * ρ 1) 5 = ρ 16 := zAllA hm 16
  have m17 : γ 0 10 (9 * ρ 1) 7 = ρ 17 := zAllA hm 17
  have m18 : γ 0 10 (9 * ρ 1) 8 = ρ 18 := zAllA hm 18
  have m19 : γ 0 10 (9 * ρ 1) 9 = ρ 19 := zAllA hm 19
  have m20 : γ 0 10 (9 * ρ 1) 12 = ρ 20 := zAllA hm 20
  have m21 : γ 0 10 (9 * ρ 1) 13 = ρ 21 := zAllA hm 21
  have m22 : γ 0 10 (9 * ρ 1) 14 = ρ 22 := zAllA hm 22
  have m23 : γ 0 10 (9 * ρ 1) 15 = ρ 23 := zAllA hm 23
  have m24 : γ 2 2 0 5 = 0 := zAllA hm 24
  have m25 : γ 2 2 0 6 = 0 := zAllA hm 25
  have m26 : γ 2 2 0 7 = 1 := zAllA hm 26
  have m27 : γ 2 2 0 13 = 0 := zAllA hm 27
  have m28 : γ 2 2 0 16 = 0 := zAllA hm 28
  have m29 : γ 3 9 (ρ 1) 2 = 0 := zAllA hm 29
  have m30 : γ 3 2 0 6 = ρ 24 := zAllA hm 30
  have m31 : γ 3 10 (9 * ρ 1) 12 = ρ 25 := zAllA hm 31
  have m32 : γ 3 10 (9 * ρ 1) 14 = ρ 26 := zAllA hm 32
  have m33 : γ 3 10 (9 * ρ 1) 8 = ρ 27 := zAllA hm 33
  have m34 : γ 3 1 0 7 = ρ 6 := zAllA hm 34
  have m35 : γ 3 2 0 4 = ρ 8 := zAllA hm 35
  have m36 : γ 3 2 0 5 = ρ 28 := zAllA hm 36
  have m37 : γ 3 2 0 9 = ρ 29 := zAllA hm 37
  have m38 : γ 3 2 0 13 = ρ 30 := zAllA hm 38
  have m39 : γ 3 2 0 16 = ρ 31 := zAllA hm 39
  have m40 : γ 3 3 0 1 = ρ 32 := zAllA hm 40
  have m41 : γ 3 9 (ρ 1) 3 = 0 := zAllA hm 41
  have m42 : γ 3 10 (9 * ρ 1) 4 = ρ 33 := zAllA hm 42
  have m43 : γ 3 10 (9 * ρ 1) 5 = ρ 34 := zAllA hm 43
  have m44 : γ 3 10 (9 * ρ 1) 7 = ρ 35 := zAllA hm 44
  have m45 : γ 3 10 (9 * ρ 1) 9 = ρ 36 := zAllA hm 45
  have m46 : γ 3 10 (9 * ρ 1) 13 = ρ 37 := zAllA hm 46
  have m47 : γ 3 10 (9 * ρ 1) 15 = ρ 38 := zAllA hm 47
  have m48 : γ 4 2 0 6 = ρ 39 := zAllA hm 48
  have m49 : γ 4 2 0 4 = ρ 8 := zAllA hm 49
  have m50 : γ 5 2 0 6 = ρ 40 := zAllA hm 50
  have m51 : γ 5 2 0 4 = ρ 8 := zAllA hm 51
  have m52 : γ 6 2 0 3 = 0 := zAllA hm 52
  have c1 : ∀ (G : Nat) (k j : Int), ¬ rMdP m0_ G j → γ 1 G k j = γ 0 G k j := And.right (zChA hc 6)
  have c2 : ∀ (G : Nat) (k j : Int), ¬ rMdP m74_ G j → γ 2 G k j = γ 1 G k j := And.right (zChA hc 5)
  have c3 : ∀ (G : Nat) (k j : Int), ¬ rMdP m100_ G j → γ 3 G k j = γ 2 G k j := And.right (zChA hc 4)
  have c4 : ∀ (G : Nat) (k j : Int), ¬ rMdP m101_ G j → γ 4 G k j = γ 3 G k j := And.right (zChA hc 3)
  have c5 : ∀ (G : Nat) (k j : Int), ¬ rMdP m101_ G j → γ 5 G k j = γ 4 G k j := And.right (zChA hc 2)
  have c6 : ∀ (G : Nat) (k j : Int), ¬ rMdP m75_ G j → γ 6 G k j = γ 5 G k j := And.right (zChA hc 1)
  have c7 : ∀ (G : Nat) (k j : Int), ¬ rMdP m0_ G j → γ 7 G k j = γ 6 G k j := And.right (zChA hc 0)
  have l0 : sn131 [ρ 0, ρ 1] (γ 0) 0 (ρ 1) (γ 1) := hS131 _ _ _ _ _ (zAllA hl 0)
  have l1 : sn111 [1, ρ 9, ρ 3, ρ 5, ρ 11, ρ 12] (γ 1) 0 0 (γ 2) := hS111 _ _ _ _ _ (zAllA hl 1)
  have l2 : sn146 [ρ 0, ρ 1, ρ 2, 0, ρ 4, ρ 20, ρ 22, ρ 18, 1, ρ 6, ρ 8, 0, ρ 10, 0, 0, ρ 13, ρ 14, ρ 15, ρ 16, ρ 17, ρ 19, ρ 21, ρ 23] (γ 2) 0 1 (γ 3) := hS146 _ _ _ _ _ (zAllA hl 2)
  have l3 : sn148 [9 * ρ 1, ρ 24, ρ 4, ρ 8, ρ 34] (γ 3) 0 1 (γ 4) := hS148 _ _ _ _ _ (zAllA hl 3)
  have l4 : sn149 [ρ 39, ρ 4, ρ 8] (γ 4) 0 1 (γ 5) := hS149 _ _ _ _ _ (zAllA hl 4)
  have l5 : sn112 [ρ 4] (γ 5) 0 0 (γ 6) := hS112 _ _ _ _ _ (zAllA hl 5)
  have l6 : sn128 [9 * ρ 1, ρ 7, ρ 27] (γ 6) 0 (ρ 41) (γ 7) := hS128 _ _ _ _ _ (zAllA hl 6)
  show sn167 [ρ 0, ρ 1, ρ 2, ρ 3, ρ 4, ρ 5, ρ 6, ρ 7, ρ 8, ρ 9, ρ 10, ρ 11, ρ 12, ρ 13, ρ 14, ρ 15, ρ 16, ρ 17, ρ 18, ρ 19, ρ 20, ρ 21, ρ 22, ρ 23] (γ 0) 0 0 (γ 7)
  refine Eq.symm ?_
  show fn167 [] (γ 0) = _
  unfold fn167
  refine zLE m0 (zLE m1 (zLE (show fn131 [ρ 0] (γ 0) = (0, ρ 1, γ 1) from l0.symm) (zLV (γ 1) rfl (zLE (show fn111 [1] (γ 1) = (0, 0, γ 2) from l1.symm) (zLV (γ 2) rfl (zLE (show fn146 [] (γ 2) = (0, 1, γ 3) from l2.symm) (zLV (γ 3) rfl ?_)))))))
  refine zIP (show (1 : Int) ≤ 1 by omega) (zIN (show ¬ (0 ≤ γ 3 10 (9 * ρ 1) 8) by omega) (zLE (show fn148 [9 * ρ 1] (γ 3) = (0, 1, γ 4) from l3.symm) (zLV (γ 4) rfl (zIP (show (1 : Int) ≤ 1 by omega) (zLE (show fn149 [] (γ 4) = (0, 1, γ 5) from l4.symm) (zLV (γ 5) rfl (zIP (show (1 : Int) ≤ 1 by omega) ?_)))))))
  refine zLE (show fn112 [] (γ 5) = (0, 0, γ 6) from l5.symm) (zLV (γ 6) rfl (zLE (show fn128 [9 * ρ 1] (γ 6) = (0, ρ 41, γ 7) from l6.symm) (zLV (γ 7) rfl (zLV (ρ 41) rfl (zIN (show ¬ (ρ 41 ≥ 0) by omega) ?_)))))
  rfl
theorem vn167_5 {S : Nat → zSpc} (hS111 : zIm S 111 sn111) (hS112 : zIm S 112 sn112) (hS128 : zIm S 128 sn128) (hS130 : zIm S 130 sn130) (hS131 : zIm S 131 sn131) (hS146 : zIm S 146 sn146) (hS148 : zIm S 148 sn148) (hS149 : zIm S 149 sn149) (hS163 : zIm S 163 sn163) {a : List Int} {g : rHp} : ∀ (ρ : Nat → Int) (γ : Nat → rHp), zO 24 S a g q167_5 ρ γ → zGl (fun _ _ _ => True) (sn167 a g) q167_5 ρ γ := by
  intro ρ γ h
  obtain ⟨ha, hg, hr, hf, hm, hc, hl⟩ := h
  have ha : a = [ρ 0, ρ 1, ρ 2, ρ 3, ρ 4, ρ 5, ρ 6, ρ 7, ρ 8, ρ 9, ρ 10, ρ 11, ρ 12, ρ 13, ρ 14, ρ 15, ρ 16, ρ 17, ρ 18, ρ 19, ρ 20, ρ 21, ρ 22, ρ 23] := ha
  subst ha
  subst hg
  have r0 : (0 : Int) ≤ ρ 0 ∧ ρ 0 ≤ 60 := zRnA hr 0
  have r1 : (0 : Int) ≤ ρ 1 ∧ ρ 1 ≤ 60 := zRnA hr 1
  have r2 : (0 : Int) ≤ ρ 2 ∧ ρ 2 ≤ 8 := zRnA hr 2
  have r3 : (0 : Int) ≤ ρ 3 ∧ ρ 3 ≤ 2001 := zRnA hr 3
  have r4 : (2 : Int) ≤ ρ 4 ∧ ρ 4 ≤ 2000 := zRnA hr 4
  have r5 : (0 : Int) ≤ ρ 5 ∧ ρ 5 ≤ 2 := zRnA hr 5
  have r6 : (0 : Int) ≤ ρ 6 ∧ ρ 6 ≤ 20 := zRnA hr 6
  have r7 : (0 : Int) ≤ ρ 7 ∧ ρ 7 ≤ 400 := zRnA hr 7
  have r8 : ((-2147483648) : Int) ≤ ρ 8 ∧ ρ 8 ≤ 2147483647 := zRnA hr 8
  have r9 : ((-2147483648) : Int) ≤ ρ 9 ∧ ρ 9 ≤ 2147483647 := zRnA hr 9
  have r10 : ((-2147483648) : Int) ≤ ρ 10 ∧ ρ 10 ≤ 2147483647 := zRnA hr 10
  have r11 : (0 : Int) ≤ ρ 11 ∧ ρ 11 ≤ 8 := zRnA hr 11
  have r12 : (0 : Int) ≤ ρ 12 ∧ ρ 12 ≤ 32 := zRnA hr 12
  have r13 : (0 : Int) ≤ ρ 13 ∧ ρ 13 ≤ 5120 := zRnA hr 13
  have r14 : (0 : Int) ≤ ρ 14 ∧ ρ 14 ≤ 8 := zRnA hr 14
  have r15 : (0 : Int) ≤ ρ 15 ∧ ρ 15 ≤ 8 := zRnA hr 15
  have r16 : (0 : Int) ≤ ρ 16 ∧ ρ 16 ≤ 4 := zRnA hr 16
  have r17 : ((-2147483648) : Int) ≤ ρ 17 ∧ ρ 17 ≤ 2147483647 := zRnA hr 17
  have r18 : ((-1) : Int) ≤ ρ 18 ∧ ρ 18 ≤ 19 := zRnA hr 18
  have r19 : ((-1) : Int) ≤ ρ 19 ∧ ρ 19 ≤ 3 := zRnA hr 19
  have r20 : (0 : Int) ≤ ρ 20 ∧ ρ 20 ≤ 4 := zRnA hr 20
  have r21 : (0 : Int) ≤ ρ 21 ∧ ρ 21 ≤ 3 := zRnA hr 21
  have r22 : ((-1) : Int) ≤ ρ 22 ∧ ρ 22 ≤ 7 := zRnA hr 22
  have r23 : ((-2147483648) : Int) ≤ ρ 23 ∧ ρ 23 ≤ 2147483647 := zRnA hr 23
  have r24 : (3 : Int) ≤ ρ 24 ∧ ρ 24 ≤ 2000 := zRnA hr 24
  have r25 : (0 : Int) ≤ ρ 25 ∧ ρ 25 ≤ 4 := zRnA hr 25
  have r26 : ((-1) : Int) ≤ ρ 26 ∧ ρ 26 ≤ 7 := zRnA hr 26
  have r27 : (0 : Int) ≤ ρ 27 ∧ ρ 27 ≤ 19 := zRnA hr 27
  have r28 : (1 : Int) ≤ ρ 28 ∧ ρ 28 ≤ 20 := zRnA hr 28
  have r29 : ((-2147483648) : Int) ≤ ρ 29 ∧ ρ 29 ≤ 2147483647 := zRnA hr 29
  have r30 : ((-2147483648) : Int) ≤ ρ 30 ∧ ρ 30 ≤ 2147483647 := zRnA hr 30
  have r31 : (0 : Int) ≤ ρ 31 ∧ ρ 31 ≤ 8 := zRnA hr 31
  have r32 : (0 : Int) ≤ ρ 32 ∧ ρ 32 ≤ 32 := zRnA hr 32
  have r33 : (0 : Int) ≤ ρ 33 ∧ ρ 33 ≤ 5120 := zRnA hr 33
  have r34 : (0 : Int) ≤ ρ 34 ∧ ρ 34 ≤ 0 := zRnA hr 34
  have r35 : (1 : Int) ≤ ρ 35 ∧ ρ 35 ≤ 4 := zRnA hr 35
  have r36 : (0 : Int) ≤ ρ 36 ∧ ρ 36 ≤ 1999 := zRnA hr 36
  have r37 : ((-1) : Int) ≤ ρ 37 ∧ ρ 37 ≤ 3 := zRnA hr 37
  have r38 : (0 : Int) ≤ ρ 38 ∧ ρ 38 ≤ 3 := zRnA hr 38
  have r39 : ((-2147483648) : Int) ≤ ρ 39 ∧ ρ 39 ≤ 2147483647 := zRnA hr 39
  have r40 : (0 : Int) ≤ ρ 40 ∧ ρ 40 ≤ 2000 := zRnA hr 40
  have r41 : ((-2147483648) : Int) ≤ ρ 41 ∧ ρ 41 ≤ 2147483647 := zRnA hr 41
  have f0 : (0 : Int) ≤ ρ 40 + -ρ 24 := zAllA hf 0
  have f1 : (0 : Int) ≤ -ρ 35 + ρ 24 + (-1) := zAllA hf 1
  have f2 : (0 : Int) ≤ -ρ 36 + ρ 24 + (-1) := zAllA hf 2
  have f3 : (0 : Int) ≤ -ρ 37 + ρ 24 + (-1) := zAllA hf 3
  have f4 : (0 : Int) ≤ ρ 28 + -ρ 27 + (-1) := zAllA hf 4
  have f5 : (0 : Int) ≤ ρ 28 + -ρ 6 := zAllA hf 5
  have f6 : (0 : Int) ≤ ρ 33 + -ρ 13 := zAllA hf 6
  have f7 : (0 : Int) ≤ -ρ 24 + ρ 4 := zAllA hf 7
  have f8 : (0 : Int) ≤ -ρ 38 + ρ 4 := zAllA hf 8
  have f9 : (0 : Int) ≤ -ρ 19 + ρ 4 := zAllA hf 9
  have f10 : (0 : Int) ≤ -ρ 21 + ρ 4 := zAllA hf 10
  have f11 : (0 : Int) ≤ -ρ 27 + ρ 6 := zAllA hf 11
  have f12 : (0 : Int) ≤ 3 * ρ 26 + -ρ 25 + 4 := zAllA hf 12
  have m0 : γ 0 1 0 10 = ρ 0 := zAllA hm 0
  have m1 : γ 0 40 0 (ρ 0) = ρ 1 := zAllA hm 1
  have m2 : γ 0 9 (ρ 1) 2 = ρ 2 := zAllA hm 2
  have m3 : γ 0 2 0 6 = ρ 3 := zAllA hm 3
  have m4 : γ 0 2 0 3 = ρ 4 := zAllA hm 4
  have m5 : γ 0 2 0 7 = ρ 5 := zAllA hm 5
  have m6 : γ 0 1 0 7 = ρ 6 := zAllA hm 6
  have m7 : γ 0 1 0 9 = ρ 7 := zAllA hm 7
  have m8 : γ 0 2 0 4 = ρ 8 := zAllA hm 8
  have m9 : γ 0 2 0 5 = ρ 9 := zAllA hm 9
  have m10 : γ 0 2 0 9 = ρ 10 := zAllA hm 10
  have m11 : γ 0 2 0 13 = ρ 11 := zAllA hm 11
  have m12 : γ 0 2 0 16 = ρ 12 := zAllA hm 12
  have m13 : γ 0 3 0 1 = ρ 13 := zAllA hm 13
  have m14 : γ 0 9 (ρ 1) 3 = ρ 14 := zAllA hm 14
  have m15 : γ 0 10 (9 * ρ 1) 4 = ρ 15 := zAllA hm 15
  have m16 : γ 0 10 (9 * ρ 1) 5 = ρ 16 := zAllA hm 16
  have m17 : γ 0 10 (9 * ρ 1) 7 = ρ 17 := zAllA hm 17
  have m18 : γ 0 10 (9 * ρ 1) 8 = ρ 18 := zAllA hm 18
  have m19 : γ 0 10 (9 * ρ 1) 9 = ρ 19 := zAllA hm 19
  have m20 : γ 0 10 (9 * ρ 1) 12 = ρ 20 := zAllA hm 20
  have m21 : γ 0 10 (9 * ρ 1) 13 = ρ 21 := zAllA hm 21
  have m22 : γ 0 10 (9 * ρ 1) 14 = ρ 22 := zAllA hm 22
  have m23 : γ 0 10 (9 * ρ 1) 15 = ρ 23 := zAllA hm 23
  have m24 : γ 2 2 0 5 = 0 := zAllA hm 24
  have m25 : γ 2 2 0 6 = 0 := zAllA hm 25
  have m26 : γ 2 2 0 7 = 1 := zAllA hm 26
  have m27 : γ 2 2 0 13 = 0 := zAllA hm 27
  have m28 : γ 2 2 0 16 = 0 := zAllA hm 28
  have m29 : γ 3 9 (ρ 1) 2 = 0 := zAllA hm 29
  have m30 : γ 3 2 0 6 = ρ 24 := zAllA hm 30
  have m31 : γ 3 10 (9 * ρ 1) 12 = ρ 25 := zAllA hm 31
  have m32 : γ 3 10 (9 * ρ 1) 14 = ρ 26 := zAllA hm 32
  have m33 : γ 3 10 (9 * ρ 1) 8 = ρ 27 := zAllA hm 33
  have m34 : γ 3 1 0 7 = ρ 28 := zAllA hm 34
  have m35 : γ 3 2 0 4 = ρ 8 := zAllA hm 35
  have m36 : γ 3 2 0 5 = ρ 29 := zAllA hm 36
  have m37 : γ 3 2 0 9 = ρ 30 := zAllA hm 37
  have m38 : γ 3 2 0 13 = ρ 31 := zAllA hm 38
  have m39 : γ 3 2 0 16 = ρ 32 := zAllA hm 39
  have m40 : γ 3 3 0 1 = ρ 33 := zAllA hm 40
  have m41 : γ 3 9 (ρ 1) 3 = 0 := zAllA hm 41
  have m42 : γ 3 10 (9 * ρ 1) 4 = ρ 34 := zAllA hm 42
  have m43 : γ 3 10 (9 * ρ 1) 5 = ρ 35 := zAllA hm 43
  have m44 : γ 3 10 (9 * ρ 1) 7 = ρ 36 := zAllA hm 44
  have m45 : γ 3 10 (9 * ρ 1) 9 = ρ 37 := zAllA hm 45
  have m46 : γ 3 10 (9 * ρ 1) 13 = ρ 38 := zAllA hm 46
  have m47 : γ 3 10 (9 * ρ 1) 15 = ρ 39 := zAllA hm 47
  have m48 : γ 4 2 0 6 = ρ 40 := zAllA hm 48
  have m49 : γ 4 2 0 4 = ρ 41 := zAllA hm 49
  have m50 : γ 5 2 0 3 = 0 := zAllA hm 50
  have c1 : ∀ (G : Nat) (k j : Int), ¬ rMdP m0_ G j → γ 1 G k j = γ 0 G k j := And.right (zChA hc 4)
  have c2 : ∀ (G : Nat) (k j : Int), ¬ rMdP m74_ G j → γ 2 G k j = γ 1 G k j := And.right (zChA hc 3)
  have c3 : ∀ (G : Nat) (k j : Int), ¬ rMdP m100_ G j → γ 3 G k j = γ 2 G k j := And.right (zChA hc 2)
  have c4 : ∀ (G : Nat) (k j : Int), ¬ rMdP m101_ G j → γ 4 G k j = γ 3 G k j := And.right (zChA hc 1)
  have c5 : ∀ (G : Nat) (k j : Int), ¬ rMdP m75_ G j → γ 5 G k j = γ 4 G k j := And.right (zChA hc 0)
  have l0 : sn131 [ρ 0, ρ 1] (γ 0) 0 (ρ 1) (γ 1) := hS131 _ _ _ _ _ (zAllA hl 0)
  have l1 : sn111 [1, ρ 9, ρ 3, ρ 5, ρ 11, ρ 12] (γ 1) 0 0 (γ 2) := hS111 _ _ _ _ _ (zAllA hl 1)
  have l2 : sn146 [ρ 0, ρ 1, ρ 2, 0, ρ 4, ρ 20, ρ 22, ρ 18, 1, ρ 6, ρ 8, 0, ρ 10, 0, 0, ρ 13, ρ 14, ρ 15, ρ 16, ρ 17, ρ 19, ρ 21, ρ 23] (γ 2) 0 1 (γ 3) := hS146 _ _ _ _ _ (zAllA hl 2)
  have l3 : sn148 [9 * ρ 1, ρ 24, ρ 4, ρ 8, ρ 35] (γ 3) 0 0 (γ 4) := hS148 _ _ _ _ _ (zAllA hl 3)
  have l4 : sn112 [ρ 4] (γ 4) 0 0 (γ 5) := hS112 _ _ _ _ _ (zAllA hl 4)
  show sn167 [ρ 0, ρ 1, ρ 2, ρ 3, ρ 4, ρ 5, ρ 6, ρ 7, ρ 8, ρ 9, ρ 10, ρ 11, ρ 12, ρ 13, ρ 14, ρ 15, ρ 16, ρ 17, ρ 18, ρ 19, ρ 20, ρ 21, ρ 22, ρ 23] (γ 0) 0 (-ρ 41 + (-1)) (γ 5)
  refine Eq.symm ?_
  show fn167 [] (γ 0) = _
  unfold fn167
  refine zLE m0 (zLE m1 (zLE (show fn131 [ρ 0] (γ 0) = (0, ρ 1, γ 1) from l0.symm) (zLV (γ 1) rfl (zLE (show fn111 [1] (γ 1) = (0, 0, γ 2) from l1.symm) (zLV (γ 2) rfl (zLE (show fn146 [] (γ 2) = (0, 1, γ 3) from l2.symm) (zLV (γ 3) rfl ?_)))))))
  refine zIP (show (1 : Int) ≤ 1 by omega) (zIP (show 0 ≤ γ 3 10 (9 * ρ 1) 8 by omega) (zLE (show fn148 [9 * ρ 1] (γ 3) = (0, 0, γ 4) from l3.symm) (zLV (γ 4) rfl (zIN (show ¬ ((1 : Int) ≤ 0) by omega) (zLE m49 (zLE (show fn112 [] (γ 4) = (0, 0, γ 5) from l4.symm) (zLV (γ 5) rfl ?_)))))))
  rfl
theorem vn167_6 {S : Nat → zSpc} (hS111 : zIm S 111 sn111) (hS112 : zIm S 112 sn112) (hS128 : zIm S 128 sn128) (hS130 : zIm S 130 sn130) (hS131 : zIm S 131 sn131) (hS146 : zIm S 146 sn146) (hS148 : zIm S 148 sn148) (hS149 : zIm S 149 sn149) (hS163 : zIm S 163 sn163) {a : List Int} {g : rHp} : ∀ (ρ : Nat → Int) (γ : Nat → rHp), zO 24 S a g q167_6 ρ γ → zGl (fun _ _ _ => True) (sn167 a g) q167_6 ρ γ := by
  intro ρ γ h
  obtain ⟨ha, hg, hr, hf, hm, hc, hl⟩ := h
  have ha : a = [ρ 0, ρ 1, ρ 2, ρ 3, ρ 4, ρ 5, ρ 6, ρ 7, ρ 8, ρ 9, ρ 10, ρ 11, ρ 12, ρ 13, ρ 14, ρ 15, ρ 16, ρ 17, ρ 18, ρ 19, ρ 20, ρ 21, ρ 22, ρ 23] := ha
  subst ha
  subst hg
  have r0 : (0 : Int) ≤ ρ 0 ∧ ρ 0 ≤ 60 := zRnA hr 0
  have r1 : (0 : Int) ≤ ρ 1 ∧ ρ 1 ≤ 60 := zRnA hr 1
  have r2 : (0 : Int) ≤ ρ 2 ∧ ρ 2 ≤ 8 := zRnA hr 2
  have r3 : (0 : Int) ≤ ρ 3 ∧ ρ 3 ≤ 2001 := zRnA hr 3
  have r4 : (2 : Int) ≤ ρ 4 ∧ ρ 4 ≤ 2000 := zRnA hr 4
  have r5 : (0 : Int) ≤ ρ 5 ∧ ρ 5 ≤ 2 := zRnA hr 5
  have r6 : (0 : Int) ≤ ρ 6 ∧ ρ 6 ≤ 20 := zRnA hr 6
  have r7 : (0 : Int) ≤ ρ 7 ∧ ρ 7 ≤ 400 := zRnA hr 7
  have r8 : ((-2147483648) : Int) ≤ ρ 8 ∧ ρ 8 ≤ 2147483647 := zRnA hr 8
  have r9 : ((-2147483648) : Int) ≤ ρ 9 ∧ ρ 9 ≤ 2147483647 := zRnA hr 9
  have r10 : ((-2147483648) : Int) ≤ ρ 10 ∧ ρ 10 ≤ 2147483647 := zRnA hr 10
  have r11 : (0 : Int) ≤ ρ 11 ∧ ρ 11 ≤ 8 := zRnA hr 11
  have r12 : (0 : Int) ≤ ρ 12 ∧ ρ 12 ≤ 32 := zRnA hr 12
  have r13 : (0 : Int) ≤ ρ 13 ∧ ρ 13 ≤ 5120 := zRnA hr 13
  have r14 : (0 : Int) ≤ ρ 14 ∧ ρ 14 ≤ 8 := zRnA hr 14
  have r15 : (0 : Int) ≤ ρ 15 ∧ ρ 15 ≤ 8 := zRnA hr 15
  have r16 : (0 : Int) ≤ ρ 16 ∧ ρ 16 ≤ 4 := zRnA hr 16
  have r17 : ((-2147483648) : Int) ≤ ρ 17 ∧ ρ 17 ≤ 2147483647 := zRnA hr 17
  have r18 : ((-1) : Int) ≤ ρ 18 ∧ ρ 18 ≤ 19 := zRnA hr 18
  have r19 : ((-1) : Int) ≤ ρ 19 ∧ ρ 19 ≤ 3 := zRnA hr 19
  have r20 : (0 : Int) ≤ ρ 20 ∧ ρ 20 ≤ 4 := zRnA hr 20
  have r21 : (0 : Int) ≤ ρ 21 ∧ ρ 21 ≤ 3 := zRnA hr 21
  have r22 : ((-1) : Int) ≤ ρ 22 ∧ ρ 22 ≤ 7 := zRnA hr 22
  have r23 : ((-2147483648) : Int) ≤ ρ 23 ∧ ρ 23 ≤ 2147483647 := zRnA hr 23
  have r24 : (3 : Int) ≤ ρ 24 ∧ ρ 24 ≤ 2000 := zRnA hr 24
  have r25 : (0 : Int) ≤ ρ 25 ∧ ρ 25 ≤ 4 := zRnA hr 25
  have r26 : ((-1) : Int) ≤ ρ 26 ∧ ρ 26 ≤ 7 := zRnA hr 26
  have r27 : (0 : Int) ≤ ρ 27 ∧ ρ 27 ≤ 19 := zRnA hr 27
  have r28 : (1 : Int) ≤ ρ 28 ∧ ρ 28 ≤ 20 := zRnA hr 28
  have r29 : ((-2147483648) : Int) ≤ ρ 29 ∧ ρ 29 ≤ 2147483647 := zRnA hr 29
  have r30 : ((-2147483648) : Int) ≤ ρ 30 ∧ ρ 30 ≤ 2147483647 := zRnA hr 30
  have r31 : (0 : Int) ≤ ρ 31 ∧ ρ 31 ≤ 8 := zRnA hr 31
  have r32 : (0 : Int) ≤ ρ 32 ∧ ρ 32 ≤ 32 := zRnA hr 32
  have r33 : (0 : Int) ≤ ρ 33 ∧ ρ 33 ≤ 5120 := zRnA hr 33
  have r34 : (0 : Int) ≤ ρ 34 ∧ ρ 34 ≤ 0 := zRnA hr 34
  have r35 : (1 : Int) ≤ ρ 35 ∧ ρ 35 ≤ 4 := zRnA hr 35
  have r36 : (0 : Int) ≤ ρ 36 ∧ ρ 36 ≤ 1999 := zRnA hr 36
  have r37 : ((-1) : Int) ≤ ρ 37 ∧ ρ 37 ≤ 3 := zRnA hr 37
  have r38 : (0 : Int) ≤ ρ 38 ∧ ρ 38 ≤ 3 := zRnA hr 38
  have r39 : ((-2147483648) : Int) ≤ ρ 39 ∧ ρ 39 ≤ 2147483647 := zRnA hr 39
  have r40 : (1 : Int) ≤ ρ 40 ∧ ρ 40 ≤ 2000 := zRnA hr 40
  have r41 : (0 : Int) ≤ ρ 41 ∧ ρ 41 ≤ 2000 := zRnA hr 41
  have r42 : (0 : Int) ≤ ρ 42 ∧ ρ 42 ≤ 2000 := zRnA hr 42
  have f0 : (0 : Int) ≤ -ρ 42 + ρ 41 := zAllA hf 0
  have f1 : (0 : Int) ≤ ρ 41 + -ρ 40 := zAllA hf 1
  have f2 : (0 : Int) ≤ ρ 42 + -ρ 41 := zAllA hf 2
  have f3 : (0 : Int) ≤ -ρ 41 + ρ 4 + (-1) := zAllA hf 3
  have f4 : (0 : Int) ≤ -ρ 40 + ρ 4 + (-1) := zAllA hf 4
  have f5 : (0 : Int) ≤ ρ 40 + -ρ 24 + (-1) := zAllA hf 5
  have f6 : (0 : Int) ≤ -ρ 40 + ρ 4 := zAllA hf 6
  have f7 : (0 : Int) ≤ -ρ 24 + ρ 4 + (-1) := zAllA hf 7
  have f8 : (0 : Int) ≤ -ρ 35 + ρ 24 + (-1) := zAllA hf 8
  have f9 : (0 : Int) ≤ -ρ 36 + ρ 24 + (-1) := zAllA hf 9
  have f10 : (0 : Int) ≤ -ρ 37 + ρ 24 + (-1) := zAllA hf 10
  have f11 : (0 : Int) ≤ ρ 28 + -ρ 27 + (-1) := zAllA hf 11
  have f12 : (0 : Int) ≤ ρ 28 + -ρ 6 := zAllA hf 12
  have f13 : (0 : Int) ≤ ρ 33 + -ρ 13 := zAllA hf 13
  have f14 : (0 : Int) ≤ -ρ 24 + ρ 4 := zAllA hf 14
  have f15 : (0 : Int) ≤ -ρ 38 + ρ 4 := zAllA hf 15
  have f16 : (0 : Int) ≤ -ρ 19 + ρ 4 := zAllA hf 16
  have f17 : (0 : Int) ≤ -ρ 21 + ρ 4 := zAllA hf 17
  have f18 : (0 : Int) ≤ -ρ 27 + ρ 6 := zAllA hf 18
  have f19 : (0 : Int) ≤ 3 * ρ 26 + -ρ 25 + 4 := zAllA hf 19
  have m0 : γ 0 1 0 10 = ρ 0 := zAllA hm 0
  have m1 : γ 0 40 0 (ρ 0) = ρ 1 := zAllA hm 1
  have m2 : γ 0 9 (ρ 1) 2 = ρ 2 := zAllA hm 2
  have m3 : γ 0 2 0 6 = ρ 3 := zAllA hm 3
  have m4 : γ 0 2 0 3 = ρ 4 := zAllA hm 4
  have m5 : γ 0 2 0 7 = ρ 5 := zAllA hm 5
  have m6 : γ 0 1 0 7 = ρ 6 := zAllA hm 6
  have m7 : γ 0 1 0 9 = ρ 7 := zAllA hm 7
  have m8 : γ 0 2 0 4 = ρ 8 := zAllA hm 8
  have m9 : γ 0 2 0 5 = ρ 9 := zAllA hm 9
  have m10 : γ 0 2 0 9 = ρ 10 := zAllA hm 10
  have m11 : γ 0 2 0 13 = ρ 11 := zAllA hm 11
  have m12 : γ 0 2 0 16 = ρ 12 := zAllA hm 12
  have m13 : γ 0 3 0 1 = ρ 13 := zAllA hm 13
  have m14 : γ 0 9 (ρ 1) 3 = ρ 14 := zAllA hm 14
  have m15 : γ 0 10 (9 * ρ 1) 4 = ρ 15 := zAllA hm 15
  have m16 : γ 0 10 (9 * ρ 1) 5 = ρ 16 := zAllA hm 16
  have m17 : γ 0 10 (9 * ρ 1) 7 = ρ 17 := zAllA hm 17
  have m18 : γ 0 10 (9 * ρ 1) 8 = ρ 18 := zAllA hm 18
  have m19 : γ 0 10 (9 * ρ 1) 9 = ρ 19 := zAllA hm 19
  have m20 : γ 0 10 (9 * ρ 1) 12 = ρ 20 := zAllA hm 20
  have m21 : γ 0 10 (9 * ρ 1) 13 = ρ 21 := zAllA hm 21
  have m22 : γ 0 10 (9 * ρ 1) 14 = ρ 22 := zAllA hm 22
  have m23 : γ 0 10 (9 * ρ 1) 15 = ρ 23 := zAllA hm 23
  have m24 : γ 2 2 0 5 = 0 := zAllA hm 24
  have m25 : γ 2 2 0 6 = 0 := zAllA hm 25
  have m26 : γ 2 2 0 7 = 1 := zAllA hm 26
  have m27 : γ 2 2 0 13 = 0 := zAllA hm 27
  have m28 : γ 2 2 0 16 = 0 := zAllA hm 28
  have m29 : γ 3 9 (ρ 1) 2 = 0 := zAllA hm 29
  have m30 : γ 3 2 0 6 = ρ 24 := zAllA hm 30
  have m31 : γ 3 10 (9 * ρ 1) 12 = ρ 25 := zAllA hm 31
  have m32 : γ 3 10 (9 * ρ 1) 14 = ρ 26 := zAllA hm 32
  have m33 : γ 3 10 (9 * ρ 1) 8 = ρ 27 := zAllA hm 33
  have m34 : γ 3 1 0 7 = ρ 28 := zAllA hm 34
  have m35 : γ 3 2 0 4 = ρ 8 := zAllA hm 35
  have m36 : γ 3 2 0 5 = ρ 29 := zAllA hm 36
  have m37 : γ 3 2 0 9 = ρ 30 := zAllA hm 37
  have m38 : γ 3 2 0 13 = ρ 31 := zAllA hm 38
  have m39 : γ 3 2 0 16 = ρ 32 := zAllA hm 39
  have m40 : γ 3 3 0 1 = ρ 33 := zAllA hm 40
  have m41 : γ 3 9 (ρ 1) 3 = 0 := zAllA hm 41
  have m42 : γ 3 10 (9 * ρ 1) 4 = ρ 34 := zAllA hm 42
  have m43 : γ 3 10 (9 * ρ 1) 5 = ρ 35 := zAllA hm 43
  have m44 : γ 3 10 (9 * ρ 1) 7 = ρ 36 := zAllA hm 44
  have m45 : γ 3 10 (9 * ρ 1) 9 = ρ 37 := zAllA hm 45
  have m46 : γ 3 10 (9 * ρ 1) 13 = ρ 38 := zAllA hm 46
  have m47 : γ 3 10 (9 * ρ 1) 15 = ρ 39 := zAllA hm 47
  have m48 : γ 4 2 0 6 = ρ 40 := zAllA hm 48
  have m49 : γ 4 2 0 4 = ρ 8 := zAllA hm 49
  have m50 : γ 5 2 0 6 = ρ 41 := zAllA hm 50
  have m51 : γ 5 2 0 4 = ρ 42 := zAllA hm 51
  have m52 : γ 6 2 0 3 = 0 := zAllA hm 52
  have c1 : ∀ (G : Nat) (k j : Int), ¬ rMdP m0_ G j → γ 1 G k j = γ 0 G k j := And.right (zChA hc 5)
  have c2 : ∀ (G : Nat) (k j : Int), ¬ rMdP m74_ G j → γ 2 G k j = γ 1 G k j := And.right (zChA hc 4)
  have c3 : ∀ (G : Nat) (k j : Int), ¬ rMdP m100_ G j → γ 3 G k j = γ 2 G k j := And.right (zChA hc 3)
  have c4 : ∀ (G : Nat) (k j : Int), ¬ rMdP m101_ G j → γ 4 G k j = γ 3 G k j := And.right (zChA hc 2)
  have c5 : ∀ (G : Nat) (k j : Int), ¬ rMdP m101_ G j → γ 5 G k j = γ 4 G k j := And.right (zChA hc 1)
  have c6 : ∀ (G : Nat) (k j : Int), ¬ rMdP m75_ G j → γ 6 G k j = γ 5 G k j := And.right (zChA hc 0)
  have l0 : sn131 [ρ 0, ρ 1] (γ 0) 0 (ρ 1) (γ 1) := hS131 _ _ _ _ _ (zAllA hl 0)
  have l1 : sn111 [1, ρ 9, ρ 3, ρ 5, ρ 11, ρ 12] (γ 1) 0 0 (γ 2) := hS111 _ _ _ _ _ (zAllA hl 1)
  have l2 : sn146 [ρ 0, ρ 1, ρ 2, 0, ρ 4, ρ 20, ρ 22, ρ 18, 1, ρ 6, ρ 8, 0, ρ 10, 0, 0, ρ 13, ρ 14, ρ 15, ρ 16, ρ 17, ρ 19, ρ 21, ρ 23] (γ 2) 0 1 (γ 3) := hS146 _ _ _ _ _ (zAllA hl 2)
  have l3 : sn148 [9 * ρ 1, ρ 24, ρ 4, ρ 8, ρ 35] (γ 3) 0 1 (γ 4) := hS148 _ _ _ _ _ (zAllA hl 3)
  have l4 : sn149 [ρ 40, ρ 4, ρ 8] (γ 4) 0 0 (γ 5) := hS149 _ _ _ _ _ (zAllA hl 4)
  have l5 : sn112 [ρ 4] (γ 5) 0 0 (γ 6) := hS112 _ _ _ _ _ (zAllA hl 5)
  show sn167 [ρ 0, ρ 1, ρ 2, ρ 3, ρ 4, ρ 5, ρ 6, ρ 7, ρ 8, ρ 9, ρ 10, ρ 11, ρ 12, ρ 13, ρ 14, ρ 15, ρ 16, ρ 17, ρ 18, ρ 19, ρ 20, ρ 21, ρ 22, ρ 23] (γ 0) 0 (-ρ 42 + (-1)) (γ 6)
  refine Eq.symm ?_
  show fn167 [] (γ 0) = _
  unfold fn167
  refine zLE m0 (zLE m1 (zLE (show fn131 [ρ 0] (γ 0) = (0, ρ 1, γ 1) from l0.symm) (zLV (γ 1) rfl (zLE (show fn111 [1] (γ 1) = (0, 0, γ 2) from l1.symm) (zLV (γ 2) rfl (zLE (show fn146 [] (γ 2) = (0, 1, γ 3) from l2.symm) (zLV (γ 3) rfl ?_)))))))
  refine zIP (show (1 : Int) ≤ 1 by omega) (zIP (show 0 ≤ γ 3 10 (9 * ρ 1) 8 by omega) (zLE (show fn148 [9 * ρ 1] (γ 3) = (0, 1, γ 4) from l3.symm) (zLV (γ 4) rfl (zIP (show (1 : Int) ≤ 1 by omega) (zLE (show fn149 [] (γ 4) = (0, 0, γ 5) from l4.symm) (zLV (γ 5) rfl (zIN (show ¬ ((1 : Int) ≤ 0) by omega) ?_)))))))
  refine zLE m51 (zLE (show fn112 [] (γ 5) = (0, 0, γ 6) from l5.symm) (zLV (γ 6) rfl ?_))
  rfl
theorem vn167_7 {S : Nat → zSpc} (hS111 : zIm S 111 sn111) (hS112 : zIm S 112 sn112) (hS128 : zIm S 128 sn128) (hS130 : zIm S 130 sn130) (hS131 : zIm S 131 sn131) (hS146 : zIm S 146 sn146) (hS148 : zIm S 148 sn148) (hS149 : zIm S 149 sn149) (hS163 : zIm S 163 sn163) {a : List Int} {g : rHp} : ∀ (ρ : Nat → Int) (γ : Nat → rHp), zO 24 S a g q167_7 ρ γ → zGl (fun _ _ _ => True) (sn167 a g) q167_7 ρ γ := by
  intro ρ γ h
  obtain ⟨ha, hg, hr, hf, hm, hc, hl⟩ := h
  have ha : a = [ρ 0, ρ 1, ρ 2, ρ 3, ρ 4, ρ 5, ρ 6, ρ 7, ρ 8, ρ 9, ρ 10, ρ 11, ρ 12, ρ 13, ρ 14, ρ 15, ρ 16, ρ 17, ρ 18, ρ 19, ρ 20, ρ 21, ρ 22, ρ 23] := ha
  subst ha
  subst hg
  have r0 : (0 : Int) ≤ ρ 0 ∧ ρ 0 ≤ 60 := zRnA hr 0
  have r1 : (0 : Int) ≤ ρ 1 ∧ ρ 1 ≤ 60 := zRnA hr 1
  have r2 : (0 : Int) ≤ ρ 2 ∧ ρ 2 ≤ 8 := zRnA hr 2
  have r3 : (0 : Int) ≤ ρ 3 ∧ ρ 3 ≤ 2001 := zRnA hr 3
  have r4 : (2 : Int) ≤ ρ 4 ∧ ρ 4 ≤ 2000 := zRnA hr 4
  have r5 : (0 : Int) ≤ ρ 5 ∧ ρ 5 ≤ 2 := zRnA hr 5
  have r6 : (0 : Int) ≤ ρ 6 ∧ ρ 6 ≤ 20 := zRnA hr 6
  have r7 : (0 : Int) ≤ ρ 7 ∧ ρ 7 ≤ 400 := zRnA hr 7
  have r8 : ((-2147483648) : Int) ≤ ρ 8 ∧ ρ 8 ≤ 2147483647 := zRnA hr 8
  have r9 : ((-2147483648) : Int) ≤ ρ 9 ∧ ρ 9 ≤ 2147483647 := zRnA hr 9
  have r10 : ((-2147483648) : Int) ≤ ρ 10 ∧ ρ 10 ≤ 2147483647 := zRnA hr 10
  have r11 : (0 : Int) ≤ ρ 11 ∧ ρ 11 ≤ 8 := zRnA hr 11
  have r12 : (0 : Int) ≤ ρ 12 ∧ ρ 12 ≤ 32 := zRnA hr 12
  have r13 : (0 : Int) ≤ ρ 13 ∧ ρ 13 ≤ 5120 := zRnA hr 13
  have r14 : (0 : Int) ≤ ρ 14 ∧ ρ 14 ≤ 8 := zRnA hr 14
  have r15 : (0 : Int) ≤ ρ 15 ∧ ρ 15 ≤ 8 := zRnA hr 15
  have r16 : (0 : Int) ≤ ρ 16 ∧ ρ 16 ≤ 4 := zRnA hr 16
  have r17 : ((-2147483648) : Int) ≤ ρ 17 ∧ ρ 17 ≤ 2147483647 := zRnA hr 17
  have r18 : ((-1) : Int) ≤ ρ 18 ∧ ρ 18 ≤ 19 := zRnA hr 18
  have r19 : ((-1) : Int) ≤ ρ 19 ∧ ρ 19 ≤ 3 := zRnA hr 19
  have r20 : (0 : Int) ≤ ρ 20 ∧ ρ 20 ≤ 4 := zRnA hr 20
  have r21 : (0 : Int) ≤ ρ 21 ∧ ρ 21 ≤ 3 := zRnA hr 21
  have r22 : ((-1) : Int) ≤ ρ 22 ∧ ρ 22 ≤ 7 := zRnA hr 22
  have r23 : ((-2147483648) : Int) ≤ ρ 23 ∧ ρ 23 ≤ 2147483647 := zRnA hr 23
  have r24 : (3 : Int) ≤ ρ 24 ∧ ρ 24 ≤ 2000 := zRnA hr 24
  have r25 : (0 : Int) ≤ ρ 25 ∧ ρ 25 ≤ 4 := zRnA hr 25
  have r26 : ((-1) : Int) ≤ ρ 26 ∧ ρ 26 ≤ 7 := zRnA hr 26
  have r27 : (0 : Int) ≤ ρ 27 ∧ ρ 27 ≤ 19 := zRnA hr 27
  have r28 : (1 : Int) ≤ ρ 28 ∧ ρ 28 ≤ 20 := zRnA hr 28
  have r29 : ((-2147483648) : Int) ≤ ρ 29 ∧ ρ 29 ≤ 2147483647 := zRnA hr 29
  have r30 : ((-2147483648) : Int) ≤ ρ 30 ∧ ρ 30 ≤ 2147483647 := zRnA hr 30
  have r31 : (0 : Int) ≤ ρ 31 ∧ ρ 31 ≤ 8 := zRnA hr 31
  have r32 : (0 : Int) ≤ ρ 32 ∧ ρ 32 ≤ 32 := zRnA hr 32
  have r33 : (0 : Int) ≤ ρ 33 ∧ ρ 33 ≤ 5120 := zRnA hr 33
  have r34 : (0 : Int) ≤ ρ 34 ∧ ρ 34 ≤ 0 := zRnA hr 34
  have r35 : (1 : Int) ≤ ρ 35 ∧ ρ 35 ≤ 4 := zRnA hr 35
  have r36 : (0 : Int) ≤ ρ 36 ∧ ρ 36 ≤ 1999 := zRnA hr 36
  have r37 : ((-1) : Int) ≤ ρ 37 ∧ ρ 37 ≤ 3 := zRnA hr 37
  have r38 : (0 : Int) ≤ ρ 38 ∧ ρ 38 ≤ 3 := zRnA hr 38
  have r39 : ((-2147483648) : Int) ≤ ρ 39 ∧ ρ 39 ≤ 2147483647 := zRnA hr 39
  have r40 : (1 : Int) ≤ ρ 40 ∧ ρ 40 ≤ 2000 := zRnA hr 40
  have r41 : (0 : Int) ≤ ρ 41 ∧ ρ 41 ≤ 2000 := zRnA hr 41
  have r42 : (0 : Int) ≤ ρ 42 ∧ ρ 42 ≤ 400 := zRnA hr 42
  have r43 : (0 : Int) ≤ ρ 43 ∧ ρ 43 ≤ 399 := zRnA hr 43
  have f0 : (0 : Int) ≤ -ρ 43 + ρ 7 := zAllA hf 0
  have f1 : (0 : Int) ≤ -ρ 42 + ρ 7 + (-1) := zAllA hf 1
  have f2 : (0 : Int) ≤ ρ 41 + -ρ 40 := zAllA hf 2
  have f3 : (0 : Int) ≤ ρ 41 + -ρ 4 := zAllA hf 3
  have f4 : (0 : Int) ≤ ρ 40 + -ρ 24 + (-1) := zAllA hf 4
  have f5 : (0 : Int) ≤ -ρ 40 + ρ 4 := zAllA hf 5
  have f6 : (0 : Int) ≤ -ρ 24 + ρ 4 + (-1) := zAllA hf 6
  have f7 : (0 : Int) ≤ -ρ 35 + ρ 24 + (-1) := zAllA hf 7
  have f8 : (0 : Int) ≤ -ρ 36 + ρ 24 + (-1) := zAllA hf 8
  have f9 : (0 : Int) ≤ -ρ 37 + ρ 24 + (-1) := zAllA hf 9
  have f10 : (0 : Int) ≤ ρ 28 + -ρ 27 + (-1) := zAllA hf 10
  have f11 : (0 : Int) ≤ ρ 28 + -ρ 6 := zAllA hf 11
  have f12 : (0 : Int) ≤ ρ 33 + -ρ 13 := zAllA hf 12
  have f13 : (0 : Int) ≤ -ρ 24 + ρ 4 := zAllA hf 13
  have f14 : (0 : Int) ≤ -ρ 38 + ρ 4 := zAllA hf 14
  have f15 : (0 : Int) ≤ -ρ 19 + ρ 4 := zAllA hf 15
  have f16 : (0 : Int) ≤ -ρ 21 + ρ 4 := zAllA hf 16
  have f17 : (0 : Int) ≤ -ρ 27 + ρ 6 := zAllA hf 17
  have f18 : (0 : Int) ≤ 3 * ρ 26 + -ρ 25 + 4 := zAllA hf 18
  have m0 : γ 0 1 0 10 = ρ 0 := zAllA hm 0
  have m1 : γ 0 40 0 (ρ 0) = ρ 1 := zAllA hm 1
  have m2 : γ 0 9 (ρ 1) 2 = ρ 2 := zAllA hm 2
  have m3 : γ 0 2 0 6 = ρ 3 := zAllA hm 3
  have m4 : γ 0 2 0 3 = ρ 4 := zAllA hm 4
  have m5 : γ 0 2 0 7 = ρ 5 := zAllA hm 5
  have m6 : γ 0 1 0 7 = ρ 6 := zAllA hm 6
  have m7 : γ 0 1 0 9 = ρ 7 := zAllA hm 7
  have m8 : γ 0 2 0 4 = ρ 8 := zAllA hm 8
  have m9 : γ 0 2 0 5 = ρ 9 := zAllA hm 9
  have m10 : γ 0 2 0 9 = ρ 10 := zAllA hm 10
  have m11 : γ 0 2 0 13 = ρ 11 := zAllA hm 11
  have m12 : γ 0 2 0 16 = ρ 12 := zAllA hm 12
  have m13 : γ 0 3 0 1 = ρ 13 := zAllA hm 13
  have m14 : γ 0 9 (ρ 1) 3 = ρ 14 := zAllA hm 14
  have m15 : γ 0 10 (9 * ρ 1) 4 = ρ 15 := zAllA hm 15
  have m16 : γ 0 10 (9 * ρ 1) 5 = ρ 16 := zAllA hm 16
  have m17 : γ 0 10 (9 * ρ 1) 7 = ρ 17 := zAllA hm 17
  have m18 : γ 0 10 (9 * ρ 1) 8 = ρ 18 := zAllA hm 18
  have m19 : γ 0 10 (9 * ρ 1) 9 = ρ 19 := zAllA hm 19
  have m20 : γ 0 10 (9 * ρ 1) 12 = ρ 20 := zAllA hm 20
  have m21 : γ 0 10 (9 * ρ 1) 13 = ρ 21 := zAllA hm 21
  have m22 : γ 0 10 (9 * ρ 1) 14 = ρ 22 := zAllA hm 22
  have m23 : γ 0 10 (9 * ρ 1) 15 = ρ 23 := zAllA hm 23
  have m24 : γ 2 2 0 5 = 0 := zAllA hm 24
  have m25 : γ 2 2 0 6 = 0 := zAllA hm 25
  have m26 : γ 2 2 0 7 = 1 := zAllA hm 26
  have m27 : γ 2 2 0 13 = 0 := zAllA hm 27
  have m28 : γ 2 2 0 16 = 0 := zAllA hm 28
  have m29 : γ 3 9 (ρ 1) 2 = 0 := zAllA hm 29
  have m30 : γ 3 2 0 6 = ρ 24 := zAllA hm 30
  have m31 : γ 3 10 (9 * ρ 1) 12 = ρ 25 := zAllA hm 31
  have m32 : γ 3 10 (9 * ρ 1) 14 = ρ 26 := zAllA hm 32
  have m33 : γ 3 10 (9 * ρ 1) 8 = ρ 27 := zAllA hm 33
  have m34 : γ 3 1 0 7 = ρ 28 := zAllA hm 34
  have m35 : γ 3 2 0 4 = ρ 8 := zAllA hm 35
  have m36 : γ 3 2 0 5 = ρ 29 := zAllA hm 36
  have m37 : γ 3 2 0 9 = ρ 30 := zAllA hm 37
  have m38 : γ 3 2 0 13 = ρ 31 := zAllA hm 38
  have m39 : γ 3 2 0 16 = ρ 32 := zAllA hm 39
  have m40 : γ 3 3 0 1 = ρ 33 := zAllA hm 40
  have m41 : γ 3 9 (ρ 1) 3 = 0 := zAllA hm 41
  have m42 : γ 3 10 (9 * ρ 1) 4 = ρ 34 := zAllA hm 42
  have m43 : γ 3 10 (9 * ρ 1) 5 = ρ 35 := zAllA hm 43
  have m44 : γ 3 10 (9 * ρ 1) 7 = ρ 36 := zAllA hm 44
  have m45 : γ 3 10 (9 * ρ 1) 9 = ρ 37 := zAllA hm 45
  have m46 : γ 3 10 (9 * ρ 1) 13 = ρ 38 := zAllA hm 46
  have m47 : γ 3 10 (9 * ρ 1) 15 = ρ 39 := zAllA hm 47
  have m48 : γ 4 2 0 6 = ρ 40 := zAllA hm 48
  have m49 : γ 4 2 0 4 = ρ 8 := zAllA hm 49
  have m50 : γ 5 2 0 6 = ρ 41 := zAllA hm 50
  have m51 : γ 5 2 0 4 = ρ 8 := zAllA hm 51
  have m52 : γ 6 2 0 3 = 0 := zAllA hm 52
  have m53 : γ 8 1 0 9 = ρ 43 := zAllA hm 53
  have c1 : ∀ (G : Nat) (k j : Int), ¬ rMdP m0_ G j → γ 1 G k j = γ 0 G k j := And.right (zChA hc 8)
  have c2 : ∀ (G : Nat) (k j : Int), ¬ rMdP m74_ G j → γ 2 G k j = γ 1 G k j := And.right (zChA hc 7)
  have c3 : ∀ (G : Nat) (k j : Int), ¬ rMdP m100_ G j → γ 3 G k j = γ 2 G k j := And.right (zChA hc 6)
  have c4 : ∀ (G : Nat) (k j : Int), ¬ rMdP m101_ G j → γ 4 G k j = γ 3 G k j := And.right (zChA hc 5)
  have c5 : ∀ (G : Nat) (k j : Int), ¬ rMdP m101_ G j → γ 5 G k j = γ 4 G k j := And.right (zChA hc 4)
  have c6 : ∀ (G : Nat) (k j : Int), ¬ rMdP m75_ G j → γ 6 G k j = γ 5 G k j := And.right (zChA hc 3)
  have c7 : ∀ (G : Nat) (k j : Int), ¬ rMdP m0_ G j → γ 7 G k j = γ 6 G k j := And.right (zChA hc 2)
  have c8 : ∀ (G : Nat) (k j : Int), ¬ rMdP m86_ G j → γ 8 G k j = γ 7 G k j := And.right (zChA hc 1)
  have c9 : ∀ (G : Nat) (k j : Int), ¬ rMdP m111_ G j → γ 9 G k j = γ 8 G k j := And.right (zChA hc 0)
  have l0 : sn131 [ρ 0, ρ 1] (γ 0) 0 (ρ 1) (γ 1) := hS131 _ _ _ _ _ (zAllA hl 0)
  have l1 : sn111 [1, ρ 9, ρ 3, ρ 5, ρ 11, ρ 12] (γ 1) 0 0 (γ 2) := hS111 _ _ _ _ _ (zAllA hl 1)
  have l2 : sn146 [ρ 0, ρ 1, ρ 2, 0, ρ 4, ρ 20, ρ 22, ρ 18, 1, ρ 6, ρ 8, 0, ρ 10, 0, 0, ρ 13, ρ 14, ρ 15, ρ 16, ρ 17, ρ 19, ρ 21, ρ 23] (γ 2) 0 1 (γ 3) := hS146 _ _ _ _ _ (zAllA hl 2)
  have l3 : sn148 [9 * ρ 1, ρ 24, ρ 4, ρ 8, ρ 35] (γ 3) 0 1 (γ 4) := hS148 _ _ _ _ _ (zAllA hl 3)
  have l4 : sn149 [ρ 40, ρ 4, ρ 8] (γ 4) 0 1 (γ 5) := hS149 _ _ _ _ _ (zAllA hl 4)
  have l5 : sn112 [ρ 4] (γ 5) 0 0 (γ 6) := hS112 _ _ _ _ _ (zAllA hl 5)
  have l6 : sn128 [9 * ρ 1, ρ 7, ρ 27] (γ 6) 0 (ρ 42) (γ 7) := hS128 _ _ _ _ _ (zAllA hl 6)
  have l7 : sn130 [ρ 42, ρ 7] (γ 7) 0 0 (γ 8) := hS130 _ _ _ _ _ (zAllA hl 7)
  have l8 : sn163 [] (γ 8) 0 0 (γ 9) := hS163 _ _ _ _ _ (zAllA hl 8)
  show sn167 [ρ 0, ρ 1, ρ 2, ρ 3, ρ 4, ρ 5, ρ 6, ρ 7, ρ 8, ρ 9, ρ 10, ρ 11, ρ 12, ρ 13, ρ 14, ρ 15, ρ 16, ρ 17, ρ 18, ρ 19, ρ 20, ρ 21, ρ 22, ρ 23] (γ 0) 0 1 (γ 9)
  refine Eq.symm ?_
  show fn167 [] (γ 0) = _
  unfold fn167
  refine zLE m0 (zLE m1 (zLE (show fn131 [ρ 0] (γ 0) = (0, ρ 1, γ 1) from l0.symm) (zLV (γ 1) rfl (zLE (show fn111 [1] (γ 1) = (0, 0, γ 2) from l1.symm) (zLV (γ 2) rfl (zLE (show fn146 [] (γ 2) = (0, 1, γ 3) from l2.symm) (zLV (γ 3) rfl ?_)))))))
  refine zIP (show (1 : Int) ≤ 1 by omega) (zIP (show 0 ≤ γ 3 10 (9 * ρ 1) 8 by omega) (zLE (show fn148 [9 * ρ 1] (γ 3) = (0, 1, γ 4) from l3.symm) (zLV (γ 4) rfl (zIP (show (1 : Int) ≤ 1 by omega) (zLE (show fn149 [] (γ 4) = (0, 1, γ 5) from l4.symm) (zLV (γ 5) rfl (zIP (show (1 : Int) ≤ 1 by omega) ?_)))))))
  refine zLE (show fn112 [] (γ 5) = (0, 0, γ 6) from l5.symm) (zLV (γ 6) rfl (zLE (show fn128 [9 * ρ 1] (γ 6) = (0, ρ 42, γ 7) from l6.symm) (zLV (γ 7) rfl (zLV (ρ 42) rfl (zIP (show ρ 42 ≥ 0 by omega) (zLE (show fn130 [ρ 42] (γ 7) = (0, 0, γ 8) from l7.symm) (zLV (γ 8) rfl ?_)))))))
  refine zLE (show fn163 [] (γ 8) = (0, 0, γ 9) from l8.symm) (zLV (γ 9) rfl ?_)
  rfl
theorem vn167_8 {S : Nat → zSpc} (hS111 : zIm S 111 sn111) (hS112 : zIm S 112 sn112) (hS128 : zIm S 128 sn128) (hS130 : zIm S 130 sn130) (hS131 : zIm S 131 sn131) (hS146 : zIm S 146 sn146) (hS148 : zIm S 148 sn148) (hS149 : zIm S 149 sn149) (hS163 : zIm S 163 sn163) {a : List Int} {g : rHp} : ∀ (ρ : Nat → Int) (γ : Nat → rHp), zO 24 S a g q167_8 ρ γ → zGl (fun _ _ _ => True) (sn167 a g) q167_8 ρ γ := by
  intro ρ γ h
  obtain ⟨ha, hg, hr, hf, hm, hc, hl⟩ := h
  have ha : a = [ρ 0, ρ 1, ρ 2, ρ 3, ρ 4, ρ 5, ρ 6, ρ 7, ρ 8, ρ 9, ρ 10, ρ 11, ρ 12, ρ 13, ρ 14, ρ 15, ρ 16, ρ 17, ρ 18, ρ 19, ρ 20, ρ 21, ρ 22, ρ 23] := ha
  subst ha
  subst hg
  have r0 : (0 : Int) ≤ ρ 0 ∧ ρ 0 ≤ 60 := zRnA hr 0
  have r1 : (0 : Int) ≤ ρ 1 ∧ ρ 1 ≤ 60 := zRnA hr 1
  have r2 : (0 : Int) ≤ ρ 2 ∧ ρ 2 ≤ 8 := zRnA hr 2
  have r3 : (0 : Int) ≤ ρ 3 ∧ ρ 3 ≤ 2001 := zRnA hr 3
  have r4 : (2 : Int) ≤ ρ 4 ∧ ρ 4 ≤ 2000 := zRnA hr 4
  have r5 : (0 : Int) ≤ ρ 5 ∧ ρ 5 ≤ 2 := zRnA hr 5
  have r6 : (0 : Int) ≤ ρ 6 ∧ ρ 6 ≤ 20 := zRnA hr 6
  have r7 : (0 : Int) ≤ ρ 7 ∧ ρ 7 ≤ 400 := zRnA hr 7
  have r8 : ((-2147483648) : Int) ≤ ρ 8 ∧ ρ 8 ≤ 2147483647 := zRnA hr 8
  have r9 : ((-2147483648) : Int) ≤ ρ 9 ∧ ρ 9 ≤ 2147483647 := zRnA hr 9
  have r10 : ((-2147483648) : Int) ≤ ρ 10 ∧ ρ 10 ≤ 2147483647 := zRnA hr 10
  have r11 : (0 : Int) ≤ ρ 11 ∧ ρ 11 ≤ 8 := zRnA hr 11
  have r12 : (0 : Int) ≤ ρ 12 ∧ ρ 12 ≤ 32 := zRnA hr 12
  have r13 : (0 : Int) ≤ ρ 13 ∧ ρ 13 ≤ 5120 := zRnA hr 13
  have r14 : (0 : Int) ≤ ρ 14 ∧ ρ 14 ≤ 8 := zRnA hr 14
  have r15 : (0 : Int) ≤ ρ 15 ∧ ρ 15 ≤ 8 := zRnA hr 15
  have r16 : (0 : Int) ≤ ρ 16 ∧ ρ 16 ≤ 4 := zRnA hr 16
  have r17 : ((-2147483648) : Int) ≤ ρ 17 ∧ ρ 17 ≤ 2147483647 := zRnA hr 17
  have r18 : ((-1) : Int) ≤ ρ 18 ∧ ρ 18 ≤ 19 := zRnA hr 18
  have r19 : ((-1) : Int) ≤ ρ 19 ∧ ρ 19 ≤ 3 := zRnA hr 19
  have r20 : (0 : Int) ≤ ρ 20 ∧ ρ 20 ≤ 4 := zRnA hr 20
  have r21 : (0 : Int) ≤ ρ 21 ∧ ρ 21 ≤ 3 := zRnA hr 21
  have r22 : ((-1) : Int) ≤ ρ 22 ∧ ρ 22 ≤ 7 := zRnA hr 22
  have r23 : ((-2147483648) : Int) ≤ ρ 23 ∧ ρ 23 ≤ 2147483647 := zRnA hr 23
  have r24 : (3 : Int) ≤ ρ 24 ∧ ρ 24 ≤ 2000 := zRnA hr 24
  have r25 : (0 : Int) ≤ ρ 25 ∧ ρ 25 ≤ 4 := zRnA hr 25
  have r26 : ((-1) : Int) ≤ ρ 26 ∧ ρ 26 ≤ 7 := zRnA hr 26
  have r27 : (0 : Int) ≤ ρ 27 ∧ ρ 27 ≤ 19 := zRnA hr 27
  have r28 : (1 : Int) ≤ ρ 28 ∧ ρ 28 ≤ 20 := zRnA hr 28
  have r29 : ((-2147483648) : Int) ≤ ρ 29 ∧ ρ 29 ≤ 2147483647 := zRnA hr 29
  have r30 : ((-2147483648) : Int) ≤ ρ 30 ∧ ρ 30 ≤ 2147483647 := zRnA hr 30
  have r31 : (0 : Int) ≤ ρ 31 ∧ ρ 31 ≤ 8 := zRnA hr 31
  have r32 : (0 : Int) ≤ ρ 32 ∧ ρ 32 ≤ 32 := zRnA hr 32
  have r33 : (0 : Int) ≤ ρ 33 ∧ ρ 33 ≤ 5120 := zRnA hr 33
  have r34 : (0 : Int) ≤ ρ 34 ∧ ρ 34 ≤ 0 := zRnA hr 34
  have r35 : (1 : Int) ≤ ρ 35 ∧ ρ 35 ≤ 4 := zRnA hr 35
  have r36 : (0 : Int) ≤ ρ 36 ∧ ρ 36 ≤ 1999 := zRnA hr 36
  have r37 : ((-1) : Int) ≤ ρ 37 ∧ ρ 37 ≤ 3 := zRnA hr 37
  have r38 : (0 : Int) ≤ ρ 38 ∧ ρ 38 ≤ 3 := zRnA hr 38
  have r39 : ((-2147483648) : Int) ≤ ρ 39 ∧ ρ 39 ≤ 2147483647 := zRnA hr 39
  have r40 : (1 : Int) ≤ ρ 40 ∧ ρ 40 ≤ 2000 := zRnA hr 40
  have r41 : (0 : Int) ≤ ρ 41 ∧ ρ 41 ≤ 2000 := zRnA hr 41
  have r42 : ((-1) : Int) ≤ ρ 42 ∧ ρ 42 ≤ (-1) := zRnA hr 42
  have f0 : (0 : Int) ≤ -ρ 42 + ρ 7 + (-1) := zAllA hf 0
  have f1 : (0 : Int) ≤ ρ 41 + -ρ 40 := zAllA hf 1
  have f2 : (0 : Int) ≤ ρ 41 + -ρ 4 := zAllA hf 2
  have f3 : (0 : Int) ≤ ρ 40 + -ρ 24 + (-1) := zAllA hf 3
  have f4 : (0 : Int) ≤ -ρ 40 + ρ 4 := zAllA hf 4
  have f5 : (0 : Int) ≤ -ρ 24 + ρ 4 + (-1) := zAllA hf 5
  have f6 : (0 : Int) ≤ -ρ 35 + ρ 24 + (-1) := zAllA hf 6
  have f7 : (0 : Int) ≤ -ρ 36 + ρ 24 + (-1) := zAllA hf 7
  have f8 : (0 : Int) ≤ -ρ 37 + ρ 24 + (-1) := zAllA hf 8
  have f9 : (0 : Int) ≤ ρ 28 + -ρ 27 + (-1) := zAllA hf 9
  have f10 : (0 : Int) ≤ ρ 28 + -ρ 6 := zAllA hf 10
  have f11 : (0 : Int) ≤ ρ 33 + -ρ 13 := zAllA hf 11
  have f12 : (0 : Int) ≤ -ρ 24 + ρ 4 := zAllA hf 12
  have f13 : (0 : Int) ≤ -ρ 38 + ρ 4 := zAllA hf 13
  have f14 : (0 : Int) ≤ -ρ 19 + ρ 4 := zAllA hf 14
  have f15 : (0 : Int) ≤ -ρ 21 + ρ 4 := zAllA hf 15
  have f16 : (0 : Int) ≤ -ρ 27 + ρ 6 := zAllA hf 16
  have f17 : (0 : Int) ≤ 3 * ρ 26 + -ρ 25 + 4 := zAllA hf 17
  have m0 : γ 0 1 0 10 = ρ 0 := zAllA hm 0
  have m1 : γ 0 40 0 (ρ 0) = ρ 1 := zAllA hm 1
  have m2 : γ 0 9 (ρ 1) 2 = ρ 2 := zAllA hm 2
  have m3 : γ 0 2 0 6 = ρ 3 := zAllA hm 3
  have m4 : γ 0 2 0 3 = ρ 4 := zAllA hm 4
  have m5 : γ 0 2 0 7 = ρ 5 := zAllA hm 5
  have m6 : γ 0 1 0 7 = ρ 6 := zAllA hm 6
  have m7 : γ 0 1 0 9 = ρ 7 := zAllA hm 7
  have m8 : γ 0 2 0 4 = ρ 8 := zAllA hm 8
  have m9 : γ 0 2 0 5 = ρ 9 := zAllA hm 9
  have m10 : γ 0 2 0 9 = ρ 10 := zAllA hm 10
  have m11 : γ 0 2 0 13 = ρ 11 := zAllA hm 11
  have m12 : γ 0 2 0 16 = ρ 12 := zAllA hm 12
  have m13 : γ 0 3 0 1 = ρ 13 := zAllA hm 13
  have m14 : γ 0 9 (ρ 1) 3 = ρ 14 := zAllA hm 14
  have m15 : γ 0 10 (9 * ρ 1) 4 = ρ 15 := zAllA hm 15
  have m16 : γ 0 10 (9 * ρ 1) 5 = ρ 16 := zAllA hm 16
  have m17 : γ 0 10 (9 * ρ 1) 7 = ρ 17 := zAllA hm 17
  have m18 : γ 0 10 (9 * ρ 1) 8 = ρ 18 := zAllA hm 18
  have m19 : γ 0 10 (9 * ρ 1) 9 = ρ 19 := zAllA hm 19
  have m20 : γ 0 10 (9 * ρ 1) 12 = ρ 20 := zAllA hm 20
  have m21 : γ 0 10 (9 * ρ 1) 13 = ρ 21 := zAllA hm 21
  have m22 : γ 0 10 (9 * ρ 1) 14 = ρ 22 := zAllA hm 22
  have m23 : γ 0 10 (9 * ρ 1) 15 = ρ 23 := zAllA hm 23
  have m24 : γ 2 2 0 5 = 0 := zAllA hm 24
  have m25 : γ 2 2 0 6 = 0 := zAllA hm 25
  have m26 : γ 2 2 0 7 = 1 := zAllA hm 26
  have m27 : γ 2 2 0 13 = 0 := zAllA hm 27
  have m28 : γ 2 2 0 16 = 0 := zAllA hm 28
  have m29 : γ 3 9 (ρ 1) 2 = 0 := zAllA hm 29
  have m30 : γ 3 2 0 6 = ρ 24 := zAllA hm 30
  have m31 : γ 3 10 (9 * ρ 1) 12 = ρ 25 := zAllA hm 31
  have m32 : γ 3 10 (9 * ρ 1) 14 = ρ 26 := zAllA hm 32
  have m33 : γ 3 10 (9 * ρ 1) 8 = ρ 27 := zAllA hm 33
  have m34 : γ 3 1 0 7 = ρ 28 := zAllA hm 34
  have m35 : γ 3 2 0 4 = ρ 8 := zAllA hm 35
  have m36 : γ 3 2 0 5 = ρ 29 := zAllA hm 36
  have m37 : γ 3 2 0 9 = ρ 30 := zAllA hm 37
  have m38 : γ 3 2 0 13 = ρ 31 := zAllA hm 38
  have m39 : γ 3 2 0 16 = ρ 32 := zAllA hm 39
  have m40 : γ 3 3 0 1 = ρ 33 := zAllA hm 40
  have m41 : γ 3 9 (ρ 1) 3 = 0 := zAllA hm 41
  have m42 : γ 3 10 (9 * ρ 1) 4 = ρ 34 := zAllA hm 42
  have m43 : γ 3 10 (9 * ρ 1) 5 = ρ 35 := zAllA hm 43
  have m44 : γ 3 10 (9 * ρ 1) 7 = ρ 36 := zAllA hm 44
  have m45 : γ 3 10 (9 * ρ 1) 9 = ρ 37 := zAllA hm 45
  have m46 : γ 3 10 (9 * ρ 1) 13 = ρ 38 := zAllA hm 46
  have m47 : γ 3 10 (9 * ρ 1) 15 = ρ 39 := zAllA hm 47
  have m48 : γ 4 2 0 6 = ρ 40 := zAllA hm 48
  have m49 : γ 4 2 0 4 = ρ 8 := zAllA hm 49
  have m50 : γ 5 2 0 6 = ρ 41 := zAllA hm 50
  have m51 : γ 5 2 0 4 = ρ 8 := zAllA hm 51
  have m52 : γ 6 2 0 3 = 0 := zAllA hm 52
  have c1 : ∀ (G : Nat) (k j : Int), ¬ rMdP m0_ G j → γ 1 G k j = γ 0 G k j := And.right (zChA hc 6)
  have c2 : ∀ (G : Nat) (k j : Int), ¬ rMdP m74_ G j → γ 2 G k j = γ 1 G k j := And.right (zChA hc 5)
  have c3 : ∀ (G : Nat) (k j : Int), ¬ rMdP m100_ G j → γ 3 G k j = γ 2 G k j := And.right (zChA hc 4)
  have c4 : ∀ (G : Nat) (k j : Int), ¬ rMdP m101_ G j → γ 4 G k j = γ 3 G k j := And.right (zChA hc 3)
  have c5 : ∀ (G : Nat) (k j : Int), ¬ rMdP m101_ G j → γ 5 G k j = γ 4 G k j := And.right (zChA hc 2)
  have c6 : ∀ (G : Nat) (k j : Int), ¬ rMdP m75_ G j → γ 6 G k j = γ 5 G k j := And.right (zChA hc 1)
  have c7 : ∀ (G : Nat) (k j : Int), ¬ rMdP m0_ G j → γ 7 G k j = γ 6 G k j := And.right (zChA hc 0)
  have l0 : sn131 [ρ 0, ρ 1] (γ 0) 0 (ρ 1) (γ 1) := hS131 _ _ _ _ _ (zAllA hl 0)
  have l1 : sn111 [1, ρ 9, ρ 3, ρ 5, ρ 11, ρ 12] (γ 1) 0 0 (γ 2) := hS111 _ _ _ _ _ (zAllA hl 1)
  have l2 : sn146 [ρ 0, ρ 1, ρ 2, 0, ρ 4, ρ 20, ρ 22, ρ 18, 1, ρ 6, ρ 8, 0, ρ 10, 0, 0, ρ 13, ρ 14, ρ 15, ρ 16, ρ 17, ρ 19, ρ 21, ρ 23] (γ 2) 0 1 (γ 3) := hS146 _ _ _ _ _ (zAllA hl 2)
  have l3 : sn148 [9 * ρ 1, ρ 24, ρ 4, ρ 8, ρ 35] (γ 3) 0 1 (γ 4) := hS148 _ _ _ _ _ (zAllA hl 3)
  have l4 : sn149 [ρ 40, ρ 4, ρ 8] (γ 4) 0 1 (γ 5) := hS149 _ _ _ _ _ (zAllA hl 4)
  have l5 : sn112 [ρ 4] (γ 5) 0 0 (γ 6) := hS112 _ _ _ _ _ (zAllA hl 5)
  have l6 : sn128 [9 * ρ 1, ρ 7, ρ 27] (γ 6) 0 (ρ 42) (γ 7) := hS128 _ _ _ _ _ (zAllA hl 6)
  show sn167 [ρ 0, ρ 1, ρ 2, ρ 3, ρ 4, ρ 5, ρ 6, ρ 7, ρ 8, ρ 9, ρ 10, ρ 11, ρ 12, ρ 13, ρ 14, ρ 15, ρ 16, ρ 17, ρ 18, ρ 19, ρ 20, ρ 21, ρ 22, ρ 23] (γ 0) 0 0 (γ 7)
  refine Eq.symm ?_
  show fn167 [] (γ 0) = _
  unfold fn167
  refine zLE m0 (zLE m1 (zLE (show fn131 [ρ 0] (γ 0) = (0, ρ 1, γ 1) from l0.symm) (zLV (γ 1) rfl (zLE (show fn111 [1] (γ 1) = (0, 0, γ 2) from l1.symm) (zLV (γ 2) rfl (zLE (show fn146 [] (γ 2) = (0, 1, γ 3) from l2.symm) (zLV (γ 3) rfl ?_)))))))
  refine zIP (show (1 : Int) ≤ 1 by omega) (zIP (show 0 ≤ γ 3 10 (9 * ρ 1) 8 by omega) (zLE (show fn148 [9 * ρ 1] (γ 3) = (0, 1, γ 4) from l3.symm) (zLV (γ 4) rfl (zIP (show (1 : Int) ≤ 1 by omega) (zLE (show fn149 [] (γ 4) = (0, 1, γ 5) from l4.symm) (zLV (γ 5) rfl (zIP (show (1 : Int) ≤ 1 by omega) ?_)))))))
  refine zLE (show fn112 [] (γ 5) = (0, 0, γ 6) from l5.symm) (zLV (γ 6) rfl (zLE (show fn128 [9 * ρ 1] (γ 6) = (0, ρ 42, γ 7) from l6.symm) (zLV (γ 7) rfl (zLV (ρ 42) rfl (zIN (show ¬ (ρ 42 ≥ 0) by omega) ?_)))))
  rfl
theorem yn167 {S : Nat → zSpc} (hS111 : zIm S 111 sn111) (hS112 : zIm S 112 sn112) (hS128 : zIm S 128 sn128) (hS130 : zIm S 130 sn130) (hS131 : zIm S 131 sn131) (hS146 : zIm S 146 sn146) (hS148 : zIm S 148 sn148) (hS149 : zIm S 149 sn149) (hS163 : zIm S 163 sn163) : ∀ x g o v gz, zSem uW uT w167_.2.2.2.1 w167_.2.2.1.1.length S q167 (fun i => q167a.getD i []) (zNA a167_) x g o v gz → sn167 x g o v gz := by
  intro a g o v gz h
  exact zSem_all (l0 := q167) (las := q167a) (S := S) (J := (fun _ _ _ => True)) (P := sn167 a g) (fun _ => (show zAll _ [q167_0, q167_1, q167_2, q167_3, q167_4, q167_5, q167_6, q167_7, q167_8] from (zAll_c (vn167_0 hS111 hS112 hS128 hS130 hS131 hS146 hS148 hS149 hS163) (zAll_c (vn167_1 hS111 hS112 hS128 hS130 hS131 hS146 hS148 hS149 hS163) (zAll_c (vn167_2 hS111 hS112 hS128 hS130 hS131 hS146 hS148 hS149 hS163) (zAll_c (vn167_3 hS111 hS112 hS128 hS130 hS131 hS146 hS148 hS149 hS163) (zAll_c (vn167_4 hS111 hS112 hS128 hS130 hS131 hS146 hS148 hS149 hS163) (zAll_c (vn167_5 hS111 hS112 hS128 hS130 hS131 hS146 hS148 hS149 hS163) (zAll_c (vn167_6 hS111 hS112 hS128 hS130 hS131 hS146 hS148 hS149 hS163) (zAll_c (vn167_7 hS111 hS112 hS128 hS130 hS131 hS146 hS148 hS149 hS163) (zAll_c (vn167_8 hS111 hS112 hS128 hS130 hS131 hS146 hS148 hS149 hS163) zAll_n))))))))))) (fun _ => (show zAllI _ 0 [] from trivial)) h
theorem vn169_0 {S : Nat → zSpc} (hS163 : zIm S 163 sn163) (hS168 : zIm S 168 sn168) {a : List Int} {g : rHp} : ∀ (ρ : Nat → Int) (γ : Nat → rHp), zO 3 S a g q169_0 ρ γ → zGl (fun _ _ _ => True) (sn169 a g) q169_0 ρ γ := by
  intro ρ γ h
  obtain ⟨ha, hg, hr, hf, hm, hc, hl⟩ := h
  have ha : a = [ρ 0, ρ 1, ρ 2] := ha
  subst ha
  subst hg
  have r0 : ((-2147483648) : Int) ≤ ρ 0 ∧ ρ 0 ≤ (-1) := zRnA hr 0
  have w_0 : ρ 0 < 0 := by omega
  have m0 : γ 0 1 0 10 = ρ 1 := zAllA hm 0
  show sn169 [ρ 0, ρ 1, ρ 2] (γ 0) 1 0 (γ 0)
  refine Eq.symm ?_
  show fn169 [ρ 0] (γ 0) = _
  unfold fn169
  refine zLV (ρ 0) rfl (zLE m0 (zIP w_0 ?_))
  rfl
theorem vn169_1 {S : Nat → zSpc} (hS163 : zIm S 163 sn163) (hS168 : zIm S 168 sn168) {a : List Int} {g : rHp} : ∀ (ρ : Nat → Int) (γ : Nat → rHp), zO 3 S a g q169_1 ρ γ → zGl (fun _ _ _ => True) (sn169 a g) q169_1 ρ γ := by
  intro ρ γ h
  obtain ⟨ha, hg, hr, hf, hm, hc, hl⟩ := h
  have ha : a = [ρ 0, ρ 1, ρ 2] := ha
  subst ha
  subst hg
  have r0 : (0 : Int) ≤ ρ 0 ∧ ρ 0 ≤ 2147483647 := zRnA hr 0
  have f0 : (0 : Int) ≤ ρ 1 + -ρ 0 + (-1) := zAllA hf 0
  obtain ⟨w_0, w_1⟩ : (¬ (ρ 0 < 0)) ∧ (ρ 0 < ρ 1) := ⟨by omega, by omega⟩
  have m0 : γ 0 1 0 10 = ρ 1 := zAllA hm 0
  have l0 : sn168 [ρ 0, ρ 1, ρ 3] (γ 0) 0 0 (γ 1) := hS168 _ _ _ _ _ (zAllA hl 0)
  have l1 : sn163 [] (γ 1) 0 0 (γ 2) := hS163 _ _ _ _ _ (zAllA hl 1)
  show sn169 [ρ 0, ρ 1, ρ 2] (γ 0) 0 (ρ 1 + (-1)) (γ 2)
  refine Eq.symm ?_
  show fn169 [ρ 0] (γ 0) = _
  unfold fn169
  refine zLV (ρ 0) rfl (zLE m0 (zIN w_0 (zIP w_1 (zLE (show fn168 [ρ 0] (γ 0) = (0, 0, γ 1) from l0.symm) (zLV (γ 1) rfl (zLE (show fn163 [] (γ 1) = (0, 0, γ 2) from l1.symm) (zLV (γ 2) rfl ?_)))))))
  rfl
theorem vn169_2 {S : Nat → zSpc} (hS163 : zIm S 163 sn163) (hS168 : zIm S 168 sn168) {a : List Int} {g : rHp} : ∀ (ρ : Nat → Int) (γ : Nat → rHp), zO 3 S a g q169_2 ρ γ → zGl (fun _ _ _ => True) (sn169 a g) q169_2 ρ γ := by
  intro ρ γ h
  obtain ⟨ha, hg, hr, hf, hm, hc, hl⟩ := h
  have ha : a = [ρ 0, ρ 1, ρ 2] := ha
  subst ha
  subst hg
  have r0 : (0 : Int) ≤ ρ 0 ∧ ρ 0 ≤ 2147483647 := zRnA hr 0
  have f0 : (0 : Int) ≤ -ρ 1 + ρ 0 := zAllA hf 0
  obtain ⟨w_0, w_1⟩ : (¬ (ρ 0 < 0)) ∧ (¬ (ρ 0 < ρ 1)) := ⟨by omega, by omega⟩
  have m0 : γ 0 1 0 10 = ρ 1 := zAllA hm 0
  show sn169 [ρ 0, ρ 1, ρ 2] (γ 0) 1 0 (γ 0)
  refine Eq.symm ?_
  show fn169 [ρ 0] (γ 0) = _
  unfold fn169
  refine zLV (ρ 0) rfl (zLE m0 (zIN w_0 (zIN w_1 ?_)))
  rfl
theorem yn169 {S : Nat → zSpc} (hS163 : zIm S 163 sn163) (hS168 : zIm S 168 sn168) : ∀ x g o v gz, zSem uW uT w169_.2.2.2.1 w169_.2.2.1.1.length S q169 (fun i => q169a.getD i []) (zNA a169_) x g o v gz → sn169 x g o v gz := by
  intro a g o v gz h
  exact zSem_all (l0 := q169) (las := q169a) (S := S) (J := (fun _ _ _ => True)) (P := sn169 a g) (fun _ => (show zAll _ [q169_0, q169_1, q169_2] from (zAll_c (vn169_0 hS163 hS168) (zAll_c (vn169_1 hS163 hS168) (zAll_c (vn169_2 hS163 hS168) zAll_n))))) (fun _ => (show zAllI _ 0 [] from trivial)) h
theorem vn221_0 {S : Nat → zSpc} (hS111 : zIm S 111 sn111) (hS112 : zIm S 112 sn112) (hS131 : zIm S 131 sn131) (hS146 : zIm S 146 sn146) (hS147 : zIm S 147 sn147) (hS149 : zIm S 149 sn149) (hS206 : zIm S 206 sn206) {a : List Int} {g : rHp} : ∀ (ρ : Nat → Int) (γ : Nat → rHp), zO 23 S a g q221_0 ρ γ → zGl (fun i vs g1 => jn221 a g i vs g1) (sn221 a g) q221_0 ρ γ := by
  intro ρ γ h
  obtain ⟨ha, hg, hr, hf, hm, hc, hl⟩ := h
  have ha : a = [ρ 0, ρ 1, ρ 2, ρ 3, ρ 4, ρ 5, ρ 6, ρ 7, ρ 8, ρ 9, ρ 10, ρ 11, ρ 12, ρ 13, ρ 14, ρ 15, ρ 16, ρ 17, ρ 18, ρ 19, ρ 20, ρ 21, ρ 22] := ha
  subst ha
  subst hg
  have r23 : (1 : Int) ≤ ρ 23 ∧ ρ 23 ≤ 1 := zRnA hr 23
  have w_0 : ρ 23 ≠ 0 := by omega
  have m0 : γ 0 1 0 10 = ρ 0 := zAllA hm 0
  have m1 : γ 0 40 0 (ρ 0) = ρ 1 := zAllA hm 1
  have m23 : γ 0 0 0 7 = ρ 23 := zAllA hm 23
  have m35 : γ 3 2 0 4 = ρ 29 := zAllA hm 35
  have l0 : sn131 [ρ 0, ρ 1] (γ 0) 0 (ρ 1) (γ 1) := hS131 _ _ _ _ _ (zAllA hl 0)
  have l1 : sn111 [1, ρ 8, ρ 3, ρ 5, ρ 10, ρ 11] (γ 1) 0 0 (γ 2) := hS111 _ _ _ _ _ (zAllA hl 1)
  have l2 : sn146 [ρ 0, ρ 1, ρ 2, 0, ρ 4, ρ 19, ρ 21, ρ 17, 1, ρ 6, ρ 7, 0, ρ 9, 0, 0, ρ 12, ρ 13, ρ 14, ρ 15, ρ 16, ρ 18, ρ 20, ρ 22] (γ 2) 0 0 (γ 3) := hS146 _ _ _ _ _ (zAllA hl 2)
  have l3 : sn112 [ρ 4] (γ 3) 0 0 (γ 4) := hS112 _ _ _ _ _ (zAllA hl 3)
  have l4 : zOpP (.isub) (γ 0) (γ 1) [(-2), ρ 29] (ρ 41) := zAllA hl 4
  show sn221 [ρ 0, ρ 1, ρ 2, ρ 3, ρ 4, ρ 5, ρ 6, ρ 7, ρ 8, ρ 9, ρ 10, ρ 11, ρ 12, ρ 13, ρ 14, ρ 15, ρ 16, ρ 17, ρ 18, ρ 19, ρ 20, ρ 21, ρ 22] (γ 0) 0 (ρ 41) (γ 4)
  have hD : dn221 [] (γ 0) = .inr (0, ρ 41, γ 4) := by
    unfold dn221
    refine zLE m0 (zLE m1 (zLE m23 (zIP w_0 (zLE (show fn131 [ρ 0] (γ 0) = (0, ρ 1, γ 1) from l0.symm) (zLV (γ 1) rfl (zLE (show fn111 [1] (γ 1) = (0, 0, γ 2) from l1.symm) (zLV (γ 2) rfl ?_)))))))
    refine zLE (show fn146 [] (γ 2) = (0, 0, γ 3) from l2.symm) (zLV (γ 3) rfl (zIN zQ0_ (zLE m35 (zLE (show fn112 [] (γ 3) = (0, 0, γ 4) from l3.symm) (zLV (γ 4) rfl (zLE (zF2_ok l4) ?_))))))
    rfl
  exact zGoo_end hD
theorem vn221_1 {S : Nat → zSpc} (hS111 : zIm S 111 sn111) (hS112 : zIm S 112 sn112) (hS131 : zIm S 131 sn131) (hS146 : zIm S 146 sn146) (hS147 : zIm S 147 sn147) (hS149 : zIm S 149 sn149) (hS206 : zIm S 206 sn206) {a : List Int} {g : rHp} : ∀ (ρ : Nat → Int) (γ : Nat → rHp), zO 23 S a g q221_1 ρ γ → zGl (fun i vs g1 => jn221 a g i vs g1) (sn221 a g) q221_1 ρ γ := by
  intro ρ γ h
  obtain ⟨ha, hg, hr, hf, hm, hc, hl⟩ := h
  have ha : a = [ρ 0, ρ 1, ρ 2, ρ 3, ρ 4, ρ 5, ρ 6, ρ 7, ρ 8, ρ 9, ρ 10, ρ 11, ρ 12, ρ 13, ρ 14, ρ 15, ρ 16, ρ 17, ρ 18, ρ 19, ρ 20, ρ 21, ρ 22] := ha
  subst ha
  subst hg
  have r0 : (0 : Int) ≤ ρ 0 ∧ ρ 0 ≤ 60 := zRnA hr 0
  have r1 : (0 : Int) ≤ ρ 1 ∧ ρ 1 ≤ 60 := zRnA hr 1
  have r2 : (0 : Int) ≤ ρ 2 ∧ ρ 2 ≤ 8 := zRnA hr 2
  have r3 : (0 : Int) ≤ ρ 3 ∧ ρ 3 ≤ 2001 := zRnA hr 3
  have r4 : (2 : Int) ≤ ρ 4 ∧ ρ 4 ≤ 2000 := zRnA hr 4
  have r5 : (0 : Int) ≤ ρ 5 ∧ ρ 5 ≤ 2 := zRnA hr 5
  have r6 : (0 : Int) ≤ ρ 6 ∧ ρ 6 ≤ 20 := zRnA hr 6
  have r7 : ((-2147483648) : Int) ≤ ρ 7 ∧ ρ 7 ≤ 2147483647 := zRnA hr 7
  have r8 : ((-2147483648) : Int) ≤ ρ 8 ∧ ρ 8 ≤ 2147483647 := zRnA hr 8
  have r9 : ((-2147483648) : Int) ≤ ρ 9 ∧ ρ 9 ≤ 2147483647 := zRnA hr 9
  have r10 : (0 : Int) ≤ ρ 10 ∧ ρ 10 ≤ 8 := zRnA hr 10
  have r11 : (0 : Int) ≤ ρ 11 ∧ ρ 11 ≤ 32 := zRnA hr 11
  have r12 : (0 : Int) ≤ ρ 12 ∧ ρ 12 ≤ 5120 := zRnA hr 12
  have r13 : (0 : Int) ≤ ρ 13 ∧ ρ 13 ≤ 8 := zRnA hr 13
  have r14 : (0 : Int) ≤ ρ 14 ∧ ρ 14 ≤ 8 := zRnA hr 14
  have r15 : (0 : Int) ≤ ρ 15 ∧ ρ 15 ≤ 4 := zRnA hr 15
  have r16 : ((-2147483648) : Int) ≤ ρ 16 ∧ ρ 16 ≤ 2147483647 := zRnA hr 16
  have r17 : ((-1) : Int) ≤ ρ 17 ∧ ρ 17 ≤ 19 := zRnA hr 17
  have r18 : ((-1) : Int) ≤ ρ 18 ∧ ρ 18 ≤ 3 := zRnA hr 18
  have r19 : (0 : Int) ≤ ρ 19 ∧ ρ 19 ≤ 4 := zRnA hr 19
  have r20 : (0 : Int) ≤ ρ 20 ∧ ρ 20 ≤ 3 := zRnA hr 20
  have r21 : ((-1) : Int) ≤ ρ 21 ∧ ρ 21 ≤ 7 := zRnA hr 21
  have r22 : ((-2147483648) : Int) ≤ ρ 22 ∧ ρ 22 ≤ 2147483647 := zRnA hr 22
  have r23 : (1 : Int) ≤ ρ 23 ∧ ρ 23 ≤ 1 := zRnA hr 23
  have r24 : (3 : Int) ≤ ρ 24 ∧ ρ 24 ≤ 2000 := zRnA hr 24
  have r25 : (0 : Int) ≤ ρ 25 ∧ ρ 25 ≤ 4 := zRnA hr 25
  have r26 : ((-1) : Int) ≤ ρ 26 ∧ ρ 26 ≤ 7 := zRnA hr 26
  have r27 : ((-1) : Int) ≤ ρ 27 ∧ ρ 27 ≤ (-1) := zRnA hr 27
  have r28 : ((-2147483648) : Int) ≤ ρ 28 ∧ ρ 28 ≤ 2147483647 := zRnA hr 28
  have r29 : ((-2147483648) : Int) ≤ ρ 29 ∧ ρ 29 ≤ 2147483647 := zRnA hr 29
  have r30 : (0 : Int) ≤ ρ 30 ∧ ρ 30 ≤ 8 := zRnA hr 30
  have r31 : (0 : Int) ≤ ρ 31 ∧ ρ 31 ≤ 32 := zRnA hr 31
  have r32 : (0 : Int) ≤ ρ 32 ∧ ρ 32 ≤ 5120 := zRnA hr 32
  have r33 : (0 : Int) ≤ ρ 33 ∧ ρ 33 ≤ 0 := zRnA hr 33
  have r34 : (1 : Int) ≤ ρ 34 ∧ ρ 34 ≤ 4 := zRnA hr 34
  have r35 : (0 : Int) ≤ ρ 35 ∧ ρ 35 ≤ 1999 := zRnA hr 35
  have r36 : ((-1) : Int) ≤ ρ 36 ∧ ρ 36 ≤ 3 := zRnA hr 36
  have r37 : (0 : Int) ≤ ρ 37 ∧ ρ 37 ≤ 3 := zRnA hr 37
  have r38 : ((-2147483648) : Int) ≤ ρ 38 ∧ ρ 38 ≤ 2147483647 := zRnA hr 38
  have r39 : ((-2147483648) : Int) ≤ ρ 39 ∧ ρ 39 ≤ 2147483647 := zRnA hr 39
  have r40 : ((-2147483648) : Int) ≤ ρ 40 ∧ ρ 40 ≤ 2147483647 := zRnA hr 40
  have f0 : (0 : Int) ≤ -ρ 34 + ρ 24 + (-1) := zAllA hf 0
  have f1 : (0 : Int) ≤ -ρ 35 + ρ 24 + (-1) := zAllA hf 1
  have f2 : (0 : Int) ≤ -ρ 36 + ρ 24 + (-1) := zAllA hf 2
  have f3 : (0 : Int) ≤ ρ 32 + -ρ 12 := zAllA hf 3
  have f4 : (0 : Int) ≤ -ρ 24 + ρ 4 := zAllA hf 4
  have f5 : (0 : Int) ≤ -ρ 37 + ρ 4 := zAllA hf 5
  have f6 : (0 : Int) ≤ -ρ 18 + ρ 4 := zAllA hf 6
  have f7 : (0 : Int) ≤ -ρ 20 + ρ 4 := zAllA hf 7
  have f8 : (0 : Int) ≤ 3 * ρ 26 + -ρ 25 + 4 := zAllA hf 8
  have m0 : γ 0 1 0 10 = ρ 0 := zAllA hm 0
  have m1 : γ 0 40 0 (ρ 0) = ρ 1 := zAllA hm 1
  have m2 : γ 0 9 (ρ 1) 2 = ρ 2 := zAllA hm 2
  have m3 : γ 0 2 0 6 = ρ 3 := zAllA hm 3
  have m4 : γ 0 2 0 3 = ρ 4 := zAllA hm 4
  have m5 : γ 0 2 0 7 = ρ 5 := zAllA hm 5
  have m6 : γ 0 1 0 7 = ρ 6 := zAllA hm 6
  have m7 : γ 0 2 0 4 = ρ 7 := zAllA hm 7
  have m8 : γ 0 2 0 5 = ρ 8 := zAllA hm 8
  have m9 : γ 0 2 0 9 = ρ 9 := zAllA hm 9
  have m10 : γ 0 2 0 13 = ρ 10 := zAllA hm 10
  have m11 : γ 0 2 0 16 = ρ 11 := zAllA hm 11
  have m12 : γ 0 3 0 1 = ρ 12 := zAllA hm 12
  have m13 : γ 0 9 (ρ 1) 3 = ρ 13 := zAllA hm 13
  have m14 : γ 0 10 (9 * ρ 1) 4 = ρ 14 := zAllA hm 14
  have m15 : γ 0 10 (9 * ρ 1) 5 = ρ 15 := zAllA hm 15
  have m16 : γ 0 10 (9 * ρ 1) 7 = ρ 16 := zAllA hm 16
  have m17 : γ 0 10 (9 * ρ 1) 8 = ρ 17 := zAllA hm 17
  have m18 : γ 0 10 (9 * ρ 1) 9 = ρ 18 := zAllA hm 18
  have m19 : γ 0 10 (9 * ρ 1) 12 = ρ 19 := zAllA hm 19
  have m20 : γ 0 10 (9 * ρ 1) 13 = ρ 20 := zAllA hm 20
  have m21 : γ 0 10 (9 * ρ 1) 14 = ρ 21 := zAllA hm 21
  have m22 : γ 0 10 (9 * ρ 1) 15 = ρ 22 := zAllA hm 22
  have m23 : γ 0 0 0 7 = ρ 23 := zAllA hm 23
  have m24 : γ 2 2 0 5 = 0 := zAllA hm 24
  have m25 : γ 2 2 0 6 = 0 := zAllA hm 25
  have m26 : γ 2 2 0 7 = 1 := zAllA hm 26
  have m27 : γ 2 2 0 13 = 0 := zAllA hm 27
  have m28 : γ 2 2 0 16 = 0 := zAllA hm 28
  have m29 : γ 3 9 (ρ 1) 2 = 0 := zAllA hm 29
  have m30 : γ 3 2 0 6 = ρ 24 := zAllA hm 30
  have m31 : γ 3 10 (9 * ρ 1) 12 = ρ 25 := zAllA hm 31
  have m32 : γ 3 10 (9 * ρ 1) 14 = ρ 26 := zAllA hm 32
  have m33 : γ 3 10 (9 * ρ 1) 8 = ρ 27 := zAllA hm 33
  have m34 : γ 3 1 0 7 = ρ 6 := zAllA hm 34
  have m35 : γ 3 2 0 4 = ρ 7 := zAllA hm 35
  have m36 : γ 3 2 0 5 = ρ 28 := zAllA hm 36
  have m37 : γ 3 2 0 9 = ρ 29 := zAllA hm 37
  have m38 : γ 3 2 0 13 = ρ 30 := zAllA hm 38
  have m39 : γ 3 2 0 16 = ρ 31 := zAllA hm 39
  have m40 : γ 3 3 0 1 = ρ 32 := zAllA hm 40
  have m41 : γ 3 9 (ρ 1) 3 = 0 := zAllA hm 41
  have m42 : γ 3 10 (9 * ρ 1) 4 = ρ 33 := zAllA hm 42
  have m43 : γ 3 10 (9 * ρ 1) 5 = ρ 34 := zAllA hm 43
  have m44 : γ 3 10 (9 * ρ 1) 7 = ρ 35 := zAllA hm 44
  have m45 : γ 3 10 (9 * ρ 1) 9 = ρ 36 := zAllA hm 45
  have m46 : γ 3 10 (9 * ρ 1) 13 = ρ 37 := zAllA hm 46
  have m47 : γ 3 10 (9 * ρ 1) 15 = ρ 38 := zAllA hm 47
  have m48 : γ 4 2 0 4 = ρ 39 := zAllA hm 48
  have m49 : γ 5 2 0 3 = 0 := zAllA hm 49
  have c1 : ∀ (G : Nat) (k j : Int), ¬ rMdP m0_ G j → γ 1 G k j = γ 0 G k j := And.right (zChA hc 4)
  have c2 : ∀ (G : Nat) (k j : Int), ¬ rMdP m74_ G j → γ 2 G k j = γ 1 G k j := And.right (zChA hc 3)
  have c3 : ∀ (G : Nat) (k j : Int), ¬ rMdP m100_ G j → γ 3 G k j = γ 2 G k j := And.right (zChA hc 2)
  have c4 : ∀ (G : Nat) (k j : Int), ¬ rMdP m72_ G j → γ 4 G k j = γ 3 G k j := And.right (zChA hc 1)
  have c5 : ∀ (G : Nat) (k j : Int), ¬ rMdP m75_ G j → γ 5 G k j = γ 4 G k j := And.right (zChA hc 0)
  have l0 : sn131 [ρ 0, ρ 1] (γ 0) 0 (ρ 1) (γ 1) := hS131 _ _ _ _ _ (zAllA hl 0)
  have l1 : sn111 [1, ρ 8, ρ 3, ρ 5, ρ 10, ρ 11] (γ 1) 0 0 (γ 2) := hS111 _ _ _ _ _ (zAllA hl 1)
  have l2 : sn146 [ρ 0, ρ 1, ρ 2, 0, ρ 4, ρ 19, ρ 21, ρ 17, 1, ρ 6, ρ 7, 0, ρ 9, 0, 0, ρ 12, ρ 13, ρ 14, ρ 15, ρ 16, ρ 18, ρ 20, ρ 22] (γ 2) 0 1 (γ 3) := hS146 _ _ _ _ _ (zAllA hl 2)
  have l3 : sn147 [9 * ρ 1, ρ 7, ρ 34] (γ 3) 0 0 (γ 4) := hS147 _ _ _ _ _ (zAllA hl 3)
  have l4 : sn112 [ρ 4] (γ 4) 0 0 (γ 5) := hS112 _ _ _ _ _ (zAllA hl 4)
  have l5 : zOpP (.isub) (γ 0) (γ 1) [(-2), ρ 39] (ρ 40) := zAllA hl 5
  show sn221 [ρ 0, ρ 1, ρ 2, ρ 3, ρ 4, ρ 5, ρ 6, ρ 7, ρ 8, ρ 9, ρ 10, ρ 11, ρ 12, ρ 13, ρ 14, ρ 15, ρ 16, ρ 17, ρ 18, ρ 19, ρ 20, ρ 21, ρ 22] (γ 0) 0 (ρ 40) (γ 5)
  have hD : dn221 [] (γ 0) = .inr (0, ρ 40, γ 5) := by
    unfold dn221
    refine zLE m0 (zLE m1 (zLE m23 (zIP (show ρ 23 ≠ 0 by omega) (zLE (show fn131 [ρ 0] (γ 0) = (0, ρ 1, γ 1) from l0.symm) (zLV (γ 1) rfl (zLE (show fn111 [1] (γ 1) = (0, 0, γ 2) from l1.symm) (zLV (γ 2) rfl ?_)))))))
    refine zLE (show fn146 [] (γ 2) = (0, 1, γ 3) from l2.symm) (zLV (γ 3) rfl (zIP (show (1 : Int) ≤ 1 by omega) (zIN (show ¬ (0 ≤ γ 3 10 (9 * ρ 1) 8) by omega) (zLE (show fn147 [9 * ρ 1] (γ 3) = (0, 0, γ 4) from l3.symm) (zLV (γ 4) rfl (zIN (show ¬ ((1 : Int) ≤ 0) by omega) (zLE m48 ?_)))))))
    refine zLE (show fn112 [] (γ 4) = (0, 0, γ 5) from l4.symm) (zLV (γ 5) rfl (zLE (zF2_ok l5) ?_))
    rfl
  exact zGoo_end hD
theorem vn221_2 {S : Nat → zSpc} (hS111 : zIm S 111 sn111) (hS112 : zIm S 112 sn112) (hS131 : zIm S 131 sn131) (hS146 : zIm S 146 sn146) (hS147 : zIm S 147 sn147) (hS149 : zIm S 149 sn149) (hS206 : zIm S 206 sn206) {a : List Int} {g : rHp} : ∀ (ρ : Nat → Int) (γ : Nat → rHp), zO 23 S a g q221_2 ρ γ → zGl (fun i vs g1 => jn221 a g i vs g1) (sn221 a g) q221_2 ρ γ := by
  intro ρ γ h
  obtain ⟨ha, hg, hr, hf, hm, hc, hl⟩ := h
  have ha : a = [ρ 0, ρ 1, ρ 2, ρ 3, ρ 4, ρ 5, ρ 6, ρ 7, ρ 8, ρ 9, ρ 10, ρ 11, ρ 12, ρ 13, ρ 14, ρ 15, ρ 16, ρ 17, ρ 18, ρ 19, ρ 20, ρ 21, ρ 22] := ha
  subst ha
  subst hg
  have r0 : (0 : Int) ≤ ρ 0 ∧ ρ 0 ≤ 60 := zRnA hr 0
  have r1 : (0 : Int) ≤ ρ 1 ∧ ρ 1 ≤ 60 := zRnA hr 1
  have r2 : (0 : Int) ≤ ρ 2 ∧ ρ 2 ≤ 8 := zRnA hr 2
  have r3 : (0 : Int) ≤ ρ 3 ∧ ρ 3 ≤ 2001 := zRnA hr 3
  have r4 : (2 : Int) ≤ ρ 4 ∧ ρ 4 ≤ 2000 := zRnA hr 4
  have r5 : (0 : Int) ≤ ρ 5 ∧ ρ 5 ≤ 2 := zRnA hr 5
  have r6 : (0 : Int) ≤ ρ 6 ∧ ρ 6 ≤ 20 := zRnA hr 6
  have r7 : ((-2147483648) : Int) ≤ ρ 7 ∧ ρ 7 ≤ 2147483647 := zRnA hr 7
  have r8 : ((-2147483648) : Int) ≤ ρ 8 ∧ ρ 8 ≤ 2147483647 := zRnA hr 8
  have r9 : ((-2147483648) : Int) ≤ ρ 9 ∧ ρ 9 ≤ 2147483647 := zRnA hr 9
  have r10 : (0 : Int) ≤ ρ 10 ∧ ρ 10 ≤ 8 := zRnA hr 10
  have r11 : (0 : Int) ≤ ρ 11 ∧ ρ 11 ≤ 32 := zRnA hr 11
  have r12 : (0 : Int) ≤ ρ 12 ∧ ρ 12 ≤ 5120 := zRnA hr 12
  have r13 : (0 : Int) ≤ ρ 13 ∧ ρ 13 ≤ 8 := zRnA hr 13
  have r14 : (0 : Int) ≤ ρ 14 ∧ ρ 14 ≤ 8 := zRnA hr 14
  have r15 : (0 : Int) ≤ ρ 15 ∧ ρ 15 ≤ 4 := zRnA hr 15
  have r16 : ((-2147483648) : Int) ≤ ρ 16 ∧ ρ 16 ≤ 2147483647 := zRnA hr 16
  have r17 : ((-1) : Int) ≤ ρ 17 ∧ ρ 17 ≤ 19 := zRnA hr 17
  have r18 : ((-1) : Int) ≤ ρ 18 ∧ ρ 18 ≤ 3 := zRnA hr 18
  have r19 : (0 : Int) ≤ ρ 19 ∧ ρ 19 ≤ 4 := zRnA hr 19
  have r20 : (0 : Int) ≤ ρ 20 ∧ ρ 20 ≤ 3 := zRnA hr 20
  have r21 : ((-1) : Int) ≤ ρ 21 ∧ ρ 21 ≤ 7 := zRnA hr 21
  have r22 : ((-2147483648) : Int) ≤ ρ 22 ∧ ρ 22 ≤ 2147483647 := zRnA hr 22
  have r23 : (1 : Int) ≤ ρ 23 ∧ ρ 23 ≤ 1 := zRnA hr 23
  have r24 : (3 : Int) ≤ ρ 24 ∧ ρ 24 ≤ 2000 := zRnA hr 24
  have r25 : (0 : Int) ≤ ρ 25 ∧ ρ 25 ≤ 4 := zRnA hr 25
  have r26 : ((-1) : Int) ≤ ρ 26 ∧ ρ 26 ≤ 7 := zRnA hr 26
  have r27 : ((-1) : Int) ≤ ρ 27 ∧ ρ 27 ≤ (-1) := zRnA hr 27
  have r28 : ((-2147483648) : Int) ≤ ρ 28 ∧ ρ 28 ≤ 2147483647 := zRnA hr 28
  have r29 : ((-2147483648) : Int) ≤ ρ 29 ∧ ρ 29 ≤ 2147483647 := zRnA hr 29
  have r30 : (0 : Int) ≤ ρ 30 ∧ ρ 30 ≤ 8 := zRnA hr 30
  have r31 : (0 : Int) ≤ ρ 31 ∧ ρ 31 ≤ 32 := zRnA hr 31
  have r32 : (0 : Int) ≤ ρ 32 ∧ ρ 32 ≤ 5120 := zRnA hr 32
  have r33 : (0 : Int) ≤ ρ 33 ∧ ρ 33 ≤ 0 := zRnA hr 33
  have r34 : (1 : Int) ≤ ρ 34 ∧ ρ 34 ≤ 4 := zRnA hr 34
  have r35 : (0 : Int) ≤ ρ 35 ∧ ρ 35 ≤ 1999 := zRnA hr 35
  have r36 : ((-1) : Int) ≤ ρ 36 ∧ ρ 36 ≤ 3 := zRnA hr 36
  have r37 : (0 : Int) ≤ ρ 37 ∧ ρ 37 ≤ 3 := zRnA hr 37
  have r38 : ((-2147483648) : Int) ≤ ρ 38 ∧ ρ 38 ≤ 2147483647 := zRnA hr 38
  have r39 : (0 : Int) ≤ ρ 39 ∧ ρ 39 ≤ 2000 := zRnA hr 39
  have r40 : (0 : Int) ≤ ρ 40 ∧ ρ 40 ≤ 2000 := zRnA hr 40
  have f0 : (0 : Int) ≤ -ρ 40 + ρ 39 := zAllA hf 0
  have f1 : (0 : Int) ≤ ρ 39 + -ρ 24 := zAllA hf 1
  have f2 : (0 : Int) ≤ ρ 40 + -ρ 39 := zAllA hf 2
  have f3 : (0 : Int) ≤ -ρ 39 + ρ 4 + (-1) := zAllA hf 3
  have f4 : (0 : Int) ≤ -ρ 24 + ρ 4 + (-1) := zAllA hf 4
  have f5 : (0 : Int) ≤ -ρ 34 + ρ 24 + (-1) := zAllA hf 5
  have f6 : (0 : Int) ≤ -ρ 35 + ρ 24 + (-1) := zAllA hf 6
  have f7 : (0 : Int) ≤ -ρ 36 + ρ 24 + (-1) := zAllA hf 7
  have f8 : (0 : Int) ≤ ρ 32 + -ρ 12 := zAllA hf 8
  have f9 : (0 : Int) ≤ -ρ 24 + ρ 4 := zAllA hf 9
  have f10 : (0 : Int) ≤ -ρ 37 + ρ 4 := zAllA hf 10
  have f11 : (0 : Int) ≤ -ρ 18 + ρ 4 := zAllA hf 11
  have f12 : (0 : Int) ≤ -ρ 20 + ρ 4 := zAllA hf 12
  have f13 : (0 : Int) ≤ 3 * ρ 26 + -ρ 25 + 4 := zAllA hf 13
  have m0 : γ 0 1 0 10 = ρ 0 := zAllA hm 0
  have m1 : γ 0 40 0 (ρ 0) = ρ 1 := zAllA hm 1
  have m2 : γ 0 9 (ρ 1) 2 = ρ 2 := zAllA hm 2
  have m3 : γ 0 2 0 6 = ρ 3 := zAllA hm 3
  have m4 : γ 0 2 0 3 = ρ 4 := zAllA hm 4
  have m5 : γ 0 2 0 7 = ρ 5 := zAllA hm 5
  have m6 : γ 0 1 0 7 = ρ 6 := zAllA hm 6
  have m7 : γ 0 2 0 4 = ρ 7 := zAllA hm 7
  have m8 : γ 0 2 0 5 = ρ 8 := zAllA hm 8
  have m9 : γ 0 2 0 9 = ρ 9 := zAllA hm 9
  have m10 : γ 0 2 0 13 = ρ 10 := zAllA hm 10
  have m11 : γ 0 2 0 16 = ρ 11 := zAllA hm 11
  have m12 : γ 0 3 0 1 = ρ 12 := zAllA hm 12
  have m13 : γ 0 9 (ρ 1) 3 = ρ 13 := zAllA hm 13
  have m14 : γ 0 10 (9 * ρ 1) 4 = ρ 14 := zAllA hm 14
  have m15 : γ 0 10 (9 * ρ 1) 5 = ρ 15 := zAllA hm 15
  have m16 : γ 0 10 (9 * ρ 1) 7 = ρ 16 := zAllA hm 16
  have m17 : γ 0 10 (9 * ρ 1) 8 = ρ 17 := zAllA hm 17
  have m18 : γ 0 10 (9 * ρ 1) 9 = ρ 18 := zAllA hm 18
  have m19 : γ 0 10 (9 * ρ 1) 12 = ρ 19 := zAllA hm 19
  have m20 : γ 0 10 (9 * ρ 1) 13 = ρ 20 := zAllA hm 20
  have m21 : γ 0 10 (9 * ρ 1) 14 = ρ 21 := zAllA hm 21
  have m22 : γ 0 10 (9 * ρ 1) 15 = ρ 22 := zAllA hm 22
  have m23 : γ 0 0 0 7 = ρ 23 := zAllA hm 23
  have m24 : γ 2 2 0 5 = 0 := zAllA hm 24
  have m25 : γ 2 2 0 6 = 0 := zAllA hm 25
  have m26 : γ 2 2 0 7 = 1 := zAllA hm 26
  have m27 : γ 2 2 0 13 = 0 := zAllA hm 27
  have m28 : γ 2 2 0 16 = 0 := zAllA hm 28
  have m29 : γ 3 9 (ρ 1) 2 = 0 := zAllA hm 29
  have m30 : γ 3 2 0 6 = ρ 24 := zAllA hm 30
  have m31 : γ 3 10 (9 * ρ 1) 12 = ρ 25 := zAllA hm 31
  have m32 : γ 3 10 (9 * ρ 1) 14 = ρ 26 := zAllA hm 32
  have m33 : γ 3 10 (9 * ρ 1) 8 = ρ 27 := zAllA hm 33
  have m34 : γ 3 1 0 7 = ρ 6 := zAllA hm 34
  have m35 : γ 3 2 0 4 = ρ 7 := zAllA hm 35
  have m36 : γ 3 2 0 5 = ρ 28 := zAllA hm 36
  have m37 : γ 3 2 0 9 = ρ 29 := zAllA hm 37
  have m38 : γ 3 2 0 13 = ρ 30 := zAllA hm 38
  have m39 : γ 3 2 0 16 = ρ 31 := zAllA hm 39
  have m40 : γ 3 3 0 1 = ρ 32 := zAllA hm 40
  have m41 : γ 3 9 (ρ 1) 3 = 0 := zAllA hm 41
  have m42 : γ 3 10 (9 * ρ 1) 4 = ρ 33 := zAllA hm 42
  have m43 : γ 3 10 (9 * ρ 1) 5 = ρ 34 := zAllA hm 43
  have m44 : γ 3 10 (9 * ρ 1) 7 = ρ 35 := zAllA hm 44
  have m45 : γ 3 10 (9 * ρ 1) 9 = ρ 36 := zAllA hm 45
  have m46 : γ 3 10 (9 * ρ 1) 13 = ρ 37 := zAllA hm 46
  have m47 : γ 3 10 (9 * ρ 1) 15 = ρ 38 := zAllA hm 47
  have m48 : γ 4 2 0 4 = ρ 7 := zAllA hm 48
  have m49 : γ 5 2 0 6 = ρ 39 := zAllA hm 49
  have m50 : γ 5 2 0 4 = ρ 40 := zAllA hm 50
  have m51 : γ 6 2 0 3 = 0 := zAllA hm 51
  have c1 : ∀ (G : Nat) (k j : Int), ¬ rMdP m0_ G j → γ 1 G k j = γ 0 G k j := And.right (zChA hc 5)
  have c2 : ∀ (G : Nat) (k j : Int), ¬ rMdP m74_ G j → γ 2 G k j = γ 1 G k j := And.right (zChA hc 4)
  have c3 : ∀ (G : Nat) (k j : Int), ¬ rMdP m100_ G j → γ 3 G k j = γ 2 G k j := And.right (zChA hc 3)
  have c4 : ∀ (G : Nat) (k j : Int), ¬ rMdP m72_ G j → γ 4 G k j = γ 3 G k j := And.right (zChA hc 2)
  have c5 : ∀ (G : Nat) (k j : Int), ¬ rMdP m101_ G j → γ 5 G k j = γ 4 G k j := And.right (zChA hc 1)
  have c6 : ∀ (G : Nat) (k j : Int), ¬ rMdP m75_ G j → γ 6 G k j = γ 5 G k j := And.right (zChA hc 0)
  have l0 : sn131 [ρ 0, ρ 1] (γ 0) 0 (ρ 1) (γ 1) := hS131 _ _ _ _ _ (zAllA hl 0)
  have l1 : sn111 [1, ρ 8, ρ 3, ρ 5, ρ 10, ρ 11] (γ 1) 0 0 (γ 2) := hS111 _ _ _ _ _ (zAllA hl 1)
  have l2 : sn146 [ρ 0, ρ 1, ρ 2, 0, ρ 4, ρ 19, ρ 21, ρ 17, 1, ρ 6, ρ 7, 0, ρ 9, 0, 0, ρ 12, ρ 13, ρ 14, ρ 15, ρ 16, ρ 18, ρ 20, ρ 22] (γ 2) 0 1 (γ 3) := hS146 _ _ _ _ _ (zAllA hl 2)
  have l3 : sn147 [9 * ρ 1, ρ 7, ρ 34] (γ 3) 0 1 (γ 4) := hS147 _ _ _ _ _ (zAllA hl 3)
  have l4 : sn149 [ρ 24, ρ 4, ρ 7] (γ 4) 0 0 (γ 5) := hS149 _ _ _ _ _ (zAllA hl 4)
  have l5 : sn112 [ρ 4] (γ 5) 0 0 (γ 6) := hS112 _ _ _ _ _ (zAllA hl 5)
  show sn221 [ρ 0, ρ 1, ρ 2, ρ 3, ρ 4, ρ 5, ρ 6, ρ 7, ρ 8, ρ 9, ρ 10, ρ 11, ρ 12, ρ 13, ρ 14, ρ 15, ρ 16, ρ 17, ρ 18, ρ 19, ρ 20, ρ 21, ρ 22] (γ 0) 0 (-ρ 40 + (-2)) (γ 6)
  have hD : dn221 [] (γ 0) = .inr (0, -ρ 40 + (-2), γ 6) := by
    unfold dn221
    refine zLE m0 (zLE m1 (zLE m23 (zIP (show ρ 23 ≠ 0 by omega) (zLE (show fn131 [ρ 0] (γ 0) = (0, ρ 1, γ 1) from l0.symm) (zLV (γ 1) rfl (zLE (show fn111 [1] (γ 1) = (0, 0, γ 2) from l1.symm) (zLV (γ 2) rfl ?_)))))))
    refine zLE (show fn146 [] (γ 2) = (0, 1, γ 3) from l2.symm) (zLV (γ 3) rfl (zIP (show (1 : Int) ≤ 1 by omega) (zIN (show ¬ (0 ≤ γ 3 10 (9 * ρ 1) 8) by omega) (zLE (show fn147 [9 * ρ 1] (γ 3) = (0, 1, γ 4) from l3.symm) (zLV (γ 4) rfl (zIP (show (1 : Int) ≤ 1 by omega) (zLE (show fn149 [] (γ 4) = (0, 0, γ 5) from l4.symm) ?_)))))))
    refine zLV (γ 5) rfl (zIN (show ¬ ((1 : Int) ≤ 0) by omega) (zLE m50 (zLE (show fn112 [] (γ 5) = (0, 0, γ 6) from l5.symm) (zLV (γ 6) rfl ?_))))
    rfl
  exact zGoo_end hD
theorem vn221_3 {S : Nat → zSpc} (hS111 : zIm S 111 sn111) (hS112 : zIm S 112 sn112) (hS131 : zIm S 131 sn131) (hS146 : zIm S 146 sn146) (hS147 : zIm S 147 sn147) (hS149 : zIm S 149 sn149) (hS206 : zIm S 206 sn206) {a : List Int} {g : rHp} : ∀ (ρ : Nat → Int) (γ : Nat → rHp), zO 23 S a g q221_3 ρ γ → zGl (fun i vs g1 => jn221 a g i vs g1) (sn221 a g) q221_3 ρ γ := by
  intro ρ γ h
  obtain ⟨ha, hg, hr, hf, hm, hc, hl⟩ := h
  have ha : a = [ρ 0, ρ 1, ρ 2, ρ 3, ρ 4, ρ 5, ρ 6, ρ 7, ρ 8, ρ 9, ρ 10, ρ 11, ρ 12, ρ 13, ρ 14, ρ 15, ρ 16, ρ 17, ρ 18, ρ 19, ρ 20, ρ 21, ρ 22] := ha
  subst ha
  subst hg
  have r0 : (0 : Int) ≤ ρ 0 ∧ ρ 0 ≤ 60 := zRnA hr 0
  have r1 : (0 : Int) ≤ ρ 1 ∧ ρ 1 ≤ 60 := zRnA hr 1
  have r2 : (0 : Int) ≤ ρ 2 ∧ ρ 2 ≤ 8 := zRnA hr 2
  have r3 : (0 : Int) ≤ ρ 3 ∧ ρ 3 ≤ 2001 := zRnA hr 3
  have r4 : (2 : Int) ≤ ρ 4 ∧ ρ 4 ≤ 2000 := zRnA hr 4
  have r5 : (0 : Int) ≤ ρ 5 ∧ ρ 5 ≤ 2 := zRnA hr 5
  have r6 : (0 : Int) ≤ ρ 6 ∧ ρ 6 ≤ 20 := zRnA hr 6
  have r7 : ((-2147483648) : Int) ≤ ρ 7 ∧ ρ 7 ≤ 2147483647 := zRnA hr 7
  have r8 : ((-2147483648) : Int) ≤ ρ 8 ∧ ρ 8 ≤ 2147483647 := zRnA hr 8
  have r9 : ((-2147483648) : Int) ≤ ρ 9 ∧ ρ 9 ≤ 2147483647 := zRnA hr 9
  have r10 : (0 : Int) ≤ ρ 10 ∧ ρ 10 ≤ 8 := zRnA hr 10
  have r11 : (0 : Int) ≤ ρ 11 ∧ ρ 11 ≤ 32 := zRnA hr 11
  have r12 : (0 : Int) ≤ ρ 12 ∧ ρ 12 ≤ 5120 := zRnA hr 12
  have r13 : (0 : Int) ≤ ρ 13 ∧ ρ 13 ≤ 8 := zRnA hr 13
  have r14 : (0 : Int) ≤ ρ 14 ∧ ρ 14 ≤ 8 := zRnA hr 14
  have r15 : (0 : Int) ≤ ρ 15 ∧ ρ 15 ≤ 4 := zRnA hr 15
  have r16 : ((-2147483648) : Int) ≤ ρ 16 ∧ ρ 16 ≤ 2147483647 := zRnA hr 16
  have r17 : ((-1) : Int) ≤ ρ 17 ∧ ρ 17 ≤ 19 := zRnA hr 17
  have r18 : ((-1) : Int) ≤ ρ 18 ∧ ρ 18 ≤ 3 := zRnA hr 18
  have r19 : (0 : Int) ≤ ρ 19 ∧ ρ 19 ≤ 4 := zRnA hr 19
  have r20 : (0 : Int) ≤ ρ 20 ∧ ρ 20 ≤ 3 := zRnA hr 20
  have r21 : ((-1) : Int) ≤ ρ 21 ∧ ρ 21 ≤ 7 := zRnA hr 21
  have r22 : ((-2147483648) : Int) ≤ ρ 22 ∧ ρ 22 ≤ 2147483647 := zRnA hr 22
  have r23 : (1 : Int) ≤ ρ 23 ∧ ρ 23 ≤ 1 := zRnA hr 23
  have r24 : (3 : Int) ≤ ρ 24 ∧ ρ 24 ≤ 2000 := zRnA hr 24
  have r25 : (0 : Int) ≤ ρ 25 ∧ ρ 25 ≤ 4 := zRnA hr 25
  have r26 : ((-1) : Int) ≤ ρ 26 ∧ ρ 26 ≤ 7 := zRnA hr 26
  have r27 : ((-1) : Int) ≤ ρ 27 ∧ ρ 27 ≤ (-1) := zRnA hr 27
  have r28 : ((-2147483648) : Int) ≤ ρ 28 ∧ ρ 28 ≤ 2147483647 := zRnA hr 28
  have r29 : ((-2147483648) : Int) ≤ ρ 29 ∧ ρ 29 ≤ 2147483647 := zRnA hr 29
  have r30 : (0 : Int) ≤ ρ 30 ∧ ρ 30 ≤ 8 := zRnA hr 30
  have r31 : (0 : Int) ≤ ρ 31 ∧ ρ 31 ≤ 32 := zRnA hr 31
  have r32 : (0 : Int) ≤ ρ 32 ∧ ρ 32 ≤ 5120 := zRnA hr 32
  have r33 : (0 : Int) ≤ ρ 33 ∧ ρ 33 ≤ 0 := zRnA hr 33
  have r34 : (1 : Int) ≤ ρ 34 ∧ ρ 34 ≤ 4 := zRnA hr 34
  have r35 : (0 : Int) ≤ ρ 35 ∧ ρ 35 ≤ 1999 := zRnA hr 35
  have r36 : ((-1) : Int) ≤ ρ 36 ∧ ρ 36 ≤ 3 := zRnA hr 36
  have r37 : (0 : Int) ≤ ρ 37 ∧ ρ 37 ≤ 3 := zRnA hr 37
  have r38 : ((-2147483648) : Int) ≤ ρ 38 ∧ ρ 38 ≤ 2147483647 := zRnA hr 38
  have r39 : (0 : Int) ≤ ρ 39 ∧ ρ 39 ≤ 2000 := zRnA hr 39
  have f0 : (0 : Int) ≤ ρ 39 + -ρ 24 := zAllA hf 0
  have f1 : (0 : Int) ≤ ρ 39 + -ρ 4 := zAllA hf 1
  have f2 : (0 : Int) ≤ -ρ 34 + ρ 24 + (-1) := zAllA hf 2
  have f3 : (0 : Int) ≤ -ρ 35 + ρ 24 + (-1) := zAllA hf 3
  have f4 : (0 : Int) ≤ -ρ 36 + ρ 24 + (-1) := zAllA hf 4
  have f5 : (0 : Int) ≤ ρ 32 + -ρ 12 := zAllA hf 5
  have f6 : (0 : Int) ≤ -ρ 24 + ρ 4 := zAllA hf 6
  have f7 : (0 : Int) ≤ -ρ 37 + ρ 4 := zAllA hf 7
  have f8 : (0 : Int) ≤ -ρ 18 + ρ 4 := zAllA hf 8
  have f9 : (0 : Int) ≤ -ρ 20 + ρ 4 := zAllA hf 9
  have f10 : (0 : Int) ≤ 3 * ρ 26 + -ρ 25 + 4 := zAllA hf 10
  have m0 : γ 0 1 0 10 = ρ 0 := zAllA hm 0
  have m1 : γ 0 40 0 (ρ 0) = ρ 1 := zAllA hm 1
  have m2 : γ 0 9 (ρ 1) 2 = ρ 2 := zAllA hm 2
  have m3 : γ 0 2 0 6 = ρ 3 := zAllA hm 3
  have m4 : γ 0 2 0 3 = ρ 4 := zAllA hm 4
  have m5 : γ 0 2 0 7 = ρ 5 := zAllA hm 5
  have m6 : γ 0 1 0 7 = ρ 6 := zAllA hm 6
  have m7 : γ 0 2 0 4 = ρ 7 := zAllA hm 7
  have m8 : γ 0 2 0 5 = ρ 8 := zAllA hm 8
  have m9 : γ 0 2 0 9 = ρ 9 := zAllA hm 9
  have m10 : γ 0 2 0 13 = ρ 10 := zAllA hm 10
  have m11 : γ 0 2 0 16 = ρ 11 := zAllA hm 11
  have m12 : γ 0 3 0 1 = ρ 12 := zAllA hm 12
  have m13 : γ 0 9 (ρ 1) 3 = ρ 13 := zAllA hm 13
  have m14 : γ 0 10 (9 * ρ 1) 4 = ρ 14 := zAllA hm 14
  have m15 : γ 0 10 (9 * ρ 1) 5 = ρ 15 := zAllA hm 15
  have m16 : γ 0 10 (9 * ρ 1) 7 = ρ 16 := zAllA hm 16
  have m17 : γ 0 10 (9 * ρ 1) 8 = ρ 17 := zAllA hm 17
  have m18 : γ 0 10 (9 * ρ 1) 9 = ρ 18 := zAllA hm 18
  have m19 : γ 0 10 (9 * ρ 1) 12 = ρ 19 := zAllA hm 19
  have m20 : γ 0 10 (9 * ρ 1) 13 = ρ 20 := zAllA hm 20
  have m21 : γ 0 10 (9 * ρ 1) 14 = ρ 21 := zAllA hm 21
  have m22 : γ 0 10 (9 * ρ 1) 15 = ρ 22 := zAllA hm 22
  have m23 : γ 0 0 0 7 = ρ 23 := zAllA hm 23
  have m24 : γ 2 2 0 5 = 0 := zAllA hm 24
  have m25 : γ 2 2 0 6 = 0 := zAllA hm 25
  have m26 : γ 2 2 0 7 = 1 := zAllA hm 26
  have m27 : γ 2 2 0 13 = 0 := zAllA hm 27
  have m28 : γ 2 2 0 16 = 0 := zAllA hm 28
  have m29 : γ 3 9 (ρ 1) 2 = 0 := zAllA hm 29
  have m30 : γ 3 2 0 6 = ρ 24 := zAllA hm 30
  have m31 : γ 3 10 (9 * ρ 1) 12 = ρ 25 := zAllA hm 31
  have m32 : γ 3 10 (9 * ρ 1) 14 = ρ 26 := zAllA hm 32
  have m33 : γ 3 10 (9 * ρ 1) 8 = ρ 27 := zAllA hm 33
  have m34 : γ 3 1 0 7 = ρ 6 := zAllA hm 34
  have m35 : γ 3 2 0 4 = ρ 7 := zAllA hm 35
  have m36 : γ 3 2 0 5 = ρ 28 := zAllA hm 36
  have m37 : γ 3 2 0 9 = ρ 29 := zAllA hm 37
  have m38 : γ 3 2 0 13 = ρ 30 := zAllA hm 38
  have m39 : γ 3 2 0 16 = ρ 31 := zAllA hm 39
  have m40 : γ 3 3 0 1 = ρ 32 := zAllA hm 40
  have m41 : γ 3 9 (ρ 1) 3 = 0 := zAllA hm 41
  have m42 : γ 3 10 (9 * ρ 1) 4 = ρ 33 := zAllA hm 42
  have m43 : γ 3 10 (9 * ρ 1) 5 = ρ 34 := zAllA hm 43
  have m44 : γ 3 10 (9 * ρ 1) 7 = ρ 35 := zAllA hm 44
  have m45 : γ 3 10 (9 * ρ 1) 9 = ρ 36 := zAllA hm 45
  have m46 : γ 3 10 (9 * ρ 1) 13 = ρ 37 := zAllA hm 46
  have m47 : γ 3 10 (9 * ρ 1) 15 = ρ 38 := zAllA hm 47
  have m48 : γ 4 2 0 4 = ρ 7 := zAllA hm 48
  have m49 : γ 5 2 0 6 = ρ 39 := zAllA hm 49
  have m50 : γ 5 2 0 4 = ρ 7 := zAllA hm 50
  have m51 : γ 6 2 0 3 = 0 := zAllA hm 51
  have c1 : ∀ (G : Nat) (k j : Int), ¬ rMdP m0_ G j → γ 1 G k j = γ 0 G k j := And.right (zChA hc 5)
  have c2 : ∀ (G : Nat) (k j : Int), ¬ rMdP m74_ G j → γ 2 G k j = γ 1 G k j := And.right (zChA hc 4)
  have c3 : ∀ (G : Nat) (k j : Int), ¬ rMdP m100_ G j → γ 3 G k j = γ 2 G k j := And.right (zChA hc 3)
  have c4 : ∀ (G : Nat) (k j : Int), ¬ rMdP m72_ G j → γ 4 G k j = γ 3 G k j := And.right (zChA hc 2)
  have c5 : ∀ (G : Nat) (k j : Int), ¬ rMdP m101_ G j → γ 5 G k j = γ 4 G k j := And.right (zChA hc 1)
  have c6 : ∀ (G : Nat) (k j : Int), ¬ rMdP m75_ G j → γ 6 G k j = γ 5 G k j := And.right (zChA hc 0)
  have l0 : sn131 [ρ 0, ρ 1] (γ 0) 0 (ρ 1) (γ 1) := hS131 _ _ _ _ _ (zAllA hl 0)
  have l1 : sn111 [1, ρ 8, ρ 3, ρ 5, ρ 10, ρ 11] (γ 1) 0 0 (γ 2) := hS111 _ _ _ _ _ (zAllA hl 1)
  have l2 : sn146 [ρ 0, ρ 1, ρ 2, 0, ρ 4, ρ 19, ρ 21, ρ 17, 1, ρ 6, ρ 7, 0, ρ 9, 0, 0, ρ 12, ρ 13, ρ 14, ρ 15, ρ 16, ρ 18, ρ 20, ρ 22] (γ 2) 0 1 (γ 3) := hS146 _ _ _ _ _ (zAllA hl 2)
  have l3 : sn147 [9 * ρ 1, ρ 7, ρ 34] (γ 3) 0 1 (γ 4) := hS147 _ _ _ _ _ (zAllA hl 3)
  have l4 : sn149 [ρ 24, ρ 4, ρ 7] (γ 4) 0 1 (γ 5) := hS149 _ _ _ _ _ (zAllA hl 4)
  have l5 : sn112 [ρ 4] (γ 5) 0 0 (γ 6) := hS112 _ _ _ _ _ (zAllA hl 5)
  show sn221 [ρ 0, ρ 1, ρ 2, ρ 3, ρ 4, ρ 5, ρ 6, ρ 7, ρ 8, ρ 9, ρ 10, ρ 11, ρ 12, ρ 13, ρ 14, ρ 15, ρ 16, ρ 17, ρ 18, ρ 19, ρ 20, ρ 21, ρ 22] (γ 0) 0 (-1) (γ 6)
  have hD : dn221 [] (γ 0) = .inr (0, (-1), γ 6) := by
    unfold dn221
    refine zLE m0 (zLE m1 (zLE m23 (zIP (show ρ 23 ≠ 0 by omega) (zLE (show fn131 [ρ 0] (γ 0) = (0, ρ 1, γ 1) from l0.symm) (zLV (γ 1) rfl (zLE (show fn111 [1] (γ 1) = (0, 0, γ 2) from l1.symm) (zLV (γ 2) rfl ?_)))))))
    refine zLE (show fn146 [] (γ 2) = (0, 1, γ 3) from l2.symm) (zLV (γ 3) rfl (zIP (show (1 : Int) ≤ 1 by omega) (zIN (show ¬ (0 ≤ γ 3 10 (9 * ρ 1) 8) by omega) (zLE (show fn147 [9 * ρ 1] (γ 3) = (0, 1, γ 4) from l3.symm) (zLV (γ 4) rfl (zIP (show (1 : Int) ≤ 1 by omega) (zLE (show fn149 [] (γ 4) = (0, 1, γ 5) from l4.symm) ?_)))))))
    refine zLV (γ 5) rfl (zIP (show (1 : Int) ≤ 1 by omega) (zLE (show fn112 [] (γ 5) = (0, 0, γ 6) from l5.symm) (zLV (γ 6) rfl ?_)))
    rfl
  exact zGoo_end hD
theorem vn221_4 {S : Nat → zSpc} (hS111 : zIm S 111 sn111) (hS112 : zIm S 112 sn112) (hS131 : zIm S 131 sn131) (hS146 : zIm S 146 sn146) (hS147 : zIm S 147 sn147) (hS149 : zIm S 149 sn149) (hS206 : zIm S 206 sn206) {a : List Int} {g : rHp} : ∀ (ρ : Nat → Int) (γ : Nat → rHp), zO 23 S a g q221_4 ρ γ → zGl (fun i vs g1 => jn221 a g i vs g1) (sn221 a g) q221_4 ρ γ := by
  intro ρ γ h
  obtain ⟨ha, hg, hr, hf, hm, hc, hl⟩ := h
  have ha : a = [ρ 0, ρ 1, ρ 2, ρ 3, ρ 4, ρ 5, ρ 6, ρ 7, ρ 8, ρ 9, ρ 10, ρ 11, ρ 12, ρ 13, ρ 14, ρ 15, ρ 16, ρ 17, ρ 18, ρ 19, ρ 20, ρ 21, ρ 22] := ha
  subst ha
  subst hg
  have r0 : (0 : Int) ≤ ρ 0 ∧ ρ 0 ≤ 60 := zRnA hr 0
  have r1 : (0 : Int) ≤ ρ 1 ∧ ρ 1 ≤ 60 := zRnA hr 1
  have r2 : (0 : Int) ≤ ρ 2 ∧ ρ 2 ≤ 8 := zRnA hr 2
  have r3 : (0 : Int) ≤ ρ 3 ∧ ρ 3 ≤ 2001 := zRnA hr 3
  have r4 : (2 : Int) ≤ ρ 4 ∧ ρ 4 ≤ 2000 := zRnA hr 4
  have r5 : (0 : Int) ≤ ρ 5 ∧ ρ 5 ≤ 2 := zRnA hr 5
  have r6 : (0 : Int) ≤ ρ 6 ∧ ρ 6 ≤ 20 := zRnA hr 6
  have r7 : ((-2147483648) : Int) ≤ ρ 7 ∧ ρ 7 ≤ 2147483647 := zRnA hr 7
  have r8 : ((-2147483648) : Int) ≤ ρ 8 ∧ ρ 8 ≤ 2147483647 := zRnA hr 8
  have r9 : ((-2147483648) : Int) ≤ ρ 9 ∧ ρ 9 ≤ 2147483647 := zRnA hr 9
  have r10 : (0 : Int) ≤ ρ 10 ∧ ρ 10 ≤ 8 := zRnA hr 10
  have r11 : (0 : Int) ≤ ρ 11 ∧ ρ 11 ≤ 32 := zRnA hr 11
  have r12 : (0 : Int) ≤ ρ 12 ∧ ρ 12 ≤ 5120 := zRnA hr 12
  have r13 : (0 : Int) ≤ ρ 13 ∧ ρ 13 ≤ 8 := zRnA hr 13
  have r14 : (0 : Int) ≤ ρ 14 ∧ ρ 14 ≤ 8 := zRnA hr 14
  have r15 : (0 : Int) ≤ ρ 15 ∧ ρ 15 ≤ 4 := zRnA hr 15
  have r16 : ((-2147483648) : Int) ≤ ρ 16 ∧ ρ 16 ≤ 2147483647 := zRnA hr 16
  have r17 : ((-1) : Int) ≤ ρ 17 ∧ ρ 17 ≤ 19 := zRnA hr 17
  have r18 : ((-1) : Int) ≤ ρ 18 ∧ ρ 18 ≤ 3 := zRnA hr 18
  have r19 : (0 : Int) ≤ ρ 19 ∧ ρ 19 ≤ 4 := zRnA hr 19
  have r20 : (0 : Int) ≤ ρ 20 ∧ ρ 20 ≤ 3 := zRnA hr 20
  have r21 : ((-1) : Int) ≤ ρ 21 ∧ ρ 21 ≤ 7 := zRnA hr 21
  have r22 : ((-2147483648) : Int) ≤ ρ 22 ∧ ρ 22 ≤ 2147483647 := zRnA hr 22
  have r23 : (1 : Int) ≤ ρ 23 ∧ ρ 23 ≤ 1 := zRnA hr 23
  have r24 : (3 : Int) ≤ ρ 24 ∧ ρ 24 ≤ 2000 := zRnA hr 24
  have r25 : (0 : Int) ≤ ρ 25 ∧ ρ 25 ≤ 4 := zRnA hr 25
  have r26 : ((-1) : Int) ≤ ρ 26 ∧ ρ 26 ≤ 7 := zRnA hr 26
  have r27 : (0 : Int) ≤ ρ 27 ∧ ρ 27 ≤ 19 := zRnA hr 27
  have r28 : (1 : Int) ≤ ρ 28 ∧ ρ 28 ≤ 20 := zRnA hr 28
  have r29 : ((-2147483648) : Int) ≤ ρ 29 ∧ ρ 29 ≤ 2147483647 := zRnA hr 29
  have r30 : ((-2147483648) : Int) ≤ ρ 30 ∧ ρ 30 ≤ 2147483647 := zRnA hr 30
  have r31 : (0 : Int) ≤ ρ 31 ∧ ρ 31 ≤ 8 := zRnA hr 31
  have r32 : (0 : Int) ≤ ρ 32 ∧ ρ 32 ≤ 32 := zRnA hr 32
  have r33 : (0 : Int) ≤ ρ 33 ∧ ρ 33 ≤ 5120 := zRnA hr 33
  have r34 : (0 : Int) ≤ ρ 34 ∧ ρ 34 ≤ 0 := zRnA hr 34
  have r35 : (1 : Int) ≤ ρ 35 ∧ ρ 35 ≤ 4 := zRnA hr 35
  have r36 : (0 : Int) ≤ ρ 36 ∧ ρ 36 ≤ 1999 := zRnA hr 36
  have r37 : ((-1) : Int) ≤ ρ 37 ∧ ρ 37 ≤ 3 := zRnA hr 37
  have r38 : (0 : Int) ≤ ρ 38 ∧ ρ 38 ≤ 3 := zRnA hr 38
  have r39 : ((-2147483648) : Int) ≤ ρ 39 ∧ ρ 39 ≤ 2147483647 := zRnA hr 39
  have r40 : ((-2147483648) : Int) ≤ ρ 40 ∧ ρ 40 ≤ 2147483647 := zRnA hr 40
  have r41 : ((-2147483648) : Int) ≤ ρ 41 ∧ ρ 41 ≤ 2147483647 := zRnA hr 41
  have f0 : (0 : Int) ≤ -ρ 35 + ρ 24 + (-1) := zAllA hf 0
  have f1 : (0 : Int) ≤ -ρ 36 + ρ 24 + (-1) := zAllA hf 1
  have f2 : (0 : Int) ≤ -ρ 37 + ρ 24 + (-1) := zAllA hf 2
  have f3 : (0 : Int) ≤ ρ 28 + -ρ 27 + (-1) := zAllA hf 3
  have f4 : (0 : Int) ≤ ρ 28 + -ρ 6 := zAllA hf 4
  have f5 : (0 : Int) ≤ ρ 33 + -ρ 12 := zAllA hf 5
  have f6 : (0 : Int) ≤ -ρ 24 + ρ 4 := zAllA hf 6
  have f7 : (0 : Int) ≤ -ρ 38 + ρ 4 := zAllA hf 7
  have f8 : (0 : Int) ≤ -ρ 18 + ρ 4 := zAllA hf 8
  have f9 : (0 : Int) ≤ -ρ 20 + ρ 4 := zAllA hf 9
  have f10 : (0 : Int) ≤ -ρ 27 + ρ 6 := zAllA hf 10
  have f11 : (0 : Int) ≤ 3 * ρ 26 + -ρ 25 + 4 := zAllA hf 11
  have m0 : γ 0 1 0 10 = ρ 0 := zAllA hm 0
  have m1 : γ 0 40 0 (ρ 0) = ρ 1 := zAllA hm 1
  have m2 : γ 0 9 (ρ 1) 2 = ρ 2 := zAllA hm 2
  have m3 : γ 0 2 0 6 = ρ 3 := zAllA hm 3
  have m4 : γ 0 2 0 3 = ρ 4 := zAllA hm 4
  have m5 : γ 0 2 0 7 = ρ 5 := zAllA hm 5
  have m6 : γ 0 1 0 7 = ρ 6 := zAllA hm 6
  have m7 : γ 0 2 0 4 = ρ 7 := zAllA hm 7
  have m8 : γ 0 2 0 5 = ρ 8 := zAllA hm 8
  have m9 : γ 0 2 0 9 = ρ 9 := zAllA hm 9
  have m10 : γ 0 2 0 13 = ρ 10 := zAllA hm 10
  have m11 : γ 0 2 0 16 = ρ 11 := zAllA hm 11
  have m12 : γ 0 3 0 1 = ρ 12 := zAllA hm 12
  have m13 : γ 0 9 (ρ 1) 3 = ρ 13 := zAllA hm 13
  have m14 : γ 0 10 (9 * ρ 1) 4 = ρ 14 := zAllA hm 14
  have m15 : γ 0 10 (9 * ρ 1) 5 = ρ 15 := zAllA hm 15
  have m16 : γ 0 10 (9 * ρ 1) 7 = ρ 16 := zAllA hm 16
  have m17 : γ 0 10 (9 * ρ 1) 8 = ρ 17 := zAllA hm 17
  have m18 : γ 0 10 (9 * ρ 1) 9 = ρ 18 := zAllA hm 18
  have m19 : γ 0 10 (9 * ρ 1) 12 = ρ 19 := zAllA hm 19
  have m20 : γ 0 10 (9 * ρ 1) 13 = ρ 20 := zAllA hm 20
  have m21 : γ 0 10 (9 * ρ 1) 14 = ρ 21 := zAllA hm 21
  have m22 : γ 0 10 (9 * ρ 1) 15 = ρ 22 := zAllA hm 22
  have m23 : γ 0 0 0 7 = ρ 23 := zAllA hm 23
  have m24 : γ 2 2 0 5 = 0 := zAllA hm 24
  have m25 : γ 2 2 0 6 = 0 := zAllA hm 25
  have m26 : γ 2 2 0 7 = 1 := zAllA hm 26
  have m27 : γ 2 2 0 13 = 0 := zAllA hm 27
  have m28 : γ 2 2 0 16 = 0 := zAllA hm 28
  have m29 : γ 3 9 (ρ 1) 2 = 0 := zAllA hm 29
  have m30 : γ 3 2 0 6 = ρ 24 := zAllA hm 30
  have m31 : γ 3 10 (9 * ρ 1) 12 = ρ 25 := zAllA hm 31
  have m32 : γ 3 10 (9 * ρ 1) 14 = ρ 26 := zAllA hm 32
  have m33 : γ 3 10 (9 * ρ 1) 8 = ρ 27 := zAllA hm 33
  have m34 : γ 3 1 0 7 = ρ 28 := zAllA hm 34
  have m35 : γ 3 2 0 4 = ρ 7 := zAllA hm 35
  have m36 : γ 3 2 0 5 = ρ 29 := zAllA hm 36
  have m37 : γ 3 2 0 9 = ρ 30 := zAllA hm 37
  have m38 : γ 3 2 0 13 = ρ 31 := zAllA hm 38
  have m39 : γ 3 2 0 16 = ρ 32 := zAllA hm 39
  have m40 : γ 3 3 0 1 = ρ 33 := zAllA hm 40
  have m41 : γ 3 9 (ρ 1) 3 = 0 := zAllA hm 41
  have m42 : γ 3 10 (9 * ρ 1) 4 = ρ 34 := zAllA hm 42
  have m43 : γ 3 10 (9 * ρ 1) 5 = ρ 35 := zAllA hm 43
  have m44 : γ 3 10 (9 * ρ 1) 7 = ρ 36 := zAllA hm 44
  have m45 : γ 3 10 (9 * ρ 1) 9 = ρ 37 := zAllA hm 45
  have m46 : γ 3 10 (9 * ρ 1) 13 = ρ 38 := zAllA hm 46
  have m47 : γ 3 10 (9 * ρ 1) 15 = ρ 39 := zAllA hm 47
  have m48 : γ 4 2 0 4 = ρ 40 := zAllA hm 48
  have m49 : γ 5 2 0 3 = 0 := zAllA hm 49
  have c1 : ∀ (G : Nat) (k j : Int), ¬ rMdP m0_ G j → γ 1 G k j = γ 0 G k j := And.right (zChA hc 4)
  have c2 : ∀ (G : Nat) (k j : Int), ¬ rMdP m74_ G j → γ 2 G k j = γ 1 G k j := And.right (zChA hc 3)
  have c3 : ∀ (G : Nat) (k j : Int), ¬ rMdP m100_ G j → γ 3 G k j = γ 2 G k j := And.right (zChA hc 2)
  have c4 : ∀ (G : Nat) (k j : Int), ¬ rMdP m72_ G j → γ 4 G k j = γ 3 G k j := And.right (zChA hc 1)
  have c5 : ∀ (G : Nat) (k j : Int), ¬ rMdP m75_ G j → γ 5 G k j = γ 4 G k j := And.right (zChA hc 0)
  have l0 : sn131 [ρ 0, ρ 1] (γ 0) 0 (ρ 1) (γ 1) := hS131 _ _ _ _ _ (zAllA hl 0)
  have l1 : sn111 [1, ρ 8, ρ 3, ρ 5, ρ 10, ρ 11] (γ 1) 0 0 (γ 2) := hS111 _ _ _ _ _ (zAllA hl 1)
  have l2 : sn146 [ρ 0, ρ 1, ρ 2, 0, ρ 4, ρ 19, ρ 21, ρ 17, 1, ρ 6, ρ 7, 0, ρ 9, 0, 0, ρ 12, ρ 13, ρ 14, ρ 15, ρ 16, ρ 18, ρ 20, ρ 22] (γ 2) 0 1 (γ 3) := hS146 _ _ _ _ _ (zAllA hl 2)
  have l3 : sn147 [9 * ρ 1, ρ 7, ρ 35] (γ 3) 0 0 (γ 4) := hS147 _ _ _ _ _ (zAllA hl 3)
  have l4 : sn112 [ρ 4] (γ 4) 0 0 (γ 5) := hS112 _ _ _ _ _ (zAllA hl 4)
  have l5 : zOpP (.isub) (γ 0) (γ 1) [(-2), ρ 40] (ρ 41) := zAllA hl 5
  show sn221 [ρ 0, ρ 1, ρ 2, ρ 3, ρ 4, ρ 5, ρ 6, ρ 7, ρ 8, ρ 9, ρ 10, ρ 11, ρ 12, ρ 13, ρ 14, ρ 15, ρ 16, ρ 17, ρ 18, ρ 19, ρ 20, ρ 21, ρ 22] (γ 0) 0 (ρ 41) (γ 5)
  have hD : dn221 [] (γ 0) = .inr (0, ρ 41, γ 5) := by
    unfold dn221
    refine zLE m0 (zLE m1 (zLE m23 (zIP (show ρ 23 ≠ 0 by omega) (zLE (show fn131 [ρ 0] (γ 0) = (0, ρ 1, γ 1) from l0.symm) (zLV (γ 1) rfl (zLE (show fn111 [1] (γ 1) = (0, 0, γ 2) from l1.symm) (zLV (γ 2) rfl ?_)))))))
    refine zLE (show fn146 [] (γ 2) = (0, 1, γ 3) from l2.symm) (zLV (γ 3) rfl (zIP (show (1 : Int) ≤ 1 by omega) (zIP (show 0 ≤ γ 3 10 (9 * ρ 1) 8 by omega) (zLE (show fn147 [9 * ρ 1] (γ 3) = (0, 0, γ 4) from l3.symm) (zLV (γ 4) rfl (zIN (show ¬ ((1 : Int) ≤ 0) by omega) (zLE m48 ?_)))))))
    refine zLE (show fn112 [] (γ 4) = (0, 0, γ 5) from l4.symm) (zLV (γ 5) rfl (zLE (zF2_ok l5) ?_))
    rfl
  exact zGoo_end hD
theorem vn221_5 {S : Nat → zSpc} (hS111 : zIm S 111 sn111) (hS112 : zIm S 112 sn112) (hS131 : zIm S 131 sn131) (hS146 : zIm S 146 sn146) (hS147 : zIm S 147 sn147) (hS149 : zIm S 149 sn149) (hS206 : zIm S 206 sn206) {a : List Int} {g : rHp} : ∀ (ρ : Nat → Int) (γ : Nat → rHp), zO 23 S a g q221_5 ρ γ → zGl (fun i vs g1 => jn221 a g i vs g1) (sn221 a g) q221_5 ρ γ := by
  intro ρ γ h
  obtain ⟨ha, hg, hr, hf, hm, hc, hl⟩ := h
  have ha : a = [ρ 0, ρ 1, ρ 2, ρ 3, ρ 4, ρ 5, ρ 6, ρ 7, ρ 8, ρ 9, ρ 10, ρ 11, ρ 12, ρ 13, ρ 14, ρ 15, ρ 16, ρ 17, ρ 18, ρ 19, ρ 20, ρ 21, ρ 22] := ha
  subst ha
  subst hg
  have r0 : (0 : Int) ≤ ρ 0 ∧ ρ 0 ≤ 60 := zRnA hr 0
  have r1 : (0 : Int) ≤ ρ 1 ∧ ρ 1 ≤ 60 := zRnA hr 1
  have r2 : (0 : Int) ≤ ρ 2 ∧ ρ 2 ≤ 8 := zRnA hr 2
  have r3 : (0 : Int) ≤ ρ 3 ∧ ρ 3 ≤ 2001 := zRnA hr 3
  have r4 : (2 : Int) ≤ ρ 4 ∧ ρ 4 ≤ 2000 := zRnA hr 4
  have r5 : (0 : Int) ≤ ρ 5 ∧ ρ 5 ≤ 2 := zRnA hr 5
  have r6 : (0 : Int) ≤ ρ 6 ∧ ρ 6 ≤ 20 := zRnA hr 6
  have r7 : ((-2147483648) : Int) ≤ ρ 7 ∧ ρ 7 ≤ 2147483647 := zRnA hr 7
  have r8 : ((-2147483648) : Int) ≤ ρ 8 ∧ ρ 8 ≤ 2147483647 := zRnA hr 8
  have r9 : ((-2147483648) : Int) ≤ ρ 9 ∧ ρ 9 ≤ 2147483647 := zRnA hr 9
  have r10 : (0 : Int) ≤ ρ 10 ∧ ρ 10 ≤ 8 := zRnA hr 10
  have r11 : (0 : Int) ≤ ρ 11 ∧ ρ 11 ≤ 32 := zRnA hr 11
  have r12 : (0 : Int) ≤ ρ 12 ∧ ρ 12 ≤ 5120 := zRnA hr 12
  have r13 : (0 : Int) ≤ ρ 13 ∧ ρ 13 ≤ 8 := zRnA hr 13
  have r14 : (0 : Int) ≤ ρ 14 ∧ ρ 14 ≤ 8 := zRnA hr 14
  have r15 : (0 : Int) ≤ ρ 15 ∧ ρ 15 ≤ 4 := zRnA hr 15
  have r16 : ((-2147483648) : Int) ≤ ρ 16 ∧ ρ 16 ≤ 2147483647 := zRnA hr 16
  have r17 : ((-1) : Int) ≤ ρ 17 ∧ ρ 17 ≤ 19 := zRnA hr 17
  have r18 : ((-1) : Int) ≤ ρ 18 ∧ ρ 18 ≤ 3 := zRnA hr 18
  have r19 : (0 : Int) ≤ ρ 19 ∧ ρ 19 ≤ 4 := zRnA hr 19
  have r20 : (0 : Int) ≤ ρ 20 ∧ ρ 20 ≤ 3 := zRnA hr 20
  have r21 : ((-1) : Int) ≤ ρ 21 ∧ ρ 21 ≤ 7 := zRnA hr 21
  have r22 : ((-2147483648) : Int) ≤ ρ 22 ∧ ρ 22 ≤ 2147483647 := zRnA hr 22
  have r23 : (1 : Int) ≤ ρ 23 ∧ ρ 23 ≤ 1 := zRnA hr 23
  have r24 : (3 : Int) ≤ ρ 24 ∧ ρ 24 ≤ 2000 := zRnA hr 24
  have r25 : (0 : Int) ≤ ρ 25 ∧ ρ 25 ≤ 4 := zRnA hr 25
  have r26 : ((-1) : Int) ≤ ρ 26 ∧ ρ 26 ≤ 7 := zRnA hr 26
  have r27 : (0 : Int) ≤ ρ 27 ∧ ρ 27 ≤ 19 := zRnA hr 27
  have r28 : (1 : Int) ≤ ρ 28 ∧ ρ 28 ≤ 20 := zRnA hr 28
  have r29 : ((-2147483648) : Int) ≤ ρ 29 ∧ ρ 29 ≤ 2147483647 := zRnA hr 29
  have r30 : ((-2147483648) : Int) ≤ ρ 30 ∧ ρ 30 ≤ 2147483647 := zRnA hr 30
  have r31 : (0 : Int) ≤ ρ 31 ∧ ρ 31 ≤ 8 := zRnA hr 31
  have r32 : (0 : Int) ≤ ρ 32 ∧ ρ 32 ≤ 32 := zRnA hr 32
  have r33 : (0 : Int) ≤ ρ 33 ∧ ρ 33 ≤ 5120 := zRnA hr 33
  have r34 : (0 : Int) ≤ ρ 34 ∧ ρ 34 ≤ 0 := zRnA hr 34
  have r35 : (1 : Int) ≤ ρ 35 ∧ ρ 35 ≤ 4 := zRnA hr 35
  have r36 : (0 : Int) ≤ ρ 36 ∧ ρ 36 ≤ 1999 := zRnA hr 36
  have r37 : ((-1) : Int) ≤ ρ 37 ∧ ρ 37 ≤ 3 := zRnA hr 37
  have r38 : (0 : Int) ≤ ρ 38 ∧ ρ 38 ≤ 3 := zRnA hr 38
  have r39 : ((-2147483648) : Int) ≤ ρ 39 ∧ ρ 39 ≤ 2147483647 := zRnA hr 39
  have r40 : (0 : Int) ≤ ρ 40 ∧ ρ 40 ≤ 2000 := zRnA hr 40
  have r41 : (0 : Int) ≤ ρ 41 ∧ ρ 41 ≤ 2000 := zRnA hr 41
  have f0 : (0 : Int) ≤ -ρ 41 + ρ 40 := zAllA hf 0
  have f1 : (0 : Int) ≤ ρ 40 + -ρ 24 := zAllA hf 1
  have f2 : (0 : Int) ≤ ρ 41 + -ρ 40 := zAllA hf 2
  have f3 : (0 : Int) ≤ -ρ 40 + ρ 4 + (-1) := zAllA hf 3
  have f4 : (0 : Int) ≤ -ρ 24 + ρ 4 + (-1) := zAllA hf 4
  have f5 : (0 : Int) ≤ -ρ 35 + ρ 24 + (-1) := zAllA hf 5
  have f6 : (0 : Int) ≤ -ρ 36 + ρ 24 + (-1) := zAllA hf 6
  have f7 : (0 : Int) ≤ -ρ 37 + ρ 24 + (-1) := zAllA hf 7
  have f8 : (0 : Int) ≤ ρ 28 + -ρ 27 + (-1) := zAllA hf 8
  have f9 : (0 : Int) ≤ ρ 28 + -ρ 6 := zAllA hf 9
  have f10 : (0 : Int) ≤ ρ 33 + -ρ 12 := zAllA hf 10
  have f11 : (0 : Int) ≤ -ρ 24 + ρ 4 := zAllA hf 11
  have f12 : (0 : Int) ≤ -ρ 38 + ρ 4 := zAllA hf 12
  have f13 : (0 : Int) ≤ -ρ 18 + ρ 4 := zAllA hf 13
  have f14 : (0 : Int) ≤ -ρ 20 + ρ 4 := zAllA hf 14
  have f15 : (0 : Int) ≤ -ρ 27 + ρ 6 := zAllA hf 15
  have f16 : (0 : Int) ≤ 3 * ρ 26 + -ρ 25 + 4 := zAllA hf 16
  have m0 : γ 0 1 0 10 = ρ 0 := zAllA hm 0
  have m1 : γ 0 40 0 (ρ 0) = ρ 1 := zAllA hm 1
  have m2 : γ 0 9 (ρ 1) 2 = ρ 2 := zAllA hm 2
  have m3 : γ 0 2 0 6 = ρ 3 := zAllA hm 3
  have m4 : γ 0 2 0 3 = ρ 4 := zAllA hm 4
  have m5 : γ 0 2 0 7 = ρ 5 := zAllA hm 5
  have m6 : γ 0 1 0 7 = ρ 6 := zAllA hm 6
  have m7 : γ 0 2 0 4 = ρ 7 := zAllA hm 7
  have m8 : γ 0 2 0 5 = ρ 8 := zAllA hm 8
  have m9 : γ 0 2 0 9 = ρ 9 := zAllA hm 9
  have m10 : γ 0 2 0 13 = ρ 10 := zAllA hm 10
  have m11 : γ 0 2 0 16 = ρ 11 := zAllA hm 11
  have m12 : γ 0 3 0 1 = ρ 12 := zAllA hm 12
  have m13 : γ 0 9 (ρ 1) 3 = ρ 13 := zAllA hm 13
  have m14 : γ 0 10 (9 * ρ 1) 4 = ρ 14 := zAllA hm 14
  have m15 : γ 0 10 (9 * ρ 1) 5 = ρ 15 := zAllA hm 15
  have m16 : γ 0 10 (9 * ρ 1) 7 = ρ 16 := zAllA hm 16
  have m17 : γ 0 10 (9 * ρ 1) 8 = ρ 17 := zAllA hm 17
  have m18 : γ 0 10 (9 * ρ 1) 9 = ρ 18 := zAllA hm 18
  have m19 : γ 0 10 (9 * ρ 1) 12 = ρ 19 := zAllA hm 19
  have m20 : γ 0 10 (9 * ρ 1) 13 = ρ 20 := zAllA hm 20
  have m21 : γ 0 10 (9 * ρ 1) 14 = ρ 21 := zAllA hm 21
  have m22 : γ 0 10 (9 * ρ 1) 15 = ρ 22 := zAllA hm 22
  have m23 : γ 0 0 0 7 = ρ 23 := zAllA hm 23
  have m24 : γ 2 2 0 5 = 0 := zAllA hm 24
  have m25 : γ 2 2 0 6 = 0 := zAllA hm 25
  have m26 : γ 2 2 0 7 = 1 := zAllA hm 26
  have m27 : γ 2 2 0 13 = 0 := zAllA hm 27
  have m28 : γ 2 2 0 16 = 0 := zAllA hm 28
  have m29 : γ 3 9 (ρ 1) 2 = 0 := zAllA hm 29
  have m30 : γ 3 2 0 6 = ρ 24 := zAllA hm 30
  have m31 : γ 3 10 (9 * ρ 1) 12 = ρ 25 := zAllA hm 31
  have m32 : γ 3 10 (9 * ρ 1) 14 = ρ 26 := zAllA hm 32
  have m33 : γ 3 10 (9 * ρ 1) 8 = ρ 27 := zAllA hm 33
  have m34 : γ 3 1 0 7 = ρ 28 := zAllA hm 34
  have m35 : γ 3 2 0 4 = ρ 7 := zAllA hm 35
  have m36 : γ 3 2 0 5 = ρ 29 := zAllA hm 36
  have m37 : γ 3 2 0 9 = ρ 30 := zAllA hm 37
  have m38 : γ 3 2 0 13 = ρ 31 := zAllA hm 38
  have m39 : γ 3 2 0 16 = ρ 32 := zAllA hm 39
  have m40 : γ 3 3 0 1 = ρ 33 := zAllA hm 40
  have m41 : γ 3 9 (ρ 1) 3 = 0 := zAllA hm 41
  have m42 : γ 3 10 (9 * ρ 1) 4 = ρ 34 := zAllA hm 42
  have m43 : γ 3 10 (9 * ρ 1) 5 = ρ 35 := zAllA hm 43
  have m44 : γ 3 10 (9 * ρ 1) 7 = ρ 36 := zAllA hm 44
  have m45 : γ 3 10 (9 * ρ 1) 9 = ρ 37 := zAllA hm 45
  have m46 : γ 3 10 (9 * ρ 1) 13 = ρ 38 := zAllA hm 46
  have m47 : γ 3 10 (9 * ρ 1) 15 = ρ 39 := zAllA hm 47
  have m48 : γ 4 2 0 4 = ρ 7 := zAllA hm 48
  have m49 : γ 5 2 0 6 = ρ 40 := zAllA hm 49
  have m50 : γ 5 2 0 4 = ρ 41 := zAllA hm 50
  have m51 : γ 6 2 0 3 = 0 := zAllA hm 51
  have c1 : ∀ (G : Nat) (k j : Int), ¬ rMdP m0_ G j → γ 1 G k j = γ 0 G k j := And.right (zChA hc 5)
  have c2 : ∀ (G : Nat) (k j : Int), ¬ rMdP m74_ G j → γ 2 G k j = γ 1 G k j := And.right (zChA hc 4)
  have c3 : ∀ (G : Nat) (k j : Int), ¬ rMdP m100_ G j → γ 3 G k j = γ 2 G k j := And.right (zChA hc 3)
  have c4 : ∀ (G : Nat) (k j : Int), ¬ rMdP m72_ G j → γ 4 G k j = γ 3 G k j := And.right (zChA hc 2)
  have c5 : ∀ (G : Nat) (k j : Int), ¬ rMdP m101_ G j → γ 5 G k j = γ 4 G k j := And.right (zChA hc 1)
  have c6 : ∀ (G : Nat) (k j : Int), ¬ rMdP m75_ G j → γ 6 G k j = γ 5 G k j := And.right (zChA hc 0)
  have l0 : sn131 [ρ 0, ρ 1] (γ 0) 0 (ρ 1) (γ 1) := hS131 _ _ _ _ _ (zAllA hl 0)
  have l1 : sn111 [1, ρ 8, ρ 3, ρ 5, ρ 10, ρ 11] (γ 1) 0 0 (γ 2) := hS111 _ _ _ _ _ (zAllA hl 1)
  have l2 : sn146 [ρ 0, ρ 1, ρ 2, 0, ρ 4, ρ 19, ρ 21, ρ 17, 1, ρ 6, ρ 7, 0, ρ 9, 0, 0, ρ 12, ρ 13, ρ 14, ρ 15, ρ 16, ρ 18, ρ 20, ρ 22] (γ 2) 0 1 (γ 3) := hS146 _ _ _ _ _ (zAllA hl 2)
  have l3 : sn147 [9 * ρ 1, ρ 7, ρ 35] (γ 3) 0 1 (γ 4) := hS147 _ _ _ _ _ (zAllA hl 3)
  have l4 : sn149 [ρ 24, ρ 4, ρ 7] (γ 4) 0 0 (γ 5) := hS149 _ _ _ _ _ (zAllA hl 4)
  have l5 : sn112 [ρ 4] (γ 5) 0 0 (γ 6) := hS112 _ _ _ _ _ (zAllA hl 5)
  show sn221 [ρ 0, ρ 1, ρ 2, ρ 3, ρ 4, ρ 5, ρ 6, ρ 7, ρ 8, ρ 9, ρ 10, ρ 11, ρ 12, ρ 13, ρ 14, ρ 15, ρ 16, ρ 17, ρ 18, ρ 19, ρ 20, ρ 21, ρ 22] (γ 0) 0 (-ρ 41 + (-2)) (γ 6)
  have hD : dn221 [] (γ 0) = .inr (0, -ρ 41 + (-2), γ 6) := by
    unfold dn221
    refine zLE m0 (zLE m1 (zLE m23 (zIP (show ρ 23 ≠ 0 by omega) (zLE (show fn131 [ρ 0] (γ 0) = (0, ρ 1, γ 1) from l0.symm) (zLV (γ 1) rfl (zLE (show fn111 [1] (γ 1) = (0, 0, γ 2) from l1.symm) (zLV (γ 2) rfl ?_)))))))
    refine zLE (show fn146 [] (γ 2) = (0, 1, γ 3) from l2.symm) (zLV (γ 3) rfl (zIP (show (1 : Int) ≤ 1 by omega) (zIP (show 0 ≤ γ 3 10 (9 * ρ 1) 8 by omega) (zLE (show fn147 [9 * ρ 1] (γ 3) = (0, 1, γ 4) from l3.symm) (zLV (γ 4) rfl (zIP (show (1 : Int) ≤ 1 by omega) (zLE (show fn149 [] (γ 4) = (0, 0, γ 5) from l4.symm) ?_)))))))
    refine zLV (γ 5) rfl (zIN (show ¬ ((1 : Int) ≤ 0) by omega) (zLE m50 (zLE (show fn112 [] (γ 5) = (0, 0, γ 6) from l5.symm) (zLV (γ 6) rfl ?_))))
    rfl
  exact zGoo_end hD
theorem vn221_6 {S : Nat → zSpc} (hS111 : zIm S 111 sn111) (hS112 : zIm S 112 sn112) (hS131 : zIm S 131 sn131) (hS146 : zIm S 146 sn146) (hS147 : zIm S 147 sn147) (hS149 : zIm S 149 sn149) (hS206 : zIm S 206 sn206) {a : List Int} {g : rHp} : ∀ (ρ : Nat → Int) (γ : Nat → rHp), zO 23 S a g q221_6 ρ γ → zGl (fun i vs g1 => jn221 a g i vs g1) (sn221 a g) q221_6 ρ γ := by
  intro ρ γ h
  obtain ⟨ha, hg, hr, hf, hm, hc, hl⟩ := h
  have ha : a = [ρ 0, ρ 1, ρ 2, ρ 3, ρ 4, ρ 5, ρ 6, ρ 7, ρ 8, ρ 9, ρ 10, ρ 11, ρ 12, ρ 13, ρ 14, ρ 15, ρ 16, ρ 17, ρ 18, ρ 19, ρ 20, ρ 21, ρ 22] := ha
  subst ha
  subst hg
  have r0 : (0 : Int) ≤ ρ 0 ∧ ρ 0 ≤ 60 := zRnA hr 0
  have r1 : (0 : Int) ≤ ρ 1 ∧ ρ 1 ≤ 60 := zRnA hr 1
  have r2 : (0 : Int) ≤ ρ 2 ∧ ρ 2 ≤ 8 := zRnA hr 2
  have r3 : (0 : Int) ≤ ρ 3 ∧ ρ 3 ≤ 2001 := zRnA hr 3
  have r4 : (2 : Int) ≤ ρ 4 ∧ ρ 4 ≤ 2000 := zRnA hr 4
  have r5 : (0 : Int) ≤ ρ 5 ∧ ρ 5 ≤ 2 := zRnA hr 5
  have r6 : (0 : Int) ≤ ρ 6 ∧ ρ 6 ≤ 20 := zRnA hr 6
  have r7 : ((-2147483648) : Int) ≤ ρ 7 ∧ ρ 7 ≤ 2147483647 := zRnA hr 7
  have r8 : ((-2147483648) : Int) ≤ ρ 8 ∧ ρ 8 ≤ 2147483647 := zRnA hr 8
  have r9 : ((-2147483648) : Int) ≤ ρ 9 ∧ ρ 9 ≤ 2147483647 := zRnA hr 9
  have r10 : (0 : Int) ≤ ρ 10 ∧ ρ 10 ≤ 8 := zRnA hr 10
  have r11 : (0 : Int) ≤ ρ 11 ∧ ρ 11 ≤ 32 := zRnA hr 11
  have r12 : (0 : Int) ≤ ρ 12 ∧ ρ 12 ≤ 5120 := zRnA hr 12
  have r13 : (0 : Int) ≤ ρ 13 ∧ ρ 13 ≤ 8 := zRnA hr 13
  have r14 : (0 : Int) ≤ ρ 14 ∧ ρ 14 ≤ 8 := zRnA hr 14
  have r15 : (0 : Int) ≤ ρ 15 ∧ ρ 15 ≤ 4 := zRnA hr 15
  have r16 : ((-2147483648) : Int) ≤ ρ 16 ∧ ρ 16 ≤ 2147483647 := zRnA hr 16
  have r17 : ((-1) : Int) ≤ ρ 17 ∧ ρ 17 ≤ 19 := zRnA hr 17
  have r18 : ((-1) : Int) ≤ ρ 18 ∧ ρ 18 ≤ 3 := zRnA hr 18
  have r19 : (0 : Int) ≤ ρ 19 ∧ ρ 19 ≤ 4 := zRnA hr 19
  have r20 : (0 : Int) ≤ ρ 20 ∧ ρ 20 ≤ 3 := zRnA hr 20
  have r21 : ((-1) : Int) ≤ ρ 21 ∧ ρ 21 ≤ 7 := zRnA hr 21
  have r22 : ((-2147483648) : Int) ≤ ρ 22 ∧ ρ 22 ≤ 2147483647 := zRnA hr 22
  have r23 : (1 : Int) ≤ ρ 23 ∧ ρ 23 ≤ 1 := zRnA hr 23
  have r24 : (3 : Int) ≤ ρ 24 ∧ ρ 24 ≤ 2000 := zRnA hr 24
  have r25 : (0 : Int) ≤ ρ 25 ∧ ρ 25 ≤ 4 := zRnA hr 25
  have r26 : ((-1) : Int) ≤ ρ 26 ∧ ρ 26 ≤ 7 := zRnA hr 26
  have r27 : (0 : Int) ≤ ρ 27 ∧ ρ 27 ≤ 19 := zRnA hr 27
  have r28 : (1 : Int) ≤ ρ 28 ∧ ρ 28 ≤ 20 := zRnA hr 28
  have r29 : ((-2147483648) : Int) ≤ ρ 29 ∧ ρ 29 ≤ 2147483647 := zRnA hr 29
  have r30 : ((-2147483648) : Int) ≤ ρ 30 ∧ ρ 30 ≤ 2147483647 := zRnA hr 30
  have r31 : (0 : Int) ≤ ρ 31 ∧ ρ 31 ≤ 8 := zRnA hr 31
  have r32 : (0 : Int) ≤ ρ 32 ∧ ρ 32 ≤ 32 := zRnA hr 32
  have r33 : (0 : Int) ≤ ρ 33 ∧ ρ 33 ≤ 5120 := zRnA hr 33
  have r34 : (0 : Int) ≤ ρ 34 ∧ ρ 34 ≤ 0 := zRnA hr 34
  have r35 : (1 : Int) ≤ ρ 35 ∧ ρ 35 ≤ 4 := zRnA hr 35
  have r36 : (0 : Int) ≤ ρ 36 ∧ ρ 36 ≤ 1999 := zRnA hr 36
  have r37 : ((-1) : Int) ≤ ρ 37 ∧ ρ 37 ≤ 3 := zRnA hr 37
  have r38 : (0 : Int) ≤ ρ 38 ∧ ρ 38 ≤ 3 := zRnA hr 38
  have r39 : ((-2147483648) : Int) ≤ ρ 39 ∧ ρ 39 ≤ 2147483647 := zRnA hr 39
  have r40 : (0 : Int) ≤ ρ 40 ∧ ρ 40 ≤ 2000 := zRnA hr 40
  have f0 : (0 : Int) ≤ ρ 40 + -ρ 24 := zAllA hf 0
  have f1 : (0 : Int) ≤ ρ 40 + -ρ 4 := zAllA hf 1
  have f2 : (0 : Int) ≤ -ρ 35 + ρ 24 + (-1) := zAllA hf 2
  have f3 : (0 : Int) ≤ -ρ 36 + ρ 24 + (-1) := zAllA hf 3
  have f4 : (0 : Int) ≤ -ρ 37 + ρ 24 + (-1) := zAllA hf 4
  have f5 : (0 : Int) ≤ ρ 28 + -ρ 27 + (-1) := zAllA hf 5
  have f6 : (0 : Int) ≤ ρ 28 + -ρ 6 := zAllA hf 6
  have f7 : (0 : Int) ≤ ρ 33 + -ρ 12 := zAllA hf 7
  have f8 : (0 : Int) ≤ -ρ 24 + ρ 4 := zAllA hf 8
  have f9 : (0 : Int) ≤ -ρ 38 + ρ 4 := zAllA hf 9
  have f10 : (0 : Int) ≤ -ρ 18 + ρ 4 := zAllA hf 10
  have f11 : (0 : Int) ≤ -ρ 20 + ρ 4 := zAllA hf 11
  have f12 : (0 : Int) ≤ -ρ 27 + ρ 6 := zAllA hf 12
  have f13 : (0 : Int) ≤ 3 * ρ 26 + -ρ 25 + 4 := zAllA hf 13
  have m0 : γ 0 1 0 10 = ρ 0 := zAllA hm 0
  have m1 : γ 0 40 0 (ρ 0) = ρ 1 := zAllA hm 1
  have m2 : γ 0 9 (ρ 1) 2 = ρ 2 := zAllA hm 2
  have m3 : γ 0 2 0 6 = ρ 3 := zAllA hm 3
  have m4 : γ 0 2 0 3 = ρ 4 := zAllA hm 4
  have m5 : γ 0 2 0 7 = ρ 5 := zAllA hm 5
  have m6 : γ 0 1 0 7 = ρ 6 := zAllA hm 6
  have m7 : γ 0 2 0 4 = ρ 7 := zAllA hm 7
  have m8 : γ 0 2 0 5 = ρ 8 := zAllA hm 8
  have m9 : γ 0 2 0 9 = ρ 9 := zAllA hm 9
  have m10 : γ 0 2 0 13 = ρ 10 := zAllA hm 10
  have m11 : γ 0 2 0 16 = ρ 11 := zAllA hm 11
  have m12 : γ 0 3 0 1 = ρ 12 := zAllA hm 12
  have m13 : γ 0 9 (ρ 1) 3 = ρ 13 := zAllA hm 13
  have m14 : γ 0 10 (9 * ρ 1) 4 = ρ 14 := zAllA hm 14
  have m15 : γ 0 10 (9 * ρ 1) 5 = ρ 15 := zAllA hm 15
  have m16 : γ 0 10 (9 * ρ 1) 7 = ρ 16 := zAllA hm 16
  have m17 : γ 0 10 (9 * ρ 1) 8 = ρ 17 := zAllA hm 17
  have m18 : γ 0 10 (9 * ρ 1) 9 = ρ 18 := zAllA hm 18
  have m19 : γ 0 10 (9 * ρ 1) 12 = ρ 19 := zAllA hm 19
  have m20 : γ 0 10 (9 * ρ 1) 13 = ρ 20 := zAllA hm 20
  have m21 : γ 0 10 (9 * ρ 1) 14 = ρ 21 := zAllA hm 21
  have m22 : γ 0 10 (9 * ρ 1) 15 = ρ 22 := zAllA hm 22
  have m23 : γ 0 0 0 7 = ρ 23 := zAllA hm 23
  have m24 : γ 2 2 0 5 = 0 := zAllA hm 24
  have m25 : γ 2 2 0 6 = 0 := zAllA hm 25
  have m26 : γ 2 2 0 7 = 1 := zAllA hm 26
  have m27 : γ 2 2 0 13 = 0 := zAllA hm 27
  have m28 : γ 2 2 0 16 = 0 := zAllA hm 28
  have m29 : γ 3 9 (ρ 1) 2 = 0 := zAllA hm 29
  have m30 : γ 3 2 0 6 = ρ 24 := zAllA hm 30
  have m31 : γ 3 10 (9 * ρ 1) 12 = ρ 25 := zAllA hm 31
  have m32 : γ 3 10 (9 * ρ 1) 14 = ρ 26 := zAllA hm 32
  have m33 : γ 3 10 (9 * ρ 1) 8 = ρ 27 := zAllA hm 33
  have m34 : γ 3 1 0 7 = ρ 28 := zAllA hm 34
  have m35 : γ 3 2 0 4 = ρ 7 := zAllA hm 35
  have m36 : γ 3 2 0 5 = ρ 29 := zAllA hm 36
  have m37 : γ 3 2 0 9 = ρ 30 := zAllA hm 37
  have m38 : γ 3 2 0 13 = ρ 31 := zAllA hm 38
  have m39 : γ 3 2 0 16 = ρ 32 := zAllA hm 39
  have m40 : γ 3 3 0 1 = ρ 33 := zAllA hm 40
  have m41 : γ 3 9 (ρ 1) 3 = 0 := zAllA hm 41
  have m42 : γ 3 10 (9 * ρ 1) 4 = ρ 34 := zAllA hm 42
  have m43 : γ 3 10 (9 * ρ 1) 5 = ρ 35 := zAllA hm 43
  have m44 : γ 3 10 (9 * ρ 1) 7 = ρ 36 := zAllA hm 44
  have m45 : γ 3 10 (9 * ρ 1) 9 = ρ 37 := zAllA hm 45
  have m46 : γ 3 10 (9 * ρ 1) 13 = ρ 38 := zAllA hm 46
  have m47 : γ 3 10 (9 * ρ 1) 15 = ρ 39 := zAllA hm 47
  have m48 : γ 4 2 0 4 = ρ 7 := zAllA hm 48
  have m49 : γ 5 2 0 6 = ρ 40 := zAllA hm 49
  have m50 : γ 5 2 0 4 = ρ 7 := zAllA hm 50
  have m51 : γ 6 2 0 3 = 0 := zAllA hm 51
  have c1 : ∀ (G : Nat) (k j : Int), ¬ rMdP m0_ G j → γ 1 G k j = γ 0 G k j := And.right (zChA hc 5)
  have c2 : ∀ (G : Nat) (k j : Int), ¬ rMdP m74_ G j → γ 2 G k j = γ 1 G k j := And.right (zChA hc 4)
  have c3 : ∀ (G : Nat) (k j : Int), ¬ rMdP m100_ G j → γ 3 G k j = γ 2 G k j := And.right (zChA hc 3)
  have c4 : ∀ (G : Nat) (k j : Int), ¬ rMdP m72_ G j → γ 4 G k j = γ 3 G k j := And.right (zChA hc 2)
  have c5 : ∀ (G : Nat) (k j : Int), ¬ rMdP m101_ G j → γ 5 G k j = γ 4 G k j := And.right (zChA hc 1)
  have c6 : ∀ (G : Nat) (k j : Int), ¬ rMdP m75_ G j → γ 6 G k j = γ 5 G k j := And.right (zChA hc 0)
  have l0 : sn131 [ρ 0, ρ 1] (γ 0) 0 (ρ 1) (γ 1) := hS131 _ _ _ _ _ (zAllA hl 0)
  have l1 : sn111 [1, ρ 8, ρ 3, ρ 5, ρ 10, ρ 11] (γ 1) 0 0 (γ 2) := hS111 _ _ _ _ _ (zAllA hl 1)
  have l2 : sn146 [ρ 0, ρ 1, ρ 2, 0, ρ 4, ρ 19, ρ 21, ρ 17, 1, ρ 6, ρ 7, 0, ρ 9, 0, 0, ρ 12, ρ 13, ρ 14, ρ 15, ρ 16, ρ 18, ρ 20, ρ 22] (γ 2) 0 1 (γ 3) := hS146 _ _ _ _ _ (zAllA hl 2)
  have l3 : sn147 [9 * ρ 1, ρ 7, ρ 35] (γ 3) 0 1 (γ 4) := hS147 _ _ _ _ _ (zAllA hl 3)
  have l4 : sn149 [ρ 24, ρ 4, ρ 7] (γ 4) 0 1 (γ 5) := hS149 _ _ _ _ _ (zAllA hl 4)
  have l5 : sn112 [ρ 4] (γ 5) 0 0 (γ 6) := hS112 _ _ _ _ _ (zAllA hl 5)
  show jn221 [ρ 0, ρ 1, ρ 2, ρ 3, ρ 4, ρ 5, ρ 6, ρ 7, ρ 8, ρ 9, ρ 10, ρ 11, ρ 12, ρ 13, ρ 14, ρ 15, ρ 16, ρ 17, ρ 18, ρ 19, ρ 20, ρ 21, ρ 22] (γ 0) 0 [ρ 0, ρ 1, ρ 2, ρ 3, ρ 4, ρ 5, ρ 6, ρ 7, ρ 8, ρ 9, ρ 10, ρ 11, ρ 12, ρ 13, ρ 14, ρ 15, ρ 16, ρ 17, ρ 18, ρ 19, ρ 20, ρ 21, ρ 22, 0, 0, ρ 40, 0, 1, ρ 28, ρ 29, ρ 30, ρ 31, ρ 32, ρ 33, 0, ρ 34, ρ 35, ρ 36, ρ 27, ρ 37, ρ 25, ρ 38, ρ 26, ρ 39] (γ 6)
  have hD : dn221 [] (γ 0) = .inl (0, [0], γ 6) := by
    unfold dn221
    refine zLE m0 (zLE m1 (zLE m23 (zIP (show ρ 23 ≠ 0 by omega) (zLE (show fn131 [ρ 0] (γ 0) = (0, ρ 1, γ 1) from l0.symm) (zLV (γ 1) rfl (zLE (show fn111 [1] (γ 1) = (0, 0, γ 2) from l1.symm) (zLV (γ 2) rfl ?_)))))))
    refine zLE (show fn146 [] (γ 2) = (0, 1, γ 3) from l2.symm) (zLV (γ 3) rfl (zIP (show (1 : Int) ≤ 1 by omega) (zIP (show 0 ≤ γ 3 10 (9 * ρ 1) 8 by omega) (zLE (show fn147 [9 * ρ 1] (γ 3) = (0, 1, γ 4) from l3.symm) (zLV (γ 4) rfl (zIP (show (1 : Int) ≤ 1 by omega) (zLE (show fn149 [] (γ 4) = (0, 1, γ 5) from l4.symm) ?_)))))))
    refine zLV (γ 5) rfl (zIP (show (1 : Int) ≤ 1 by omega) (zLE (show fn112 [] (γ 5) = (0, 0, γ 6) from l5.symm) (zLV (γ 6) rfl ?_)))
    rfl
  exact zGoo_to hD
theorem vn221_7 {S : Nat → zSpc} (hS111 : zIm S 111 sn111) (hS112 : zIm S 112 sn112) (hS131 : zIm S 131 sn131) (hS146 : zIm S 146 sn146) (hS147 : zIm S 147 sn147) (hS149 : zIm S 149 sn149) (hS206 : zIm S 206 sn206) {a : List Int} {g : rHp} : ∀ (ρ : Nat → Int) (γ : Nat → rHp), zO 23 S a g q221_7 ρ γ → zGl (fun i vs g1 => jn221 a g i vs g1) (sn221 a g) q221_7 ρ γ := by
  intro ρ γ h
  obtain ⟨ha, hg, hr, hf, hm, hc, hl⟩ := h
  have ha : a = [ρ 0, ρ 1, ρ 2, ρ 3, ρ 4, ρ 5, ρ 6, ρ 7, ρ 8, ρ 9, ρ 10, ρ 11, ρ 12, ρ 13, ρ 14, ρ 15, ρ 16, ρ 17, ρ 18, ρ 19, ρ 20, ρ 21, ρ 22] := ha
  subst ha
  subst hg
  have r23 : (0 : Int) ≤ ρ 23 ∧ ρ 23 ≤ 0 := zRnA hr 23
  have w_0 : ¬ (ρ 23 ≠ 0) := by omega
  have m0 : γ 0 1 0 10 = ρ 0 := zAllA hm 0
  have m1 : γ 0 40 0 (ρ 0) = ρ 1 := zAllA hm 1
  have m23 : γ 0 0 0 7 = ρ 23 := zAllA hm 23
  have l0 : sn112 [ρ 4] (γ 0) 0 0 (γ 1) := hS112 _ _ _ _ _ (zAllA hl 0)
  show sn221 [ρ 0, ρ 1, ρ 2, ρ 3, ρ 4, ρ 5, ρ 6, ρ 7, ρ 8, ρ 9, ρ 10, ρ 11, ρ 12, ρ 13, ρ 14, ρ 15, ρ 16, ρ 17, ρ 18, ρ 19, ρ 20, ρ 21, ρ 22] (γ 0) 5 0 (γ 1)
  have hD : dn221 [] (γ 0) = .inr (5, 0, γ 1) := by
    unfold dn221
    refine zLE m0 (zLE m1 (zLE m23 (zIN w_0 (zLE (show fn112 [] (γ 0) = (0, 0, γ 1) from l0.symm) (zLV (γ 1) rfl ?_)))))
    rfl
  exact zGoo_end hD
theorem vn221a0_0 {S : Nat → zSpc} (hS111 : zIm S 111 sn111) (hS112 : zIm S 112 sn112) (hS131 : zIm S 131 sn131) (hS146 : zIm S 146 sn146) (hS147 : zIm S 147 sn147) (hS149 : zIm S 149 sn149) (hS206 : zIm S 206 sn206) {a : List Int} {g : rHp} : ∀ (ρ : Nat → Int) (γ : Nat → rHp), jn221 a g 0 (zAg (zNA a221_ 0) ρ) (γ 1) → zO 23 S a g q221a0_0 ρ γ → zGl (fun i vs g1 => jn221 a g i vs g1) (sn221 a g) q221a0_0 ρ γ := by
  intro ρ γ hJ h
  obtain ⟨ha, hg, hr, hf, hm, hc, hl⟩ := h
  have ha : a = [ρ 0, ρ 1, ρ 2, ρ 3, ρ 4, ρ 5, ρ 6, ρ 7, ρ 8, ρ 9, ρ 10, ρ 11, ρ 12, ρ 13, ρ 14, ρ 15, ρ 16, ρ 17, ρ 18, ρ 19, ρ 20, ρ 21, ρ 22] := ha
  subst ha
  subst hg
  have hJ : jn221 [ρ 0, ρ 1, ρ 2, ρ 3, ρ 4, ρ 5, ρ 6, ρ 7, ρ 8, ρ 9, ρ 10, ρ 11, ρ 12, ρ 13, ρ 14, ρ 15, ρ 16, ρ 17, ρ 18, ρ 19, ρ 20, ρ 21, ρ 22] (γ 0) 0 [ρ 0, ρ 1, ρ 2, ρ 3, ρ 4, ρ 5, ρ 6, ρ 7, ρ 8, ρ 9, ρ 10, ρ 11, ρ 12, ρ 13, ρ 14, ρ 15, ρ 16, ρ 17, ρ 18, ρ 19, ρ 20, ρ 21, ρ 22, ρ 23, ρ 24, ρ 25, ρ 26, ρ 27, ρ 28, ρ 29, ρ 30, ρ 31, ρ 32, ρ 33, ρ 34, ρ 35, ρ 36, ρ 37, ρ 38, ρ 39, ρ 40, ρ 41, ρ 42, ρ 43] (γ 1) := hJ
  have r23 : (4 : Int) ≤ ρ 23 ∧ ρ 23 ≤ 4 := zRnA hr 23
  have w_0 : ρ 23 ≥ 4 := by omega
  have m0 : γ 0 1 0 10 = ρ 0 := zAllA hm 0
  have m1 : γ 0 40 0 (ρ 0) = ρ 1 := zAllA hm 1
  have m38 : γ 1 10 (9 * ρ 1) 8 = ρ 38 := zAllA hm 38
  have l0 : sn206 [ρ 38] (γ 1) 0 (ρ 44) (γ 2) := hS206 _ _ _ _ _ (zAllA hl 0)
  show sn221 [ρ 0, ρ 1, ρ 2, ρ 3, ρ 4, ρ 5, ρ 6, ρ 7, ρ 8, ρ 9, ρ 10, ρ 11, ρ 12, ρ 13, ρ 14, ρ 15, ρ 16, ρ 17, ρ 18, ρ 19, ρ 20, ρ 21, ρ 22] (γ 0) 0 (ρ 44) (γ 2)
  have hD : en221 (γ 0) (0, [ρ 23], γ 1) = .inr (0, ρ 44, γ 2) := by
    unfold en221
    refine zIP (show (0 : Nat) = 0 by decide) (zLV (γ 1) rfl (zLV (ρ 23) rfl (zLE m0 (zLE m1 (zLE m38 (zIP w_0 (zLE (show fn206 [ρ 38] (γ 1) = (0, ρ 44, γ 2) from l0.symm) ?_)))))))
    refine zLV (γ 2) rfl (zLV (ρ 44) rfl ?_)
    rfl
  exact zGoo_aend hJ hD
theorem vn221a0_1 {S : Nat → zSpc} (hS111 : zIm S 111 sn111) (hS112 : zIm S 112 sn112) (hS131 : zIm S 131 sn131) (hS146 : zIm S 146 sn146) (hS147 : zIm S 147 sn147) (hS149 : zIm S 149 sn149) (hS206 : zIm S 206 sn206) {a : List Int} {g : rHp} : ∀ (ρ : Nat → Int) (γ : Nat → rHp), jn221 a g 0 (zAg (zNA a221_ 0) ρ) (γ 1) → zO 23 S a g q221a0_1 ρ γ → zGl (fun i vs g1 => jn221 a g i vs g1) (sn221 a g) q221a0_1 ρ γ := by
  intro ρ γ hJ h
  obtain ⟨ha, hg, hr, hf, hm, hc, hl⟩ := h
  have ha : a = [ρ 0, ρ 1, ρ 2, ρ 3, ρ 4, ρ 5, ρ 6, ρ 7, ρ 8, ρ 9, ρ 10, ρ 11, ρ 12, ρ 13, ρ 14, ρ 15, ρ 16, ρ 17, ρ 18, ρ 19, ρ 20, ρ 21, ρ 22] := ha
  subst ha
  subst hg
  have hJ : jn221 [ρ 0, ρ 1, ρ 2, ρ 3, ρ 4, ρ 5, ρ 6, ρ 7, ρ 8, ρ 9, ρ 10, ρ 11, ρ 12, ρ 13, ρ 14, ρ 15, ρ 16, ρ 17, ρ 18, ρ 19, ρ 20, ρ 21, ρ 22] (γ 0) 0 [ρ 0, ρ 1, ρ 2, ρ 3, ρ 4, ρ 5, ρ 6, ρ 7, ρ 8, ρ 9, ρ 10, ρ 11, ρ 12, ρ 13, ρ 14, ρ 15, ρ 16, ρ 17, ρ 18, ρ 19, ρ 20, ρ 21, ρ 22, ρ 23, ρ 24, ρ 25, ρ 26, ρ 27, ρ 28, ρ 29, ρ 30, ρ 31, ρ 32, ρ 33, ρ 34, ρ 35, ρ 36, ρ 37, ρ 38, ρ 39, ρ 40, ρ 41, ρ 42, ρ 43] (γ 1) := hJ
  have r23 : (0 : Int) ≤ ρ 23 ∧ ρ 23 ≤ 3 := zRnA hr 23
  have w_0 : ¬ (ρ 23 ≥ 4) := by omega
  have m0 : γ 0 1 0 10 = ρ 0 := zAllA hm 0
  have m1 : γ 0 40 0 (ρ 0) = ρ 1 := zAllA hm 1
  have m38 : γ 1 10 (9 * ρ 1) 8 = ρ 38 := zAllA hm 38
  have m44 : γ 1 46 (9 * ρ 1) (ρ 23) = ρ 44 := zAllA hm 44
  have c2 : γ 2 = rUp (γ 1) 33 0 (ρ 23) (ρ 44) := And.right (zChA hc 0)
  show jn221 [ρ 0, ρ 1, ρ 2, ρ 3, ρ 4, ρ 5, ρ 6, ρ 7, ρ 8, ρ 9, ρ 10, ρ 11, ρ 12, ρ 13, ρ 14, ρ 15, ρ 16, ρ 17, ρ 18, ρ 19, ρ 20, ρ 21, ρ 22] (γ 0) 0 [ρ 0, ρ 1, ρ 2, ρ 3, ρ 4, ρ 5, ρ 6, ρ 7, ρ 8, ρ 9, ρ 10, ρ 11, ρ 12, ρ 13, ρ 14, ρ 15, ρ 16, ρ 17, ρ 18, ρ 19, ρ 20, ρ 21, ρ 22, ρ 23 + 1, ρ 24, ρ 25, ρ 26, ρ 27, ρ 28, ρ 29, ρ 30, ρ 31, ρ 32, ρ 33, ρ 34, ρ 35, ρ 36, ρ 37, ρ 38, ρ 39, ρ 40, ρ 41, ρ 42, ρ 43] (γ 2)
  have hD : en221 (γ 0) (0, [ρ 23], γ 1) = .inl (0, [ρ 23 + 1], γ 2) := by
    unfold en221
    refine zIP (show (0 : Nat) = 0 by decide) (zLV (γ 1) rfl (zLV (ρ 23) rfl (zLE m0 (zLE m1 (zLE m38 (zIN w_0 (zLE m44 ?_)))))))
    refine zLE c2.symm ?_
    rfl
  exact zGoo_ato hJ hD
theorem yn221 {S : Nat → zSpc} (hS111 : zIm S 111 sn111) (hS112 : zIm S 112 sn112) (hS131 : zIm S 131 sn131) (hS146 : zIm S 146 sn146) (hS147 : zIm S 147 sn147) (hS149 : zIm S 149 sn149) (hS206 : zIm S 206 sn206) : ∀ x g o v gz, zSem uW uT w221_.2.2.2.1 w221_.2.2.1.1.length S q221 (fun i => q221a.getD i []) (zNA a221_) x g o v gz → sn221 x g o v gz := by
  intro a g o v gz h
  exact zSem_all (l0 := q221) (las := q221a) (S := S) (J := (fun i vs g1 => jn221 a g i vs g1)) (P := sn221 a g) (fun _ => (show zAll _ [q221_0, q221_1, q221_2, q221_3, q221_4, q221_5, q221_6, q221_7] from (zAll_c (vn221_0 hS111 hS112 hS131 hS146 hS147 hS149 hS206) (zAll_c (vn221_1 hS111 hS112 hS131 hS146 hS147 hS149 hS206) (zAll_c (vn221_2 hS111 hS112 hS131 hS146 hS147 hS149 hS206) (zAll_c (vn221_3 hS111 hS112 hS131 hS146 hS147 hS149 hS206) (zAll_c (vn221_4 hS111 hS112 hS131 hS146 hS147 hS149 hS206) (zAll_c (vn221_5 hS111 hS112 hS131 hS146 hS147 hS149 hS206) (zAll_c (vn221_6 hS111 hS112 hS131 hS146 hS147 hS149 hS206) (zAll_c (vn221_7 hS111 hS112 hS131 hS146 hS147 hS149 hS206) zAll_n)))))))))) (fun _ => (show zAllI _ 0 [q221a0] from ⟨(show zAll _ [q221a0_0, q221a0_1] from (zAll_c (vn221a0_0 hS111 hS112 hS131 hS146 hS147 hS149 hS206) (zAll_c (vn221a0_1 hS111 hS112 hS131 hS146 hS147 hS149 hS206) zAll_n))), trivial⟩)) h
theorem vn266_0 {S : Nat → zSpc} (hS111 : zIm S 111 sn111) (hS112 : zIm S 112 sn112) (hS131 : zIm S 131 sn131) (hS159 : zIm S 159 sn159) (hS162 : zIm S 162 sn162) (hS262 : zIm S 262 sn262) {a : List Int} {g : rHp} : ∀ (ρ : Nat → Int) (γ : Nat → rHp), zO 27 S a g q266_0 ρ γ → zGl (fun _ _ _ => True) (sn266 a g) q266_0 ρ γ := by
  intro ρ γ h
  obtain ⟨ha, hg, hr, hf, hm, hc, hl⟩ := h
  have ha : a = [ρ 0, ρ 1, ρ 2, ρ 3, ρ 4, ρ 5, ρ 6, ρ 7, ρ 8, ρ 9, ρ 10, ρ 11, ρ 12, ρ 13, ρ 14, ρ 15, ρ 16, ρ 17, ρ 18, ρ 19, ρ 20, ρ 21, ρ 22, ρ 23, ρ 24, ρ 25, ρ 26] := ha
  subst ha
  subst hg
  have r27 : (1 : Int) ≤ ρ 27 ∧ ρ 27 ≤ 1 := zRnA hr 27
  have w_0 : ρ 27 ≠ 0 := by omega
  have m0 : γ 0 1 0 10 = ρ 0 := zAllA hm 0
  have m1 : γ 0 40 0 (ρ 0) = ρ 1 := zAllA hm 1
  have m27 : γ 0 0 0 7 = ρ 27 := zAllA hm 27
  have m39 : γ 3 2 0 4 = ρ 32 := zAllA hm 39
  have l0 : sn131 [ρ 0, ρ 1] (γ 0) 0 (ρ 1) (γ 1) := hS131 _ _ _ _ _ (zAllA hl 0)
  have l1 : sn111 [2, ρ 9, ρ 3, ρ 5, ρ 11, ρ 12] (γ 1) 0 0 (γ 2) := hS111 _ _ _ _ _ (zAllA hl 1)
  have l2 : sn159 [ρ 0, ρ 1, ρ 2, 0, ρ 4, 2, ρ 24, ρ 25, ρ 26, ρ 23, ρ 7, ρ 8, 0, ρ 10, 0, 0, ρ 13] (γ 2) 0 0 (γ 3) := hS159 _ _ _ _ _ (zAllA hl 2)
  have l3 : sn112 [ρ 4] (γ 3) 0 0 (γ 4) := hS112 _ _ _ _ _ (zAllA hl 3)
  show sn266 [ρ 0, ρ 1, ρ 2, ρ 3, ρ 4, ρ 5, ρ 6, ρ 7, ρ 8, ρ 9, ρ 10, ρ 11, ρ 12, ρ 13, ρ 14, ρ 15, ρ 16, ρ 17, ρ 18, ρ 19, ρ 20, ρ 21, ρ 22, ρ 23, ρ 24, ρ 25, ρ 26] (γ 0) 0 (-ρ 32 + (-1)) (γ 4)
  refine Eq.symm ?_
  show fn266 [] (γ 0) = _
  unfold fn266
  refine zLE m0 (zLE m1 (zLE m27 (zIP w_0 (zLE (show fn131 [ρ 0] (γ 0) = (0, ρ 1, γ 1) from l0.symm) (zLV (γ 1) rfl (zLE (show fn111 [2] (γ 1) = (0, 0, γ 2) from l1.symm) (zLV (γ 2) rfl ?_)))))))
  refine zLE (show fn159 [] (γ 2) = (0, 0, γ 3) from l2.symm) (zLV (γ 3) rfl (zIN zQ0_ (zLE m39 (zLE (show fn112 [] (γ 3) = (0, 0, γ 4) from l3.symm) (zLV (γ 4) rfl ?_)))))
  rfl
theorem vn266_1 {S : Nat → zSpc} (hS111 : zIm S 111 sn111) (hS112 : zIm S 112 sn112) (hS131 : zIm S 131 sn131) (hS159 : zIm S 159 sn159) (hS162 : zIm S 162 sn162) (hS262 : zIm S 262 sn262) {a : List Int} {g : rHp} : ∀ (ρ : Nat → Int) (γ : Nat → rHp), zO 27 S a g q266_1 ρ γ → zGl (fun _ _ _ => True) (sn266 a g) q266_1 ρ γ := by
  intro ρ γ h
  obtain ⟨ha, hg, hr, hf, hm, hc, hl⟩ := h
  have ha : a = [ρ 0, ρ 1, ρ 2, ρ 3, ρ 4, ρ 5, ρ 6, ρ 7, ρ 8, ρ 9, ρ 10, ρ 11, ρ 12, ρ 13, ρ 14, ρ 15, ρ 16, ρ 17, ρ 18, ρ 19, ρ 20, ρ 21, ρ 22, ρ 23, ρ 24, ρ 25, ρ 26] := ha
  subst ha
  subst hg
  have r27 : (1 : Int) ≤ ρ 27 ∧ ρ 27 ≤ 1 := zRnA hr 27
  have w_0 : ρ 27 ≠ 0 := by omega
  have m0 : γ 0 1 0 10 = ρ 0 := zAllA hm 0
  have m1 : γ 0 40 0 (ρ 0) = ρ 1 := zAllA hm 1
  have m27 : γ 0 0 0 7 = ρ 27 := zAllA hm 27
  have m40 : γ 3 2 0 5 = ρ 32 := zAllA hm 40
  have m46 : γ 0 0 0 6 = ρ 37 := zAllA hm 46
  have m51 : γ 7 8 (ρ 37) 1 = ρ 40 := zAllA hm 51
  have m52 : γ 7 6 0 0 = ρ 41 := zAllA hm 52
  have m60 : γ 0 0 0 5 = ρ 45 := zAllA hm 60
  have c6 : γ 6 = rUp (γ 5) 8 (ρ 37) 2 (ρ 32) := And.right (zChA hc 4)
  have c8 : γ 8 = rUp (γ 7) 0 0 5 (ρ 37) := And.right (zChA hc 2)
  have c9 : γ 9 = rUp (γ 8) 0 0 6 (ρ 45) := And.right (zChA hc 1)
  have c10 : γ 10 = rUp (γ 9) 0 0 8 (ρ 41) := And.right (zChA hc 0)
  have l0 : sn131 [ρ 0, ρ 1] (γ 0) 0 (ρ 1) (γ 1) := hS131 _ _ _ _ _ (zAllA hl 0)
  have l1 : sn111 [2, ρ 9, ρ 3, ρ 5, ρ 11, ρ 12] (γ 1) 0 0 (γ 2) := hS111 _ _ _ _ _ (zAllA hl 1)
  have l2 : sn159 [ρ 0, ρ 1, ρ 2, 0, ρ 4, 2, ρ 24, ρ 25, ρ 26, ρ 23, ρ 7, ρ 8, 0, ρ 10, 0, 0, ρ 13] (γ 2) 0 1 (γ 3) := hS159 _ _ _ _ _ (zAllA hl 2)
  have l3 : sn112 [ρ 4] (γ 3) 0 0 (γ 4) := hS112 _ _ _ _ _ (zAllA hl 3)
  have l4 : sn162 [ρ 37, ρ 38, ρ 39] (γ 4) 0 0 (γ 5) := hS162 _ _ _ _ _ (zAllA hl 4)
  have l5 : sn262 [ρ 1, ρ 37, 0, ρ 16, ρ 0, ρ 14, ρ 15, ρ 17, ρ 18, ρ 19, ρ 20, ρ 21, ρ 22, ρ 24, ρ 25, ρ 26] (γ 6) 0 0 (γ 7) := hS262 _ _ _ _ _ (zAllA hl 5)
  show sn266 [ρ 0, ρ 1, ρ 2, ρ 3, ρ 4, ρ 5, ρ 6, ρ 7, ρ 8, ρ 9, ρ 10, ρ 11, ρ 12, ρ 13, ρ 14, ρ 15, ρ 16, ρ 17, ρ 18, ρ 19, ρ 20, ρ 21, ρ 22, ρ 23, ρ 24, ρ 25, ρ 26] (γ 0) 0 (ρ 40) (γ 10)
  refine Eq.symm ?_
  show fn266 [] (γ 0) = _
  unfold fn266
  refine zLE m0 (zLE m1 (zLE m27 (zIP w_0 (zLE (show fn131 [ρ 0] (γ 0) = (0, ρ 1, γ 1) from l0.symm) (zLV (γ 1) rfl (zLE (show fn111 [2] (γ 1) = (0, 0, γ 2) from l1.symm) (zLV (γ 2) rfl ?_)))))))
  refine zLE (show fn159 [] (γ 2) = (0, 1, γ 3) from l2.symm) (zLV (γ 3) rfl (zIP zQ1_ (zLE m40 (zLE (show fn112 [] (γ 3) = (0, 0, γ 4) from l3.symm) (zLV (γ 4) rfl (zLE m46 (zLE (show fn162 [ρ 37] (γ 4) = (0, 0, γ 5) from l4.symm) ?_)))))))
  refine zLV (γ 5) rfl (zLE c6.symm (zLE (show fn262 [ρ 1, ρ 37] (γ 6) = (0, 0, γ 7) from l5.symm) (zLV (γ 7) rfl (zIP (show (0 : Nat) = 0 by decide) (zLE m51 (zLE m52 (zLE m60 ?_)))))))
  refine zLE c8.symm (zLE c9.symm (zLE c10.symm ?_))
  rfl
theorem vn266_2 {S : Nat → zSpc} (hS111 : zIm S 111 sn111) (hS112 : zIm S 112 sn112) (hS131 : zIm S 131 sn131) (hS159 : zIm S 159 sn159) (hS162 : zIm S 162 sn162) (hS262 : zIm S 262 sn262) {a : List Int} {g : rHp} : ∀ (ρ : Nat → Int) (γ : Nat → rHp), zO 27 S a g q266_2 ρ γ → zGl (fun _ _ _ => True) (sn266 a g) q266_2 ρ γ := by
  intro ρ γ h
  obtain ⟨ha, hg, hr, hf, hm, hc, hl⟩ := h
  have ha : a = [ρ 0, ρ 1, ρ 2, ρ 3, ρ 4, ρ 5, ρ 6, ρ 7, ρ 8, ρ 9, ρ 10, ρ 11, ρ 12, ρ 13, ρ 14, ρ 15, ρ 16, ρ 17, ρ 18, ρ 19, ρ 20, ρ 21, ρ 22, ρ 23, ρ 24, ρ 25, ρ 26] := ha
  subst ha
  subst hg
  have r27 : (1 : Int) ≤ ρ 27 ∧ ρ 27 ≤ 1 := zRnA hr 27
  have w_0 : ρ 27 ≠ 0 := by omega
  have m0 : γ 0 1 0 10 = ρ 0 := zAllA hm 0
  have m1 : γ 0 40 0 (ρ 0) = ρ 1 := zAllA hm 1
  have m27 : γ 0 0 0 7 = ρ 27 := zAllA hm 27
  have m40 : γ 3 2 0 5 = ρ 32 := zAllA hm 40
  have m46 : γ 0 0 0 6 = ρ 37 := zAllA hm 46
  have c6 : γ 6 = rUp (γ 5) 8 (ρ 37) 2 (ρ 32) := And.right (zChA hc 1)
  have l0 : sn131 [ρ 0, ρ 1] (γ 0) 0 (ρ 1) (γ 1) := hS131 _ _ _ _ _ (zAllA hl 0)
  have l1 : sn111 [2, ρ 9, ρ 3, ρ 5, ρ 11, ρ 12] (γ 1) 0 0 (γ 2) := hS111 _ _ _ _ _ (zAllA hl 1)
  have l2 : sn159 [ρ 0, ρ 1, ρ 2, 0, ρ 4, 2, ρ 24, ρ 25, ρ 26, ρ 23, ρ 7, ρ 8, 0, ρ 10, 0, 0, ρ 13] (γ 2) 0 1 (γ 3) := hS159 _ _ _ _ _ (zAllA hl 2)
  have l3 : sn112 [ρ 4] (γ 3) 0 0 (γ 4) := hS112 _ _ _ _ _ (zAllA hl 3)
  have l4 : sn162 [ρ 37, ρ 38, ρ 39] (γ 4) 0 0 (γ 5) := hS162 _ _ _ _ _ (zAllA hl 4)
  have l5 : sn262 [ρ 1, ρ 37, 0, ρ 16, ρ 0, ρ 14, ρ 15, ρ 17, ρ 18, ρ 19, ρ 20, ρ 21, ρ 22, ρ 24, ρ 25, ρ 26] (γ 6) 4 0 (γ 7) := hS262 _ _ _ _ _ (zAllA hl 5)
  show sn266 [ρ 0, ρ 1, ρ 2, ρ 3, ρ 4, ρ 5, ρ 6, ρ 7, ρ 8, ρ 9, ρ 10, ρ 11, ρ 12, ρ 13, ρ 14, ρ 15, ρ 16, ρ 17, ρ 18, ρ 19, ρ 20, ρ 21, ρ 22, ρ 23, ρ 24, ρ 25, ρ 26] (γ 0) 4 0 (γ 7)
  refine Eq.symm ?_
  show fn266 [] (γ 0) = _
  unfold fn266
  refine zLE m0 (zLE m1 (zLE m27 (zIP w_0 (zLE (show fn131 [ρ 0] (γ 0) = (0, ρ 1, γ 1) from l0.symm) (zLV (γ 1) rfl (zLE (show fn111 [2] (γ 1) = (0, 0, γ 2) from l1.symm) (zLV (γ 2) rfl ?_)))))))
  refine zLE (show fn159 [] (γ 2) = (0, 1, γ 3) from l2.symm) (zLV (γ 3) rfl (zIP zQ1_ (zLE m40 (zLE (show fn112 [] (γ 3) = (0, 0, γ 4) from l3.symm) (zLV (γ 4) rfl (zLE m46 (zLE (show fn162 [ρ 37] (γ 4) = (0, 0, γ 5) from l4.symm) ?_)))))))
  refine zLV (γ 5) rfl (zLE c6.symm (zLE (show fn262 [ρ 1, ρ 37] (γ 6) = (4, 0, γ 7) from l5.symm) (zLV (γ 7) rfl (zIN (show ¬ (4 : Nat) = 0 by decide) ?_))))
  rfl
theorem vn266_3 {S : Nat → zSpc} (hS111 : zIm S 111 sn111) (hS112 : zIm S 112 sn112) (hS131 : zIm S 131 sn131) (hS159 : zIm S 159 sn159) (hS162 : zIm S 162 sn162) (hS262 : zIm S 262 sn262) {a : List Int} {g : rHp} : ∀ (ρ : Nat → Int) (γ : Nat → rHp), zO 27 S a g q266_3 ρ γ → zGl (fun _ _ _ => True) (sn266 a g) q266_3 ρ γ := by
  intro ρ γ h
  obtain ⟨ha, hg, hr, hf, hm, hc, hl⟩ := h
  have ha : a = [ρ 0, ρ 1, ρ 2, ρ 3, ρ 4, ρ 5, ρ 6, ρ 7, ρ 8, ρ 9, ρ 10, ρ 11, ρ 12, ρ 13, ρ 14, ρ 15, ρ 16, ρ 17, ρ 18, ρ 19, ρ 20, ρ 21, ρ 22, ρ 23, ρ 24, ρ 25, ρ 26] := ha
  subst ha
  subst hg
  have r27 : (0 : Int) ≤ ρ 27 ∧ ρ 27 ≤ 0 := zRnA hr 27
  have w_0 : ¬ (ρ 27 ≠ 0) := by omega
  have m0 : γ 0 1 0 10 = ρ 0 := zAllA hm 0
  have m1 : γ 0 40 0 (ρ 0) = ρ 1 := zAllA hm 1
  have m27 : γ 0 0 0 7 = ρ 27 := zAllA hm 27
  have l0 : sn112 [ρ 4] (γ 0) 0 0 (γ 1) := hS112 _ _ _ _ _ (zAllA hl 0)
  show sn266 [ρ 0, ρ 1, ρ 2, ρ 3, ρ 4, ρ 5, ρ 6, ρ 7, ρ 8, ρ 9, ρ 10, ρ 11, ρ 12, ρ 13, ρ 14, ρ 15, ρ 16, ρ 17, ρ 18, ρ 19, ρ 20, ρ 21, ρ 22, ρ 23, ρ 24, ρ 25, ρ 26] (γ 0) 5 0 (γ 1)
  refine Eq.symm ?_
  show fn266 [] (γ 0) = _
  unfold fn266
  refine zLE m0 (zLE m1 (zLE m27 (zIN w_0 (zLE (show fn112 [] (γ 0) = (0, 0, γ 1) from l0.symm) (zLV (γ 1) rfl ?_)))))
  rfl
theorem yn266 {S : Nat → zSpc} (hS111 : zIm S 111 sn111) (hS112 : zIm S 112 sn112) (hS131 : zIm S 131 sn131) (hS159 : zIm S 159 sn159) (hS162 : zIm S 162 sn162) (hS262 : zIm S 262 sn262) : ∀ x g o v gz, zSem uW uT w266_.2.2.2.1 w266_.2.2.1.1.length S q266 (fun i => q266a.getD i []) (zNA a266_) x g o v gz → sn266 x g o v gz := by
  intro a g o v gz h
  exact zSem_all (l0 := q266) (las := q266a) (S := S) (J := (fun _ _ _ => True)) (P := sn266 a g) (fun _ => (show zAll _ [q266_0, q266_1, q266_2, q266_3] from (zAll_c (vn266_0 hS111 hS112 hS131 hS159 hS162 hS262) (zAll_c (vn266_1 hS111 hS112 hS131 hS159 hS162 hS262) (zAll_c (vn266_2 hS111 hS112 hS131 hS159 hS162 hS262) (zAll_c (vn266_3 hS111 hS112 hS131 hS159 hS162 hS262) zAll_n)))))) (fun _ => (show zAllI _ 0 [] from trivial)) h
theorem vn267_0 {S : Nat → zSpc} (hS164 : zIm S 164 sn164) {a : List Int} {g : rHp} : ∀ (ρ : Nat → Int) (γ : Nat → rHp), zO 7 S a g q267_0 ρ γ → zGl (fun _ _ _ => True) (sn267 a g) q267_0 ρ γ := by
  intro ρ γ h
  obtain ⟨ha, hg, hr, hf, hm, hc, hl⟩ := h
  have ha : a = [ρ 0, ρ 1, ρ 2, ρ 3, ρ 4, ρ 5, ρ 6] := ha
  subst ha
  subst hg
  have m0 : γ 0 2 0 3 = ρ 5 := zAllA hm 0
  have c2 : γ 2 = rUp (γ 1) 112 0 0 (ρ 5 + 20) := And.right (zChA hc 0)
  have l0 : sn164 [ρ 0, ρ 1, ρ 2, ρ 3, ρ 4, ρ 5] (γ 0) 0 (ρ 5 + 20) (γ 1) := hS164 _ _ _ _ _ (zAllA hl 0)
  show sn267 [ρ 0, ρ 1, ρ 2, ρ 3, ρ 4, ρ 5, ρ 6] (γ 0) 0 0 (γ 2)
  refine Eq.symm ?_
  show fn267 [ρ 0, ρ 1, ρ 2, ρ 3, ρ 4] (γ 0) = _
  unfold fn267
  refine zLV (ρ 0) rfl (zLV (ρ 1) rfl (zLV (ρ 2) rfl (zLV (ρ 3) rfl (zLV (ρ 4) rfl (zLE m0 (zLE (show fn164 [ρ 0, ρ 1, ρ 2, ρ 3, ρ 4] (γ 0) = (0, ρ 5 + 20, γ 1) from l0.symm) (zLV (γ 1) rfl ?_)))))))
  refine zIP (show (0 : Nat) = 0 by decide) (zLE c2.symm ?_)
  rfl
theorem vn267_1 {S : Nat → zSpc} (hS164 : zIm S 164 sn164) {a : List Int} {g : rHp} : ∀ (ρ : Nat → Int) (γ : Nat → rHp), zO 7 S a g q267_1 ρ γ → zGl (fun _ _ _ => True) (sn267 a g) q267_1 ρ γ := by
  intro ρ γ h
  obtain ⟨ha, hg, hr, hf, hm, hc, hl⟩ := h
  have ha : a = [ρ 0, ρ 1, ρ 2, ρ 3, ρ 4, ρ 5, ρ 6] := ha
  subst ha
  subst hg
  have m0 : γ 0 2 0 3 = ρ 5 := zAllA hm 0
  have l0 : sn164 [ρ 0, ρ 1, ρ 2, ρ 3, ρ 4, ρ 5] (γ 0) 1 0 (γ 1) := hS164 _ _ _ _ _ (zAllA hl 0)
  show sn267 [ρ 0, ρ 1, ρ 2, ρ 3, ρ 4, ρ 5, ρ 6] (γ 0) 0 1 (γ 1)
  refine Eq.symm ?_
  show fn267 [ρ 0, ρ 1, ρ 2, ρ 3, ρ 4] (γ 0) = _
  unfold fn267
  refine zLV (ρ 0) rfl (zLV (ρ 1) rfl (zLV (ρ 2) rfl (zLV (ρ 3) rfl (zLV (ρ 4) rfl (zLE m0 (zLE (show fn164 [ρ 0, ρ 1, ρ 2, ρ 3, ρ 4] (γ 0) = (1, 0, γ 1) from l0.symm) (zLV (γ 1) rfl ?_)))))))
  refine zIN (show ¬ (1 : Nat) = 0 by decide) ?_
  rfl
theorem yn267 {S : Nat → zSpc} (hS164 : zIm S 164 sn164) : ∀ x g o v gz, zSem uW uT w267_.2.2.2.1 w267_.2.2.1.1.length S q267 (fun i => q267a.getD i []) (zNA a267_) x g o v gz → sn267 x g o v gz := by
  intro a g o v gz h
  exact zSem_all (l0 := q267) (las := q267a) (S := S) (J := (fun _ _ _ => True)) (P := sn267 a g) (fun _ => (show zAll _ [q267_0, q267_1] from (zAll_c (vn267_0 hS164) (zAll_c (vn267_1 hS164) zAll_n)))) (fun _ => (show zAllI _ 0 [] from trivial)) h
theorem vn268_0 {S : Nat → zSpc} (hS165 : zIm S 165 sn165) {a : List Int} {g : rHp} : ∀ (ρ : Nat → Int) (γ : Nat → rHp), zO 3 S a g q268_0 ρ γ → zGl (fun _ _ _ => True) (sn268 a g) q268_0 ρ γ := by
  intro ρ γ h
  obtain ⟨ha, hg, hr, hf, hm, hc, hl⟩ := h
  have ha : a = [ρ 0, ρ 1, ρ 2] := ha
  subst ha
  subst hg
  have c2 : γ 2 = rUp (γ 1) 112 0 0 (ρ 0) := And.right (zChA hc 0)
  have l0 : sn165 [ρ 0, ρ 1] (γ 0) 0 (ρ 0) (γ 1) := hS165 _ _ _ _ _ (zAllA hl 0)
  show sn268 [ρ 0, ρ 1, ρ 2] (γ 0) 0 0 (γ 2)
  refine Eq.symm ?_
  show fn268 [ρ 0] (γ 0) = _
  unfold fn268
  refine zLV (ρ 0) rfl (zLE (show fn165 [ρ 0] (γ 0) = (0, ρ 0, γ 1) from l0.symm) (zLV (γ 1) rfl (zIP (show (0 : Nat) = 0 by decide) (zLE c2.symm ?_))))
  rfl
theorem vn268_1 {S : Nat → zSpc} (hS165 : zIm S 165 sn165) {a : List Int} {g : rHp} : ∀ (ρ : Nat → Int) (γ : Nat → rHp), zO 3 S a g q268_1 ρ γ → zGl (fun _ _ _ => True) (sn268 a g) q268_1 ρ γ := by
  intro ρ γ h
  obtain ⟨ha, hg, hr, hf, hm, hc, hl⟩ := h
  have ha : a = [ρ 0, ρ 1, ρ 2] := ha
  subst ha
  subst hg
  have l0 : sn165 [ρ 0, ρ 1] (γ 0) 2 0 (γ 1) := hS165 _ _ _ _ _ (zAllA hl 0)
  show sn268 [ρ 0, ρ 1, ρ 2] (γ 0) 0 1 (γ 1)
  refine Eq.symm ?_
  show fn268 [ρ 0] (γ 0) = _
  unfold fn268
  refine zLV (ρ 0) rfl (zLE (show fn165 [ρ 0] (γ 0) = (2, 0, γ 1) from l0.symm) (zLV (γ 1) rfl (zIN (show ¬ (2 : Nat) = 0 by decide) ?_)))
  rfl
theorem vn268_2 {S : Nat → zSpc} (hS165 : zIm S 165 sn165) {a : List Int} {g : rHp} : ∀ (ρ : Nat → Int) (γ : Nat → rHp), zO 3 S a g q268_2 ρ γ → zGl (fun _ _ _ => True) (sn268 a g) q268_2 ρ γ := by
  intro ρ γ h
  obtain ⟨ha, hg, hr, hf, hm, hc, hl⟩ := h
  have ha : a = [ρ 0, ρ 1, ρ 2] := ha
  subst ha
  subst hg
  have l0 : sn165 [ρ 0, ρ 1] (γ 0) 2 0 (γ 1) := hS165 _ _ _ _ _ (zAllA hl 0)
  show sn268 [ρ 0, ρ 1, ρ 2] (γ 0) 0 1 (γ 1)
  refine Eq.symm ?_
  show fn268 [ρ 0] (γ 0) = _
  unfold fn268
  refine zLV (ρ 0) rfl (zLE (show fn165 [ρ 0] (γ 0) = (2, 0, γ 1) from l0.symm) (zLV (γ 1) rfl (zIN (show ¬ (2 : Nat) = 0 by decide) ?_)))
  rfl
theorem yn268 {S : Nat → zSpc} (hS165 : zIm S 165 sn165) : ∀ x g o v gz, zSem uW uT w268_.2.2.2.1 w268_.2.2.1.1.length S q268 (fun i => q268a.getD i []) (zNA a268_) x g o v gz → sn268 x g o v gz := by
  intro a g o v gz h
  exact zSem_all (l0 := q268) (las := q268a) (S := S) (J := (fun _ _ _ => True)) (P := sn268 a g) (fun _ => (show zAll _ [q268_0, q268_1, q268_2] from (zAll_c (vn268_0 hS165) (zAll_c (vn268_1 hS165) (zAll_c (vn268_2 hS165) zAll_n))))) (fun _ => (show zAllI _ 0 [] from trivial)) h
theorem vn269_0 {S : Nat → zSpc} (hS169 : zIm S 169 sn169) {a : List Int} {g : rHp} : ∀ (ρ : Nat → Int) (γ : Nat → rHp), zO 3 S a g q269_0 ρ γ → zGl (fun _ _ _ => True) (sn269 a g) q269_0 ρ γ := by
  intro ρ γ h
  obtain ⟨ha, hg, hr, hf, hm, hc, hl⟩ := h
  have ha : a = [ρ 0, ρ 1, ρ 2] := ha
  subst ha
  subst hg
  have m1 : γ 0 1 0 10 = ρ 2 := zAllA hm 1
  have c2 : γ 2 = rUp (γ 1) 112 0 0 (ρ 2 + (-1)) := And.right (zChA hc 0)
  have l0 : sn169 [ρ 0, ρ 2, ρ 1] (γ 0) 0 (ρ 2 + (-1)) (γ 1) := hS169 _ _ _ _ _ (zAllA hl 0)
  show sn269 [ρ 0, ρ 1, ρ 2] (γ 0) 0 0 (γ 2)
  refine Eq.symm ?_
  show fn269 [ρ 0] (γ 0) = _
  unfold fn269
  refine zLV (ρ 0) rfl (zLE m1 (zLE (show fn169 [ρ 0] (γ 0) = (0, ρ 2 + (-1), γ 1) from l0.symm) (zLV (γ 1) rfl (zIP (show (0 : Nat) = 0 by decide) (zLE c2.symm ?_)))))
  rfl
theorem vn269_1 {S : Nat → zSpc} (hS169 : zIm S 169 sn169) {a : List Int} {g : rHp} : ∀ (ρ : Nat → Int) (γ : Nat → rHp), zO 3 S a g q269_1 ρ γ → zGl (fun _ _ _ => True) (sn269 a g) q269_1 ρ γ := by
  intro ρ γ h
  obtain ⟨ha, hg, hr, hf, hm, hc, hl⟩ := h
  have ha : a = [ρ 0, ρ 1, ρ 2] := ha
  subst ha
  subst hg
  have m1 : γ 0 1 0 10 = ρ 2 := zAllA hm 1
  have l0 : sn169 [ρ 0, ρ 2, ρ 1] (γ 0) 1 0 (γ 1) := hS169 _ _ _ _ _ (zAllA hl 0)
  show sn269 [ρ 0, ρ 1, ρ 2] (γ 0) 0 1 (γ 1)
  refine Eq.symm ?_
  show fn269 [ρ 0] (γ 0) = _
  unfold fn269
  refine zLV (ρ 0) rfl (zLE m1 (zLE (show fn169 [ρ 0] (γ 0) = (1, 0, γ 1) from l0.symm) (zLV (γ 1) rfl (zIN (show ¬ (1 : Nat) = 0 by decide) ?_))))
  rfl
theorem yn269 {S : Nat → zSpc} (hS169 : zIm S 169 sn169) : ∀ x g o v gz, zSem uW uT w269_.2.2.2.1 w269_.2.2.1.1.length S q269 (fun i => q269a.getD i []) (zNA a269_) x g o v gz → sn269 x g o v gz := by
  intro a g o v gz h
  exact zSem_all (l0 := q269) (las := q269a) (S := S) (J := (fun _ _ _ => True)) (P := sn269 a g) (fun _ => (show zAll _ [q269_0, q269_1] from (zAll_c (vn269_0 hS169) (zAll_c (vn269_1 hS169) zAll_n)))) (fun _ => (show zAllI _ 0 [] from trivial)) h
theorem vn270_0 {S : Nat → zSpc} (hS265 : zIm S 265 sn265) {a : List Int} {g : rHp} : ∀ (ρ : Nat → Int) (γ : Nat → rHp), zO 16 S a g q270_0 ρ γ → zGl (fun _ _ _ => True) (sn270 a g) q270_0 ρ γ := by
  intro ρ γ h
  obtain ⟨ha, hg, hr, hf, hm, hc, hl⟩ := h
  have ha : a = [ρ 0, ρ 1, ρ 2, ρ 3, ρ 4, ρ 5, ρ 6, ρ 7, ρ 8, ρ 9, ρ 10, ρ 11, ρ 12, ρ 13, ρ 14, ρ 15] := ha
  subst ha
  subst hg
  have c2 : γ 2 = rUp (γ 1) 112 0 0 (ρ 16) := And.right (zChA hc 0)
  have l0 : sn265 [ρ 0, ρ 3, ρ 4, ρ 5, ρ 6, ρ 7, ρ 9, ρ 1, ρ 2, ρ 8, ρ 10, ρ 11, ρ 12, ρ 13, ρ 14, ρ 15] (γ 0) 0 (ρ 16) (γ 1) := hS265 _ _ _ _ _ (zAllA hl 0)
  show sn270 [ρ 0, ρ 1, ρ 2, ρ 3, ρ 4, ρ 5, ρ 6, ρ 7, ρ 8, ρ 9, ρ 10, ρ 11, ρ 12, ρ 13, ρ 14, ρ 15] (γ 0) 0 0 (γ 2)
  refine Eq.symm ?_
  show fn270 [] (γ 0) = _
  unfold fn270
  refine zLE (show fn265 [] (γ 0) = (0, ρ 16, γ 1) from l0.symm) (zLV (γ 1) rfl (zIP (show (0 : Nat) = 0 by decide) (zLV (ρ 16) rfl (zLE c2.symm ?_))))
  rfl
theorem vn270_1 {S : Nat → zSpc} (hS265 : zIm S 265 sn265) {a : List Int} {g : rHp} : ∀ (ρ : Nat → Int) (γ : Nat → rHp), zO 16 S a g q270_1 ρ γ → zGl (fun _ _ _ => True) (sn270 a g) q270_1 ρ γ := by
  intro ρ γ h
  obtain ⟨ha, hg, hr, hf, hm, hc, hl⟩ := h
  have ha : a = [ρ 0, ρ 1, ρ 2, ρ 3, ρ 4, ρ 5, ρ 6, ρ 7, ρ 8, ρ 9, ρ 10, ρ 11, ρ 12, ρ 13, ρ 14, ρ 15] := ha
  subst ha
  subst hg
  have l0 : sn265 [ρ 0, ρ 3, ρ 4, ρ 5, ρ 6, ρ 7, ρ 9, ρ 1, ρ 2, ρ 8, ρ 10, ρ 11, ρ 12, ρ 13, ρ 14, ρ 15] (γ 0) 1 0 (γ 1) := hS265 _ _ _ _ _ (zAllA hl 0)
  show sn270 [ρ 0, ρ 1, ρ 2, ρ 3, ρ 4, ρ 5, ρ 6, ρ 7, ρ 8, ρ 9, ρ 10, ρ 11, ρ 12, ρ 13, ρ 14, ρ 15] (γ 0) 0 3 (γ 1)
  refine Eq.symm ?_
  show fn270 [] (γ 0) = _
  unfold fn270
  refine zLE (show fn265 [] (γ 0) = (1, 0, γ 1) from l0.symm) (zLV (γ 1) rfl (zIN (show ¬ (1 : Nat) = 0 by decide) (zIP (show (1 : Nat) = 1 by decide) ?_)))
  rfl
theorem vn270_2 {S : Nat → zSpc} (hS265 : zIm S 265 sn265) {a : List Int} {g : rHp} : ∀ (ρ : Nat → Int) (γ : Nat → rHp), zO 16 S a g q270_2 ρ γ → zGl (fun _ _ _ => True) (sn270 a g) q270_2 ρ γ := by
  intro ρ γ h
  obtain ⟨ha, hg, hr, hf, hm, hc, hl⟩ := h
  have ha : a = [ρ 0, ρ 1, ρ 2, ρ 3, ρ 4, ρ 5, ρ 6, ρ 7, ρ 8, ρ 9, ρ 10, ρ 11, ρ 12, ρ 13, ρ 14, ρ 15] := ha
  subst ha
  subst hg
  have l0 : sn265 [ρ 0, ρ 3, ρ 4, ρ 5, ρ 6, ρ 7, ρ 9, ρ 1, ρ 2, ρ 8, ρ 10, ρ 11, ρ 12, ρ 13, ρ 14, ρ 15] (γ 0) 3 0 (γ 1) := hS265 _ _ _ _ _ (zAllA hl 0)
  show sn270 [ρ 0, ρ 1, ρ 2, ρ 3, ρ 4, ρ 5, ρ 6, ρ 7, ρ 8, ρ 9, ρ 10, ρ 11, ρ 12, ρ 13, ρ 14, ρ 15] (γ 0) 0 1 (γ 1)
  refine Eq.symm ?_
  show fn270 [] (γ 0) = _
  unfold fn270
  refine zLE (show fn265 [] (γ 0) = (3, 0, γ 1) from l0.symm) (zLV (γ 1) rfl (zIN (show ¬ (3 : Nat) = 0 by decide) (zIN (show ¬ (3 : Nat) = 1 by decide) (zIP (show (3 : Nat) = 3 by decide) ?_))))
  rfl
theorem vn270_3 {S : Nat → zSpc} (hS265 : zIm S 265 sn265) {a : List Int} {g : rHp} : ∀ (ρ : Nat → Int) (γ : Nat → rHp), zO 16 S a g q270_3 ρ γ → zGl (fun _ _ _ => True) (sn270 a g) q270_3 ρ γ := by
  intro ρ γ h
  obtain ⟨ha, hg, hr, hf, hm, hc, hl⟩ := h
  have ha : a = [ρ 0, ρ 1, ρ 2, ρ 3, ρ 4, ρ 5, ρ 6, ρ 7, ρ 8, ρ 9, ρ 10, ρ 11, ρ 12, ρ 13, ρ 14, ρ 15] := ha
  subst ha
  subst hg
  have l0 : sn265 [ρ 0, ρ 3, ρ 4, ρ 5, ρ 6, ρ 7, ρ 9, ρ 1, ρ 2, ρ 8, ρ 10, ρ 11, ρ 12, ρ 13, ρ 14, ρ 15] (γ 0) 4 0 (γ 1) := hS265 _ _ _ _ _ (zAllA hl 0)
  show sn270 [ρ 0, ρ 1, ρ 2, ρ 3, ρ 4, ρ 5, ρ 6, ρ 7, ρ 8, ρ 9, ρ 10, ρ 11, ρ 12, ρ 13, ρ 14, ρ 15] (γ 0) 0 2 (γ 1)
  refine Eq.symm ?_
  show fn270 [] (γ 0) = _
  unfold fn270
  refine zLE (show fn265 [] (γ 0) = (4, 0, γ 1) from l0.symm) (zLV (γ 1) rfl (zIN (show ¬ (4 : Nat) = 0 by decide) (zIN (show ¬ (4 : Nat) = 1 by decide) (zIN (show ¬ (4 : Nat) = 3 by decide) ?_))))
  rfl
theorem yn270 {S : Nat → zSpc} (hS265 : zIm S 265 sn265) : ∀ x g o v gz, zSem uW uT w270_.2.2.2.1 w270_.2.2.1.1.length S q270 (fun i => q270a.getD i []) (zNA a270_) x g o v gz → sn270 x g o v gz := by
  intro a g o v gz h
  exact zSem_all (l0 := q270) (las := q270a) (S := S) (J := (fun _ _ _ => True)) (P := sn270 a g) (fun _ => (show zAll _ [q270_0, q270_1, q270_2, q270_3] from (zAll_c (vn270_0 hS265) (zAll_c (vn270_1 hS265) (zAll_c (vn270_2 hS265) (zAll_c (vn270_3 hS265) zAll_n)))))) (fun _ => (show zAllI _ 0 [] from trivial)) h
theorem vn271_0 {S : Nat → zSpc} (hS174 : zIm S 174 sn174) {a : List Int} {g : rHp} : ∀ (ρ : Nat → Int) (γ : Nat → rHp), zO 4 S a g q271_0 ρ γ → zGl (fun _ _ _ => True) (sn271 a g) q271_0 ρ γ := by
  intro ρ γ h
  obtain ⟨ha, hg, hr, hf, hm, hc, hl⟩ := h
  have ha : a = [ρ 0, ρ 1, ρ 2, ρ 3] := ha
  subst ha
  subst hg
  have c2 : γ 2 = rUp (γ 1) 112 0 0 (ρ 4) := And.right (zChA hc 0)
  have l0 : sn174 [ρ 0, ρ 1, ρ 3] (γ 0) 0 (ρ 4) (γ 1) := hS174 _ _ _ _ _ (zAllA hl 0)
  show sn271 [ρ 0, ρ 1, ρ 2, ρ 3] (γ 0) 0 0 (γ 2)
  refine Eq.symm ?_
  show fn271 [ρ 0, ρ 1] (γ 0) = _
  unfold fn271
  refine zLV (ρ 0) rfl (zLV (ρ 1) rfl (zLE (show fn174 [ρ 0, ρ 1] (γ 0) = (0, ρ 4, γ 1) from l0.symm) (zLV (γ 1) rfl (zIP (show (0 : Nat) = 0 by decide) (zLV (ρ 4) rfl (zLE c2.symm ?_))))))
  rfl
theorem vn271_1 {S : Nat → zSpc} (hS174 : zIm S 174 sn174) {a : List Int} {g : rHp} : ∀ (ρ : Nat → Int) (γ : Nat → rHp), zO 4 S a g q271_1 ρ γ → zGl (fun _ _ _ => True) (sn271 a g) q271_1 ρ γ := by
  intro ρ γ h
  obtain ⟨ha, hg, hr, hf, hm, hc, hl⟩ := h
  have ha : a = [ρ 0, ρ 1, ρ 2, ρ 3] := ha
  subst ha
  subst hg
  have l0 : sn174 [ρ 0, ρ 1, ρ 3] (γ 0) 1 0 (γ 1) := hS174 _ _ _ _ _ (zAllA hl 0)
  show sn271 [ρ 0, ρ 1, ρ 2, ρ 3] (γ 0) 0 3 (γ 1)
  refine Eq.symm ?_
  show fn271 [ρ 0, ρ 1] (γ 0) = _
  unfold fn271
  refine zLV (ρ 0) rfl (zLV (ρ 1) rfl (zLE (show fn174 [ρ 0, ρ 1] (γ 0) = (1, 0, γ 1) from l0.symm) (zLV (γ 1) rfl (zIN (show ¬ (1 : Nat) = 0 by decide) (zIP (show (1 : Nat) = 1 by decide) ?_)))))
  rfl
theorem vn271_2 {S : Nat → zSpc} (hS174 : zIm S 174 sn174) {a : List Int} {g : rHp} : ∀ (ρ : Nat → Int) (γ : Nat → rHp), zO 4 S a g q271_2 ρ γ → zGl (fun _ _ _ => True) (sn271 a g) q271_2 ρ γ := by
  intro ρ γ h
  obtain ⟨ha, hg, hr, hf, hm, hc, hl⟩ := h
  have ha : a = [ρ 0, ρ 1, ρ 2, ρ 3] := ha
  subst ha
  subst hg
  have l0 : sn174 [ρ 0, ρ 1, ρ 3] (γ 0) 2 0 (γ 1) := hS174 _ _ _ _ _ (zAllA hl 0)
  show sn271 [ρ 0, ρ 1, ρ 2, ρ 3] (γ 0) 0 1 (γ 1)
  refine Eq.symm ?_
  show fn271 [ρ 0, ρ 1] (γ 0) = _
  unfold fn271
  refine zLV (ρ 0) rfl (zLV (ρ 1) rfl (zLE (show fn174 [ρ 0, ρ 1] (γ 0) = (2, 0, γ 1) from l0.symm) (zLV (γ 1) rfl (zIN (show ¬ (2 : Nat) = 0 by decide) (zIN (show ¬ (2 : Nat) = 1 by decide) (zIP (show (2 : Nat) = 2 by decide) ?_))))))
  rfl
theorem vn271_3 {S : Nat → zSpc} (hS174 : zIm S 174 sn174) {a : List Int} {g : rHp} : ∀ (ρ : Nat → Int) (γ : Nat → rHp), zO 4 S a g q271_3 ρ γ → zGl (fun _ _ _ => True) (sn271 a g) q271_3 ρ γ := by
  intro ρ γ h
  obtain ⟨ha, hg, hr, hf, hm, hc, hl⟩ := h
  have ha : a = [ρ 0, ρ 1, ρ 2, ρ 3] := ha
  subst ha
  subst hg
  have l0 : sn174 [ρ 0, ρ 1, ρ 3] (γ 0) 5 0 (γ 1) := hS174 _ _ _ _ _ (zAllA hl 0)
  show sn271 [ρ 0, ρ 1, ρ 2, ρ 3] (γ 0) 0 2 (γ 1)
  refine Eq.symm ?_
  show fn271 [ρ 0, ρ 1] (γ 0) = _
  unfold fn271
  refine zLV (ρ 0) rfl (zLV (ρ 1) rfl (zLE (show fn174 [ρ 0, ρ 1] (γ 0) = (5, 0, γ 1) from l0.symm) (zLV (γ 1) rfl (zIN (show ¬ (5 : Nat) = 0 by decide) (zIN (show ¬ (5 : Nat) = 1 by decide) (zIN (show ¬ (5 : Nat) = 2 by decide) ?_))))))
  rfl
theorem yn271 {S : Nat → zSpc} (hS174 : zIm S 174 sn174) : ∀ x g o v gz, zSem uW uT w271_.2.2.2.1 w271_.2.2.1.1.length S q271 (fun i => q271a.getD i []) (zNA a271_) x g o v gz → sn271 x g o v gz := by
  intro a g o v gz h
  exact zSem_all (l0 := q271) (las := q271a) (S := S) (J := (fun _ _ _ => True)) (P := sn271 a g) (fun _ => (show zAll _ [q271_0, q271_1, q271_2, q271_3] from (zAll_c (vn271_0 hS174) (zAll_c (vn271_1 hS174) (zAll_c (vn271_2 hS174) (zAll_c (vn271_3 hS174) zAll_n)))))) (fun _ => (show zAllI _ 0 [] from trivial)) h
theorem vn272_0 {S : Nat → zSpc} (hS175 : zIm S 175 sn175) {a : List Int} {g : rHp} : ∀ (ρ : Nat → Int) (γ : Nat → rHp), zO 4 S a g q272_0 ρ γ → zGl (fun _ _ _ => True) (sn272 a g) q272_0 ρ γ := by
  intro ρ γ h
  obtain ⟨ha, hg, hr, hf, hm, hc, hl⟩ := h
  have ha : a = [ρ 0, ρ 1, ρ 2, ρ 3] := ha
  subst ha
  subst hg
  have c2 : γ 2 = rUp (γ 1) 112 0 0 (ρ 4) := And.right (zChA hc 0)
  have l0 : sn175 [ρ 0, ρ 1, ρ 3] (γ 0) 0 (ρ 4) (γ 1) := hS175 _ _ _ _ _ (zAllA hl 0)
  show sn272 [ρ 0, ρ 1, ρ 2, ρ 3] (γ 0) 0 0 (γ 2)
  refine Eq.symm ?_
  show fn272 [ρ 0, ρ 1] (γ 0) = _
  unfold fn272
  refine zLV (ρ 0) rfl (zLV (ρ 1) rfl (zLE (show fn175 [ρ 0, ρ 1] (γ 0) = (0, ρ 4, γ 1) from l0.symm) (zLV (γ 1) rfl (zIP (show (0 : Nat) = 0 by decide) (zLV (ρ 4) rfl (zLE c2.symm ?_))))))
  rfl
theorem vn272_1 {S : Nat → zSpc} (hS175 : zIm S 175 sn175) {a : List Int} {g : rHp} : ∀ (ρ : Nat → Int) (γ : Nat → rHp), zO 4 S a g q272_1 ρ γ → zGl (fun _ _ _ => True) (sn272 a g) q272_1 ρ γ := by
  intro ρ γ h
  obtain ⟨ha, hg, hr, hf, hm, hc, hl⟩ := h
  have ha : a = [ρ 0, ρ 1, ρ 2, ρ 3] := ha
  subst ha
  subst hg
  have l0 : sn175 [ρ 0, ρ 1, ρ 3] (γ 0) 1 0 (γ 1) := hS175 _ _ _ _ _ (zAllA hl 0)
  show sn272 [ρ 0, ρ 1, ρ 2, ρ 3] (γ 0) 0 2 (γ 1)
  refine Eq.symm ?_
  show fn272 [ρ 0, ρ 1] (γ 0) = _
  unfold fn272
  refine zLV (ρ 0) rfl (zLV (ρ 1) rfl (zLE (show fn175 [ρ 0, ρ 1] (γ 0) = (1, 0, γ 1) from l0.symm) (zLV (γ 1) rfl (zIN (show ¬ (1 : Nat) = 0 by decide) (zIP (show (1 : Nat) = 1 by decide) ?_)))))
  rfl
theorem vn272_2 {S : Nat → zSpc} (hS175 : zIm S 175 sn175) {a : List Int} {g : rHp} : ∀ (ρ : Nat → Int) (γ : Nat → rHp), zO 4 S a g q272_2 ρ γ → zGl (fun _ _ _ => True) (sn272 a g) q272_2 ρ γ := by
  intro ρ γ h
  obtain ⟨ha, hg, hr, hf, hm, hc, hl⟩ := h
  have ha : a = [ρ 0, ρ 1, ρ 2, ρ 3] := ha
  subst ha
  subst hg
  have l0 : sn175 [ρ 0, ρ 1, ρ 3] (γ 0) 5 0 (γ 1) := hS175 _ _ _ _ _ (zAllA hl 0)
  show sn272 [ρ 0, ρ 1, ρ 2, ρ 3] (γ 0) 0 1 (γ 1)
  refine Eq.symm ?_
  show fn272 [ρ 0, ρ 1] (γ 0) = _
  unfold fn272
  refine zLV (ρ 0) rfl (zLV (ρ 1) rfl (zLE (show fn175 [ρ 0, ρ 1] (γ 0) = (5, 0, γ 1) from l0.symm) (zLV (γ 1) rfl (zIN (show ¬ (5 : Nat) = 0 by decide) (zIN (show ¬ (5 : Nat) = 1 by decide) ?_)))))
  rfl
theorem yn272 {S : Nat → zSpc} (hS175 : zIm S 175 sn175) : ∀ x g o v gz, zSem uW uT w272_.2.2.2.1 w272_.2.2.1.1.length S q272 (fun i => q272a.getD i []) (zNA a272_) x g o v gz → sn272 x g o v gz := by
  intro a g o v gz h
  exact zSem_all (l0 := q272) (las := q272a) (S := S) (J := (fun _ _ _ => True)) (P := sn272 a g) (fun _ => (show zAll _ [q272_0, q272_1, q272_2] from (zAll_c (vn272_0 hS175) (zAll_c (vn272_1 hS175) (zAll_c (vn272_2 hS175) zAll_n))))) (fun _ => (show zAllI _ 0 [] from trivial)) h
theorem vn273_0 {S : Nat → zSpc} (hS185 : zIm S 185 sn185) {a : List Int} {g : rHp} : ∀ (ρ : Nat → Int) (γ : Nat → rHp), zO 5 S a g q273_0 ρ γ → zGl (fun _ _ _ => True) (sn273 a g) q273_0 ρ γ := by
  intro ρ γ h
  obtain ⟨ha, hg, hr, hf, hm, hc, hl⟩ := h
  have ha : a = [ρ 0, ρ 1, ρ 2, ρ 3, ρ 4] := ha
  subst ha
  subst hg
  have c2 : γ 2 = rUp (γ 1) 112 0 0 (ρ 5) := And.right (zChA hc 0)
  have l0 : sn185 [ρ 0, ρ 3, ρ 4, ρ 2] (γ 0) 0 (ρ 5) (γ 1) := hS185 _ _ _ _ _ (zAllA hl 0)
  show sn273 [ρ 0, ρ 1, ρ 2, ρ 3, ρ 4] (γ 0) 0 0 (γ 2)
  refine Eq.symm ?_
  show fn273 [ρ 0] (γ 0) = _
  unfold fn273
  refine zLV (ρ 0) rfl (zLE (show fn185 [ρ 0] (γ 0) = (0, ρ 5, γ 1) from l0.symm) (zLV (γ 1) rfl (zIP (show (0 : Nat) = 0 by decide) (zLV (ρ 5) rfl (zLE c2.symm ?_)))))
  rfl
theorem vn273_1 {S : Nat → zSpc} (hS185 : zIm S 185 sn185) {a : List Int} {g : rHp} : ∀ (ρ : Nat → Int) (γ : Nat → rHp), zO 5 S a g q273_1 ρ γ → zGl (fun _ _ _ => True) (sn273 a g) q273_1 ρ γ := by
  intro ρ γ h
  obtain ⟨ha, hg, hr, hf, hm, hc, hl⟩ := h
  have ha : a = [ρ 0, ρ 1, ρ 2, ρ 3, ρ 4] := ha
  subst ha
  subst hg
  have l0 : sn185 [ρ 0, ρ 3, ρ 4, ρ 2] (γ 0) 1 0 (γ 1) := hS185 _ _ _ _ _ (zAllA hl 0)
  show sn273 [ρ 0, ρ 1, ρ 2, ρ 3, ρ 4] (γ 0) 0 2 (γ 1)
  refine Eq.symm ?_
  show fn273 [ρ 0] (γ 0) = _
  unfold fn273
  refine zLV (ρ 0) rfl (zLE (show fn185 [ρ 0] (γ 0) = (1, 0, γ 1) from l0.symm) (zLV (γ 1) rfl (zIN (show ¬ (1 : Nat) = 0 by decide) (zIP (show (1 : Nat) = 1 by decide) ?_))))
  rfl
theorem vn273_2 {S : Nat → zSpc} (hS185 : zIm S 185 sn185) {a : List Int} {g : rHp} : ∀ (ρ : Nat → Int) (γ : Nat → rHp), zO 5 S a g q273_2 ρ γ → zGl (fun _ _ _ => True) (sn273 a g) q273_2 ρ γ := by
  intro ρ γ h
  obtain ⟨ha, hg, hr, hf, hm, hc, hl⟩ := h
  have ha : a = [ρ 0, ρ 1, ρ 2, ρ 3, ρ 4] := ha
  subst ha
  subst hg
  have l0 : sn185 [ρ 0, ρ 3, ρ 4, ρ 2] (γ 0) 5 0 (γ 1) := hS185 _ _ _ _ _ (zAllA hl 0)
  show sn273 [ρ 0, ρ 1, ρ 2, ρ 3, ρ 4] (γ 0) 0 1 (γ 1)
  refine Eq.symm ?_
  show fn273 [ρ 0] (γ 0) = _
  unfold fn273
  refine zLV (ρ 0) rfl (zLE (show fn185 [ρ 0] (γ 0) = (5, 0, γ 1) from l0.symm) (zLV (γ 1) rfl (zIN (show ¬ (5 : Nat) = 0 by decide) (zIN (show ¬ (5 : Nat) = 1 by decide) ?_))))
  rfl
theorem yn273 {S : Nat → zSpc} (hS185 : zIm S 185 sn185) : ∀ x g o v gz, zSem uW uT w273_.2.2.2.1 w273_.2.2.1.1.length S q273 (fun i => q273a.getD i []) (zNA a273_) x g o v gz → sn273 x g o v gz := by
  intro a g o v gz h
  exact zSem_all (l0 := q273) (las := q273a) (S := S) (J := (fun _ _ _ => True)) (P := sn273 a g) (fun _ => (show zAll _ [q273_0, q273_1, q273_2] from (zAll_c (vn273_0 hS185) (zAll_c (vn273_1 hS185) (zAll_c (vn273_2 hS185) zAll_n))))) (fun _ => (show zAllI _ 0 [] from trivial)) h
theorem vn274_0 {S : Nat → zSpc} (hS221 : zIm S 221 sn221) {a : List Int} {g : rHp} : ∀ (ρ : Nat → Int) (γ : Nat → rHp), zO 11 S a g q274_0 ρ γ → zGl (fun _ _ _ => True) (sn274 a g) q274_0 ρ γ := by
  intro ρ γ h
  obtain ⟨ha, hg, hr, hf, hm, hc, hl⟩ := h
  have ha : a = [ρ 0, ρ 1, ρ 2, ρ 3, ρ 4, ρ 5, ρ 6, ρ 7, ρ 8, ρ 9, ρ 10] := ha
  subst ha
  subst hg
  have c2 : γ 2 = rUp (γ 1) 112 0 0 (ρ 23) := And.right (zChA hc 0)
  have l0 : sn221 [ρ 2, ρ 11, ρ 12, ρ 5, ρ 0, ρ 6, ρ 1, ρ 3, ρ 4, ρ 7, ρ 8, ρ 9, ρ 10, ρ 13, ρ 14, ρ 15, ρ 16, ρ 17, ρ 18, ρ 19, ρ 20, ρ 21, ρ 22] (γ 0) 0 (ρ 23) (γ 1) := hS221 _ _ _ _ _ (zAllA hl 0)
  show sn274 [ρ 0, ρ 1, ρ 2, ρ 3, ρ 4, ρ 5, ρ 6, ρ 7, ρ 8, ρ 9, ρ 10] (γ 0) 0 0 (γ 2)
  refine Eq.symm ?_
  show fn274 [] (γ 0) = _
  unfold fn274
  refine zLE (show fn221 [] (γ 0) = (0, ρ 23, γ 1) from l0.symm) (zLV (γ 1) rfl (zIP (show (0 : Nat) = 0 by decide) (zLV (ρ 23) rfl (zLE c2.symm ?_))))
  rfl
theorem vn274_1 {S : Nat → zSpc} (hS221 : zIm S 221 sn221) {a : List Int} {g : rHp} : ∀ (ρ : Nat → Int) (γ : Nat → rHp), zO 11 S a g q274_1 ρ γ → zGl (fun _ _ _ => True) (sn274 a g) q274_1 ρ γ := by
  intro ρ γ h
  obtain ⟨ha, hg, hr, hf, hm, hc, hl⟩ := h
  have ha : a = [ρ 0, ρ 1, ρ 2, ρ 3, ρ 4, ρ 5, ρ 6, ρ 7, ρ 8, ρ 9, ρ 10] := ha
  subst ha
  subst hg
  have l0 : sn221 [ρ 2, ρ 11, ρ 12, ρ 5, ρ 0, ρ 6, ρ 1, ρ 3, ρ 4, ρ 7, ρ 8, ρ 9, ρ 10, ρ 13, ρ 14, ρ 15, ρ 16, ρ 17, ρ 18, ρ 19, ρ 20, ρ 21, ρ 22] (γ 0) 5 0 (γ 1) := hS221 _ _ _ _ _ (zAllA hl 0)
  show sn274 [ρ 0, ρ 1, ρ 2, ρ 3, ρ 4, ρ 5, ρ 6, ρ 7, ρ 8, ρ 9, ρ 10] (γ 0) 0 1 (γ 1)
  refine Eq.symm ?_
  show fn274 [] (γ 0) = _
  unfold fn274
  refine zLE (show fn221 [] (γ 0) = (5, 0, γ 1) from l0.symm) (zLV (γ 1) rfl (zIN (show ¬ (5 : Nat) = 0 by decide) ?_))
  rfl
theorem yn274 {S : Nat → zSpc} (hS221 : zIm S 221 sn221) : ∀ x g o v gz, zSem uW uT w274_.2.2.2.1 w274_.2.2.1.1.length S q274 (fun i => q274a.getD i []) (zNA a274_) x g o v gz → sn274 x g o v gz := by
  intro a g o v gz h
  exact zSem_all (l0 := q274) (las := q274a) (S := S) (J := (fun _ _ _ => True)) (P := sn274 a g) (fun _ => (show zAll _ [q274_0, q274_1] from (zAll_c (vn274_0 hS221) (zAll_c (vn274_1 hS221) zAll_n)))) (fun _ => (show zAllI _ 0 [] from trivial)) h
theorem vn275_0 {S : Nat → zSpc} (hS266 : zIm S 266 sn266) {a : List Int} {g : rHp} : ∀ (ρ : Nat → Int) (γ : Nat → rHp), zO 21 S a g q275_0 ρ γ → zGl (fun _ _ _ => True) (sn275 a g) q275_0 ρ γ := by
  intro ρ γ h
  obtain ⟨ha, hg, hr, hf, hm, hc, hl⟩ := h
  have ha : a = [ρ 0, ρ 1, ρ 2, ρ 3, ρ 4, ρ 5, ρ 6, ρ 7, ρ 8, ρ 9, ρ 10, ρ 11, ρ 12, ρ 13, ρ 14, ρ 15, ρ 16, ρ 17, ρ 18, ρ 19, ρ 20] := ha
  subst ha
  subst hg
  have c2 : γ 2 = rUp (γ 1) 112 0 0 (ρ 27) := And.right (zChA hc 0)
  have l0 : sn266 [ρ 3, ρ 21, ρ 22, ρ 6, ρ 0, ρ 7, ρ 1, ρ 2, ρ 4, ρ 5, ρ 8, ρ 9, ρ 10, ρ 11, ρ 12, ρ 13, ρ 14, ρ 15, ρ 16, ρ 17, ρ 18, ρ 19, ρ 20, ρ 23, ρ 24, ρ 25, ρ 26] (γ 0) 0 (ρ 27) (γ 1) := hS266 _ _ _ _ _ (zAllA hl 0)
  show sn275 [ρ 0, ρ 1, ρ 2, ρ 3, ρ 4, ρ 5, ρ 6, ρ 7, ρ 8, ρ 9, ρ 10, ρ 11, ρ 12, ρ 13, ρ 14, ρ 15, ρ 16, ρ 17, ρ 18, ρ 19, ρ 20] (γ 0) 0 0 (γ 2)
  refine Eq.symm ?_
  show fn275 [] (γ 0) = _
  unfold fn275
  refine zLE (show fn266 [] (γ 0) = (0, ρ 27, γ 1) from l0.symm) (zLV (γ 1) rfl (zIP (show (0 : Nat) = 0 by decide) (zLV (ρ 27) rfl (zLE c2.symm ?_))))
  rfl
theorem vn275_1 {S : Nat → zSpc} (hS266 : zIm S 266 sn266) {a : List Int} {g : rHp} : ∀ (ρ : Nat → Int) (γ : Nat → rHp), zO 21 S a g q275_1 ρ γ → zGl (fun _ _ _ => True) (sn275 a g) q275_1 ρ γ := by
  intro ρ γ h
  obtain ⟨ha, hg, hr, hf, hm, hc, hl⟩ := h
  have ha : a = [ρ 0, ρ 1, ρ 2, ρ 3, ρ 4, ρ 5, ρ 6, ρ 7, ρ 8, ρ 9, ρ 10, ρ 11, ρ 12, ρ 13, ρ 14, ρ 15, ρ 16, ρ 17, ρ 18, ρ 19, ρ 20] := ha
  subst ha
  subst hg
  have l0 : sn266 [ρ 3, ρ 21, ρ 22, ρ 6, ρ 0, ρ 7, ρ 1, ρ 2, ρ 4, ρ 5, ρ 8, ρ 9, ρ 10, ρ 11, ρ 12, ρ 13, ρ 14, ρ 15, ρ 16, ρ 17, ρ 18, ρ 19, ρ 20, ρ 23, ρ 24, ρ 25, ρ 26] (γ 0) 4 0 (γ 1) := hS266 _ _ _ _ _ (zAllA hl 0)
  show sn275 [ρ 0, ρ 1, ρ 2, ρ 3, ρ 4, ρ 5, ρ 6, ρ 7, ρ 8, ρ 9, ρ 10, ρ 11, ρ 12, ρ 13, ρ 14, ρ 15, ρ 16, ρ 17, ρ 18, ρ 19, ρ 20] (γ 0) 0 2 (γ 1)
  refine Eq.symm ?_
  show fn275 [] (γ 0) = _
  unfold fn275
  refine zLE (show fn266 [] (γ 0) = (4, 0, γ 1) from l0.symm) (zLV (γ 1) rfl (zIN (show ¬ (4 : Nat) = 0 by decide) (zIP (show (4 : Nat) = 4 by decide) ?_)))
  rfl
theorem vn275_2 {S : Nat → zSpc} (hS266 : zIm S 266 sn266) {a : List Int} {g : rHp} : ∀ (ρ : Nat → Int) (γ : Nat → rHp), zO 21 S a g q275_2 ρ γ → zGl (fun _ _ _ => True) (sn275 a g) q275_2 ρ γ := by
  intro ρ γ h
  obtain ⟨ha, hg, hr, hf, hm, hc, hl⟩ := h
  have ha : a = [ρ 0, ρ 1, ρ 2, ρ 3, ρ 4, ρ 5, ρ 6, ρ 7, ρ 8, ρ 9, ρ 10, ρ 11, ρ 12, ρ 13, ρ 14, ρ 15, ρ 16, ρ 17, ρ 18, ρ 19, ρ 20] := ha
  subst ha
  subst hg
  have l0 : sn266 [ρ 3, ρ 21, ρ 22, ρ 6, ρ 0, ρ 7, ρ 1, ρ 2, ρ 4, ρ 5, ρ 8, ρ 9, ρ 10, ρ 11, ρ 12, ρ 13, ρ 14, ρ 15, ρ 16, ρ 17, ρ 18, ρ 19, ρ 20, ρ 23, ρ 24, ρ 25, ρ 26] (γ 0) 5 0 (γ 1) := hS266 _ _ _ _ _ (zAllA hl 0)
  show sn275 [ρ 0, ρ 1, ρ 2, ρ 3, ρ 4, ρ 5, ρ 6, ρ 7, ρ 8, ρ 9, ρ 10, ρ 11, ρ 12, ρ 13, ρ 14, ρ 15, ρ 16, ρ 17, ρ 18, ρ 19, ρ 20] (γ 0) 0 1 (γ 1)
  refine Eq.symm ?_
  show fn275 [] (γ 0) = _
  unfold fn275
  refine zLE (show fn266 [] (γ 0) = (5, 0, γ 1) from l0.symm) (zLV (γ 1) rfl (zIN (show ¬ (5 : Nat) = 0 by decide) (zIN (show ¬ (5 : Nat) = 4 by decide) ?_)))
  rfl
theorem yn275 {S : Nat → zSpc} (hS266 : zIm S 266 sn266) : ∀ x g o v gz, zSem uW uT w275_.2.2.2.1 w275_.2.2.1.1.length S q275 (fun i => q275a.getD i []) (zNA a275_) x g o v gz → sn275 x g o v gz := by
  intro a g o v gz h
  exact zSem_all (l0 := q275) (las := q275a) (S := S) (J := (fun _ _ _ => True)) (P := sn275 a g) (fun _ => (show zAll _ [q275_0, q275_1, q275_2] from (zAll_c (vn275_0 hS266) (zAll_c (vn275_1 hS266) (zAll_c (vn275_2 hS266) zAll_n))))) (fun _ => (show zAllI _ 0 [] from trivial)) h
theorem vn276_0 {S : Nat → zSpc} (hS176 : zIm S 176 sn176) {a : List Int} {g : rHp} : ∀ (ρ : Nat → Int) (γ : Nat → rHp), zO 3 S a g q276_0 ρ γ → zGl (fun _ _ _ => True) (sn276 a g) q276_0 ρ γ := by
  intro ρ γ h
  obtain ⟨ha, hg, hr, hf, hm, hc, hl⟩ := h
  have ha : a = [ρ 0, ρ 1, ρ 2] := ha
  subst ha
  subst hg
  have c2 : γ 2 = rUp (γ 1) 112 0 0 (ρ 3) := And.right (zChA hc 0)
  have l0 : sn176 [ρ 0, ρ 1] (γ 0) 0 (ρ 3) (γ 1) := hS176 _ _ _ _ _ (zAllA hl 0)
  show sn276 [ρ 0, ρ 1, ρ 2] (γ 0) 0 0 (γ 2)
  refine Eq.symm ?_
  show fn276 [ρ 0, ρ 1] (γ 0) = _
  unfold fn276
  refine zLV (ρ 0) rfl (zLV (ρ 1) rfl (zLE (show fn176 [ρ 0, ρ 1] (γ 0) = (0, ρ 3, γ 1) from l0.symm) (zLV (γ 1) rfl (zIP (show (0 : Nat) = 0 by decide) (zLV (ρ 3) rfl (zLE c2.symm ?_))))))
  rfl
theorem vn276_1 {S : Nat → zSpc} (hS176 : zIm S 176 sn176) {a : List Int} {g : rHp} : ∀ (ρ : Nat → Int) (γ : Nat → rHp), zO 3 S a g q276_1 ρ γ → zGl (fun _ _ _ => True) (sn276 a g) q276_1 ρ γ := by
  intro ρ γ h
  obtain ⟨ha, hg, hr, hf, hm, hc, hl⟩ := h
  have ha : a = [ρ 0, ρ 1, ρ 2] := ha
  subst ha
  subst hg
  have l0 : sn176 [ρ 0, ρ 1] (γ 0) 1 0 (γ 1) := hS176 _ _ _ _ _ (zAllA hl 0)
  show sn276 [ρ 0, ρ 1, ρ 2] (γ 0) 0 1 (γ 1)
  refine Eq.symm ?_
  show fn276 [ρ 0, ρ 1] (γ 0) = _
  unfold fn276
  refine zLV (ρ 0) rfl (zLV (ρ 1) rfl (zLE (show fn176 [ρ 0, ρ 1] (γ 0) = (1, 0, γ 1) from l0.symm) (zLV (γ 1) rfl (zIN (show ¬ (1 : Nat) = 0 by decide) ?_))))
  rfl
theorem yn276 {S : Nat → zSpc} (hS176 : zIm S 176 sn176) : ∀ x g o v gz, zSem uW uT w276_.2.2.2.1 w276_.2.2.1.1.length S q276 (fun i => q276a.getD i []) (zNA a276_) x g o v gz → sn276 x g o v gz := by
  intro a g o v gz h
  exact zSem_all (l0 := q276) (las := q276a) (S := S) (J := (fun _ _ _ => True)) (P := sn276 a g) (fun _ => (show zAll _ [q276_0, q276_1] from (zAll_c (vn276_0 hS176) (zAll_c (vn276_1 hS176) zAll_n)))) (fun _ => (show zAllI _ 0 [] from trivial)) h
theorem vn277_0 {S : Nat → zSpc} (hS177 : zIm S 177 sn177) {a : List Int} {g : rHp} : ∀ (ρ : Nat → Int) (γ : Nat → rHp), zO 3 S a g q277_0 ρ γ → zGl (fun _ _ _ => True) (sn277 a g) q277_0 ρ γ := by
  intro ρ γ h
  obtain ⟨ha, hg, hr, hf, hm, hc, hl⟩ := h
  have ha : a = [ρ 0, ρ 1, ρ 2] := ha
  subst ha
  subst hg
  have c2 : γ 2 = rUp (γ 1) 112 0 0 (ρ 3) := And.right (zChA hc 0)
  have l0 : sn177 [ρ 0, ρ 2] (γ 0) 0 (ρ 3) (γ 1) := hS177 _ _ _ _ _ (zAllA hl 0)
  show sn277 [ρ 0, ρ 1, ρ 2] (γ 0) 0 0 (γ 2)
  refine Eq.symm ?_
  show fn277 [ρ 0] (γ 0) = _
  unfold fn277
  refine zLV (ρ 0) rfl (zLE (show fn177 [ρ 0] (γ 0) = (0, ρ 3, γ 1) from l0.symm) (zLV (γ 1) rfl (zIP (show (0 : Nat) = 0 by decide) (zLV (ρ 3) rfl (zLE c2.symm ?_)))))
  rfl
theorem vn277_1 {S : Nat → zSpc} (hS177 : zIm S 177 sn177) {a : List Int} {g : rHp} : ∀ (ρ : Nat → Int) (γ : Nat → rHp), zO 3 S a g q277_1 ρ γ → zGl (fun _ _ _ => True) (sn277 a g) q277_1 ρ γ := by
  intro ρ γ h
  obtain ⟨ha, hg, hr, hf, hm, hc, hl⟩ := h
  have ha : a = [ρ 0, ρ 1, ρ 2] := ha
  subst ha
  subst hg
  have l0 : sn177 [ρ 0, ρ 2] (γ 0) 1 0 (γ 1) := hS177 _ _ _ _ _ (zAllA hl 0)
  show sn277 [ρ 0, ρ 1, ρ 2] (γ 0) 0 2 (γ 1)
  refine Eq.symm ?_
  show fn277 [ρ 0] (γ 0) = _
  unfold fn277
  refine zLV (ρ 0) rfl (zLE (show fn177 [ρ 0] (γ 0) = (1, 0, γ 1) from l0.symm) (zLV (γ 1) rfl (zIN (show ¬ (1 : Nat) = 0 by decide) (zIP (show (1 : Nat) = 1 by decide) ?_))))
  rfl
theorem vn277_2 {S : Nat → zSpc} (hS177 : zIm S 177 sn177) {a : List Int} {g : rHp} : ∀ (ρ : Nat → Int) (γ : Nat → rHp), zO 3 S a g q277_2 ρ γ → zGl (fun _ _ _ => True) (sn277 a g) q277_2 ρ γ := by
  intro ρ γ h
  obtain ⟨ha, hg, hr, hf, hm, hc, hl⟩ := h
  have ha : a = [ρ 0, ρ 1, ρ 2] := ha
  subst ha
  subst hg
  have l0 : sn177 [ρ 0, ρ 2] (γ 0) 5 0 (γ 1) := hS177 _ _ _ _ _ (zAllA hl 0)
  show sn277 [ρ 0, ρ 1, ρ 2] (γ 0) 0 1 (γ 1)
  refine Eq.symm ?_
  show fn277 [ρ 0] (γ 0) = _
  unfold fn277
  refine zLV (ρ 0) rfl (zLE (show fn177 [ρ 0] (γ 0) = (5, 0, γ 1) from l0.symm) (zLV (γ 1) rfl (zIN (show ¬ (5 : Nat) = 0 by decide) (zIN (show ¬ (5 : Nat) = 1 by decide) ?_))))
  rfl
theorem yn277 {S : Nat → zSpc} (hS177 : zIm S 177 sn177) : ∀ x g o v gz, zSem uW uT w277_.2.2.2.1 w277_.2.2.1.1.length S q277 (fun i => q277a.getD i []) (zNA a277_) x g o v gz → sn277 x g o v gz := by
  intro a g o v gz h
  exact zSem_all (l0 := q277) (las := q277a) (S := S) (J := (fun _ _ _ => True)) (P := sn277 a g) (fun _ => (show zAll _ [q277_0, q277_1, q277_2] from (zAll_c (vn277_0 hS177) (zAll_c (vn277_1 hS177) (zAll_c (vn277_2 hS177) zAll_n))))) (fun _ => (show zAllI _ 0 [] from trivial)) h
theorem vn278_0 {S : Nat → zSpc} (hS178 : zIm S 178 sn178) {a : List Int} {g : rHp} : ∀ (ρ : Nat → Int) (γ : Nat → rHp), zO 3 S a g q278_0 ρ γ → zGl (fun _ _ _ => True) (sn278 a g) q278_0 ρ γ := by
  intro ρ γ h
  obtain ⟨ha, hg, hr, hf, hm, hc, hl⟩ := h
  have ha : a = [ρ 0, ρ 1, ρ 2] := ha
  subst ha
  subst hg
  have c2 : γ 2 = rUp (γ 1) 112 0 0 (ρ 3) := And.right (zChA hc 0)
  have l0 : sn178 [ρ 0, ρ 2] (γ 0) 0 (ρ 3) (γ 1) := hS178 _ _ _ _ _ (zAllA hl 0)
  show sn278 [ρ 0, ρ 1, ρ 2] (γ 0) 0 0 (γ 2)
  refine Eq.symm ?_
  show fn278 [ρ 0] (γ 0) = _
  unfold fn278
  refine zLV (ρ 0) rfl (zLE (show fn178 [ρ 0] (γ 0) = (0, ρ 3, γ 1) from l0.symm) (zLV (γ 1) rfl (zIP (show (0 : Nat) = 0 by decide) (zLV (ρ 3) rfl (zLE c2.symm ?_)))))
  rfl
theorem vn278_1 {S : Nat → zSpc} (hS178 : zIm S 178 sn178) {a : List Int} {g : rHp} : ∀ (ρ : Nat → Int) (γ : Nat → rHp), zO 3 S a g q278_1 ρ γ → zGl (fun _ _ _ => True) (sn278 a g) q278_1 ρ γ := by
  intro ρ γ h
  obtain ⟨ha, hg, hr, hf, hm, hc, hl⟩ := h
  have ha : a = [ρ 0, ρ 1, ρ 2] := ha
  subst ha
  subst hg
  have l0 : sn178 [ρ 0, ρ 2] (γ 0) 1 0 (γ 1) := hS178 _ _ _ _ _ (zAllA hl 0)
  show sn278 [ρ 0, ρ 1, ρ 2] (γ 0) 0 1 (γ 1)
  refine Eq.symm ?_
  show fn278 [ρ 0] (γ 0) = _
  unfold fn278
  refine zLV (ρ 0) rfl (zLE (show fn178 [ρ 0] (γ 0) = (1, 0, γ 1) from l0.symm) (zLV (γ 1) rfl (zIN (show ¬ (1 : Nat) = 0 by decide) ?_)))
  rfl
theorem yn278 {S : Nat → zSpc} (hS178 : zIm S 178 sn178) : ∀ x g o v gz, zSem uW uT w278_.2.2.2.1 w278_.2.2.1.1.length S q278 (fun i => q278a.getD i []) (zNA a278_) x g o v gz → sn278 x g o v gz := by
  intro a g o v gz h
  exact zSem_all (l0 := q278) (las := q278a) (S := S) (J := (fun _ _ _ => True)) (P := sn278 a g) (fun _ => (show zAll _ [q278_0, q278_1] from (zAll_c (vn278_0 hS178) (zAll_c (vn278_1 hS178) zAll_n)))) (fun _ => (show zAllI _ 0 [] from trivial)) h
theorem vn279_0 {S : Nat → zSpc} (hS179 : zIm S 179 sn179) {a : List Int} {g : rHp} : ∀ (ρ : Nat → Int) (γ : Nat → rHp), zO 11 S a g q279_0 ρ γ → zGl (fun _ _ _ => True) (sn279 a g) q279_0 ρ γ := by
  intro ρ γ h
  obtain ⟨ha, hg, hr, hf, hm, hc, hl⟩ := h
  have ha : a = [ρ 0, ρ 1, ρ 2, ρ 3, ρ 4, ρ 5, ρ 6, ρ 7, ρ 8, ρ 9, ρ 10] := ha
  subst ha
  subst hg
  have c2 : γ 2 = rUp (γ 1) 112 0 0 (ρ 11) := And.right (zChA hc 0)
  have l0 : sn179 [ρ 0, ρ 2, ρ 3, ρ 4, ρ 5, ρ 6, ρ 7, ρ 1, ρ 8, ρ 9, ρ 10] (γ 0) 0 (ρ 11) (γ 1) := hS179 _ _ _ _ _ (zAllA hl 0)
  show sn279 [ρ 0, ρ 1, ρ 2, ρ 3, ρ 4, ρ 5, ρ 6, ρ 7, ρ 8, ρ 9, ρ 10] (γ 0) 0 0 (γ 2)
  refine Eq.symm ?_
  show fn279 [ρ 0] (γ 0) = _
  unfold fn279
  refine zLV (ρ 0) rfl (zLE (show fn179 [ρ 0] (γ 0) = (0, ρ 11, γ 1) from l0.symm) (zLV (γ 1) rfl (zIP (show (0 : Nat) = 0 by decide) (zLV (ρ 11) rfl (zLE c2.symm ?_)))))
  rfl
theorem vn279_1 {S : Nat → zSpc} (hS179 : zIm S 179 sn179) {a : List Int} {g : rHp} : ∀ (ρ : Nat → Int) (γ : Nat → rHp), zO 11 S a g q279_1 ρ γ → zGl (fun _ _ _ => True) (sn279 a g) q279_1 ρ γ := by
  intro ρ γ h
  obtain ⟨ha, hg, hr, hf, hm, hc, hl⟩ := h
  have ha : a = [ρ 0, ρ 1, ρ 2, ρ 3, ρ 4, ρ 5, ρ 6, ρ 7, ρ 8, ρ 9, ρ 10] := ha
  subst ha
  subst hg
  have l0 : sn179 [ρ 0, ρ 2, ρ 3, ρ 4, ρ 5, ρ 6, ρ 7, ρ 1, ρ 8, ρ 9, ρ 10] (γ 0) 2 0 (γ 1) := hS179 _ _ _ _ _ (zAllA hl 0)
  show sn279 [ρ 0, ρ 1, ρ 2, ρ 3, ρ 4, ρ 5, ρ 6, ρ 7, ρ 8, ρ 9, ρ 10] (γ 0) 0 1 (γ 1)
  refine Eq.symm ?_
  show fn279 [ρ 0] (γ 0) = _
  unfold fn279
  refine zLV (ρ 0) rfl (zLE (show fn179 [ρ 0] (γ 0) = (2, 0, γ 1) from l0.symm) (zLV (γ 1) rfl (zIN (show ¬ (2 : Nat) = 0 by decide) ?_)))
  rfl
theorem yn279 {S : Nat → zSpc} (hS179 : zIm S 179 sn179) : ∀ x g o v gz, zSem uW uT w279_.2.2.2.1 w279_.2.2.1.1.length S q279 (fun i => q279a.getD i []) (zNA a279_) x g o v gz → sn279 x g o v gz := by
  intro a g o v gz h
  exact zSem_all (l0 := q279) (las := q279a) (S := S) (J := (fun _ _ _ => True)) (P := sn279 a g) (fun _ => (show zAll _ [q279_0, q279_1] from (zAll_c (vn279_0 hS179) (zAll_c (vn279_1 hS179) zAll_n)))) (fun _ => (show zAllI _ 0 [] from trivial)) h
