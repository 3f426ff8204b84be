/-! ===== the runs are the functions ===== -/
theorem vn158_0 {S : Nat → zSpc} (hS109 : zIm S 109 sn109) (hS114 : zIm S 114 sn114) (hS132 : zIm S 132 sn132) (hS152 : zIm S 152 sn152) (hS153 : zIm S 153 sn153) (hS157 : zIm S 157 sn157) {a : List Int} {g : rHp} : ∀ (ρ : Nat → Int) (γ : Nat → rHp), zO 18 S a g q158_0 ρ γ → zGl (fun i vs g1 => jn158 a g i vs g1) (sn158 a g) q158_0 ρ γ := by
  intro ρ γ h
  obtain ⟨ha, hg, hr, hf, hm, hc, hl⟩ := h
  have ha : a = [ρ 0, ρ 1, ρ 2, ρ 3, ρ 4, ρ 5, ρ 6, ρ 7, ρ 8, ρ 9, ρ 10, ρ 11, ρ 12, ρ 13, ρ 14, ρ 15, ρ 16, ρ 17] := ha
  subst ha
  subst hg
  have m0 : γ 0 1 0 10 = ρ 0 := zAllA hm 0
  have m1 : γ 0 40 0 (ρ 0) = ρ 1 := zAllA hm 1
  have c1 : γ 1 = rUp (γ 0) 9 (ρ 1) 2 0 := And.right (zChA hc 1)
  have c2 : γ 2 = rUp (γ 1) 9 (ρ 1) 3 0 := And.right (zChA hc 0)
  show jn158 [ρ 0, ρ 1, ρ 2, ρ 3, ρ 4, ρ 5, ρ 6, ρ 7, ρ 8, ρ 9, ρ 10, ρ 11, ρ 12, ρ 13, ρ 14, ρ 15, ρ 16, ρ 17] (γ 0) 0 [ρ 0, ρ 1, ρ 2, ρ 3, ρ 4, ρ 5, ρ 6, ρ 7, ρ 8, ρ 9, ρ 10, ρ 11, ρ 12, ρ 13, ρ 14, ρ 15, ρ 16, ρ 17, 0, ρ 3, 0, ρ 10, ρ 12, ρ 13, ρ 14, ρ 15, ρ 16] (γ 2)
  have hD : dn158 [] (γ 0) = .inl (0, [], γ 2) := by
    unfold dn158
    refine zLE m0 (zLE m1 (zLE c1.symm (zLE c2.symm ?_)))
    rfl
  exact zGoo_to hD
theorem vn158a0_0 {S : Nat → zSpc} (hS109 : zIm S 109 sn109) (hS114 : zIm S 114 sn114) (hS132 : zIm S 132 sn132) (hS152 : zIm S 152 sn152) (hS153 : zIm S 153 sn153) (hS157 : zIm S 157 sn157) {a : List Int} {g : rHp} : ∀ (ρ : Nat → Int) (γ : Nat → rHp), jn158 a g 0 (zAg (zNA a158_ 0) ρ) (γ 1) → zO 18 S a g q158a0_0 ρ γ → zGl (fun i vs g1 => jn158 a g i vs g1) (sn158 a g) q158a0_0 ρ γ := by
  intro ρ γ hJ h
  obtain ⟨ha, hg, hr, hf, hm, hc, hl⟩ := h
  have ha : a = [ρ 0, ρ 1, ρ 2, ρ 3, ρ 4, ρ 5, ρ 6, ρ 7, ρ 8, ρ 9, ρ 10, ρ 11, ρ 12, ρ 13, ρ 14, ρ 15, ρ 16, ρ 17] := ha
  subst ha
  subst hg
  have hJ : jn158 [ρ 0, ρ 1, ρ 2, ρ 3, ρ 4, ρ 5, ρ 6, ρ 7, ρ 8, ρ 9, ρ 10, ρ 11, ρ 12, ρ 13, ρ 14, ρ 15, ρ 16, ρ 17] (γ 0) 0 [ρ 0, ρ 1, ρ 2, ρ 3, ρ 4, ρ 5, ρ 6, ρ 7, ρ 8, ρ 9, ρ 10, ρ 11, ρ 12, ρ 13, ρ 14, ρ 15, ρ 16, ρ 17, ρ 18, ρ 19, ρ 20, ρ 21, ρ 22, ρ 23, ρ 24, ρ 25, ρ 26] (γ 1) := hJ
  have r18 : (8 : Int) ≤ ρ 18 ∧ ρ 18 ≤ 8 := zRnA hr 18
  have w_0 : ρ 18 ≥ 8 := by omega
  have m0 : γ 0 1 0 10 = ρ 0 := zAllA hm 0
  have m1 : γ 0 40 0 (ρ 0) = ρ 1 := zAllA hm 1
  have m18 : γ 1 9 (ρ 1) 2 = ρ 18 := zAllA hm 18
  have m22 : γ 1 9 (ρ 1) 3 = ρ 20 := zAllA hm 22
  have m30 : γ 2 2 0 6 = ρ 27 := zAllA hm 30
  have l0 : sn114 [ρ 19, ρ 4] (γ 1) 0 (-1) (γ 2) := hS114 _ _ _ _ _ (zAllA hl 0)
  have l1 : sn109 [ρ 27, ρ 11] (γ 2) 0 0 (γ 3) := hS109 _ _ _ _ _ (zAllA hl 1)
  show sn158 [ρ 0, ρ 1, ρ 2, ρ 3, ρ 4, ρ 5, ρ 6, ρ 7, ρ 8, ρ 9, ρ 10, ρ 11, ρ 12, ρ 13, ρ 14, ρ 15, ρ 16, ρ 17] (γ 0) 0 0 (γ 3)
  have hD : en158 (γ 0) (0, [], γ 1) = .inr (0, 0, γ 3) := by
    unfold en158
    refine zIP (show (0 : Nat) = 0 by decide) (zLV (γ 1) rfl (zLE m0 (zLE m1 (zLE m18 (zLE m22 (zIP w_0 (zLE (show fn114 [] (γ 1) = (0, (-1), γ 2) from l0.symm) ?_)))))))
    refine zLV (γ 2) rfl (zIN zQ2_ (zLE m30 (zLE (show fn109 [ρ 27] (γ 2) = (0, 0, γ 3) from l1.symm) (zLV (γ 3) rfl ?_))))
    rfl
  exact zGoo_aend hJ hD
theorem vn158a0_1 {S : Nat → zSpc} (hS109 : zIm S 109 sn109) (hS114 : zIm S 114 sn114) (hS132 : zIm S 132 sn132) (hS152 : zIm S 152 sn152) (hS153 : zIm S 153 sn153) (hS157 : zIm S 157 sn157) {a : List Int} {g : rHp} : ∀ (ρ : Nat → Int) (γ : Nat → rHp), jn158 a g 0 (zAg (zNA a158_ 0) ρ) (γ 1) → zO 18 S a g q158a0_1 ρ γ → zGl (fun i vs g1 => jn158 a g i vs g1) (sn158 a g) q158a0_1 ρ γ := by
  intro ρ γ hJ h
  obtain ⟨ha, hg, hr, hf, hm, hc, hl⟩ := h
  have ha : a = [ρ 0, ρ 1, ρ 2, ρ 3, ρ 4, ρ 5, ρ 6, ρ 7, ρ 8, ρ 9, ρ 10, ρ 11, ρ 12, ρ 13, ρ 14, ρ 15, ρ 16, ρ 17] := ha
  subst ha
  subst hg
  have hJ : jn158 [ρ 0, ρ 1, ρ 2, ρ 3, ρ 4, ρ 5, ρ 6, ρ 7, ρ 8, ρ 9, ρ 10, ρ 11, ρ 12, ρ 13, ρ 14, ρ 15, ρ 16, ρ 17] (γ 0) 0 [ρ 0, ρ 1, ρ 2, ρ 3, ρ 4, ρ 5, ρ 6, ρ 7, ρ 8, ρ 9, ρ 10, ρ 11, ρ 12, ρ 13, ρ 14, ρ 15, ρ 16, ρ 17, ρ 18, ρ 19, ρ 20, ρ 21, ρ 22, ρ 23, ρ 24, ρ 25, ρ 26] (γ 1) := hJ
  have r18 : (8 : Int) ≤ ρ 18 ∧ ρ 18 ≤ 8 := zRnA hr 18
  have r27 : (0 : Int) ≤ ρ 27 ∧ ρ 27 ≤ 255 := zRnA hr 27
  obtain ⟨w_0, w_1⟩ : (ρ 18 ≥ 8) ∧ ((0 : Int) ≤ ρ 27) := ⟨by omega, by omega⟩
  have m0 : γ 0 1 0 10 = ρ 0 := zAllA hm 0
  have m1 : γ 0 40 0 (ρ 0) = ρ 1 := zAllA hm 1
  have m18 : γ 1 9 (ρ 1) 2 = ρ 18 := zAllA hm 18
  have m22 : γ 1 9 (ρ 1) 3 = ρ 20 := zAllA hm 22
  have m30 : γ 2 2 0 6 = ρ 28 := zAllA hm 30
  have l0 : sn114 [ρ 19, ρ 4] (γ 1) 0 (ρ 27) (γ 2) := hS114 _ _ _ _ _ (zAllA hl 0)
  have l1 : sn109 [ρ 28, ρ 11] (γ 2) 0 0 (γ 3) := hS109 _ _ _ _ _ (zAllA hl 1)
  show sn158 [ρ 0, ρ 1, ρ 2, ρ 3, ρ 4, ρ 5, ρ 6, ρ 7, ρ 8, ρ 9, ρ 10, ρ 11, ρ 12, ρ 13, ρ 14, ρ 15, ρ 16, ρ 17] (γ 0) 0 0 (γ 3)
  have hD : en158 (γ 0) (0, [], γ 1) = .inr (0, 0, γ 3) := by
    unfold en158
    refine zIP (show (0 : Nat) = 0 by decide) (zLV (γ 1) rfl (zLE m0 (zLE m1 (zLE m18 (zLE m22 (zIP w_0 (zLE (show fn114 [] (γ 1) = (0, ρ 27, γ 2) from l0.symm) ?_)))))))
    refine zLV (γ 2) rfl (zIP w_1 (zLE m30 (zLE (show fn109 [ρ 28] (γ 2) = (0, 0, γ 3) from l1.symm) (zLV (γ 3) rfl ?_))))
    rfl
  exact zGoo_aend hJ hD
theorem vn158a0_2 {S : Nat → zSpc} (hS109 : zIm S 109 sn109) (hS114 : zIm S 114 sn114) (hS132 : zIm S 132 sn132) (hS152 : zIm S 152 sn152) (hS153 : zIm S 153 sn153) (hS157 : zIm S 157 sn157) {a : List Int} {g : rHp} : ∀ (ρ : Nat → Int) (γ : Nat → rHp), jn158 a g 0 (zAg (zNA a158_ 0) ρ) (γ 1) → zO 18 S a g q158a0_2 ρ γ → zGl (fun i vs g1 => jn158 a g i vs g1) (sn158 a g) q158a0_2 ρ γ := by
  intro ρ γ hJ h
  obtain ⟨ha, hg, hr, hf, hm, hc, hl⟩ := h
  have ha : a = [ρ 0, ρ 1, ρ 2, ρ 3, ρ 4, ρ 5, ρ 6, ρ 7, ρ 8, ρ 9, ρ 10, ρ 11, ρ 12, ρ 13, ρ 14, ρ 15, ρ 16, ρ 17] := ha
  subst ha
  subst hg
  have hJ : jn158 [ρ 0, ρ 1, ρ 2, ρ 3, ρ 4, ρ 5, ρ 6, ρ 7, ρ 8, ρ 9, ρ 10, ρ 11, ρ 12, ρ 13, ρ 14, ρ 15, ρ 16, ρ 17] (γ 0) 0 [ρ 0, ρ 1, ρ 2, ρ 3, ρ 4, ρ 5, ρ 6, ρ 7, ρ 8, ρ 9, ρ 10, ρ 11, ρ 12, ρ 13, ρ 14, ρ 15, ρ 16, ρ 17, ρ 18, ρ 19, ρ 20, ρ 21, ρ 22, ρ 23, ρ 24, ρ 25, ρ 26] (γ 1) := hJ
  have r18 : (0 : Int) ≤ ρ 18 ∧ ρ 18 ≤ 7 := zRnA hr 18
  have w_0 : ¬ (ρ 18 ≥ 8) := by omega
  have m0 : γ 0 1 0 10 = ρ 0 := zAllA hm 0
  have m1 : γ 0 40 0 (ρ 0) = ρ 1 := zAllA hm 1
  have m18 : γ 1 9 (ρ 1) 2 = ρ 18 := zAllA hm 18
  have m22 : γ 1 9 (ρ 1) 3 = ρ 20 := zAllA hm 22
  have l0 : sn132 [ρ 1, ρ 18] (γ 1) 0 (ρ 18 + 9 * ρ 1 + 1) (γ 2) := hS132 _ _ _ _ _ (zAllA hl 0)
  have l1 : sn157 [ρ 0, ρ 1, ρ 18, ρ 19, ρ 4, ρ 27, ρ 28, ρ 29, ρ 5, ρ 6, ρ 7, ρ 21, ρ 11, ρ 22, ρ 23, ρ 24, ρ 25, ρ 26, ρ 30, ρ 31, ρ 32, ρ 33] (γ 2) 0 0 (γ 3) := hS157 _ _ _ _ _ (zAllA hl 1)
  show sn158 [ρ 0, ρ 1, ρ 2, ρ 3, ρ 4, ρ 5, ρ 6, ρ 7, ρ 8, ρ 9, ρ 10, ρ 11, ρ 12, ρ 13, ρ 14, ρ 15, ρ 16, ρ 17] (γ 0) 0 0 (γ 3)
  have hD : en158 (γ 0) (0, [], γ 1) = .inr (0, 0, γ 3) := by
    unfold en158
    refine zIP (show (0 : Nat) = 0 by decide) (zLV (γ 1) rfl (zLE m0 (zLE m1 (zLE m18 (zLE m22 (zIN w_0 (zLE (show fn132 [ρ 1, ρ 18] (γ 1) = (0, ρ 18 + 9 * ρ 1 + 1, γ 2) from l0.symm) ?_)))))))
    refine zLV (γ 2) rfl (zLE (show fn157 [] (γ 2) = (0, 0, γ 3) from l1.symm) (zLV (γ 3) rfl (zIN zQ0_ ?_)))
    rfl
  exact zGoo_aend hJ hD
theorem vn158a0_3 {S : Nat → zSpc} (hS109 : zIm S 109 sn109) (hS114 : zIm S 114 sn114) (hS132 : zIm S 132 sn132) (hS152 : zIm S 152 sn152) (hS153 : zIm S 153 sn153) (hS157 : zIm S 157 sn157) {a : List Int} {g : rHp} : ∀ (ρ : Nat → Int) (γ : Nat → rHp), jn158 a g 0 (zAg (zNA a158_ 0) ρ) (γ 1) → zO 18 S a g q158a0_3 ρ γ → zGl (fun i vs g1 => jn158 a g i vs g1) (sn158 a g) q158a0_3 ρ γ := by
  intro ρ γ hJ h
  obtain ⟨ha, hg, hr, hf, hm, hc, hl⟩ := h
  have ha : a = [ρ 0, ρ 1, ρ 2, ρ 3, ρ 4, ρ 5, ρ 6, ρ 7, ρ 8, ρ 9, ρ 10, ρ 11, ρ 12, ρ 13, ρ 14, ρ 15, ρ 16, ρ 17] := ha
  subst ha
  subst hg
  have hJ : jn158 [ρ 0, ρ 1, ρ 2, ρ 3, ρ 4, ρ 5, ρ 6, ρ 7, ρ 8, ρ 9, ρ 10, ρ 11, ρ 12, ρ 13, ρ 14, ρ 15, ρ 16, ρ 17] (γ 0) 0 [ρ 0, ρ 1, ρ 2, ρ 3, ρ 4, ρ 5, ρ 6, ρ 7, ρ 8, ρ 9, ρ 10, ρ 11, ρ 12, ρ 13, ρ 14, ρ 15, ρ 16, ρ 17, ρ 18, ρ 19, ρ 20, ρ 21, ρ 22, ρ 23, ρ 24, ρ 25, ρ 26] (γ 1) := hJ
  have r0 : (0 : Int) ≤ ρ 0 ∧ ρ 0 ≤ 60 := zRnA hr 0
  have r1 : (0 : Int) ≤ ρ 1 ∧ ρ 1 ≤ 60 := zRnA hr 1
  have r2 : (0 : Int) ≤ ρ 2 ∧ ρ 2 ≤ 8 := zRnA hr 2
  have r3 : (0 : Int) ≤ ρ 3 ∧ ρ 3 ≤ 2000 := zRnA hr 3
  have r4 : (0 : Int) ≤ ρ 4 ∧ ρ 4 ≤ 2000 := zRnA hr 4
  have r5 : (0 : Int) ≤ ρ 5 ∧ ρ 5 ≤ 0 := zRnA hr 5
  have r6 : ((-1) : Int) ≤ ρ 6 ∧ ρ 6 ≤ 19 := zRnA hr 6
  have r7 : (0 : Int) ≤ ρ 7 ∧ ρ 7 ≤ 4 := zRnA hr 7
  have r8 : ((-1) : Int) ≤ ρ 8 ∧ ρ 8 ≤ 7 := zRnA hr 8
  have r9 : (0 : Int) ≤ ρ 9 ∧ ρ 9 ≤ 8 := zRnA hr 9
  have r10 : (0 : Int) ≤ ρ 10 ∧ ρ 10 ≤ 20 := zRnA hr 10
  have r11 : ((-2147483648) : Int) ≤ ρ 11 ∧ ρ 11 ≤ 2147483647 := zRnA hr 11
  have r12 : ((-2147483648) : Int) ≤ ρ 12 ∧ ρ 12 ≤ 2147483647 := zRnA hr 12
  have r13 : ((-2147483648) : Int) ≤ ρ 13 ∧ ρ 13 ≤ 2147483647 := zRnA hr 13
  have r14 : (0 : Int) ≤ ρ 14 ∧ ρ 14 ≤ 8 := zRnA hr 14
  have r15 : (0 : Int) ≤ ρ 15 ∧ ρ 15 ≤ 32 := zRnA hr 15
  have r16 : (0 : Int) ≤ ρ 16 ∧ ρ 16 ≤ 5120 := zRnA hr 16
  have r17 : ((-2147483648) : Int) ≤ ρ 17 ∧ ρ 17 ≤ 2147483647 := zRnA hr 17
  have r18 : (0 : Int) ≤ ρ 18 ∧ ρ 18 ≤ 7 := zRnA hr 18
  have r19 : (0 : Int) ≤ ρ 19 ∧ ρ 19 ≤ 2000 := zRnA hr 19
  have r20 : (0 : Int) ≤ ρ 20 ∧ ρ 20 ≤ 8 := zRnA hr 20
  have r21 : (0 : Int) ≤ ρ 21 ∧ ρ 21 ≤ 20 := zRnA hr 21
  have r22 : ((-2147483648) : Int) ≤ ρ 22 ∧ ρ 22 ≤ 2147483647 := zRnA hr 22
  have r23 : ((-2147483648) : Int) ≤ ρ 23 ∧ ρ 23 ≤ 2147483647 := zRnA hr 23
  have r24 : (0 : Int) ≤ ρ 24 ∧ ρ 24 ≤ 8 := zRnA hr 24
  have r25 : (0 : Int) ≤ ρ 25 ∧ ρ 25 ≤ 32 := zRnA hr 25
  have r26 : (0 : Int) ≤ ρ 26 ∧ ρ 26 ≤ 5120 := zRnA hr 26
  have r27 : (0 : Int) ≤ ρ 27 ∧ ρ 27 ≤ 8 := zRnA hr 27
  have r28 : ((-1) : Int) ≤ ρ 28 ∧ ρ 28 ≤ 7 := zRnA hr 28
  have r29 : ((-1) : Int) ≤ ρ 29 ∧ ρ 29 ≤ 19 := zRnA hr 29
  have r30 : (0 : Int) ≤ ρ 30 ∧ ρ 30 ≤ 4 := zRnA hr 30
  have r31 : ((-2147483648) : Int) ≤ ρ 31 ∧ ρ 31 ≤ 2147483647 := zRnA hr 31
  have r32 : ((-1) : Int) ≤ ρ 32 ∧ ρ 32 ≤ 3 := zRnA hr 32
  have r33 : (0 : Int) ≤ ρ 33 ∧ ρ 33 ≤ 4 := zRnA hr 33
  have r34 : (2 : Int) ≤ ρ 34 ∧ ρ 34 ≤ 2000 := zRnA hr 34
  have r35 : (3 : Int) ≤ ρ 35 ∧ ρ 35 ≤ 5 := zRnA hr 35
  have r36 : ((-2147483648) : Int) ≤ ρ 36 ∧ ρ 36 ≤ 2147483647 := zRnA hr 36
  have r37 : (0 : Int) ≤ ρ 37 ∧ ρ 37 ≤ 5120 := zRnA hr 37
  have r38 : (1 : Int) ≤ ρ 38 ∧ ρ 38 ≤ 2 := zRnA hr 38
  have r39 : (0 : Int) ≤ ρ 39 ∧ ρ 39 ≤ 2000 := zRnA hr 39
  have r40 : (0 : Int) ≤ ρ 40 ∧ ρ 40 ≤ 2000 := zRnA hr 40
  have f0 : (0 : Int) ≤ ρ 40 + -ρ 34 := zAllA hf 0
  have f1 : (0 : Int) ≤ ρ 40 + -ρ 4 := zAllA hf 1
  have f2 : (0 : Int) ≤ -ρ 39 + ρ 34 + (-1) := zAllA hf 2
  have f3 : (0 : Int) ≤ ρ 34 + -ρ 19 + (-1) := zAllA hf 3
  have f4 : (0 : Int) ≤ ρ 37 + -ρ 26 := zAllA hf 4
  have f5 : (0 : Int) ≤ ρ 39 + -ρ 19 := zAllA hf 5
  have f6 : (0 : Int) ≤ -ρ 38 + ρ 4 := zAllA hf 6
  have f7 : (0 : Int) ≤ -ρ 39 + ρ 4 + (-1) := zAllA hf 7
  have f8 : (0 : Int) ≤ -ρ 19 + ρ 4 + (-1) := zAllA hf 8
  have f9 : (0 : Int) ≤ -ρ 18 + ρ 4 := zAllA hf 9
  have f10 : (0 : Int) ≤ ρ 26 + -ρ 16 := zAllA hf 10
  have f11 : (0 : Int) ≤ ρ 25 + -ρ 15 := zAllA hf 11
  have f12 : (0 : Int) ≤ ρ 24 + -ρ 14 := zAllA hf 12
  have f13 : (0 : Int) ≤ ρ 21 + -ρ 10 := zAllA hf 13
  have f14 : (0 : Int) ≤ ρ 19 + -ρ 3 := zAllA hf 14
  have f15 : (0 : Int) ≤ ρ 19 + -ρ 18 := zAllA hf 15
  have f16 : (0 : Int) ≤ -ρ 20 + ρ 18 := zAllA hf 16
  have m0 : γ 0 1 0 10 = ρ 0 := zAllA hm 0
  have m1 : γ 0 40 0 (ρ 0) = ρ 1 := zAllA hm 1
  have m2 : γ 0 9 (ρ 1) 2 = ρ 2 := zAllA hm 2
  have m3 : γ 0 2 0 6 = ρ 3 := zAllA hm 3
  have m4 : γ 0 2 0 3 = ρ 4 := zAllA hm 4
  have m5 : γ 0 2 0 7 = ρ 5 := zAllA hm 5
  have m6 : γ 0 10 (9 * ρ 1) 8 = ρ 6 := zAllA hm 6
  have m7 : γ 0 10 (9 * ρ 1) 12 = ρ 7 := zAllA hm 7
  have m8 : γ 0 10 (9 * ρ 1) 14 = ρ 8 := zAllA hm 8
  have m9 : γ 0 9 (ρ 1) 3 = ρ 9 := zAllA hm 9
  have m10 : γ 0 1 0 7 = ρ 10 := zAllA hm 10
  have m11 : γ 0 2 0 4 = ρ 11 := zAllA hm 11
  have m12 : γ 0 2 0 5 = ρ 12 := zAllA hm 12
  have m13 : γ 0 2 0 9 = ρ 13 := zAllA hm 13
  have m14 : γ 0 2 0 13 = ρ 14 := zAllA hm 14
  have m15 : γ 0 2 0 16 = ρ 15 := zAllA hm 15
  have m16 : γ 0 3 0 1 = ρ 16 := zAllA hm 16
  have m17 : γ 0 10 (9 * ρ 1) 15 = ρ 17 := zAllA hm 17
  have m18 : γ 1 9 (ρ 1) 2 = ρ 18 := zAllA hm 18
  have m19 : γ 1 2 0 6 = ρ 19 := zAllA hm 19
  have m20 : γ 1 10 (9 * ρ 1) 8 = ρ 6 := zAllA hm 20
  have m21 : γ 1 10 (9 * ρ 1) 12 = ρ 7 := zAllA hm 21
  have m22 : γ 1 9 (ρ 1) 3 = ρ 20 := zAllA hm 22
  have m23 : γ 1 1 0 7 = ρ 21 := zAllA hm 23
  have m24 : γ 1 2 0 4 = ρ 11 := zAllA hm 24
  have m25 : γ 1 2 0 5 = ρ 22 := zAllA hm 25
  have m26 : γ 1 2 0 9 = ρ 23 := zAllA hm 26
  have m27 : γ 1 2 0 13 = ρ 24 := zAllA hm 27
  have m28 : γ 1 2 0 16 = ρ 25 := zAllA hm 28
  have m29 : γ 1 3 0 1 = ρ 26 := zAllA hm 29
  have m30 : γ 1 10 (ρ 18 + 9 * ρ 1 + 1) 4 = ρ 27 := zAllA hm 30
  have m31 : γ 1 10 (ρ 18 + 9 * ρ 1 + 1) 11 = ρ 28 := zAllA hm 31
  have m32 : γ 1 10 (ρ 18 + 9 * ρ 1 + 1) 8 = ρ 29 := zAllA hm 32
  have m33 : γ 1 10 (ρ 18 + 9 * ρ 1 + 1) 5 = ρ 30 := zAllA hm 33
  have m34 : γ 1 10 (ρ 18 + 9 * ρ 1 + 1) 7 = ρ 31 := zAllA hm 34
  have m35 : γ 1 10 (ρ 18 + 9 * ρ 1 + 1) 9 = ρ 32 := zAllA hm 35
  have m36 : γ 1 10 (ρ 18 + 9 * ρ 1 + 1) 12 = ρ 33 := zAllA hm 36
  have m37 : γ 3 2 0 6 = ρ 34 := zAllA hm 37
  have m38 : γ 3 10 (ρ 18 + 9 * ρ 1 + 1) 4 = ρ 35 := zAllA hm 38
  have m39 : γ 3 10 (ρ 18 + 9 * ρ 1 + 1) 11 = ρ 28 := zAllA hm 39
  have m40 : γ 3 10 (ρ 18 + 9 * ρ 1 + 1) 8 = (-1) := zAllA hm 40
  have m41 : γ 3 10 (9 * ρ 1) 8 = ρ 6 := zAllA hm 41
  have m42 : γ 3 10 (9 * ρ 1) 12 = ρ 7 := zAllA hm 42
  have m43 : γ 3 1 0 7 = ρ 21 := zAllA hm 43
  have m44 : γ 3 2 0 4 = ρ 11 := zAllA hm 44
  have m45 : γ 3 2 0 5 = ρ 22 := zAllA hm 45
  have m46 : γ 3 2 0 9 = ρ 36 := zAllA hm 46
  have m47 : γ 3 2 0 13 = ρ 24 := zAllA hm 47
  have m48 : γ 3 2 0 16 = ρ 25 := zAllA hm 48
  have m49 : γ 3 3 0 1 = ρ 37 := zAllA hm 49
  have m50 : γ 3 10 (ρ 18 + 9 * ρ 1 + 1) 5 = ρ 38 := zAllA hm 50
  have m51 : γ 3 10 (ρ 18 + 9 * ρ 1 + 1) 7 = ρ 39 := zAllA hm 51
  have m52 : γ 3 10 (ρ 18 + 9 * ρ 1 + 1) 9 = (-1) := zAllA hm 52
  have m53 : γ 3 10 (ρ 18 + 9 * ρ 1 + 1) 12 = 0 := zAllA hm 53
  have m54 : γ 5 2 0 6 = ρ 40 := zAllA hm 54
  have m55 : γ 6 2 0 4 = ρ 40 := zAllA hm 55
  have c1 : ∀ (G : Nat) (k j : Int), ¬ rMdP m107_ G j → γ 1 G k j = γ 0 G k j := And.right (zChA hc 5)
  have c2 : ∀ (G : Nat) (k j : Int), ¬ rMdP m0_ G j → γ 2 G k j = γ 1 G k j := And.right (zChA hc 4)
  have c3 : ∀ (G : Nat) (k j : Int), ¬ rMdP m106_ G j → γ 3 G k j = γ 2 G k j := And.right (zChA hc 3)
  have c4 : γ 4 = rUp (γ 3) 9 (ρ 1) 2 (ρ 18 + 1) := And.right (zChA hc 2)
  have c5 : ∀ (G : Nat) (k j : Int), ¬ rMdP m77_ G j → γ 5 G k j = γ 4 G k j := And.right (zChA hc 1)
  have c6 : ∀ (G : Nat) (k j : Int), ¬ rMdP m72_ G j → γ 6 G k j = γ 5 G k j := And.right (zChA hc 0)
  have l0 : sn132 [ρ 1, ρ 18] (γ 1) 0 (ρ 18 + 9 * ρ 1 + 1) (γ 2) := hS132 _ _ _ _ _ (zAllA hl 0)
  have l1 : sn157 [ρ 0, ρ 1, ρ 18, ρ 19, ρ 4, ρ 27, ρ 28, ρ 29, ρ 5, ρ 6, ρ 7, ρ 21, ρ 11, ρ 22, ρ 23, ρ 24, ρ 25, ρ 26, ρ 30, ρ 31, ρ 32, ρ 33] (γ 2) 0 1 (γ 3) := hS157 _ _ _ _ _ (zAllA hl 1)
  have l2 : sn114 [ρ 34, ρ 4] (γ 4) 0 (-1) (γ 5) := hS114 _ _ _ _ _ (zAllA hl 2)
  have l3 : sn109 [ρ 40, ρ 11] (γ 5) 0 0 (γ 6) := hS109 _ _ _ _ _ (zAllA hl 3)
  show sn158 [ρ 0, ρ 1, ρ 2, ρ 3, ρ 4, ρ 5, ρ 6, ρ 7, ρ 8, ρ 9, ρ 10, ρ 11, ρ 12, ρ 13, ρ 14, ρ 15, ρ 16, ρ 17] (γ 0) 0 0 (γ 6)
  have hD : en158 (γ 0) (0, [], γ 1) = .inr (0, 0, γ 6) := by
    unfold en158
    refine zIP (show (0 : Nat) = 0 by decide) (zLV (γ 1) rfl (zLE m0 (zLE m1 (zLE m18 (zLE m22 (zIN (show ¬ (ρ 18 ≥ 8) by omega) (zLE (show fn132 [ρ 1, ρ 18] (γ 1) = (0, ρ 18 + 9 * ρ 1 + 1, γ 2) from l0.symm) ?_)))))))
    refine zLV (γ 2) rfl (zLE (show fn157 [] (γ 2) = (0, 1, γ 3) from l1.symm) (zLV (γ 3) rfl (zIP (show (1 : Int) ≤ 1 by omega) (zIP (show 3 ≤ γ 3 10 (ρ 18 + 9 * ρ 1 + 1) 4 by omega) (zIN (show ¬ (6 ≤ γ 3 10 (ρ 18 + 9 * ρ 1 + 1) 4) by omega) (zLE c4.symm (zLE (show fn114 [] (γ 4) = (0, (-1), γ 5) from l2.symm) ?_)))))))
    refine zLV (γ 5) rfl (zIN (show ¬ ((0 : Int) ≤ (-1)) by omega) (zLE m54 (zLE (show fn109 [ρ 40] (γ 5) = (0, 0, γ 6) from l3.symm) (zLV (γ 6) rfl ?_))))
    rfl
  exact zGoo_aend hJ hD
theorem vn158a0_4 {S : Nat → zSpc} (hS109 : zIm S 109 sn109) (hS114 : zIm S 114 sn114) (hS132 : zIm S 132 sn132) (hS152 : zIm S 152 sn152) (hS153 : zIm S 153 sn153) (hS157 : zIm S 157 sn157) {a : List Int} {g : rHp} : ∀ (ρ : Nat → Int) (γ : Nat → rHp), jn158 a g 0 (zAg (zNA a158_ 0) ρ) (γ 1) → zO 18 S a g q158a0_4 ρ γ → zGl (fun i vs g1 => jn158 a g i vs g1) (sn158 a g) q158a0_4 ρ γ := by
  intro ρ γ hJ h
  obtain ⟨ha, hg, hr, hf, hm, hc, hl⟩ := h
  have ha : a = [ρ 0, ρ 1, ρ 2, ρ 3, ρ 4, ρ 5, ρ 6, ρ 7, ρ 8, ρ 9, ρ 10, ρ 11, ρ 12, ρ 13, ρ 14, ρ 15, ρ 16, ρ 17] := ha
  subst ha
  subst hg
  have hJ : jn158 [ρ 0, ρ 1, ρ 2, ρ 3, ρ 4, ρ 5, ρ 6, ρ 7, ρ 8, ρ 9, ρ 10, ρ 11, ρ 12, ρ 13, ρ 14, ρ 15, ρ 16, ρ 17] (γ 0) 0 [ρ 0, ρ 1, ρ 2, ρ 3, ρ 4, ρ 5, ρ 6, ρ 7, ρ 8, ρ 9, ρ 10, ρ 11, ρ 12, ρ 13, ρ 14, ρ 15, ρ 16, ρ 17, ρ 18, ρ 19, ρ 20, ρ 21, ρ 22, ρ 23, ρ 24, ρ 25, ρ 26] (γ 1) := hJ
  have r0 : (0 : Int) ≤ ρ 0 ∧ ρ 0 ≤ 60 := zRnA hr 0
  have r1 : (0 : Int) ≤ ρ 1 ∧ ρ 1 ≤ 60 := zRnA hr 1
  have r2 : (0 : Int) ≤ ρ 2 ∧ ρ 2 ≤ 8 := zRnA hr 2
  have r3 : (0 : Int) ≤ ρ 3 ∧ ρ 3 ≤ 2000 := zRnA hr 3
  have r4 : (0 : Int) ≤ ρ 4 ∧ ρ 4 ≤ 2000 := zRnA hr 4
  have r5 : (0 : Int) ≤ ρ 5 ∧ ρ 5 ≤ 0 := zRnA hr 5
  have r6 : ((-1) : Int) ≤ ρ 6 ∧ ρ 6 ≤ 19 := zRnA hr 6
  have r7 : (0 : Int) ≤ ρ 7 ∧ ρ 7 ≤ 4 := zRnA hr 7
  have r8 : ((-1) : Int) ≤ ρ 8 ∧ ρ 8 ≤ 7 := zRnA hr 8
  have r9 : (0 : Int) ≤ ρ 9 ∧ ρ 9 ≤ 8 := zRnA hr 9
  have r10 : (0 : Int) ≤ ρ 10 ∧ ρ 10 ≤ 20 := zRnA hr 10
  have r11 : ((-2147483648) : Int) ≤ ρ 11 ∧ ρ 11 ≤ 2147483647 := zRnA hr 11
  have r12 : ((-2147483648) : Int) ≤ ρ 12 ∧ ρ 12 ≤ 2147483647 := zRnA hr 12
  have r13 : ((-2147483648) : Int) ≤ ρ 13 ∧ ρ 13 ≤ 2147483647 := zRnA hr 13
  have r14 : (0 : Int) ≤ ρ 14 ∧ ρ 14 ≤ 8 := zRnA hr 14
  have r15 : (0 : Int) ≤ ρ 15 ∧ ρ 15 ≤ 32 := zRnA hr 15
  have r16 : (0 : Int) ≤ ρ 16 ∧ ρ 16 ≤ 5120 := zRnA hr 16
  have r17 : ((-2147483648) : Int) ≤ ρ 17 ∧ ρ 17 ≤ 2147483647 := zRnA hr 17
  have r18 : (0 : Int) ≤ ρ 18 ∧ ρ 18 ≤ 7 := zRnA hr 18
  have r19 : (0 : Int) ≤ ρ 19 ∧ ρ 19 ≤ 2000 := zRnA hr 19
  have r20 : (0 : Int) ≤ ρ 20 ∧ ρ 20 ≤ 8 := zRnA hr 20
  have r21 : (0 : Int) ≤ ρ 21 ∧ ρ 21 ≤ 20 := zRnA hr 21
  have r22 : ((-2147483648) : Int) ≤ ρ 22 ∧ ρ 22 ≤ 2147483647 := zRnA hr 22
  have r23 : ((-2147483648) : Int) ≤ ρ 23 ∧ ρ 23 ≤ 2147483647 := zRnA hr 23
  have r24 : (0 : Int) ≤ ρ 24 ∧ ρ 24 ≤ 8 := zRnA hr 24
  have r25 : (0 : Int) ≤ ρ 25 ∧ ρ 25 ≤ 32 := zRnA hr 25
  have r26 : (0 : Int) ≤ ρ 26 ∧ ρ 26 ≤ 5120 := zRnA hr 26
  have r27 : (0 : Int) ≤ ρ 27 ∧ ρ 27 ≤ 8 := zRnA hr 27
  have r28 : ((-1) : Int) ≤ ρ 28 ∧ ρ 28 ≤ 7 := zRnA hr 28
  have r29 : ((-1) : Int) ≤ ρ 29 ∧ ρ 29 ≤ 19 := zRnA hr 29
  have r30 : (0 : Int) ≤ ρ 30 ∧ ρ 30 ≤ 4 := zRnA hr 30
  have r31 : ((-2147483648) : Int) ≤ ρ 31 ∧ ρ 31 ≤ 2147483647 := zRnA hr 31
  have r32 : ((-1) : Int) ≤ ρ 32 ∧ ρ 32 ≤ 3 := zRnA hr 32
  have r33 : (0 : Int) ≤ ρ 33 ∧ ρ 33 ≤ 4 := zRnA hr 33
  have r34 : (2 : Int) ≤ ρ 34 ∧ ρ 34 ≤ 2000 := zRnA hr 34
  have r35 : (3 : Int) ≤ ρ 35 ∧ ρ 35 ≤ 5 := zRnA hr 35
  have r36 : ((-2147483648) : Int) ≤ ρ 36 ∧ ρ 36 ≤ 2147483647 := zRnA hr 36
  have r37 : (0 : Int) ≤ ρ 37 ∧ ρ 37 ≤ 5120 := zRnA hr 37
  have r38 : (1 : Int) ≤ ρ 38 ∧ ρ 38 ≤ 2 := zRnA hr 38
  have r39 : (0 : Int) ≤ ρ 39 ∧ ρ 39 ≤ 2000 := zRnA hr 39
  have r40 : (44 : Int) ≤ ρ 40 ∧ ρ 40 ≤ 44 := zRnA hr 40
  have r41 : (0 : Int) ≤ ρ 41 ∧ ρ 41 ≤ 2000 := zRnA hr 41
  have f0 : (0 : Int) ≤ ρ 41 + -ρ 34 := zAllA hf 0
  have f1 : (0 : Int) ≤ -ρ 41 + ρ 4 + (-1) := zAllA hf 1
  have f2 : (0 : Int) ≤ -ρ 34 + ρ 4 + (-1) := zAllA hf 2
  have f3 : (0 : Int) ≤ -ρ 39 + ρ 34 + (-1) := zAllA hf 3
  have f4 : (0 : Int) ≤ ρ 34 + -ρ 19 + (-1) := zAllA hf 4
  have f5 : (0 : Int) ≤ ρ 37 + -ρ 26 := zAllA hf 5
  have f6 : (0 : Int) ≤ ρ 39 + -ρ 19 := zAllA hf 6
  have f7 : (0 : Int) ≤ -ρ 38 + ρ 4 := zAllA hf 7
  have f8 : (0 : Int) ≤ -ρ 39 + ρ 4 + (-1) := zAllA hf 8
  have f9 : (0 : Int) ≤ -ρ 19 + ρ 4 + (-1) := zAllA hf 9
  have f10 : (0 : Int) ≤ -ρ 18 + ρ 4 := zAllA hf 10
  have f11 : (0 : Int) ≤ ρ 26 + -ρ 16 := zAllA hf 11
  have f12 : (0 : Int) ≤ ρ 25 + -ρ 15 := zAllA hf 12
  have f13 : (0 : Int) ≤ ρ 24 + -ρ 14 := zAllA hf 13
  have f14 : (0 : Int) ≤ ρ 21 + -ρ 10 := zAllA hf 14
  have f15 : (0 : Int) ≤ ρ 19 + -ρ 3 := zAllA hf 15
  have f16 : (0 : Int) ≤ ρ 19 + -ρ 18 := zAllA hf 16
  have f17 : (0 : Int) ≤ -ρ 20 + ρ 18 := zAllA hf 17
  have m0 : γ 0 1 0 10 = ρ 0 := zAllA hm 0
  have m1 : γ 0 40 0 (ρ 0) = ρ 1 := zAllA hm 1
  have m2 : γ 0 9 (ρ 1) 2 = ρ 2 := zAllA hm 2
  have m3 : γ 0 2 0 6 = ρ 3 := zAllA hm 3
  have m4 : γ 0 2 0 3 = ρ 4 := zAllA hm 4
  have m5 : γ 0 2 0 7 = ρ 5 := zAllA hm 5
  have m6 : γ 0 10 (9 * ρ 1) 8 = ρ 6 := zAllA hm 6
  have m7 : γ 0 10 (9 * ρ 1) 12 = ρ 7 := zAllA hm 7
  have m8 : γ 0 10 (9 * ρ 1) 14 = ρ 8 := zAllA hm 8
  have m9 : γ 0 9 (ρ 1) 3 = ρ 9 := zAllA hm 9
  have m10 : γ 0 1 0 7 = ρ 10 := zAllA hm 10
  have m11 : γ 0 2 0 4 = ρ 11 := zAllA hm 11
  have m12 : γ 0 2 0 5 = ρ 12 := zAllA hm 12
  have m13 : γ 0 2 0 9 = ρ 13 := zAllA hm 13
  have m14 : γ 0 2 0 13 = ρ 14 := zAllA hm 14
  have m15 : γ 0 2 0 16 = ρ 15 := zAllA hm 15
  have m16 : γ 0 3 0 1 = ρ 16 := zAllA hm 16
  have m17 : γ 0 10 (9 * ρ 1) 15 = ρ 17 := zAllA hm 17
  have m18 : γ 1 9 (ρ 1) 2 = ρ 18 := zAllA hm 18
  have m19 : γ 1 2 0 6 = ρ 19 := zAllA hm 19
  have m20 : γ 1 10 (9 * ρ 1) 8 = ρ 6 := zAllA hm 20
  have m21 : γ 1 10 (9 * ρ 1) 12 = ρ 7 := zAllA hm 21
  have m22 : γ 1 9 (ρ 1) 3 = ρ 20 := zAllA hm 22
  have m23 : γ 1 1 0 7 = ρ 21 := zAllA hm 23
  have m24 : γ 1 2 0 4 = ρ 11 := zAllA hm 24
  have m25 : γ 1 2 0 5 = ρ 22 := zAllA hm 25
  have m26 : γ 1 2 0 9 = ρ 23 := zAllA hm 26
  have m27 : γ 1 2 0 13 = ρ 24 := zAllA hm 27
  have m28 : γ 1 2 0 16 = ρ 25 := zAllA hm 28
  have m29 : γ 1 3 0 1 = ρ 26 := zAllA hm 29
  have m30 : γ 1 10 (ρ 18 + 9 * ρ 1 + 1) 4 = ρ 27 := zAllA hm 30
  have m31 : γ 1 10 (ρ 18 + 9 * ρ 1 + 1) 11 = ρ 28 := zAllA hm 31
  have m32 : γ 1 10 (ρ 18 + 9 * ρ 1 + 1) 8 = ρ 29 := zAllA hm 32
  have m33 : γ 1 10 (ρ 18 + 9 * ρ 1 + 1) 5 = ρ 30 := zAllA hm 33
  have m34 : γ 1 10 (ρ 18 + 9 * ρ 1 + 1) 7 = ρ 31 := zAllA hm 34
  have m35 : γ 1 10 (ρ 18 + 9 * ρ 1 + 1) 9 = ρ 32 := zAllA hm 35
  have m36 : γ 1 10 (ρ 18 + 9 * ρ 1 + 1) 12 = ρ 33 := zAllA hm 36
  have m37 : γ 3 2 0 6 = ρ 34 := zAllA hm 37
  have m38 : γ 3 10 (ρ 18 + 9 * ρ 1 + 1) 4 = ρ 35 := zAllA hm 38
  have m39 : γ 3 10 (ρ 18 + 9 * ρ 1 + 1) 11 = ρ 28 := zAllA hm 39
  have m40 : γ 3 10 (ρ 18 + 9 * ρ 1 + 1) 8 = (-1) := zAllA hm 40
  have m41 : γ 3 10 (9 * ρ 1) 8 = ρ 6 := zAllA hm 41
  have m42 : γ 3 10 (9 * ρ 1) 12 = ρ 7 := zAllA hm 42
  have m43 : γ 3 1 0 7 = ρ 21 := zAllA hm 43
  have m44 : γ 3 2 0 4 = ρ 11 := zAllA hm 44
  have m45 : γ 3 2 0 5 = ρ 22 := zAllA hm 45
  have m46 : γ 3 2 0 9 = ρ 36 := zAllA hm 46
  have m47 : γ 3 2 0 13 = ρ 24 := zAllA hm 47
  have m48 : γ 3 2 0 16 = ρ 25 := zAllA hm 48
  have m49 : γ 3 3 0 1 = ρ 37 := zAllA hm 49
  have m50 : γ 3 10 (ρ 18 + 9 * ρ 1 + 1) 5 = ρ 38 := zAllA hm 50
  have m51 : γ 3 10 (ρ 18 + 9 * ρ 1 + 1) 7 = ρ 39 := zAllA hm 51
  have m52 : γ 3 10 (ρ 18 + 9 * ρ 1 + 1) 9 = (-1) := zAllA hm 52
  have m53 : γ 3 10 (ρ 18 + 9 * ρ 1 + 1) 12 = 0 := zAllA hm 53
  have m54 : γ 5 2 0 6 = ρ 41 := zAllA hm 54
  have c1 : ∀ (G : Nat) (k j : Int), ¬ rMdP m107_ G j → γ 1 G k j = γ 0 G k j := And.right (zChA hc 5)
  have c2 : ∀ (G : Nat) (k j : Int), ¬ rMdP m0_ G j → γ 2 G k j = γ 1 G k j := And.right (zChA hc 4)
  have c3 : ∀ (G : Nat) (k j : Int), ¬ rMdP m106_ G j → γ 3 G k j = γ 2 G k j := And.right (zChA hc 3)
  have c4 : γ 4 = rUp (γ 3) 9 (ρ 1) 2 (ρ 18 + 1) := And.right (zChA hc 2)
  have c5 : ∀ (G : Nat) (k j : Int), ¬ rMdP m77_ G j → γ 5 G k j = γ 4 G k j := And.right (zChA hc 1)
  have c6 : γ 6 = rUp (γ 5) 2 0 6 (ρ 41 + 1) := And.right (zChA hc 0)
  have l0 : sn132 [ρ 1, ρ 18] (γ 1) 0 (ρ 18 + 9 * ρ 1 + 1) (γ 2) := hS132 _ _ _ _ _ (zAllA hl 0)
  have l1 : sn157 [ρ 0, ρ 1, ρ 18, ρ 19, ρ 4, ρ 27, ρ 28, ρ 29, ρ 5, ρ 6, ρ 7, ρ 21, ρ 11, ρ 22, ρ 23, ρ 24, ρ 25, ρ 26, ρ 30, ρ 31, ρ 32, ρ 33] (γ 2) 0 1 (γ 3) := hS157 _ _ _ _ _ (zAllA hl 1)
  have l2 : sn114 [ρ 34, ρ 4] (γ 4) 0 (ρ 40) (γ 5) := hS114 _ _ _ _ _ (zAllA hl 2)
  have l3 : ρ 40 ≠ 46 := zAllA hl 3
  show jn158 [ρ 0, ρ 1, ρ 2, ρ 3, ρ 4, ρ 5, ρ 6, ρ 7, ρ 8, ρ 9, ρ 10, ρ 11, ρ 12, ρ 13, ρ 14, ρ 15, ρ 16, ρ 17] (γ 0) 0 [ρ 0, ρ 1, ρ 2, ρ 3, ρ 4, ρ 5, ρ 6, ρ 7, ρ 8, ρ 9, ρ 10, ρ 11, ρ 12, ρ 13, ρ 14, ρ 15, ρ 16, ρ 17, ρ 18 + 1, ρ 41 + 1, ρ 20, ρ 21, ρ 22, ρ 36, ρ 24, ρ 25, ρ 37] (γ 6)
  have hD : en158 (γ 0) (0, [], γ 1) = .inl (0, [], γ 6) := by
    unfold en158
    refine zIP (show (0 : Nat) = 0 by decide) (zLV (γ 1) rfl (zLE m0 (zLE m1 (zLE m18 (zLE m22 (zIN (show ¬ (ρ 18 ≥ 8) by omega) (zLE (show fn132 [ρ 1, ρ 18] (γ 1) = (0, ρ 18 + 9 * ρ 1 + 1, γ 2) from l0.symm) ?_)))))))
    refine zLV (γ 2) rfl (zLE (show fn157 [] (γ 2) = (0, 1, γ 3) from l1.symm) (zLV (γ 3) rfl (zIP (show (1 : Int) ≤ 1 by omega) (zIP (show 3 ≤ γ 3 10 (ρ 18 + 9 * ρ 1 + 1) 4 by omega) (zIN (show ¬ (6 ≤ γ 3 10 (ρ 18 + 9 * ρ 1 + 1) 4) by omega) (zLE c4.symm (zLE (show fn114 [] (γ 4) = (0, ρ 40, γ 5) from l2.symm) ?_)))))))
    refine zLV (γ 5) rfl (zIP (show (0 : Int) ≤ ρ 40 by omega) (zLV (ρ 40) rfl (zLE m54 (zIP (show ρ 40 ≠ 46 by omega) (zIP (show ρ 40 = 44 by omega) (zLE c6.symm ?_))))))
    rfl
  exact zGoo_ato hJ hD
theorem vn158a0_5 {S : Nat → zSpc} (hS109 : zIm S 109 sn109) (hS114 : zIm S 114 sn114) (hS132 : zIm S 132 sn132) (hS152 : zIm S 152 sn152) (hS153 : zIm S 153 sn153) (hS157 : zIm S 157 sn157) {a : List Int} {g : rHp} : ∀ (ρ : Nat → Int) (γ : Nat → rHp), jn158 a g 0 (zAg (zNA a158_ 0) ρ) (γ 1) → zO 18 S a g q158a0_5 ρ γ → zGl (fun i vs g1 => jn158 a g i vs g1) (sn158 a g) q158a0_5 ρ γ := by
  intro ρ γ hJ h
  obtain ⟨ha, hg, hr, hf, hm, hc, hl⟩ := h
  have ha : a = [ρ 0, ρ 1, ρ 2, ρ 3, ρ 4, ρ 5, ρ 6, ρ 7, ρ 8, ρ 9, ρ 10, ρ 11, ρ 12, ρ 13, ρ 14, ρ 15, ρ 16, ρ 17] := ha
  subst ha
  subst hg
  have hJ : jn158 [ρ 0, ρ 1, ρ 2, ρ 3, ρ 4, ρ 5, ρ 6, ρ 7, ρ 8, ρ 9, ρ 10, ρ 11, ρ 12, ρ 13, ρ 14, ρ 15, ρ 16, ρ 17] (γ 0) 0 [ρ 0, ρ 1, ρ 2, ρ 3, ρ 4, ρ 5, ρ 6, ρ 7, ρ 8, ρ 9, ρ 10, ρ 11, ρ 12, ρ 13, ρ 14, ρ 15, ρ 16, ρ 17, ρ 18, ρ 19, ρ 20, ρ 21, ρ 22, ρ 23, ρ 24, ρ 25, ρ 26] (γ 1) := hJ
  have r0 : (0 : Int) ≤ ρ 0 ∧ ρ 0 ≤ 60 := zRnA hr 0
  have r1 : (0 : Int) ≤ ρ 1 ∧ ρ 1 ≤ 60 := zRnA hr 1
  have r2 : (0 : Int) ≤ ρ 2 ∧ ρ 2 ≤ 8 := zRnA hr 2
  have r3 : (0 : Int) ≤ ρ 3 ∧ ρ 3 ≤ 2000 := zRnA hr 3
  have r4 : (0 : Int) ≤ ρ 4 ∧ ρ 4 ≤ 2000 := zRnA hr 4
  have r5 : (0 : Int) ≤ ρ 5 ∧ ρ 5 ≤ 0 := zRnA hr 5
  have r6 : ((-1) : Int) ≤ ρ 6 ∧ ρ 6 ≤ 19 := zRnA hr 6
  have r7 : (0 : Int) ≤ ρ 7 ∧ ρ 7 ≤ 4 := zRnA hr 7
  have r8 : ((-1) : Int) ≤ ρ 8 ∧ ρ 8 ≤ 7 := zRnA hr 8
  have r9 : (0 : Int) ≤ ρ 9 ∧ ρ 9 ≤ 8 := zRnA hr 9
  have r10 : (0 : Int) ≤ ρ 10 ∧ ρ 10 ≤ 20 := zRnA hr 10
  have r11 : ((-2147483648) : Int) ≤ ρ 11 ∧ ρ 11 ≤ 2147483647 := zRnA hr 11
  have r12 : ((-2147483648) : Int) ≤ ρ 12 ∧ ρ 12 ≤ 2147483647 := zRnA hr 12
  have r13 : ((-2147483648) : Int) ≤ ρ 13 ∧ ρ 13 ≤ 2147483647 := zRnA hr 13
  have r14 : (0 : Int) ≤ ρ 14 ∧ ρ 14 ≤ 8 := zRnA hr 14
  have r15 : (0 : Int) ≤ ρ 15 ∧ ρ 15 ≤ 32 := zRnA hr 15
  have r16 : (0 : Int) ≤ ρ 16 ∧ ρ 16 ≤ 5120 := zRnA hr 16
  have r17 : ((-2147483648) : Int) ≤ ρ 17 ∧ ρ 17 ≤ 2147483647 := zRnA hr 17
  have r18 : (0 : Int) ≤ ρ 18 ∧ ρ 18 ≤ 7 := zRnA hr 18
  have r19 : (0 : Int) ≤ ρ 19 ∧ ρ 19 ≤ 2000 := zRnA hr 19
  have r20 : (0 : Int) ≤ ρ 20 ∧ ρ 20 ≤ 8 := zRnA hr 20
  have r21 : (0 : Int) ≤ ρ 21 ∧ ρ 21 ≤ 20 := zRnA hr 21
  have r22 : ((-2147483648) : Int) ≤ ρ 22 ∧ ρ 22 ≤ 2147483647 := zRnA hr 22
  have r23 : ((-2147483648) : Int) ≤ ρ 23 ∧ ρ 23 ≤ 2147483647 := zRnA hr 23
  have r24 : (0 : Int) ≤ ρ 24 ∧ ρ 24 ≤ 8 := zRnA hr 24
  have r25 : (0 : Int) ≤ ρ 25 ∧ ρ 25 ≤ 32 := zRnA hr 25
  have r26 : (0 : Int) ≤ ρ 26 ∧ ρ 26 ≤ 5120 := zRnA hr 26
  have r27 : (0 : Int) ≤ ρ 27 ∧ ρ 27 ≤ 8 := zRnA hr 27
  have r28 : ((-1) : Int) ≤ ρ 28 ∧ ρ 28 ≤ 7 := zRnA hr 28
  have r29 : ((-1) : Int) ≤ ρ 29 ∧ ρ 29 ≤ 19 := zRnA hr 29
  have r30 : (0 : Int) ≤ ρ 30 ∧ ρ 30 ≤ 4 := zRnA hr 30
  have r31 : ((-2147483648) : Int) ≤ ρ 31 ∧ ρ 31 ≤ 2147483647 := zRnA hr 31
  have r32 : ((-1) : Int) ≤ ρ 32 ∧ ρ 32 ≤ 3 := zRnA hr 32
  have r33 : (0 : Int) ≤ ρ 33 ∧ ρ 33 ≤ 4 := zRnA hr 33
  have r34 : (2 : Int) ≤ ρ 34 ∧ ρ 34 ≤ 2000 := zRnA hr 34
  have r35 : (3 : Int) ≤ ρ 35 ∧ ρ 35 ≤ 5 := zRnA hr 35
  have r36 : ((-2147483648) : Int) ≤ ρ 36 ∧ ρ 36 ≤ 2147483647 := zRnA hr 36
  have r37 : (0 : Int) ≤ ρ 37 ∧ ρ 37 ≤ 5120 := zRnA hr 37
  have r38 : (1 : Int) ≤ ρ 38 ∧ ρ 38 ≤ 2 := zRnA hr 38
  have r39 : (0 : Int) ≤ ρ 39 ∧ ρ 39 ≤ 2000 := zRnA hr 39
  have r40 : (0 : Int) ≤ ρ 40 ∧ ρ 40 ≤ 255 := zRnA hr 40
  have r41 : (0 : Int) ≤ ρ 41 ∧ ρ 41 ≤ 2000 := zRnA hr 41
  have f0 : (0 : Int) ≤ ρ 41 + -ρ 34 := zAllA hf 0
  have f1 : (0 : Int) ≤ -ρ 41 + ρ 4 + (-1) := zAllA hf 1
  have f2 : (0 : Int) ≤ -ρ 34 + ρ 4 + (-1) := zAllA hf 2
  have f3 : (0 : Int) ≤ -ρ 39 + ρ 34 + (-1) := zAllA hf 3
  have f4 : (0 : Int) ≤ ρ 34 + -ρ 19 + (-1) := zAllA hf 4
  have f5 : (0 : Int) ≤ ρ 37 + -ρ 26 := zAllA hf 5
  have f6 : (0 : Int) ≤ ρ 39 + -ρ 19 := zAllA hf 6
  have f7 : (0 : Int) ≤ -ρ 38 + ρ 4 := zAllA hf 7
  have f8 : (0 : Int) ≤ -ρ 39 + ρ 4 + (-1) := zAllA hf 8
  have f9 : (0 : Int) ≤ -ρ 19 + ρ 4 + (-1) := zAllA hf 9
  have f10 : (0 : Int) ≤ -ρ 18 + ρ 4 := zAllA hf 10
  have f11 : (0 : Int) ≤ ρ 26 + -ρ 16 := zAllA hf 11
  have f12 : (0 : Int) ≤ ρ 25 + -ρ 15 := zAllA hf 12
  have f13 : (0 : Int) ≤ ρ 24 + -ρ 14 := zAllA hf 13
  have f14 : (0 : Int) ≤ ρ 21 + -ρ 10 := zAllA hf 14
  have f15 : (0 : Int) ≤ ρ 19 + -ρ 3 := zAllA hf 15
  have f16 : (0 : Int) ≤ ρ 19 + -ρ 18 := zAllA hf 16
  have f17 : (0 : Int) ≤ -ρ 20 + ρ 18 := zAllA hf 17
  have m0 : γ 0 1 0 10 = ρ 0 := zAllA hm 0
  have m1 : γ 0 40 0 (ρ 0) = ρ 1 := zAllA hm 1
  have m2 : γ 0 9 (ρ 1) 2 = ρ 2 := zAllA hm 2
  have m3 : γ 0 2 0 6 = ρ 3 := zAllA hm 3
  have m4 : γ 0 2 0 3 = ρ 4 := zAllA hm 4
  have m5 : γ 0 2 0 7 = ρ 5 := zAllA hm 5
  have m6 : γ 0 10 (9 * ρ 1) 8 = ρ 6 := zAllA hm 6
  have m7 : γ 0 10 (9 * ρ 1) 12 = ρ 7 := zAllA hm 7
  have m8 : γ 0 10 (9 * ρ 1) 14 = ρ 8 := zAllA hm 8
  have m9 : γ 0 9 (ρ 1) 3 = ρ 9 := zAllA hm 9
  have m10 : γ 0 1 0 7 = ρ 10 := zAllA hm 10
  have m11 : γ 0 2 0 4 = ρ 11 := zAllA hm 11
  have m12 : γ 0 2 0 5 = ρ 12 := zAllA hm 12
  have m13 : γ 0 2 0 9 = ρ 13 := zAllA hm 13
  have m14 : γ 0 2 0 13 = ρ 14 := zAllA hm 14
  have m15 : γ 0 2 0 16 = ρ 15 := zAllA hm 15
  have m16 : γ 0 3 0 1 = ρ 16 := zAllA hm 16
  have m17 : γ 0 10 (9 * ρ 1) 15 = ρ 17 := zAllA hm 17
  have m18 : γ 1 9 (ρ 1) 2 = ρ 18 := zAllA hm 18
  have m19 : γ 1 2 0 6 = ρ 19 := zAllA hm 19
  have m20 : γ 1 10 (9 * ρ 1) 8 = ρ 6 := zAllA hm 20
  have m21 : γ 1 10 (9 * ρ 1) 12 = ρ 7 := zAllA hm 21
  have m22 : γ 1 9 (ρ 1) 3 = ρ 20 := zAllA hm 22
  have m23 : γ 1 1 0 7 = ρ 21 := zAllA hm 23
  have m24 : γ 1 2 0 4 = ρ 11 := zAllA hm 24
  have m25 : γ 1 2 0 5 = ρ 22 := zAllA hm 25
  have m26 : γ 1 2 0 9 = ρ 23 := zAllA hm 26
  have m27 : γ 1 2 0 13 = ρ 24 := zAllA hm 27
  have m28 : γ 1 2 0 16 = ρ 25 := zAllA hm 28
  have m29 : γ 1 3 0 1 = ρ 26 := zAllA hm 29
  have m30 : γ 1 10 (ρ 18 + 9 * ρ 1 + 1) 4 = ρ 27 := zAllA hm 30
  have m31 : γ 1 10 (ρ 18 + 9 * ρ 1 + 1) 11 = ρ 28 := zAllA hm 31
  have m32 : γ 1 10 (ρ 18 + 9 * ρ 1 + 1) 8 = ρ 29 := zAllA hm 32
  have m33 : γ 1 10 (ρ 18 + 9 * ρ 1 + 1) 5 = ρ 30 := zAllA hm 33
  have m34 : γ 1 10 (ρ 18 + 9 * ρ 1 + 1) 7 = ρ 31 := zAllA hm 34
  have m35 : γ 1 10 (ρ 18 + 9 * ρ 1 + 1) 9 = ρ 32 := zAllA hm 35
  have m36 : γ 1 10 (ρ 18 + 9 * ρ 1 + 1) 12 = ρ 33 := zAllA hm 36
  have m37 : γ 3 2 0 6 = ρ 34 := zAllA hm 37
  have m38 : γ 3 10 (ρ 18 + 9 * ρ 1 + 1) 4 = ρ 35 := zAllA hm 38
  have m39 : γ 3 10 (ρ 18 + 9 * ρ 1 + 1) 11 = ρ 28 := zAllA hm 39
  have m40 : γ 3 10 (ρ 18 + 9 * ρ 1 + 1) 8 = (-1) := zAllA hm 40
  have m41 : γ 3 10 (9 * ρ 1) 8 = ρ 6 := zAllA hm 41
  have m42 : γ 3 10 (9 * ρ 1) 12 = ρ 7 := zAllA hm 42
  have m43 : γ 3 1 0 7 = ρ 21 := zAllA hm 43
  have m44 : γ 3 2 0 4 = ρ 11 := zAllA hm 44
  have m45 : γ 3 2 0 5 = ρ 22 := zAllA hm 45
  have m46 : γ 3 2 0 9 = ρ 36 := zAllA hm 46
  have m47 : γ 3 2 0 13 = ρ 24 := zAllA hm 47
  have m48 : γ 3 2 0 16 = ρ 25 := zAllA hm 48
  have m49 : γ 3 3 0 1 = ρ 37 := zAllA hm 49
  have m50 : γ 3 10 (ρ 18 + 9 * ρ 1 + 1) 5 = ρ 38 := zAllA hm 50
  have m51 : γ 3 10 (ρ 18 + 9 * ρ 1 + 1) 7 = ρ 39 := zAllA hm 51
  have m52 : γ 3 10 (ρ 18 + 9 * ρ 1 + 1) 9 = (-1) := zAllA hm 52
  have m53 : γ 3 10 (ρ 18 + 9 * ρ 1 + 1) 12 = 0 := zAllA hm 53
  have m54 : γ 5 2 0 6 = ρ 41 := zAllA hm 54
  have m55 : γ 6 2 0 4 = ρ 41 := zAllA hm 55
  have c1 : ∀ (G : Nat) (k j : Int), ¬ rMdP m107_ G j → γ 1 G k j = γ 0 G k j := And.right (zChA hc 5)
  have c2 : ∀ (G : Nat) (k j : Int), ¬ rMdP m0_ G j → γ 2 G k j = γ 1 G k j := And.right (zChA hc 4)
  have c3 : ∀ (G : Nat) (k j : Int), ¬ rMdP m106_ G j → γ 3 G k j = γ 2 G k j := And.right (zChA hc 3)
  have c4 : γ 4 = rUp (γ 3) 9 (ρ 1) 2 (ρ 18 + 1) := And.right (zChA hc 2)
  have c5 : ∀ (G : Nat) (k j : Int), ¬ rMdP m77_ G j → γ 5 G k j = γ 4 G k j := And.right (zChA hc 1)
  have c6 : ∀ (G : Nat) (k j : Int), ¬ rMdP m72_ G j → γ 6 G k j = γ 5 G k j := And.right (zChA hc 0)
  have l0 : sn132 [ρ 1, ρ 18] (γ 1) 0 (ρ 18 + 9 * ρ 1 + 1) (γ 2) := hS132 _ _ _ _ _ (zAllA hl 0)
  have l1 : sn157 [ρ 0, ρ 1, ρ 18, ρ 19, ρ 4, ρ 27, ρ 28, ρ 29, ρ 5, ρ 6, ρ 7, ρ 21, ρ 11, ρ 22, ρ 23, ρ 24, ρ 25, ρ 26, ρ 30, ρ 31, ρ 32, ρ 33] (γ 2) 0 1 (γ 3) := hS157 _ _ _ _ _ (zAllA hl 1)
  have l2 : sn114 [ρ 34, ρ 4] (γ 4) 0 (ρ 40) (γ 5) := hS114 _ _ _ _ _ (zAllA hl 2)
  have l3 : ρ 40 ≠ 46 := zAllA hl 3
  have l4 : ρ 40 ≠ 44 := zAllA hl 4
  have l5 : sn109 [ρ 41, ρ 11] (γ 5) 0 0 (γ 6) := hS109 _ _ _ _ _ (zAllA hl 5)
  show sn158 [ρ 0, ρ 1, ρ 2, ρ 3, ρ 4, ρ 5, ρ 6, ρ 7, ρ 8, ρ 9, ρ 10, ρ 11, ρ 12, ρ 13, ρ 14, ρ 15, ρ 16, ρ 17] (γ 0) 0 0 (γ 6)
  have hD : en158 (γ 0) (0, [], γ 1) = .inr (0, 0, γ 6) := by
    unfold en158
    refine zIP (show (0 : Nat) = 0 by decide) (zLV (γ 1) rfl (zLE m0 (zLE m1 (zLE m18 (zLE m22 (zIN (show ¬ (ρ 18 ≥ 8) by omega) (zLE (show fn132 [ρ 1, ρ 18] (γ 1) = (0, ρ 18 + 9 * ρ 1 + 1, γ 2) from l0.symm) ?_)))))))
    refine zLV (γ 2) rfl (zLE (show fn157 [] (γ 2) = (0, 1, γ 3) from l1.symm) (zLV (γ 3) rfl (zIP (show (1 : Int) ≤ 1 by omega) (zIP (show 3 ≤ γ 3 10 (ρ 18 + 9 * ρ 1 + 1) 4 by omega) (zIN (show ¬ (6 ≤ γ 3 10 (ρ 18 + 9 * ρ 1 + 1) 4) by omega) (zLE c4.symm (zLE (show fn114 [] (γ 4) = (0, ρ 40, γ 5) from l2.symm) ?_)))))))
    refine zLV (γ 5) rfl (zIP (show (0 : Int) ≤ ρ 40 by omega) (zLV (ρ 40) rfl (zLE m54 (zIP (show ρ 40 ≠ 46 by omega) (zIN (show ¬ (ρ 40 = 44) by omega) (zLE (show fn109 [ρ 41] (γ 5) = (0, 0, γ 6) from l5.symm) (zLV (γ 6) rfl ?_)))))))
    rfl
  exact zGoo_aend hJ hD
theorem vn158a0_6 {S : Nat → zSpc} (hS109 : zIm S 109 sn109) (hS114 : zIm S 114 sn114) (hS132 : zIm S 132 sn132) (hS152 : zIm S 152 sn152) (hS153 : zIm S 153 sn153) (hS157 : zIm S 157 sn157) {a : List Int} {g : rHp} : ∀ (ρ : Nat → Int) (γ : Nat → rHp), jn158 a g 0 (zAg (zNA a158_ 0) ρ) (γ 1) → zO 18 S a g q158a0_6 ρ γ → zGl (fun i vs g1 => jn158 a g i vs g1) (sn158 a g) q158a0_6 ρ γ := by
  intro ρ γ hJ h
  obtain ⟨ha, hg, hr, hf, hm, hc, hl⟩ := h
  have ha : a = [ρ 0, ρ 1, ρ 2, ρ 3, ρ 4, ρ 5, ρ 6, ρ 7, ρ 8, ρ 9, ρ 10, ρ 11, ρ 12, ρ 13, ρ 14, ρ 15, ρ 16, ρ 17] := ha
  subst ha
  subst hg
  have hJ : jn158 [ρ 0, ρ 1, ρ 2, ρ 3, ρ 4, ρ 5, ρ 6, ρ 7, ρ 8, ρ 9, ρ 10, ρ 11, ρ 12, ρ 13, ρ 14, ρ 15, ρ 16, ρ 17] (γ 0) 0 [ρ 0, ρ 1, ρ 2, ρ 3, ρ 4, ρ 5, ρ 6, ρ 7, ρ 8, ρ 9, ρ 10, ρ 11, ρ 12, ρ 13, ρ 14, ρ 15, ρ 16, ρ 17, ρ 18, ρ 19, ρ 20, ρ 21, ρ 22, ρ 23, ρ 24, ρ 25, ρ 26] (γ 1) := hJ
  have r0 : (0 : Int) ≤ ρ 0 ∧ ρ 0 ≤ 60 := zRnA hr 0
  have r1 : (0 : Int) ≤ ρ 1 ∧ ρ 1 ≤ 60 := zRnA hr 1
  have r2 : (0 : Int) ≤ ρ 2 ∧ ρ 2 ≤ 8 := zRnA hr 2
  have r3 : (0 : Int) ≤ ρ 3 ∧ ρ 3 ≤ 2000 := zRnA hr 3
  have r4 : (0 : Int) ≤ ρ 4 ∧ ρ 4 ≤ 2000 := zRnA hr 4
  have r5 : (0 : Int) ≤ ρ 5 ∧ ρ 5 ≤ 0 := zRnA hr 5
  have r6 : ((-1) : Int) ≤ ρ 6 ∧ ρ 6 ≤ 19 := zRnA hr 6
  have r7 : (0 : Int) ≤ ρ 7 ∧ ρ 7 ≤ 4 := zRnA hr 7
  have r8 : ((-1) : Int) ≤ ρ 8 ∧ ρ 8 ≤ 7 := zRnA hr 8
  have r9 : (0 : Int) ≤ ρ 9 ∧ ρ 9 ≤ 8 := zRnA hr 9
  have r10 : (0 : Int) ≤ ρ 10 ∧ ρ 10 ≤ 20 := zRnA hr 10
  have r11 : ((-2147483648) : Int) ≤ ρ 11 ∧ ρ 11 ≤ 2147483647 := zRnA hr 11
  have r12 : ((-2147483648) : Int) ≤ ρ 12 ∧ ρ 12 ≤ 2147483647 := zRnA hr 12
  have r13 : ((-2147483648) : Int) ≤ ρ 13 ∧ ρ 13 ≤ 2147483647 := zRnA hr 13
  have r14 : (0 : Int) ≤ ρ 14 ∧ ρ 14 ≤ 8 := zRnA hr 14
  have r15 : (0 : Int) ≤ ρ 15 ∧ ρ 15 ≤ 32 := zRnA hr 15
  have r16 : (0 : Int) ≤ ρ 16 ∧ ρ 16 ≤ 5120 := zRnA hr 16
  have r17 : ((-2147483648) : Int) ≤ ρ 17 ∧ ρ 17 ≤ 2147483647 := zRnA hr 17
  have r18 : (0 : Int) ≤ ρ 18 ∧ ρ 18 ≤ 7 := zRnA hr 18
  have r19 : (0 : Int) ≤ ρ 19 ∧ ρ 19 ≤ 2000 := zRnA hr 19
  have r20 : (0 : Int) ≤ ρ 20 ∧ ρ 20 ≤ 8 := zRnA hr 20
  have r21 : (0 : Int) ≤ ρ 21 ∧ ρ 21 ≤ 20 := zRnA hr 21
  have r22 : ((-2147483648) : Int) ≤ ρ 22 ∧ ρ 22 ≤ 2147483647 := zRnA hr 22
  have r23 : ((-2147483648) : Int) ≤ ρ 23 ∧ ρ 23 ≤ 2147483647 := zRnA hr 23
  have r24 : (0 : Int) ≤ ρ 24 ∧ ρ 24 ≤ 8 := zRnA hr 24
  have r25 : (0 : Int) ≤ ρ 25 ∧ ρ 25 ≤ 32 := zRnA hr 25
  have r26 : (0 : Int) ≤ ρ 26 ∧ ρ 26 ≤ 5120 := zRnA hr 26
  have r27 : (0 : Int) ≤ ρ 27 ∧ ρ 27 ≤ 8 := zRnA hr 27
  have r28 : ((-1) : Int) ≤ ρ 28 ∧ ρ 28 ≤ 7 := zRnA hr 28
  have r29 : ((-1) : Int) ≤ ρ 29 ∧ ρ 29 ≤ 19 := zRnA hr 29
  have r30 : (0 : Int) ≤ ρ 30 ∧ ρ 30 ≤ 4 := zRnA hr 30
  have r31 : ((-2147483648) : Int) ≤ ρ 31 ∧ ρ 31 ≤ 2147483647 := zRnA hr 31
  have r32 : ((-1) : Int) ≤ ρ 32 ∧ ρ 32 ≤ 3 := zRnA hr 32
  have r33 : (0 : Int) ≤ ρ 33 ∧ ρ 33 ≤ 4 := zRnA hr 33
  have r34 : (2 : Int) ≤ ρ 34 ∧ ρ 34 ≤ 2000 := zRnA hr 34
  have r35 : (3 : Int) ≤ ρ 35 ∧ ρ 35 ≤ 5 := zRnA hr 35
  have r36 : ((-2147483648) : Int) ≤ ρ 36 ∧ ρ 36 ≤ 2147483647 := zRnA hr 36
  have r37 : (0 : Int) ≤ ρ 37 ∧ ρ 37 ≤ 5120 := zRnA hr 37
  have r38 : (1 : Int) ≤ ρ 38 ∧ ρ 38 ≤ 2 := zRnA hr 38
  have r39 : (0 : Int) ≤ ρ 39 ∧ ρ 39 ≤ 2000 := zRnA hr 39
  have r40 : (46 : Int) ≤ ρ 40 ∧ ρ 40 ≤ 46 := zRnA hr 40
  have r41 : (0 : Int) ≤ ρ 41 ∧ ρ 41 ≤ 2000 := zRnA hr 41
  have r42 : (0 : Int) ≤ ρ 42 ∧ ρ 42 ≤ 4 := zRnA hr 42
  have r43 : ((-2147483648) : Int) ≤ ρ 43 ∧ ρ 43 ≤ 2147483647 := zRnA hr 43
  have f0 : (0 : Int) ≤ ρ 41 + -ρ 34 := zAllA hf 0
  have f1 : (0 : Int) ≤ -ρ 41 + ρ 4 + (-1) := zAllA hf 1
  have f2 : (0 : Int) ≤ -ρ 34 + ρ 4 + (-1) := zAllA hf 2
  have f3 : (0 : Int) ≤ -ρ 39 + ρ 34 + (-1) := zAllA hf 3
  have f4 : (0 : Int) ≤ ρ 34 + -ρ 19 + (-1) := zAllA hf 4
  have f5 : (0 : Int) ≤ ρ 37 + -ρ 26 := zAllA hf 5
  have f6 : (0 : Int) ≤ ρ 39 + -ρ 19 := zAllA hf 6
  have f7 : (0 : Int) ≤ -ρ 38 + ρ 4 := zAllA hf 7
  have f8 : (0 : Int) ≤ -ρ 39 + ρ 4 + (-1) := zAllA hf 8
  have f9 : (0 : Int) ≤ -ρ 19 + ρ 4 + (-1) := zAllA hf 9
  have f10 : (0 : Int) ≤ -ρ 18 + ρ 4 := zAllA hf 10
  have f11 : (0 : Int) ≤ ρ 26 + -ρ 16 := zAllA hf 11
  have f12 : (0 : Int) ≤ ρ 25 + -ρ 15 := zAllA hf 12
  have f13 : (0 : Int) ≤ ρ 24 + -ρ 14 := zAllA hf 13
  have f14 : (0 : Int) ≤ ρ 21 + -ρ 10 := zAllA hf 14
  have f15 : (0 : Int) ≤ ρ 19 + -ρ 3 := zAllA hf 15
  have f16 : (0 : Int) ≤ ρ 19 + -ρ 18 := zAllA hf 16
  have f17 : (0 : Int) ≤ -ρ 20 + ρ 18 := zAllA hf 17
  have m0 : γ 0 1 0 10 = ρ 0 := zAllA hm 0
  have m1 : γ 0 40 0 (ρ 0) = ρ 1 := zAllA hm 1
  have m2 : γ 0 9 (ρ 1) 2 = ρ 2 := zAllA hm 2
  have m3 : γ 0 2 0 6 = ρ 3 := zAllA hm 3
  have m4 : γ 0 2 0 3 = ρ 4 := zAllA hm 4
  have m5 : γ 0 2 0 7 = ρ 5 := zAllA hm 5
  have m6 : γ 0 10 (9 * ρ 1) 8 = ρ 6 := zAllA hm 6
  have m7 : γ 0 10 (9 * ρ 1) 12 = ρ 7 := zAllA hm 7
  have m8 : γ 0 10 (9 * ρ 1) 14 = ρ 8 := zAllA hm 8
  have m9 : γ 0 9 (ρ 1) 3 = ρ 9 := zAllA hm 9
  have m10 : γ 0 1 0 7 = ρ 10 := zAllA hm 10
  have m11 : γ 0 2 0 4 = ρ 11 := zAllA hm 11
  have m12 : γ 0 2 0 5 = ρ 12 := zAllA hm 12
  have m13 : γ 0 2 0 9 = ρ 13 := zAllA hm 13
  have m14 : γ 0 2 0 13 = ρ 14 := zAllA hm 14
  have m15 : γ 0 2 0 16 = ρ 15 := zAllA hm 15
  have m16 : γ 0 3 0 1 = ρ 16 := zAllA hm 16
  have m17 : γ 0 10 (9 * ρ 1) 15 = ρ 17 := zAllA hm 17
  have m18 : γ 1 9 (ρ 1) 2 = ρ 18 := zAllA hm 18
  have m19 : γ 1 2 0 6 = ρ 19 := zAllA hm 19
  have m20 : γ 1 10 (9 * ρ 1) 8 = ρ 6 := zAllA hm 20
  have m21 : γ 1 10 (9 * ρ 1) 12 = ρ 7 := zAllA hm 21
  have m22 : γ 1 9 (ρ 1) 3 = ρ 20 := zAllA hm 22
  have m23 : γ 1 1 0 7 = ρ 21 := zAllA hm 23
  have m24 : γ 1 2 0 4 = ρ 11 := zAllA hm 24
  have m25 : γ 1 2 0 5 = ρ 22 := zAllA hm 25
  have m26 : γ 1 2 0 9 = ρ 23 := zAllA hm 26
  have m27 : γ 1 2 0 13 = ρ 24 := zAllA hm 27
  have m28 : γ 1 2 0 16 = ρ 25 := zAllA hm 28
  have m29 : γ 1 3 0 1 = ρ 26 := zAllA hm 29
  have m30 : γ 1 10 (ρ 18 + 9 * ρ 1 + 1) 4 = ρ 27 := zAllA hm 30
  have m31 : γ 1 10 (ρ 18 + 9 * ρ 1 + 1) 11 = ρ 28 := zAllA hm 31
  have m32 : γ 1 10 (ρ 18 + 9 * ρ 1 + 1) 8 = ρ 29 := zAllA hm 32
  have m33 : γ 1 10 (ρ 18 + 9 * ρ 1 + 1) 5 = ρ 30 := zAllA hm 33
  have m34 : γ 1 10 (ρ 18 + 9 * ρ 1 + 1) 7 = ρ 31 := zAllA hm 34
  have m35 : γ 1 10 (ρ 18 + 9 * ρ 1 + 1) 9 = ρ 32 := zAllA hm 35
  have m36 : γ 1 10 (ρ 18 + 9 * ρ 1 + 1) 12 = ρ 33 := zAllA hm 36
  have m37 : γ 3 2 0 6 = ρ 34 := zAllA hm 37
  have m38 : γ 3 10 (ρ 18 + 9 * ρ 1 + 1) 4 = ρ 35 := zAllA hm 38
  have m39 : γ 3 10 (ρ 18 + 9 * ρ 1 + 1) 11 = ρ 28 := zAllA hm 39
  have m40 : γ 3 10 (ρ 18 + 9 * ρ 1 + 1) 8 = (-1) := zAllA hm 40
  have m41 : γ 3 10 (9 * ρ 1) 8 = ρ 6 := zAllA hm 41
  have m42 : γ 3 10 (9 * ρ 1) 12 = ρ 7 := zAllA hm 42
  have m43 : γ 3 1 0 7 = ρ 21 := zAllA hm 43
  have m44 : γ 3 2 0 4 = ρ 11 := zAllA hm 44
  have m45 : γ 3 2 0 5 = ρ 22 := zAllA hm 45
  have m46 : γ 3 2 0 9 = ρ 36 := zAllA hm 46
  have m47 : γ 3 2 0 13 = ρ 24 := zAllA hm 47
  have m48 : γ 3 2 0 16 = ρ 25 := zAllA hm 48
  have m49 : γ 3 3 0 1 = ρ 37 := zAllA hm 49
  have m50 : γ 3 10 (ρ 18 + 9 * ρ 1 + 1) 5 = ρ 38 := zAllA hm 50
  have m51 : γ 3 10 (ρ 18 + 9 * ρ 1 + 1) 7 = ρ 39 := zAllA hm 51
  have m52 : γ 3 10 (ρ 18 + 9 * ρ 1 + 1) 9 = (-1) := zAllA hm 52
  have m53 : γ 3 10 (ρ 18 + 9 * ρ 1 + 1) 12 = 0 := zAllA hm 53
  have m54 : γ 5 2 0 6 = ρ 41 := zAllA hm 54
  have m55 : γ 3 10 (9 * ρ 1) 5 = ρ 42 := zAllA hm 55
  have m56 : γ 7 2 0 4 = ρ 43 := zAllA hm 56
  have c1 : ∀ (G : Nat) (k j : Int), ¬ rMdP m107_ G j → γ 1 G k j = γ 0 G k j := And.right (zChA hc 6)
  have c2 : ∀ (G : Nat) (k j : Int), ¬ rMdP m0_ G j → γ 2 G k j = γ 1 G k j := And.right (zChA hc 5)
  have c3 : ∀ (G : Nat) (k j : Int), ¬ rMdP m106_ G j → γ 3 G k j = γ 2 G k j := And.right (zChA hc 4)
  have c4 : γ 4 = rUp (γ 3) 9 (ρ 1) 2 (ρ 18 + 1) := And.right (zChA hc 3)
  have c5 : ∀ (G : Nat) (k j : Int), ¬ rMdP m77_ G j → γ 5 G k j = γ 4 G k j := And.right (zChA hc 2)
  have c6 : γ 6 = rUp (γ 5) 2 0 6 (ρ 41 + 1) := And.right (zChA hc 1)
  have c7 : ∀ (G : Nat) (k j : Int), ¬ rMdP m72_ G j → γ 7 G k j = γ 6 G k j := And.right (zChA hc 0)
  have l0 : sn132 [ρ 1, ρ 18] (γ 1) 0 (ρ 18 + 9 * ρ 1 + 1) (γ 2) := hS132 _ _ _ _ _ (zAllA hl 0)
  have l1 : sn157 [ρ 0, ρ 1, ρ 18, ρ 19, ρ 4, ρ 27, ρ 28, ρ 29, ρ 5, ρ 6, ρ 7, ρ 21, ρ 11, ρ 22, ρ 23, ρ 24, ρ 25, ρ 26, ρ 30, ρ 31, ρ 32, ρ 33] (γ 2) 0 1 (γ 3) := hS157 _ _ _ _ _ (zAllA hl 1)
  have l2 : sn114 [ρ 34, ρ 4] (γ 4) 0 (ρ 40) (γ 5) := hS114 _ _ _ _ _ (zAllA hl 2)
  have l3 : sn153 [9 * ρ 1, ρ 11, ρ 22, ρ 42, ρ 7, ρ 8, ρ 17] (γ 6) 0 0 (γ 7) := hS153 _ _ _ _ _ (zAllA hl 3)
  show sn158 [ρ 0, ρ 1, ρ 2, ρ 3, ρ 4, ρ 5, ρ 6, ρ 7, ρ 8, ρ 9, ρ 10, ρ 11, ρ 12, ρ 13, ρ 14, ρ 15, ρ 16, ρ 17] (γ 0) 0 0 (γ 7)
  have hD : en158 (γ 0) (0, [], γ 1) = .inr (0, 0, γ 7) := by
    unfold en158
    refine zIP (show (0 : Nat) = 0 by decide) (zLV (γ 1) rfl (zLE m0 (zLE m1 (zLE m18 (zLE m22 (zIN (show ¬ (ρ 18 ≥ 8) by omega) (zLE (show fn132 [ρ 1, ρ 18] (γ 1) = (0, ρ 18 + 9 * ρ 1 + 1, γ 2) from l0.symm) ?_)))))))
    refine zLV (γ 2) rfl (zLE (show fn157 [] (γ 2) = (0, 1, γ 3) from l1.symm) (zLV (γ 3) rfl (zIP (show (1 : Int) ≤ 1 by omega) (zIP (show 3 ≤ γ 3 10 (ρ 18 + 9 * ρ 1 + 1) 4 by omega) (zIN (show ¬ (6 ≤ γ 3 10 (ρ 18 + 9 * ρ 1 + 1) 4) by omega) (zLE c4.symm (zLE (show fn114 [] (γ 4) = (0, ρ 40, γ 5) from l2.symm) ?_)))))))
    refine zLV (γ 5) rfl (zIP (show (0 : Int) ≤ ρ 40 by omega) (zLV (ρ 40) rfl (zLE m54 (zIN (show ¬ (ρ 40 ≠ 46) by omega) (zLE c6.symm (zLE (show fn153 [9 * ρ 1] (γ 6) = (0, 0, γ 7) from l3.symm) (zLV (γ 7) rfl ?_)))))))
    refine zIN (show ¬ ((1 : Int) ≤ 0) by omega) ?_
    rfl
  exact zGoo_aend hJ hD
theorem vn158a0_7 {S : Nat → zSpc} (hS109 : zIm S 109 sn109) (hS114 : zIm S 114 sn114) (hS132 : zIm S 132 sn132) (hS152 : zIm S 152 sn152) (hS153 : zIm S 153 sn153) (hS157 : zIm S 157 sn157) {a : List Int} {g : rHp} : ∀ (ρ : Nat → Int) (γ : Nat → rHp), jn158 a g 0 (zAg (zNA a158_ 0) ρ) (γ 1) → zO 18 S a g q158a0_7 ρ γ → zGl (fun i vs g1 => jn158 a g i vs g1) (sn158 a g) q158a0_7 ρ γ := by
  intro ρ γ hJ h
  obtain ⟨ha, hg, hr, hf, hm, hc, hl⟩ := h
  have ha : a = [ρ 0, ρ 1, ρ 2, ρ 3, ρ 4, ρ 5, ρ 6, ρ 7, ρ 8, ρ 9, ρ 10, ρ 11, ρ 12, ρ 13, ρ 14, ρ 15, ρ 16, ρ 17] := ha
  subst ha
  subst hg
  have hJ : jn158 [ρ 0, ρ 1, ρ 2, ρ 3, ρ 4, ρ 5, ρ 6, ρ 7, ρ 8, ρ 9, ρ 10, ρ 11, ρ 12, ρ 13, ρ 14, ρ 15, ρ 16, ρ 17] (γ 0) 0 [ρ 0, ρ 1, ρ 2, ρ 3, ρ 4, ρ 5, ρ 6, ρ 7, ρ 8, ρ 9, ρ 10, ρ 11, ρ 12, ρ 13, ρ 14, ρ 15, ρ 16, ρ 17, ρ 18, ρ 19, ρ 20, ρ 21, ρ 22, ρ 23, ρ 24, ρ 25, ρ 26] (γ 1) := hJ
  have r0 : (0 : Int) ≤ ρ 0 ∧ ρ 0 ≤ 60 := zRnA hr 0
  have r1 : (0 : Int) ≤ ρ 1 ∧ ρ 1 ≤ 60 := zRnA hr 1
  have r2 : (0 : Int) ≤ ρ 2 ∧ ρ 2 ≤ 8 := zRnA hr 2
  have r3 : (0 : Int) ≤ ρ 3 ∧ ρ 3 ≤ 2000 := zRnA hr 3
  have r4 : (0 : Int) ≤ ρ 4 ∧ ρ 4 ≤ 2000 := zRnA hr 4
  have r5 : (0 : Int) ≤ ρ 5 ∧ ρ 5 ≤ 0 := zRnA hr 5
  have r6 : ((-1) : Int) ≤ ρ 6 ∧ ρ 6 ≤ 19 := zRnA hr 6
  have r7 : (0 : Int) ≤ ρ 7 ∧ ρ 7 ≤ 4 := zRnA hr 7
  have r8 : ((-1) : Int) ≤ ρ 8 ∧ ρ 8 ≤ 7 := zRnA hr 8
  have r9 : (0 : Int) ≤ ρ 9 ∧ ρ 9 ≤ 8 := zRnA hr 9
  have r10 : (0 : Int) ≤ ρ 10 ∧ ρ 10 ≤ 20 := zRnA hr 10
  have r11 : ((-2147483648) : Int) ≤ ρ 11 ∧ ρ 11 ≤ 2147483647 := zRnA hr 11
  have r12 : ((-2147483648) : Int) ≤ ρ 12 ∧ ρ 12 ≤ 2147483647 := zRnA hr 12
  have r13 : ((-2147483648) : Int) ≤ ρ 13 ∧ ρ 13 ≤ 2147483647 := zRnA hr 13
  have r14 : (0 : Int) ≤ ρ 14 ∧ ρ 14 ≤ 8 := zRnA hr 14
  have r15 : (0 : Int) ≤ ρ 15 ∧ ρ 15 ≤ 32 := zRnA hr 15
  have r16 : (0 : Int) ≤ ρ 16 ∧ ρ 16 ≤ 5120 := zRnA hr 16
  have r17 : ((-2147483648) : Int) ≤ ρ 17 ∧ ρ 17 ≤ 2147483647 := zRnA hr 17
  have r18 : (0 : Int) ≤ ρ 18 ∧ ρ 18 ≤ 7 := zRnA hr 18
  have r19 : (0 : Int) ≤ ρ 19 ∧ ρ 19 ≤ 2000 := zRnA hr 19
  have r20 : (0 : Int) ≤ ρ 20 ∧ ρ 20 ≤ 8 := zRnA hr 20
  have r21 : (0 : Int) ≤ ρ 21 ∧ ρ 21 ≤ 20 := zRnA hr 21
  have r22 : ((-2147483648) : Int) ≤ ρ 22 ∧ ρ 22 ≤ 2147483647 := zRnA hr 22
  have r23 : ((-2147483648) : Int) ≤ ρ 23 ∧ ρ 23 ≤ 2147483647 := zRnA hr 23
  have r24 : (0 : Int) ≤ ρ 24 ∧ ρ 24 ≤ 8 := zRnA hr 24
  have r25 : (0 : Int) ≤ ρ 25 ∧ ρ 25 ≤ 32 := zRnA hr 25
  have r26 : (0 : Int) ≤ ρ 26 ∧ ρ 26 ≤ 5120 := zRnA hr 26
  have r27 : (0 : Int) ≤ ρ 27 ∧ ρ 27 ≤ 8 := zRnA hr 27
  have r28 : ((-1) : Int) ≤ ρ 28 ∧ ρ 28 ≤ 7 := zRnA hr 28
  have r29 : ((-1) : Int) ≤ ρ 29 ∧ ρ 29 ≤ 19 := zRnA hr 29
  have r30 : (0 : Int) ≤ ρ 30 ∧ ρ 30 ≤ 4 := zRnA hr 30
  have r31 : ((-2147483648) : Int) ≤ ρ 31 ∧ ρ 31 ≤ 2147483647 := zRnA hr 31
  have r32 : ((-1) : Int) ≤ ρ 32 ∧ ρ 32 ≤ 3 := zRnA hr 32
  have r33 : (0 : Int) ≤ ρ 33 ∧ ρ 33 ≤ 4 := zRnA hr 33
  have r34 : (2 : Int) ≤ ρ 34 ∧ ρ 34 ≤ 2000 := zRnA hr 34
  have r35 : (3 : Int) ≤ ρ 35 ∧ ρ 35 ≤ 5 := zRnA hr 35
  have r36 : ((-2147483648) : Int) ≤ ρ 36 ∧ ρ 36 ≤ 2147483647 := zRnA hr 36
  have r37 : (0 : Int) ≤ ρ 37 ∧ ρ 37 ≤ 5120 := zRnA hr 37
  have r38 : (1 : Int) ≤ ρ 38 ∧ ρ 38 ≤ 2 := zRnA hr 38
  have r39 : (0 : Int) ≤ ρ 39 ∧ ρ 39 ≤ 2000 := zRnA hr 39
  have r40 : (46 : Int) ≤ ρ 40 ∧ ρ 40 ≤ 46 := zRnA hr 40
  have r41 : (0 : Int) ≤ ρ 41 ∧ ρ 41 ≤ 2000 := zRnA hr 41
  have r42 : (0 : Int) ≤ ρ 42 ∧ ρ 42 ≤ 4 := zRnA hr 42
  have r43 : ((-2147483648) : Int) ≤ ρ 43 ∧ ρ 43 ≤ 2147483647 := zRnA hr 43
  have f0 : (0 : Int) ≤ ρ 41 + -ρ 34 := zAllA hf 0
  have f1 : (0 : Int) ≤ -ρ 41 + ρ 4 + (-1) := zAllA hf 1
  have f2 : (0 : Int) ≤ -ρ 34 + ρ 4 + (-1) := zAllA hf 2
  have f3 : (0 : Int) ≤ -ρ 39 + ρ 34 + (-1) := zAllA hf 3
  have f4 : (0 : Int) ≤ ρ 34 + -ρ 19 + (-1) := zAllA hf 4
  have f5 : (0 : Int) ≤ ρ 37 + -ρ 26 := zAllA hf 5
  have f6 : (0 : Int) ≤ ρ 39 + -ρ 19 := zAllA hf 6
  have f7 : (0 : Int) ≤ -ρ 38 + ρ 4 := zAllA hf 7
  have f8 : (0 : Int) ≤ -ρ 39 + ρ 4 + (-1) := zAllA hf 8
  have f9 : (0 : Int) ≤ -ρ 19 + ρ 4 + (-1) := zAllA hf 9
  have f10 : (0 : Int) ≤ -ρ 18 + ρ 4 := zAllA hf 10
  have f11 : (0 : Int) ≤ ρ 26 + -ρ 16 := zAllA hf 11
  have f12 : (0 : Int) ≤ ρ 25 + -ρ 15 := zAllA hf 12
  have f13 : (0 : Int) ≤ ρ 24 + -ρ 14 := zAllA hf 13
  have f14 : (0 : Int) ≤ ρ 21 + -ρ 10 := zAllA hf 14
  have f15 : (0 : Int) ≤ ρ 19 + -ρ 3 := zAllA hf 15
  have f16 : (0 : Int) ≤ ρ 19 + -ρ 18 := zAllA hf 16
  have f17 : (0 : Int) ≤ -ρ 20 + ρ 18 := zAllA hf 17
  have m0 : γ 0 1 0 10 = ρ 0 := zAllA hm 0
  have m1 : γ 0 40 0 (ρ 0) = ρ 1 := zAllA hm 1
  have m2 : γ 0 9 (ρ 1) 2 = ρ 2 := zAllA hm 2
  have m3 : γ 0 2 0 6 = ρ 3 := zAllA hm 3
  have m4 : γ 0 2 0 3 = ρ 4 := zAllA hm 4
  have m5 : γ 0 2 0 7 = ρ 5 := zAllA hm 5
  have m6 : γ 0 10 (9 * ρ 1) 8 = ρ 6 := zAllA hm 6
  have m7 : γ 0 10 (9 * ρ 1) 12 = ρ 7 := zAllA hm 7
  have m8 : γ 0 10 (9 * ρ 1) 14 = ρ 8 := zAllA hm 8
  have m9 : γ 0 9 (ρ 1) 3 = ρ 9 := zAllA hm 9
  have m10 : γ 0 1 0 7 = ρ 10 := zAllA hm 10
  have m11 : γ 0 2 0 4 = ρ 11 := zAllA hm 11
  have m12 : γ 0 2 0 5 = ρ 12 := zAllA hm 12
  have m13 : γ 0 2 0 9 = ρ 13 := zAllA hm 13
  have m14 : γ 0 2 0 13 = ρ 14 := zAllA hm 14
  have m15 : γ 0 2 0 16 = ρ 15 := zAllA hm 15
  have m16 : γ 0 3 0 1 = ρ 16 := zAllA hm 16
  have m17 : γ 0 10 (9 * ρ 1) 15 = ρ 17 := zAllA hm 17
  have m18 : γ 1 9 (ρ 1) 2 = ρ 18 := zAllA hm 18
  have m19 : γ 1 2 0 6 = ρ 19 := zAllA hm 19
  have m20 : γ 1 10 (9 * ρ 1) 8 = ρ 6 := zAllA hm 20
  have m21 : γ 1 10 (9 * ρ 1) 12 = ρ 7 := zAllA hm 21
  have m22 : γ 1 9 (ρ 1) 3 = ρ 20 := zAllA hm 22
  have m23 : γ 1 1 0 7 = ρ 21 := zAllA hm 23
  have m24 : γ 1 2 0 4 = ρ 11 := zAllA hm 24
  have m25 : γ 1 2 0 5 = ρ 22 := zAllA hm 25
  have m26 : γ 1 2 0 9 = ρ 23 := zAllA hm 26
  have m27 : γ 1 2 0 13 = ρ 24 := zAllA hm 27
  have m28 : γ 1 2 0 16 = ρ 25 := zAllA hm 28
  have m29 : γ 1 3 0 1 = ρ 26 := zAllA hm 29
  have m30 : γ 1 10 (ρ 18 + 9 * ρ 1 + 1) 4 = ρ 27 := zAllA hm 30
  have m31 : γ 1 10 (ρ 18 + 9 * ρ 1 + 1) 11 = ρ 28 := zAllA hm 31
  have m32 : γ 1 10 (ρ 18 + 9 * ρ 1 + 1) 8 = ρ 29 := zAllA hm 32
  have m33 : γ 1 10 (ρ 18 + 9 * ρ 1 + 1) 5 = ρ 30 := zAllA hm 33
  have m34 : γ 1 10 (ρ 18 + 9 * ρ 1 + 1) 7 = ρ 31 := zAllA hm 34
  have m35 : γ 1 10 (ρ 18 + 9 * ρ 1 + 1) 9 = ρ 32 := zAllA hm 35
  have m36 : γ 1 10 (ρ 18 + 9 * ρ 1 + 1) 12 = ρ 33 := zAllA hm 36
  have m37 : γ 3 2 0 6 = ρ 34 := zAllA hm 37
  have m38 : γ 3 10 (ρ 18 + 9 * ρ 1 + 1) 4 = ρ 35 := zAllA hm 38
  have m39 : γ 3 10 (ρ 18 + 9 * ρ 1 + 1) 11 = ρ 28 := zAllA hm 39
  have m40 : γ 3 10 (ρ 18 + 9 * ρ 1 + 1) 8 = (-1) := zAllA hm 40
  have m41 : γ 3 10 (9 * ρ 1) 8 = ρ 6 := zAllA hm 41
  have m42 : γ 3 10 (9 * ρ 1) 12 = ρ 7 := zAllA hm 42
  have m43 : γ 3 1 0 7 = ρ 21 := zAllA hm 43
  have m44 : γ 3 2 0 4 = ρ 11 := zAllA hm 44
  have m45 : γ 3 2 0 5 = ρ 22 := zAllA hm 45
  have m46 : γ 3 2 0 9 = ρ 36 := zAllA hm 46
  have m47 : γ 3 2 0 13 = ρ 24 := zAllA hm 47
  have m48 : γ 3 2 0 16 = ρ 25 := zAllA hm 48
  have m49 : γ 3 3 0 1 = ρ 37 := zAllA hm 49
  have m50 : γ 3 10 (ρ 18 + 9 * ρ 1 + 1) 5 = ρ 38 := zAllA hm 50
  have m51 : γ 3 10 (ρ 18 + 9 * ρ 1 + 1) 7 = ρ 39 := zAllA hm 51
  have m52 : γ 3 10 (ρ 18 + 9 * ρ 1 + 1) 9 = (-1) := zAllA hm 52
  have m53 : γ 3 10 (ρ 18 + 9 * ρ 1 + 1) 12 = 0 := zAllA hm 53
  have m54 : γ 5 2 0 6 = ρ 41 := zAllA hm 54
  have m55 : γ 3 10 (9 * ρ 1) 5 = ρ 42 := zAllA hm 55
  have m56 : γ 7 2 0 4 = ρ 11 := zAllA hm 56
  have m57 : γ 8 2 0 4 = ρ 43 := zAllA hm 57
  have c1 : ∀ (G : Nat) (k j : Int), ¬ rMdP m107_ G j → γ 1 G k j = γ 0 G k j := And.right (zChA hc 7)
  have c2 : ∀ (G : Nat) (k j : Int), ¬ rMdP m0_ G j → γ 2 G k j = γ 1 G k j := And.right (zChA hc 6)
  have c3 : ∀ (G : Nat) (k j : Int), ¬ rMdP m106_ G j → γ 3 G k j = γ 2 G k j := And.right (zChA hc 5)
  have c4 : γ 4 = rUp (γ 3) 9 (ρ 1) 2 (ρ 18 + 1) := And.right (zChA hc 4)
  have c5 : ∀ (G : Nat) (k j : Int), ¬ rMdP m77_ G j → γ 5 G k j = γ 4 G k j := And.right (zChA hc 3)
  have c6 : γ 6 = rUp (γ 5) 2 0 6 (ρ 41 + 1) := And.right (zChA hc 2)
  have c7 : ∀ (G : Nat) (k j : Int), ¬ rMdP m72_ G j → γ 7 G k j = γ 6 G k j := And.right (zChA hc 1)
  have c8 : ∀ (G : Nat) (k j : Int), ¬ rMdP m72_ G j → γ 8 G k j = γ 7 G k j := And.right (zChA hc 0)
  have l0 : sn132 [ρ 1, ρ 18] (γ 1) 0 (ρ 18 + 9 * ρ 1 + 1) (γ 2) := hS132 _ _ _ _ _ (zAllA hl 0)
  have l1 : sn157 [ρ 0, ρ 1, ρ 18, ρ 19, ρ 4, ρ 27, ρ 28, ρ 29, ρ 5, ρ 6, ρ 7, ρ 21, ρ 11, ρ 22, ρ 23, ρ 24, ρ 25, ρ 26, ρ 30, ρ 31, ρ 32, ρ 33] (γ 2) 0 1 (γ 3) := hS157 _ _ _ _ _ (zAllA hl 1)
  have l2 : sn114 [ρ 34, ρ 4] (γ 4) 0 (ρ 40) (γ 5) := hS114 _ _ _ _ _ (zAllA hl 2)
  have l3 : sn153 [9 * ρ 1, ρ 11, ρ 22, ρ 42, ρ 7, ρ 8, ρ 17] (γ 6) 0 1 (γ 7) := hS153 _ _ _ _ _ (zAllA hl 3)
  have l4 : sn152 [ρ 11, ρ 25] (γ 7) 0 0 (γ 8) := hS152 _ _ _ _ _ (zAllA hl 4)
  show sn158 [ρ 0, ρ 1, ρ 2, ρ 3, ρ 4, ρ 5, ρ 6, ρ 7, ρ 8, ρ 9, ρ 10, ρ 11, ρ 12, ρ 13, ρ 14, ρ 15, ρ 16, ρ 17] (γ 0) 0 0 (γ 8)
  have hD : en158 (γ 0) (0, [], γ 1) = .inr (0, 0, γ 8) := by
    unfold en158
    refine zIP (show (0 : Nat) = 0 by decide) (zLV (γ 1) rfl (zLE m0 (zLE m1 (zLE m18 (zLE m22 (zIN (show ¬ (ρ 18 ≥ 8) by omega) (zLE (show fn132 [ρ 1, ρ 18] (γ 1) = (0, ρ 18 + 9 * ρ 1 + 1, γ 2) from l0.symm) ?_)))))))
    refine zLV (γ 2) rfl (zLE (show fn157 [] (γ 2) = (0, 1, γ 3) from l1.symm) (zLV (γ 3) rfl (zIP (show (1 : Int) ≤ 1 by omega) (zIP (show 3 ≤ γ 3 10 (ρ 18 + 9 * ρ 1 + 1) 4 by omega) (zIN (show ¬ (6 ≤ γ 3 10 (ρ 18 + 9 * ρ 1 + 1) 4) by omega) (zLE c4.symm (zLE (show fn114 [] (γ 4) = (0, ρ 40, γ 5) from l2.symm) ?_)))))))
    refine zLV (γ 5) rfl (zIP (show (0 : Int) ≤ ρ 40 by omega) (zLV (ρ 40) rfl (zLE m54 (zIN (show ¬ (ρ 40 ≠ 46) by omega) (zLE c6.symm (zLE (show fn153 [9 * ρ 1] (γ 6) = (0, 1, γ 7) from l3.symm) (zLV (γ 7) rfl ?_)))))))
    refine zIP (show (1 : Int) ≤ 1 by omega) (zLE (show fn152 [] (γ 7) = (0, 0, γ 8) from l4.symm) (zLV (γ 8) rfl (zIN (show ¬ ((1 : Int) ≤ 0) by omega) ?_)))
    rfl
  exact zGoo_aend hJ hD
theorem vn158a0_8 {S : Nat → zSpc} (hS109 : zIm S 109 sn109) (hS114 : zIm S 114 sn114) (hS132 : zIm S 132 sn132) (hS152 : zIm S 152 sn152) (hS153 : zIm S 153 sn153) (hS157 : zIm S 157 sn157) {a : List Int} {g : rHp} : ∀ (ρ : Nat → Int) (γ : Nat → rHp), jn158 a g 0 (zAg (zNA a158_ 0) ρ) (γ 1) → zO 18 S a g q158a0_8 ρ γ → zGl (fun i vs g1 => jn158 a g i vs g1) (sn158 a g) q158a0_8 ρ γ := by
  intro ρ γ hJ h
  obtain ⟨ha, hg, hr, hf, hm, hc, hl⟩ := h
  have ha : a = [ρ 0, ρ 1, ρ 2, ρ 3, ρ 4, ρ 5, ρ 6, ρ 7, ρ 8, ρ 9, ρ 10, ρ 11, ρ 12, ρ 13, ρ 14, ρ 15, ρ 16, ρ 17] := ha
  subst ha
  subst hg
  have hJ : jn158 [ρ 0, ρ 1, ρ 2, ρ 3, ρ 4, ρ 5, ρ 6, ρ 7, ρ 8, ρ 9, ρ 10, ρ 11, ρ 12, ρ 13, ρ 14, ρ 15, ρ 16, ρ 17] (γ 0) 0 [ρ 0, ρ 1, ρ 2, ρ 3, ρ 4, ρ 5, ρ 6, ρ 7, ρ 8, ρ 9, ρ 10, ρ 11, ρ 12, ρ 13, ρ 14, ρ 15, ρ 16, ρ 17, ρ 18, ρ 19, ρ 20, ρ 21, ρ 22, ρ 23, ρ 24, ρ 25, ρ 26] (γ 1) := hJ
  have r0 : (0 : Int) ≤ ρ 0 ∧ ρ 0 ≤ 60 := zRnA hr 0
  have r1 : (0 : Int) ≤ ρ 1 ∧ ρ 1 ≤ 60 := zRnA hr 1
  have r2 : (0 : Int) ≤ ρ 2 ∧ ρ 2 ≤ 8 := zRnA hr 2
  have r3 : (0 : Int) ≤ ρ 3 ∧ ρ 3 ≤ 2000 := zRnA hr 3
  have r4 : (0 : Int) ≤ ρ 4 ∧ ρ 4 ≤ 2000 := zRnA hr 4
  have r5 : (0 : Int) ≤ ρ 5 ∧ ρ 5 ≤ 0 := zRnA hr 5
  have r6 : ((-1) : Int) ≤ ρ 6 ∧ ρ 6 ≤ 19 := zRnA hr 6
  have r7 : (0 : Int) ≤ ρ 7 ∧ ρ 7 ≤ 4 := zRnA hr 7
  have r8 : ((-1) : Int) ≤ ρ 8 ∧ ρ 8 ≤ 7 := zRnA hr 8
  have r9 : (0 : Int) ≤ ρ 9 ∧ ρ 9 ≤ 8 := zRnA hr 9
  have r10 : (0 : Int) ≤ ρ 10 ∧ ρ 10 ≤ 20 := zRnA hr 10
  have r11 : ((-2147483648) : Int) ≤ ρ 11 ∧ ρ 11 ≤ 2147483647 := zRnA hr 11
  have r12 : ((-2147483648) : Int) ≤ ρ 12 ∧ ρ 12 ≤ 2147483647 := zRnA hr 12
  have r13 : ((-2147483648) : Int) ≤ ρ 13 ∧ ρ 13 ≤ 2147483647 := zRnA hr 13
  have r14 : (0 : Int) ≤ ρ 14 ∧ ρ 14 ≤ 8 := zRnA hr 14
  have r15 : (0 : Int) ≤ ρ 15 ∧ ρ 15 ≤ 32 := zRnA hr 15
  have r16 : (0 : Int) ≤ ρ 16 ∧ ρ 16 ≤ 5120 := zRnA hr 16
  have r17 : ((-2147483648) : Int) ≤ ρ 17 ∧ ρ 17 ≤ 2147483647 := zRnA hr 17
  have r18 : (0 : Int) ≤ ρ 18 ∧ ρ 18 ≤ 7 := zRnA hr 18
  have r19 : (0 : Int) ≤ ρ 19 ∧ ρ 19 ≤ 2000 := zRnA hr 19
  have r20 : (0 : Int) ≤ ρ 20 ∧ ρ 20 ≤ 8 := zRnA hr 20
  have r21 : (0 : Int) ≤ ρ 21 ∧ ρ 21 ≤ 20 := zRnA hr 21
  have r22 : ((-2147483648) : Int) ≤ ρ 22 ∧ ρ 22 ≤ 2147483647 := zRnA hr 22
  have r23 : ((-2147483648) : Int) ≤ ρ 23 ∧ ρ 23 ≤ 2147483647 := zRnA hr 23
  have r24 : (0 : Int) ≤ ρ 24 ∧ ρ 24 ≤ 8 := zRnA hr 24
  have r25 : (0 : Int) ≤ ρ 25 ∧ ρ 25 ≤ 32 := zRnA hr 25
  have r26 : (0 : Int) ≤ ρ 26 ∧ ρ 26 ≤ 5120 := zRnA hr 26
  have r27 : (0 : Int) ≤ ρ 27 ∧ ρ 27 ≤ 8 := zRnA hr 27
  have r28 : ((-1) : Int) ≤ ρ 28 ∧ ρ 28 ≤ 7 := zRnA hr 28
  have r29 : ((-1) : Int) ≤ ρ 29 ∧ ρ 29 ≤ 19 := zRnA hr 29
  have r30 : (0 : Int) ≤ ρ 30 ∧ ρ 30 ≤ 4 := zRnA hr 30
  have r31 : ((-2147483648) : Int) ≤ ρ 31 ∧ ρ 31 ≤ 2147483647 := zRnA hr 31
  have r32 : ((-1) : Int) ≤ ρ 32 ∧ ρ 32 ≤ 3 := zRnA hr 32
  have r33 : (0 : Int) ≤ ρ 33 ∧ ρ 33 ≤ 4 := zRnA hr 33
  have r34 : (2 : Int) ≤ ρ 34 ∧ ρ 34 ≤ 2000 := zRnA hr 34
  have r35 : (3 : Int) ≤ ρ 35 ∧ ρ 35 ≤ 5 := zRnA hr 35
  have r36 : ((-2147483648) : Int) ≤ ρ 36 ∧ ρ 36 ≤ 2147483647 := zRnA hr 36
  have r37 : (0 : Int) ≤ ρ 37 ∧ ρ 37 ≤ 5120 := zRnA hr 37
  have r38 : (1 : Int) ≤ ρ 38 ∧ ρ 38 ≤ 2 := zRnA hr 38
  have r39 : (0 : Int) ≤ ρ 39 ∧ ρ 39 ≤ 2000 := zRnA hr 39
  have r40 : (46 : Int) ≤ ρ 40 ∧ ρ 40 ≤ 46 := zRnA hr 40
  have r41 : (0 : Int) ≤ ρ 41 ∧ ρ 41 ≤ 2000 := zRnA hr 41
  have r42 : (0 : Int) ≤ ρ 42 ∧ ρ 42 ≤ 4 := zRnA hr 42
  have f0 : (0 : Int) ≤ ρ 41 + -ρ 34 := zAllA hf 0
  have f1 : (0 : Int) ≤ -ρ 41 + ρ 4 + (-1) := zAllA hf 1
  have f2 : (0 : Int) ≤ -ρ 34 + ρ 4 + (-1) := zAllA hf 2
  have f3 : (0 : Int) ≤ -ρ 39 + ρ 34 + (-1) := zAllA hf 3
  have f4 : (0 : Int) ≤ ρ 34 + -ρ 19 + (-1) := zAllA hf 4
  have f5 : (0 : Int) ≤ ρ 37 + -ρ 26 := zAllA hf 5
  have f6 : (0 : Int) ≤ ρ 39 + -ρ 19 := zAllA hf 6
  have f7 : (0 : Int) ≤ -ρ 38 + ρ 4 := zAllA hf 7
  have f8 : (0 : Int) ≤ -ρ 39 + ρ 4 + (-1) := zAllA hf 8
  have f9 : (0 : Int) ≤ -ρ 19 + ρ 4 + (-1) := zAllA hf 9
  have f10 : (0 : Int) ≤ -ρ 18 + ρ 4 := zAllA hf 10
  have f11 : (0 : Int) ≤ ρ 26 + -ρ 16 := zAllA hf 11
  have f12 : (0 : Int) ≤ ρ 25 + -ρ 15 := zAllA hf 12
  have f13 : (0 : Int) ≤ ρ 24 + -ρ 14 := zAllA hf 13
  have f14 : (0 : Int) ≤ ρ 21 + -ρ 10 := zAllA hf 14
  have f15 : (0 : Int) ≤ ρ 19 + -ρ 3 := zAllA hf 15
  have f16 : (0 : Int) ≤ ρ 19 + -ρ 18 := zAllA hf 16
  have f17 : (0 : Int) ≤ -ρ 20 + ρ 18 := zAllA hf 17
  have m0 : γ 0 1 0 10 = ρ 0 := zAllA hm 0
  have m1 : γ 0 40 0 (ρ 0) = ρ 1 := zAllA hm 1
  have m2 : γ 0 9 (ρ 1) 2 = ρ 2 := zAllA hm 2
  have m3 : γ 0 2 0 6 = ρ 3 := zAllA hm 3
  have m4 : γ 0 2 0 3 = ρ 4 := zAllA hm 4
  have m5 : γ 0 2 0 7 = ρ 5 := zAllA hm 5
  have m6 : γ 0 10 (9 * ρ 1) 8 = ρ 6 := zAllA hm 6
  have m7 : γ 0 10 (9 * ρ 1) 12 = ρ 7 := zAllA hm 7
  have m8 : γ 0 10 (9 * ρ 1) 14 = ρ 8 := zAllA hm 8
  have m9 : γ 0 9 (ρ 1) 3 = ρ 9 := zAllA hm 9
  have m10 : γ 0 1 0 7 = ρ 10 := zAllA hm 10
  have m11 : γ 0 2 0 4 = ρ 11 := zAllA hm 11
  have m12 : γ 0 2 0 5 = ρ 12 := zAllA hm 12
  have m13 : γ 0 2 0 9 = ρ 13 := zAllA hm 13
  have m14 : γ 0 2 0 13 = ρ 14 := zAllA hm 14
  have m15 : γ 0 2 0 16 = ρ 15 := zAllA hm 15
  have m16 : γ 0 3 0 1 = ρ 16 := zAllA hm 16
  have m17 : γ 0 10 (9 * ρ 1) 15 = ρ 17 := zAllA hm 17
  have m18 : γ 1 9 (ρ 1) 2 = ρ 18 := zAllA hm 18
  have m19 : γ 1 2 0 6 = ρ 19 := zAllA hm 19
  have m20 : γ 1 10 (9 * ρ 1) 8 = ρ 6 := zAllA hm 20
  have m21 : γ 1 10 (9 * ρ 1) 12 = ρ 7 := zAllA hm 21
  have m22 : γ 1 9 (ρ 1) 3 = ρ 20 := zAllA hm 22
  have m23 : γ 1 1 0 7 = ρ 21 := zAllA hm 23
  have m24 : γ 1 2 0 4 = ρ 11 := zAllA hm 24
  have m25 : γ 1 2 0 5 = ρ 22 := zAllA hm 25
  have m26 : γ 1 2 0 9 = ρ 23 := zAllA hm 26
  have m27 : γ 1 2 0 13 = ρ 24 := zAllA hm 27
  have m28 : γ 1 2 0 16 = ρ 25 := zAllA hm 28
  have m29 : γ 1 3 0 1 = ρ 26 := zAllA hm 29
  have m30 : γ 1 10 (ρ 18 + 9 * ρ 1 + 1) 4 = ρ 27 := zAllA hm 30
  have m31 : γ 1 10 (ρ 18 + 9 * ρ 1 + 1) 11 = ρ 28 := zAllA hm 31
  have m32 : γ 1 10 (ρ 18 + 9 * ρ 1 + 1) 8 = ρ 29 := zAllA hm 32
  have m33 : γ 1 10 (ρ 18 + 9 * ρ 1 + 1) 5 = ρ 30 := zAllA hm 33
  have m34 : γ 1 10 (ρ 18 + 9 * ρ 1 + 1) 7 = ρ 31 := zAllA hm 34
  have m35 : γ 1 10 (ρ 18 + 9 * ρ 1 + 1) 9 = ρ 32 := zAllA hm 35
  have m36 : γ 1 10 (ρ 18 + 9 * ρ 1 + 1) 12 = ρ 33 := zAllA hm 36
  have m37 : γ 3 2 0 6 = ρ 34 := zAllA hm 37
  have m38 : γ 3 10 (ρ 18 + 9 * ρ 1 + 1) 4 = ρ 35 := zAllA hm 38
  have m39 : γ 3 10 (ρ 18 + 9 * ρ 1 + 1) 11 = ρ 28 := zAllA hm 39
  have m40 : γ 3 10 (ρ 18 + 9 * ρ 1 + 1) 8 = (-1) := zAllA hm 40
  have m41 : γ 3 10 (9 * ρ 1) 8 = ρ 6 := zAllA hm 41
  have m42 : γ 3 10 (9 * ρ 1) 12 = ρ 7 := zAllA hm 42
  have m43 : γ 3 1 0 7 = ρ 21 := zAllA hm 43
  have m44 : γ 3 2 0 4 = ρ 11 := zAllA hm 44
  have m45 : γ 3 2 0 5 = ρ 22 := zAllA hm 45
  have m46 : γ 3 2 0 9 = ρ 36 := zAllA hm 46
  have m47 : γ 3 2 0 13 = ρ 24 := zAllA hm 47
  have m48 : γ 3 2 0 16 = ρ 25 := zAllA hm 48
  have m49 : γ 3 3 0 1 = ρ 37 := zAllA hm 49
  have m50 : γ 3 10 (ρ 18 + 9 * ρ 1 + 1) 5 = ρ 38 := zAllA hm 50
  have m51 : γ 3 10 (ρ 18 + 9 * ρ 1 + 1) 7 = ρ 39 := zAllA hm 51
  have m52 : γ 3 10 (ρ 18 + 9 * ρ 1 + 1) 9 = (-1) := zAllA hm 52
  have m53 : γ 3 10 (ρ 18 + 9 * ρ 1 + 1) 12 = 0 := zAllA hm 53
  have m54 : γ 5 2 0 6 = ρ 41 := zAllA hm 54
  have m55 : γ 3 10 (9 * ρ 1) 5 = ρ 42 := zAllA hm 55
  have m56 : γ 7 2 0 4 = ρ 11 := zAllA hm 56
  have m57 : γ 8 2 0 4 = ρ 11 := zAllA hm 57
  have c1 : ∀ (G : Nat) (k j : Int), ¬ rMdP m107_ G j → γ 1 G k j = γ 0 G k j := And.right (zChA hc 7)
  have c2 : ∀ (G : Nat) (k j : Int), ¬ rMdP m0_ G j → γ 2 G k j = γ 1 G k j := And.right (zChA hc 6)
  have c3 : ∀ (G : Nat) (k j : Int), ¬ rMdP m106_ G j → γ 3 G k j = γ 2 G k j := And.right (zChA hc 5)
  have c4 : γ 4 = rUp (γ 3) 9 (ρ 1) 2 (ρ 18 + 1) := And.right (zChA hc 4)
  have c5 : ∀ (G : Nat) (k j : Int), ¬ rMdP m77_ G j → γ 5 G k j = γ 4 G k j := And.right (zChA hc 3)
  have c6 : γ 6 = rUp (γ 5) 2 0 6 (ρ 41 + 1) := And.right (zChA hc 2)
  have c7 : ∀ (G : Nat) (k j : Int), ¬ rMdP m72_ G j → γ 7 G k j = γ 6 G k j := And.right (zChA hc 1)
  have c8 : ∀ (G : Nat) (k j : Int), ¬ rMdP m72_ G j → γ 8 G k j = γ 7 G k j := And.right (zChA hc 0)
  have l0 : sn132 [ρ 1, ρ 18] (γ 1) 0 (ρ 18 + 9 * ρ 1 + 1) (γ 2) := hS132 _ _ _ _ _ (zAllA hl 0)
  have l1 : sn157 [ρ 0, ρ 1, ρ 18, ρ 19, ρ 4, ρ 27, ρ 28, ρ 29, ρ 5, ρ 6, ρ 7, ρ 21, ρ 11, ρ 22, ρ 23, ρ 24, ρ 25, ρ 26, ρ 30, ρ 31, ρ 32, ρ 33] (γ 2) 0 1 (γ 3) := hS157 _ _ _ _ _ (zAllA hl 1)
  have l2 : sn114 [ρ 34, ρ 4] (γ 4) 0 (ρ 40) (γ 5) := hS114 _ _ _ _ _ (zAllA hl 2)
  have l3 : sn153 [9 * ρ 1, ρ 11, ρ 22, ρ 42, ρ 7, ρ 8, ρ 17] (γ 6) 0 1 (γ 7) := hS153 _ _ _ _ _ (zAllA hl 3)
  have l4 : sn152 [ρ 11, ρ 25] (γ 7) 0 1 (γ 8) := hS152 _ _ _ _ _ (zAllA hl 4)
  show sn158 [ρ 0, ρ 1, ρ 2, ρ 3, ρ 4, ρ 5, ρ 6, ρ 7, ρ 8, ρ 9, ρ 10, ρ 11, ρ 12, ρ 13, ρ 14, ρ 15, ρ 16, ρ 17] (γ 0) 0 1 (γ 8)
  have hD : en158 (γ 0) (0, [], γ 1) = .inr (0, 1, γ 8) := by
    unfold en158
    refine zIP (show (0 : Nat) = 0 by decide) (zLV (γ 1) rfl (zLE m0 (zLE m1 (zLE m18 (zLE m22 (zIN (show ¬ (ρ 18 ≥ 8) by omega) (zLE (show fn132 [ρ 1, ρ 18] (γ 1) = (0, ρ 18 + 9 * ρ 1 + 1, γ 2) from l0.symm) ?_)))))))
    refine zLV (γ 2) rfl (zLE (show fn157 [] (γ 2) = (0, 1, γ 3) from l1.symm) (zLV (γ 3) rfl (zIP (show (1 : Int) ≤ 1 by omega) (zIP (show 3 ≤ γ 3 10 (ρ 18 + 9 * ρ 1 + 1) 4 by omega) (zIN (show ¬ (6 ≤ γ 3 10 (ρ 18 + 9 * ρ 1 + 1) 4) by omega) (zLE c4.symm (zLE (show fn114 [] (γ 4) = (0, ρ 40, γ 5) from l2.symm) ?_)))))))
    refine zLV (γ 5) rfl (zIP (show (0 : Int) ≤ ρ 40 by omega) (zLV (ρ 40) rfl (zLE m54 (zIN (show ¬ (ρ 40 ≠ 46) by omega) (zLE c6.symm (zLE (show fn153 [9 * ρ 1] (γ 6) = (0, 1, γ 7) from l3.symm) (zLV (γ 7) rfl ?_)))))))
    refine zIP (show (1 : Int) ≤ 1 by omega) (zLE (show fn152 [] (γ 7) = (0, 1, γ 8) from l4.symm) (zLV (γ 8) rfl (zIP (show (1 : Int) ≤ 1 by omega) ?_)))
    rfl
  exact zGoo_aend hJ hD
theorem vn158a0_9 {S : Nat → zSpc} (hS109 : zIm S 109 sn109) (hS114 : zIm S 114 sn114) (hS132 : zIm S 132 sn132) (hS152 : zIm S 152 sn152) (hS153 : zIm S 153 sn153) (hS157 : zIm S 157 sn157) {a : List Int} {g : rHp} : ∀ (ρ : Nat → Int) (γ : Nat → rHp), jn158 a g 0 (zAg (zNA a158_ 0) ρ) (γ 1) → zO 18 S a g q158a0_9 ρ γ → zGl (fun i vs g1 => jn158 a g i vs g1) (sn158 a g) q158a0_9 ρ γ := by
  intro ρ γ hJ h
  obtain ⟨ha, hg, hr, hf, hm, hc, hl⟩ := h
  have ha : a = [ρ 0, ρ 1, ρ 2, ρ 3, ρ 4, ρ 5, ρ 6, ρ 7, ρ 8, ρ 9, ρ 10, ρ 11, ρ 12, ρ 13, ρ 14, ρ 15, ρ 16, ρ 17] := ha
  subst ha
  subst hg
  have hJ : jn158 [ρ 0, ρ 1, ρ 2, ρ 3, ρ 4, ρ 5, ρ 6, ρ 7, ρ 8, ρ 9, ρ 10, ρ 11, ρ 12, ρ 13, ρ 14, ρ 15, ρ 16, ρ 17] (γ 0) 0 [ρ 0, ρ 1, ρ 2, ρ 3, ρ 4, ρ 5, ρ 6, ρ 7, ρ 8, ρ 9, ρ 10, ρ 11, ρ 12, ρ 13, ρ 14, ρ 15, ρ 16, ρ 17, ρ 18, ρ 19, ρ 20, ρ 21, ρ 22, ρ 23, ρ 24, ρ 25, ρ 26] (γ 1) := hJ
  have r0 : (0 : Int) ≤ ρ 0 ∧ ρ 0 ≤ 60 := zRnA hr 0
  have r1 : (0 : Int) ≤ ρ 1 ∧ ρ 1 ≤ 60 := zRnA hr 1
  have r2 : (0 : Int) ≤ ρ 2 ∧ ρ 2 ≤ 8 := zRnA hr 2
  have r3 : (0 : Int) ≤ ρ 3 ∧ ρ 3 ≤ 2000 := zRnA hr 3
  have r4 : (0 : Int) ≤ ρ 4 ∧ ρ 4 ≤ 2000 := zRnA hr 4
  have r5 : (0 : Int) ≤ ρ 5 ∧ ρ 5 ≤ 0 := zRnA hr 5
  have r6 : ((-1) : Int) ≤ ρ 6 ∧ ρ 6 ≤ 19 := zRnA hr 6
  have r7 : (0 : Int) ≤ ρ 7 ∧ ρ 7 ≤ 4 := zRnA hr 7
  have r8 : ((-1) : Int) ≤ ρ 8 ∧ ρ 8 ≤ 7 := zRnA hr 8
  have r9 : (0 : Int) ≤ ρ 9 ∧ ρ 9 ≤ 8 := zRnA hr 9
  have r10 : (0 : Int) ≤ ρ 10 ∧ ρ 10 ≤ 20 := zRnA hr 10
  have r11 : ((-2147483648) : Int) ≤ ρ 11 ∧ ρ 11 ≤ 2147483647 := zRnA hr 11
  have r12 : ((-2147483648) : Int) ≤ ρ 12 ∧ ρ 12 ≤ 2147483647 := zRnA hr 12
  have r13 : ((-2147483648) : Int) ≤ ρ 13 ∧ ρ 13 ≤ 2147483647 := zRnA hr 13
  have r14 : (0 : Int) ≤ ρ 14 ∧ ρ 14 ≤ 8 := zRnA hr 14
  have r15 : (0 : Int) ≤ ρ 15 ∧ ρ 15 ≤ 32 := zRnA hr 15
  have r16 : (0 : Int) ≤ ρ 16 ∧ ρ 16 ≤ 5120 := zRnA hr 16
  have r17 : ((-2147483648) : Int) ≤ ρ 17 ∧ ρ 17 ≤ 2147483647 := zRnA hr 17
  have r18 : (0 : Int) ≤ ρ 18 ∧ ρ 18 ≤ 7 := zRnA hr 18
  have r19 : (0 : Int) ≤ ρ 19 ∧ ρ 19 ≤ 2000 := zRnA hr 19
  have r20 : (0 : Int) ≤ ρ 20 ∧ ρ 20 ≤ 8 := zRnA hr 20
  have r21 : (0 : Int) ≤ ρ 21 ∧ ρ 21 ≤ 20 := zRnA hr 21
  have r22 : ((-2147483648) : Int) ≤ ρ 22 ∧ ρ 22 ≤ 2147483647 := zRnA hr 22
  have r23 : ((-2147483648) : Int) ≤ ρ 23 ∧ ρ 23 ≤ 2147483647 := zRnA hr 23
  have r24 : (0 : Int) ≤ ρ 24 ∧ ρ 24 ≤ 8 := zRnA hr 24
  have r25 : (0 : Int) ≤ ρ 25 ∧ ρ 25 ≤ 32 := zRnA hr 25
  have r26 : (0 : Int) ≤ ρ 26 ∧ ρ 26 ≤ 5120 := zRnA hr 26
  have r27 : (0 : Int) ≤ ρ 27 ∧ ρ 27 ≤ 8 := zRnA hr 27
  have r28 : ((-1) : Int) ≤ ρ 28 ∧ ρ 28 ≤ 7 := zRnA hr 28
  have r29 : ((-1) : Int) ≤ ρ 29 ∧ ρ 29 ≤ 19 := zRnA hr 29
  have r30 : (0 : Int) ≤ ρ 30 ∧ ρ 30 ≤ 4 := zRnA hr 30
  have r31 : ((-2147483648) : Int) ≤ ρ 31 ∧ ρ 31 ≤ 2147483647 := zRnA hr 31
  have r32 : ((-1) : Int) ≤ ρ 32 ∧ ρ 32 ≤ 3 := zRnA hr 32
  have r33 : (0 : Int) ≤ ρ 33 ∧ ρ 33 ≤ 4 := zRnA hr 33
  have r34 : (4 : Int) ≤ ρ 34 ∧ ρ 34 ≤ 2000 := zRnA hr 34
  have r35 : (6 : Int) ≤ ρ 35 ∧ ρ 35 ≤ 8 := zRnA hr 35
  have r36 : (0 : Int) ≤ ρ 36 ∧ ρ 36 ≤ 7 := zRnA hr 36
  have r37 : ((-2147483648) : Int) ≤ ρ 37 ∧ ρ 37 ≤ 2147483647 := zRnA hr 37
  have r38 : ((-2147483648) : Int) ≤ ρ 38 ∧ ρ 38 ≤ 2147483647 := zRnA hr 38
  have r39 : (1 : Int) ≤ ρ 39 ∧ ρ 39 ≤ 8 := zRnA hr 39
  have r40 : (0 : Int) ≤ ρ 40 ∧ ρ 40 ≤ 5120 := zRnA hr 40
  have r41 : (1 : Int) ≤ ρ 41 ∧ ρ 41 ≤ 2 := zRnA hr 41
  have r42 : (0 : Int) ≤ ρ 42 ∧ ρ 42 ≤ 1999 := zRnA hr 42
  have r43 : (0 : Int) ≤ ρ 43 ∧ ρ 43 ≤ 2000 := zRnA hr 43
  have f0 : (0 : Int) ≤ ρ 43 + -ρ 34 := zAllA hf 0
  have f1 : (0 : Int) ≤ ρ 43 + -ρ 4 := zAllA hf 1
  have f2 : (0 : Int) ≤ -ρ 42 + ρ 34 + (-1) := zAllA hf 2
  have f3 : (0 : Int) ≤ ρ 34 + -ρ 19 + (-1) := zAllA hf 3
  have f4 : (0 : Int) ≤ ρ 39 + -ρ 36 + (-1) := zAllA hf 4
  have f5 : (0 : Int) ≤ ρ 39 + -ρ 24 := zAllA hf 5
  have f6 : (0 : Int) ≤ ρ 40 + -ρ 26 := zAllA hf 6
  have f7 : (0 : Int) ≤ ρ 42 + -ρ 19 := zAllA hf 7
  have f8 : (0 : Int) ≤ -ρ 41 + ρ 4 := zAllA hf 8
  have f9 : (0 : Int) ≤ -ρ 42 + ρ 4 + (-1) := zAllA hf 9
  have f10 : (0 : Int) ≤ -ρ 19 + ρ 4 + (-1) := zAllA hf 10
  have f11 : (0 : Int) ≤ -ρ 32 + ρ 4 := zAllA hf 11
  have f12 : (0 : Int) ≤ -ρ 36 + ρ 24 := zAllA hf 12
  have f13 : (0 : Int) ≤ -ρ 18 + ρ 4 := zAllA hf 13
  have f14 : (0 : Int) ≤ ρ 26 + -ρ 16 := zAllA hf 14
  have f15 : (0 : Int) ≤ ρ 25 + -ρ 15 := zAllA hf 15
  have f16 : (0 : Int) ≤ ρ 24 + -ρ 14 := zAllA hf 16
  have f17 : (0 : Int) ≤ ρ 21 + -ρ 10 := zAllA hf 17
  have f18 : (0 : Int) ≤ ρ 19 + -ρ 3 := zAllA hf 18
  have f19 : (0 : Int) ≤ ρ 19 + -ρ 18 := zAllA hf 19
  have f20 : (0 : Int) ≤ -ρ 20 + ρ 18 := zAllA hf 20
  have m0 : γ 0 1 0 10 = ρ 0 := zAllA hm 0
  have m1 : γ 0 40 0 (ρ 0) = ρ 1 := zAllA hm 1
  have m2 : γ 0 9 (ρ 1) 2 = ρ 2 := zAllA hm 2
  have m3 : γ 0 2 0 6 = ρ 3 := zAllA hm 3
  have m4 : γ 0 2 0 3 = ρ 4 := zAllA hm 4
  have m5 : γ 0 2 0 7 = ρ 5 := zAllA hm 5
  have m6 : γ 0 10 (9 * ρ 1) 8 = ρ 6 := zAllA hm 6
  have m7 : γ 0 10 (9 * ρ 1) 12 = ρ 7 := zAllA hm 7
  have m8 : γ 0 10 (9 * ρ 1) 14 = ρ 8 := zAllA hm 8
  have m9 : γ 0 9 (ρ 1) 3 = ρ 9 := zAllA hm 9
  have m10 : γ 0 1 0 7 = ρ 10 := zAllA hm 10
  have m11 : γ 0 2 0 4 = ρ 11 := zAllA hm 11
  have m12 : γ 0 2 0 5 = ρ 12 := zAllA hm 12
  have m13 : γ 0 2 0 9 = ρ 13 := zAllA hm 13
  have m14 : γ 0 2 0 13 = ρ 14 := zAllA hm 14
  have m15 : γ 0 2 0 16 = ρ 15 := zAllA hm 15
  have m16 : γ 0 3 0 1 = ρ 16 := zAllA hm 16
  have m17 : γ 0 10 (9 * ρ 1) 15 = ρ 17 := zAllA hm 17
  have m18 : γ 1 9 (ρ 1) 2 = ρ 18 := zAllA hm 18
  have m19 : γ 1 2 0 6 = ρ 19 := zAllA hm 19
  have m20 : γ 1 10 (9 * ρ 1) 8 = ρ 6 := zAllA hm 20
  have m21 : γ 1 10 (9 * ρ 1) 12 = ρ 7 := zAllA hm 21
  have m22 : γ 1 9 (ρ 1) 3 = ρ 20 := zAllA hm 22
  have m23 : γ 1 1 0 7 = ρ 21 := zAllA hm 23
  have m24 : γ 1 2 0 4 = ρ 11 := zAllA hm 24
  have m25 : γ 1 2 0 5 = ρ 22 := zAllA hm 25
  have m26 : γ 1 2 0 9 = ρ 23 := zAllA hm 26
  have m27 : γ 1 2 0 13 = ρ 24 := zAllA hm 27
  have m28 : γ 1 2 0 16 = ρ 25 := zAllA hm 28
  have m29 : γ 1 3 0 1 = ρ 26 := zAllA hm 29
  have m30 : γ 1 10 (ρ 18 + 9 * ρ 1 + 1) 4 = ρ 27 := zAllA hm 30
  have m31 : γ 1 10 (ρ 18 + 9 * ρ 1 + 1) 11 = ρ 28 := zAllA hm 31
  have m32 : γ 1 10 (ρ 18 + 9 * ρ 1 + 1) 8 = ρ 29 := zAllA hm 32
  have m33 : γ 1 10 (ρ 18 + 9 * ρ 1 + 1) 5 = ρ 30 := zAllA hm 33
  have m34 : γ 1 10 (ρ 18 + 9 * ρ 1 + 1) 7 = ρ 31 := zAllA hm 34
  have m35 : γ 1 10 (ρ 18 + 9 * ρ 1 + 1) 9 = ρ 32 := zAllA hm 35
  have m36 : γ 1 10 (ρ 18 + 9 * ρ 1 + 1) 12 = ρ 33 := zAllA hm 36
  have m37 : γ 3 2 0 6 = ρ 34 := zAllA hm 37
  have m38 : γ 3 10 (ρ 18 + 9 * ρ 1 + 1) 4 = ρ 35 := zAllA hm 38
  have m39 : γ 3 10 (ρ 18 + 9 * ρ 1 + 1) 11 = ρ 36 := zAllA hm 39
  have m40 : γ 3 10 (ρ 18 + 9 * ρ 1 + 1) 8 = (-1) := zAllA hm 40
  have m41 : γ 3 10 (9 * ρ 1) 8 = ρ 6 := zAllA hm 41
  have m42 : γ 3 10 (9 * ρ 1) 12 = ρ 7 := zAllA hm 42
  have m43 : γ 3 1 0 7 = ρ 21 := zAllA hm 43
  have m44 : γ 3 2 0 4 = ρ 11 := zAllA hm 44
  have m45 : γ 3 2 0 5 = ρ 37 := zAllA hm 45
  have m46 : γ 3 2 0 9 = ρ 38 := zAllA hm 46
  have m47 : γ 3 2 0 13 = ρ 39 := zAllA hm 47
  have m48 : γ 3 2 0 16 = ρ 25 := zAllA hm 48
  have m49 : γ 3 3 0 1 = ρ 40 := zAllA hm 49
  have m50 : γ 3 10 (ρ 18 + 9 * ρ 1 + 1) 5 = ρ 41 := zAllA hm 50
  have m51 : γ 3 10 (ρ 18 + 9 * ρ 1 + 1) 7 = ρ 42 := zAllA hm 51
  have m52 : γ 3 10 (ρ 18 + 9 * ρ 1 + 1) 9 = (-1) := zAllA hm 52
  have m53 : γ 3 10 (ρ 18 + 9 * ρ 1 + 1) 12 = 0 := zAllA hm 53
  have m54 : γ 5 2 0 6 = ρ 43 := zAllA hm 54
  have m55 : γ 6 2 0 4 = ρ 43 := zAllA hm 55
  have c1 : ∀ (G : Nat) (k j : Int), ¬ rMdP m107_ G j → γ 1 G k j = γ 0 G k j := And.right (zChA hc 5)
  have c2 : ∀ (G : Nat) (k j : Int), ¬ rMdP m0_ G j → γ 2 G k j = γ 1 G k j := And.right (zChA hc 4)
  have c3 : ∀ (G : Nat) (k j : Int), ¬ rMdP m106_ G j → γ 3 G k j = γ 2 G k j := And.right (zChA hc 3)
  have c4 : γ 4 = rUp (γ 3) 9 (ρ 1) 2 (ρ 18 + 1) := And.right (zChA hc 2)
  have c5 : ∀ (G : Nat) (k j : Int), ¬ rMdP m77_ G j → γ 5 G k j = γ 4 G k j := And.right (zChA hc 1)
  have c6 : ∀ (G : Nat) (k j : Int), ¬ rMdP m72_ G j → γ 6 G k j = γ 5 G k j := And.right (zChA hc 0)
  have l0 : sn132 [ρ 1, ρ 18] (γ 1) 0 (ρ 18 + 9 * ρ 1 + 1) (γ 2) := hS132 _ _ _ _ _ (zAllA hl 0)
  have l1 : sn157 [ρ 0, ρ 1, ρ 18, ρ 19, ρ 4, ρ 27, ρ 28, ρ 29, ρ 5, ρ 6, ρ 7, ρ 21, ρ 11, ρ 22, ρ 23, ρ 24, ρ 25, ρ 26, ρ 30, ρ 31, ρ 32, ρ 33] (γ 2) 0 1 (γ 3) := hS157 _ _ _ _ _ (zAllA hl 1)
  have l2 : sn114 [ρ 34, ρ 4] (γ 4) 0 (-1) (γ 5) := hS114 _ _ _ _ _ (zAllA hl 2)
  have l3 : sn109 [ρ 43, ρ 11] (γ 5) 0 0 (γ 6) := hS109 _ _ _ _ _ (zAllA hl 3)
  show sn158 [ρ 0, ρ 1, ρ 2, ρ 3, ρ 4, ρ 5, ρ 6, ρ 7, ρ 8, ρ 9, ρ 10, ρ 11, ρ 12, ρ 13, ρ 14, ρ 15, ρ 16, ρ 17] (γ 0) 0 0 (γ 6)
  have hD : en158 (γ 0) (0, [], γ 1) = .inr (0, 0, γ 6) := by
    unfold en158
    refine zIP (show (0 : Nat) = 0 by decide) (zLV (γ 1) rfl (zLE m0 (zLE m1 (zLE m18 (zLE m22 (zIN (show ¬ (ρ 18 ≥ 8) by omega) (zLE (show fn132 [ρ 1, ρ 18] (γ 1) = (0, ρ 18 + 9 * ρ 1 + 1, γ 2) from l0.symm) ?_)))))))
    refine zLV (γ 2) rfl (zLE (show fn157 [] (γ 2) = (0, 1, γ 3) from l1.symm) (zLV (γ 3) rfl (zIP (show (1 : Int) ≤ 1 by omega) (zIP (show 3 ≤ γ 3 10 (ρ 18 + 9 * ρ 1 + 1) 4 by omega) (zIP (show 6 ≤ γ 3 10 (ρ 18 + 9 * ρ 1 + 1) 4 by omega) (zLE c4.symm (zLE (show fn114 [] (γ 4) = (0, (-1), γ 5) from l2.symm) ?_)))))))
    refine zLV (γ 5) rfl (zIN (show ¬ ((0 : Int) ≤ (-1)) by omega) (zLE m54 (zLE (show fn109 [ρ 43] (γ 5) = (0, 0, γ 6) from l3.symm) (zLV (γ 6) rfl ?_))))
    rfl
  exact zGoo_aend hJ hD
theorem vn158a0_10 {S : Nat → zSpc} (hS109 : zIm S 109 sn109) (hS114 : zIm S 114 sn114) (hS132 : zIm S 132 sn132) (hS152 : zIm S 152 sn152) (hS153 : zIm S 153 sn153) (hS157 : zIm S 157 sn157) {a : List Int} {g : rHp} : ∀ (ρ : Nat → Int) (γ : Nat → rHp), jn158 a g 0 (zAg (zNA a158_ 0) ρ) (γ 1) → zO 18 S a g q158a0_10 ρ γ → zGl (fun i vs g1 => jn158 a g i vs g1) (sn158 a g) q158a0_10 ρ γ := by
  intro ρ γ hJ h
  obtain ⟨ha, hg, hr, hf, hm, hc, hl⟩ := h
  have ha : a = [ρ 0, ρ 1, ρ 2, ρ 3, ρ 4, ρ 5, ρ 6, ρ 7, ρ 8, ρ 9, ρ 10, ρ 11, ρ 12, ρ 13, ρ 14, ρ 15, ρ 16, ρ 17] := ha
  subst ha
  subst hg
  have hJ : jn158 [ρ 0, ρ 1, ρ 2, ρ 3, ρ 4, ρ 5, ρ 6, ρ 7, ρ 8, ρ 9, ρ 10, ρ 11, ρ 12, ρ 13, ρ 14, ρ 15, ρ 16, ρ 17] (γ 0) 0 [ρ 0, ρ 1, ρ 2, ρ 3, ρ 4, ρ 5, ρ 6, ρ 7, ρ 8, ρ 9, ρ 10, ρ 11, ρ 12, ρ 13, ρ 14, ρ 15, ρ 16, ρ 17, ρ 18, ρ 19, ρ 20, ρ 21, ρ 22, ρ 23, ρ 24, ρ 25, ρ 26] (γ 1) := hJ
  have r0 : (0 : Int) ≤ ρ 0 ∧ ρ 0 ≤ 60 := zRnA hr 0
  have r1 : (0 : Int) ≤ ρ 1 ∧ ρ 1 ≤ 60 := zRnA hr 1
  have r2 : (0 : Int) ≤ ρ 2 ∧ ρ 2 ≤ 8 := zRnA hr 2
  have r3 : (0 : Int) ≤ ρ 3 ∧ ρ 3 ≤ 2000 := zRnA hr 3
  have r4 : (0 : Int) ≤ ρ 4 ∧ ρ 4 ≤ 2000 := zRnA hr 4
  have r5 : (0 : Int) ≤ ρ 5 ∧ ρ 5 ≤ 0 := zRnA hr 5
  have r6 : ((-1) : Int) ≤ ρ 6 ∧ ρ 6 ≤ 19 := zRnA hr 6
  have r7 : (0 : Int) ≤ ρ 7 ∧ ρ 7 ≤ 4 := zRnA hr 7
  have r8 : ((-1) : Int) ≤ ρ 8 ∧ ρ 8 ≤ 7 := zRnA hr 8
  have r9 : (0 : Int) ≤ ρ 9 ∧ ρ 9 ≤ 8 := zRnA hr 9
  have r10 : (0 : Int) ≤ ρ 10 ∧ ρ 10 ≤ 20 := zRnA hr 10
  have r11 : ((-2147483648) : Int) ≤ ρ 11 ∧ ρ 11 ≤ 2147483647 := zRnA hr 11
  have r12 : ((-2147483648) : Int) ≤ ρ 12 ∧ ρ 12 ≤ 2147483647 := zRnA hr 12
  have r13 : ((-2147483648) : Int) ≤ ρ 13 ∧ ρ 13 ≤ 2147483647 := zRnA hr 13
  have r14 : (0 : Int) ≤ ρ 14 ∧ ρ 14 ≤ 8 := zRnA hr 14
  have r15 : (0 : Int) ≤ ρ 15 ∧ ρ 15 ≤ 32 := zRnA hr 15
  have r16 : (0 : Int) ≤ ρ 16 ∧ ρ 16 ≤ 5120 := zRnA hr 16
  have r17 : ((-2147483648) : Int) ≤ ρ 17 ∧ ρ 17 ≤ 2147483647 := zRnA hr 17
  have r18 : (0 : Int) ≤ ρ 18 ∧ ρ 18 ≤ 7 := zRnA hr 18
  have r19 : (0 : Int) ≤ ρ 19 ∧ ρ 19 ≤ 2000 := zRnA hr 19
  have r20 : (0 : Int) ≤ ρ 20 ∧ ρ 20 ≤ 8 := zRnA hr 20
  have r21 : (0 : Int) ≤ ρ 21 ∧ ρ 21 ≤ 20 := zRnA hr 21
  have r22 : ((-2147483648) : Int) ≤ ρ 22 ∧ ρ 22 ≤ 2147483647 := zRnA hr 22
  have r23 : ((-2147483648) : Int) ≤ ρ 23 ∧ ρ 23 ≤ 2147483647 := zRnA hr 23
  have r24 : (0 : Int) ≤ ρ 24 ∧ ρ 24 ≤ 8 := zRnA hr 24
  have r25 : (0 : Int) ≤ ρ 25 ∧ ρ 25 ≤ 32 := zRnA hr 25
  have r26 : (0 : Int) ≤ ρ 26 ∧ ρ 26 ≤ 5120 := zRnA hr 26
  have r27 : (0 : Int) ≤ ρ 27 ∧ ρ 27 ≤ 8 := zRnA hr 27
  have r28 : ((-1) : Int) ≤ ρ 28 ∧ ρ 28 ≤ 7 := zRnA hr 28
  have r29 : ((-1) : Int) ≤ ρ 29 ∧ ρ 29 ≤ 19 := zRnA hr 29
  have r30 : (0 : Int) ≤ ρ 30 ∧ ρ 30 ≤ 4 := zRnA hr 30
  have r31 : ((-2147483648) : Int) ≤ ρ 31 ∧ ρ 31 ≤ 2147483647 := zRnA hr 31
  have r32 : ((-1) : Int) ≤ ρ 32 ∧ ρ 32 ≤ 3 := zRnA hr 32
  have r33 : (0 : Int) ≤ ρ 33 ∧ ρ 33 ≤ 4 := zRnA hr 33
  have r34 : (4 : Int) ≤ ρ 34 ∧ ρ 34 ≤ 2000 := zRnA hr 34
  have r35 : (6 : Int) ≤ ρ 35 ∧ ρ 35 ≤ 8 := zRnA hr 35
  have r36 : (0 : Int) ≤ ρ 36 ∧ ρ 36 ≤ 7 := zRnA hr 36
  have r37 : ((-2147483648) : Int) ≤ ρ 37 ∧ ρ 37 ≤ 2147483647 := zRnA hr 37
  have r38 : ((-2147483648) : Int) ≤ ρ 38 ∧ ρ 38 ≤ 2147483647 := zRnA hr 38
  have r39 : (1 : Int) ≤ ρ 39 ∧ ρ 39 ≤ 8 := zRnA hr 39
  have r40 : (0 : Int) ≤ ρ 40 ∧ ρ 40 ≤ 5120 := zRnA hr 40
  have r41 : (1 : Int) ≤ ρ 41 ∧ ρ 41 ≤ 2 := zRnA hr 41
  have r42 : (0 : Int) ≤ ρ 42 ∧ ρ 42 ≤ 1999 := zRnA hr 42
  have r43 : (44 : Int) ≤ ρ 43 ∧ ρ 43 ≤ 44 := zRnA hr 43
  have r44 : (0 : Int) ≤ ρ 44 ∧ ρ 44 ≤ 2000 := zRnA hr 44
  have f0 : (0 : Int) ≤ ρ 44 + -ρ 34 := zAllA hf 0
  have f1 : (0 : Int) ≤ -ρ 44 + ρ 4 + (-1) := zAllA hf 1
  have f2 : (0 : Int) ≤ -ρ 34 + ρ 4 + (-1) := zAllA hf 2
  have f3 : (0 : Int) ≤ -ρ 42 + ρ 34 + (-1) := zAllA hf 3
  have f4 : (0 : Int) ≤ ρ 34 + -ρ 19 + (-1) := zAllA hf 4
  have f5 : (0 : Int) ≤ ρ 39 + -ρ 36 + (-1) := zAllA hf 5
  have f6 : (0 : Int) ≤ ρ 39 + -ρ 24 := zAllA hf 6
  have f7 : (0 : Int) ≤ ρ 40 + -ρ 26 := zAllA hf 7
  have f8 : (0 : Int) ≤ ρ 42 + -ρ 19 := zAllA hf 8
  have f9 : (0 : Int) ≤ -ρ 41 + ρ 4 := zAllA hf 9
  have f10 : (0 : Int) ≤ -ρ 42 + ρ 4 + (-1) := zAllA hf 10
  have f11 : (0 : Int) ≤ -ρ 19 + ρ 4 + (-1) := zAllA hf 11
  have f12 : (0 : Int) ≤ -ρ 32 + ρ 4 := zAllA hf 12
  have f13 : (0 : Int) ≤ -ρ 36 + ρ 24 := zAllA hf 13
  have f14 : (0 : Int) ≤ -ρ 18 + ρ 4 := zAllA hf 14
  have f15 : (0 : Int) ≤ ρ 26 + -ρ 16 := zAllA hf 15
  have f16 : (0 : Int) ≤ ρ 25 + -ρ 15 := zAllA hf 16
  have f17 : (0 : Int) ≤ ρ 24 + -ρ 14 := zAllA hf 17
  have f18 : (0 : Int) ≤ ρ 21 + -ρ 10 := zAllA hf 18
  have f19 : (0 : Int) ≤ ρ 19 + -ρ 3 := zAllA hf 19
  have f20 : (0 : Int) ≤ ρ 19 + -ρ 18 := zAllA hf 20
  have f21 : (0 : Int) ≤ -ρ 20 + ρ 18 := zAllA hf 21
  have m0 : γ 0 1 0 10 = ρ 0 := zAllA hm 0
  have m1 : γ 0 40 0 (ρ 0) = ρ 1 := zAllA hm 1
  have m2 : γ 0 9 (ρ 1) 2 = ρ 2 := zAllA hm 2
  have m3 : γ 0 2 0 6 = ρ 3 := zAllA hm 3
  have m4 : γ 0 2 0 3 = ρ 4 := zAllA hm 4
  have m5 : γ 0 2 0 7 = ρ 5 := zAllA hm 5
  have m6 : γ 0 10 (9 * ρ 1) 8 = ρ 6 := zAllA hm 6
  have m7 : γ 0 10 (9 * ρ 1) 12 = ρ 7 := zAllA hm 7
  have m8 : γ 0 10 (9 * ρ 1) 14 = ρ 8 := zAllA hm 8
  have m9 : γ 0 9 (ρ 1) 3 = ρ 9 := zAllA hm 9
  have m10 : γ 0 1 0 7 = ρ 10 := zAllA hm 10
  have m11 : γ 0 2 0 4 = ρ 11 := zAllA hm 11
  have m12 : γ 0 2 0 5 = ρ 12 := zAllA hm 12
  have m13 : γ 0 2 0 9 = ρ 13 := zAllA hm 13
  have m14 : γ 0 2 0 13 = ρ 14 := zAllA hm 14
  have m15 : γ 0 2 0 16 = ρ 15 := zAllA hm 15
  have m16 : γ 0 3 0 1 = ρ 16 := zAllA hm 16
  have m17 : γ 0 10 (9 * ρ 1) 15 = ρ 17 := zAllA hm 17
  have m18 : γ 1 9 (ρ 1) 2 = ρ 18 := zAllA hm 18
  have m19 : γ 1 2 0 6 = ρ 19 := zAllA hm 19
  have m20 : γ 1 10 (9 * ρ 1) 8 = ρ 6 := zAllA hm 20
  have m21 : γ 1 10 (9 * ρ 1) 12 = ρ 7 := zAllA hm 21
  have m22 : γ 1 9 (ρ 1) 3 = ρ 20 := zAllA hm 22
  have m23 : γ 1 1 0 7 = ρ 21 := zAllA hm 23
  have m24 : γ 1 2 0 4 = ρ 11 := zAllA hm 24
  have m25 : γ 1 2 0 5 = ρ 22 := zAllA hm 25
  have m26 : γ 1 2 0 9 = ρ 23 := zAllA hm 26
  have m27 : γ 1 2 0 13 = ρ 24 := zAllA hm 27
  have m28 : γ 1 2 0 16 = ρ 25 := zAllA hm 28
  have m29 : γ 1 3 0 1 = ρ 26 := zAllA hm 29
  have m30 : γ 1 10 (ρ 18 + 9 * ρ 1 + 1) 4 = ρ 27 := zAllA hm 30
  have m31 : γ 1 10 (ρ 18 + 9 * ρ 1 + 1) 11 = ρ 28 := zAllA hm 31
  have m32 : γ 1 10 (ρ 18 + 9 * ρ 1 + 1) 8 = ρ 29 := zAllA hm 32
  have m33 : γ 1 10 (ρ 18 + 9 * ρ 1 + 1) 5 = ρ 30 := zAllA hm 33
  have m34 : γ 1 10 (ρ 18 + 9 * ρ 1 + 1) 7 = ρ 31 := zAllA hm 34
  have m35 : γ 1 10 (ρ 18 + 9 * ρ 1 + 1) 9 = ρ 32 := zAllA hm 35
  have m36 : γ 1 10 (ρ 18 + 9 * ρ 1 + 1) 12 = ρ 33 := zAllA hm 36
  have m37 : γ 3 2 0 6 = ρ 34 := zAllA hm 37
  have m38 : γ 3 10 (ρ 18 + 9 * ρ 1 + 1) 4 = ρ 35 := zAllA hm 38
  have m39 : γ 3 10 (ρ 18 + 9 * ρ 1 + 1) 11 = ρ 36 := zAllA hm 39
  have m40 : γ 3 10 (ρ 18 + 9 * ρ 1 + 1) 8 = (-1) := zAllA hm 40
  have m41 : γ 3 10 (9 * ρ 1) 8 = ρ 6 := zAllA hm 41
  have m42 : γ 3 10 (9 * ρ 1) 12 = ρ 7 := zAllA hm 42
  have m43 : γ 3 1 0 7 = ρ 21 := zAllA hm 43
  have m44 : γ 3 2 0 4 = ρ 11 := zAllA hm 44
  have m45 : γ 3 2 0 5 = ρ 37 := zAllA hm 45
  have m46 : γ 3 2 0 9 = ρ 38 := zAllA hm 46
  have m47 : γ 3 2 0 13 = ρ 39 := zAllA hm 47
  have m48 : γ 3 2 0 16 = ρ 25 := zAllA hm 48
  have m49 : γ 3 3 0 1 = ρ 40 := zAllA hm 49
  have m50 : γ 3 10 (ρ 18 + 9 * ρ 1 + 1) 5 = ρ 41 := zAllA hm 50
  have m51 : γ 3 10 (ρ 18 + 9 * ρ 1 + 1) 7 = ρ 42 := zAllA hm 51
  have m52 : γ 3 10 (ρ 18 + 9 * ρ 1 + 1) 9 = (-1) := zAllA hm 52
  have m53 : γ 3 10 (ρ 18 + 9 * ρ 1 + 1) 12 = 0 := zAllA hm 53
  have m54 : γ 5 2 0 6 = ρ 44 := zAllA hm 54
  have c1 : ∀ (G : Nat) (k j : Int), ¬ rMdP m107_ G j → γ 1 G k j = γ 0 G k j := And.right (zChA hc 5)
  have c2 : ∀ (G : Nat) (k j : Int), ¬ rMdP m0_ G j → γ 2 G k j = γ 1 G k j := And.right (zChA hc 4)
  have c3 : ∀ (G : Nat) (k j : Int), ¬ rMdP m106_ G j → γ 3 G k j = γ 2 G k j := And.right (zChA hc 3)
  have c4 : γ 4 = rUp (γ 3) 9 (ρ 1) 2 (ρ 18 + 1) := And.right (zChA hc 2)
  have c5 : ∀ (G : Nat) (k j : Int), ¬ rMdP m77_ G j → γ 5 G k j = γ 4 G k j := And.right (zChA hc 1)
  have c6 : γ 6 = rUp (γ 5) 2 0 6 (ρ 44 + 1) := And.right (zChA hc 0)
  have l0 : sn132 [ρ 1, ρ 18] (γ 1) 0 (ρ 18 + 9 * ρ 1 + 1) (γ 2) := hS132 _ _ _ _ _ (zAllA hl 0)
  have l1 : sn157 [ρ 0, ρ 1, ρ 18, ρ 19, ρ 4, ρ 27, ρ 28, ρ 29, ρ 5, ρ 6, ρ 7, ρ 21, ρ 11, ρ 22, ρ 23, ρ 24, ρ 25, ρ 26, ρ 30, ρ 31, ρ 32, ρ 33] (γ 2) 0 1 (γ 3) := hS157 _ _ _ _ _ (zAllA hl 1)
  have l2 : sn114 [ρ 34, ρ 4] (γ 4) 0 (ρ 43) (γ 5) := hS114 _ _ _ _ _ (zAllA hl 2)
  have l3 : ρ 43 ≠ 46 := zAllA hl 3
  show jn158 [ρ 0, ρ 1, ρ 2, ρ 3, ρ 4, ρ 5, ρ 6, ρ 7, ρ 8, ρ 9, ρ 10, ρ 11, ρ 12, ρ 13, ρ 14, ρ 15, ρ 16, ρ 17] (γ 0) 0 [ρ 0, ρ 1, ρ 2, ρ 3, ρ 4, ρ 5, ρ 6, ρ 7, ρ 8, ρ 9, ρ 10, ρ 11, ρ 12, ρ 13, ρ 14, ρ 15, ρ 16, ρ 17, ρ 18 + 1, ρ 44 + 1, ρ 20, ρ 21, ρ 37, ρ 38, ρ 39, ρ 25, ρ 40] (γ 6)
  have hD : en158 (γ 0) (0, [], γ 1) = .inl (0, [], γ 6) := by
    unfold en158
    refine zIP (show (0 : Nat) = 0 by decide) (zLV (γ 1) rfl (zLE m0 (zLE m1 (zLE m18 (zLE m22 (zIN (show ¬ (ρ 18 ≥ 8) by omega) (zLE (show fn132 [ρ 1, ρ 18] (γ 1) = (0, ρ 18 + 9 * ρ 1 + 1, γ 2) from l0.symm) ?_)))))))
    refine zLV (γ 2) rfl (zLE (show fn157 [] (γ 2) = (0, 1, γ 3) from l1.symm) (zLV (γ 3) rfl (zIP (show (1 : Int) ≤ 1 by omega) (zIP (show 3 ≤ γ 3 10 (ρ 18 + 9 * ρ 1 + 1) 4 by omega) (zIP (show 6 ≤ γ 3 10 (ρ 18 + 9 * ρ 1 + 1) 4 by omega) (zLE c4.symm (zLE (show fn114 [] (γ 4) = (0, ρ 43, γ 5) from l2.symm) ?_)))))))
    refine zLV (γ 5) rfl (zIP (show (0 : Int) ≤ ρ 43 by omega) (zLV (ρ 43) rfl (zLE m54 (zIP (show ρ 43 ≠ 46 by omega) (zIP (show ρ 43 = 44 by omega) (zLE c6.symm ?_))))))
    rfl
  exact zGoo_ato hJ hD
theorem vn158a0_11 {S : Nat → zSpc} (hS109 : zIm S 109 sn109) (hS114 : zIm S 114 sn114) (hS132 : zIm S 132 sn132) (hS152 : zIm S 152 sn152) (hS153 : zIm S 153 sn153) (hS157 : zIm S 157 sn157) {a : List Int} {g : rHp} : ∀ (ρ : Nat → Int) (γ : Nat → rHp), jn158 a g 0 (zAg (zNA a158_ 0) ρ) (γ 1) → zO 18 S a g q158a0_11 ρ γ → zGl (fun i vs g1 => jn158 a g i vs g1) (sn158 a g) q158a0_11 ρ γ := by
  intro ρ γ hJ h
  obtain ⟨ha, hg, hr, hf, hm, hc, hl⟩ := h
  have ha : a = [ρ 0, ρ 1, ρ 2, ρ 3, ρ 4, ρ 5, ρ 6, ρ 7, ρ 8, ρ 9, ρ 10, ρ 11, ρ 12, ρ 13, ρ 14, ρ 15, ρ 16, ρ 17] := ha
  subst ha
  subst hg
  have hJ : jn158 [ρ 0, ρ 1, ρ 2, ρ 3, ρ 4, ρ 5, ρ 6, ρ 7, ρ 8, ρ 9, ρ 10, ρ 11, ρ 12, ρ 13, ρ 14, ρ 15, ρ 16, ρ 17] (γ 0) 0 [ρ 0, ρ 1, ρ 2, ρ 3, ρ 4, ρ 5, ρ 6, ρ 7, ρ 8, ρ 9, ρ 10, ρ 11, ρ 12, ρ 13, ρ 14, ρ 15, ρ 16, ρ 17, ρ 18, ρ 19, ρ 20, ρ 21, ρ 22, ρ 23, ρ 24, ρ 25, ρ 26] (γ 1) := hJ
  have r0 : (0 : Int) ≤ ρ 0 ∧ ρ 0 ≤ 60 := zRnA hr 0
  have r1 : (0 : Int) ≤ ρ 1 ∧ ρ 1 ≤ 60 := zRnA hr 1
  have r2 : (0 : Int) ≤ ρ 2 ∧ ρ 2 ≤ 8 := zRnA hr 2
  have r3 : (0 : Int) ≤ ρ 3 ∧ ρ 3 ≤ 2000 := zRnA hr 3
  have r4 : (0 : Int) ≤ ρ 4 ∧ ρ 4 ≤ 2000 := zRnA hr 4
  have r5 : (0 : Int) ≤ ρ 5 ∧ ρ 5 ≤ 0 := zRnA hr 5
  have r6 : ((-1) : Int) ≤ ρ 6 ∧ ρ 6 ≤ 19 := zRnA hr 6
  have r7 : (0 : Int) ≤ ρ 7 ∧ ρ 7 ≤ 4 := zRnA hr 7
  have r8 : ((-1) : Int) ≤ ρ 8 ∧ ρ 8 ≤ 7 := zRnA hr 8
  have r9 : (0 : Int) ≤ ρ 9 ∧ ρ 9 ≤ 8 := zRnA hr 9
  have r10 : (0 : Int) ≤ ρ 10 ∧ ρ 10 ≤ 20 := zRnA hr 10
  have r11 : ((-2147483648) : Int) ≤ ρ 11 ∧ ρ 11 ≤ 2147483647 := zRnA hr 11
  have r12 : ((-2147483648) : Int) ≤ ρ 12 ∧ ρ 12 ≤ 2147483647 := zRnA hr 12
  have r13 : ((-2147483648) : Int) ≤ ρ 13 ∧ ρ 13 ≤ 2147483647 := zRnA hr 13
  have r14 : (0 : Int) ≤ ρ 14 ∧ ρ 14 ≤ 8 := zRnA hr 14
  have r15 : (0 : Int) ≤ ρ 15 ∧ ρ 15 ≤ 32 := zRnA hr 15
  have r16 : (0 : Int) ≤ ρ 16 ∧ ρ 16 ≤ 5120 := zRnA hr 16
  have r17 : ((-2147483648) : Int) ≤ ρ 17 ∧ ρ 17 ≤ 2147483647 := zRnA hr 17
  have r18 : (0 : Int) ≤ ρ 18 ∧ ρ 18 ≤ 7 := zRnA hr 18
  have r19 : (0 : Int) ≤ ρ 19 ∧ ρ 19 ≤ 2000 := zRnA hr 19
  have r20 : (0 : Int) ≤ ρ 20 ∧ ρ 20 ≤ 8 := zRnA hr 20
  have r21 : (0 : Int) ≤ ρ 21 ∧ ρ 21 ≤ 20 := zRnA hr 21
  have r22 : ((-2147483648) : Int) ≤ ρ 22 ∧ ρ 22 ≤ 2147483647 := zRnA hr 22
  have r23 : ((-2147483648) : Int) ≤ ρ 23 ∧ ρ 23 ≤ 2147483647 := zRnA hr 23
  have r24 : (0 : Int) ≤ ρ 24 ∧ ρ 24 ≤ 8 := zRnA hr 24
  have r25 : (0 : Int) ≤ ρ 25 ∧ ρ 25 ≤ 32 := zRnA hr 25
  have r26 : (0 : Int) ≤ ρ 26 ∧ ρ 26 ≤ 5120 := zRnA hr 26
  have r27 : (0 : Int) ≤ ρ 27 ∧ ρ 27 ≤ 8 := zRnA hr 27
  have r28 : ((-1) : Int) ≤ ρ 28 ∧ ρ 28 ≤ 7 := zRnA hr 28
  have r29 : ((-1) : Int) ≤ ρ 29 ∧ ρ 29 ≤ 19 := zRnA hr 29
  have r30 : (0 : Int) ≤ ρ 30 ∧ ρ 30 ≤ 4 := zRnA hr 30
  have r31 : ((-2147483648) : Int) ≤ ρ 31 ∧ ρ 31 ≤ 2147483647 := zRnA hr 31
  have r32 : ((-1) : Int) ≤ ρ 32 ∧ ρ 32 ≤ 3 := zRnA hr 32
  have r33 : (0 : Int) ≤ ρ 33 ∧ ρ 33 ≤ 4 := zRnA hr 33
  have r34 : (4 : Int) ≤ ρ 34 ∧ ρ 34 ≤ 2000 := zRnA hr 34
  have r35 : (6 : Int) ≤ ρ 35 ∧ ρ 35 ≤ 8 := zRnA hr 35
  have r36 : (0 : Int) ≤ ρ 36 ∧ ρ 36 ≤ 7 := zRnA hr 36
  have r37 : ((-2147483648) : Int) ≤ ρ 37 ∧ ρ 37 ≤ 2147483647 := zRnA hr 37
  have r38 : ((-2147483648) : Int) ≤ ρ 38 ∧ ρ 38 ≤ 2147483647 := zRnA hr 38
  have r39 : (1 : Int) ≤ ρ 39 ∧ ρ 39 ≤ 8 := zRnA hr 39
  have r40 : (0 : Int) ≤ ρ 40 ∧ ρ 40 ≤ 5120 := zRnA hr 40
  have r41 : (1 : Int) ≤ ρ 41 ∧ ρ 41 ≤ 2 := zRnA hr 41
  have r42 : (0 : Int) ≤ ρ 42 ∧ ρ 42 ≤ 1999 := zRnA hr 42
  have r43 : (0 : Int) ≤ ρ 43 ∧ ρ 43 ≤ 255 := zRnA hr 43
  have r44 : (0 : Int) ≤ ρ 44 ∧ ρ 44 ≤ 2000 := zRnA hr 44
  have f0 : (0 : Int) ≤ ρ 44 + -ρ 34 := zAllA hf 0
  have f1 : (0 : Int) ≤ -ρ 44 + ρ 4 + (-1) := zAllA hf 1
  have f2 : (0 : Int) ≤ -ρ 34 + ρ 4 + (-1) := zAllA hf 2
  have f3 : (0 : Int) ≤ -ρ 42 + ρ 34 + (-1) := zAllA hf 3
  have f4 : (0 : Int) ≤ ρ 34 + -ρ 19 + (-1) := zAllA hf 4
  have f5 : (0 : Int) ≤ ρ 39 + -ρ 36 + (-1) := zAllA hf 5
  have f6 : (0 : Int) ≤ ρ 39 + -ρ 24 := zAllA hf 6
  have f7 : (0 : Int) ≤ ρ 40 + -ρ 26 := zAllA hf 7
  have f8 : (0 : Int) ≤ ρ 42 + -ρ 19 := zAllA hf 8
  have f9 : (0 : Int) ≤ -ρ 41 + ρ 4 := zAllA hf 9
  have f10 : (0 : Int) ≤ -ρ 42 + ρ 4 + (-1) := zAllA hf 10
  have f11 : (0 : Int) ≤ -ρ 19 + ρ 4 + (-1) := zAllA hf 11
  have f12 : (0 : Int) ≤ -ρ 32 + ρ 4 := zAllA hf 12
  have f13 : (0 : Int) ≤ -ρ 36 + ρ 24 := zAllA hf 13
  have f14 : (0 : Int) ≤ -ρ 18 + ρ 4 := zAllA hf 14
  have f15 : (0 : Int) ≤ ρ 26 + -ρ 16 := zAllA hf 15
  have f16 : (0 : Int) ≤ ρ 25 + -ρ 15 := zAllA hf 16
  have f17 : (0 : Int) ≤ ρ 24 + -ρ 14 := zAllA hf 17
  have f18 : (0 : Int) ≤ ρ 21 + -ρ 10 := zAllA hf 18
  have f19 : (0 : Int) ≤ ρ 19 + -ρ 3 := zAllA hf 19
  have f20 : (0 : Int) ≤ ρ 19 + -ρ 18 := zAllA hf 20
  have f21 : (0 : Int) ≤ -ρ 20 + ρ 18 := zAllA hf 21
  have m0 : γ 0 1 0 10 = ρ 0 := zAllA hm 0
  have m1 : γ 0 40 0 (ρ 0) = ρ 1 := zAllA hm 1
  have m2 : γ 0 9 (ρ 1) 2 = ρ 2 := zAllA hm 2
  have m3 : γ 0 2 0 6 = ρ 3 := zAllA hm 3
  have m4 : γ 0 2 0 3 = ρ 4 := zAllA hm 4
  have m5 : γ 0 2 0 7 = ρ 5 := zAllA hm 5
  have m6 : γ 0 10 (9 * ρ 1) 8 = ρ 6 := zAllA hm 6
  have m7 : γ 0 10 (9 * ρ 1) 12 = ρ 7 := zAllA hm 7
  have m8 : γ 0 10 (9 * ρ 1) 14 = ρ 8 := zAllA hm 8
  have m9 : γ 0 9 (ρ 1) 3 = ρ 9 := zAllA hm 9
  have m10 : γ 0 1 0 7 = ρ 10 := zAllA hm 10
  have m11 : γ 0 2 0 4 = ρ 11 := zAllA hm 11
  have m12 : γ 0 2 0 5 = ρ 12 := zAllA hm 12
  have m13 : γ 0 2 0 9 = ρ 13 := zAllA hm 13
  have m14 : γ 0 2 0 13 = ρ 14 := zAllA hm 14
  have m15 : γ 0 2 0 16 = ρ 15 := zAllA hm 15
  have m16 : γ 0 3 0 1 = ρ 16 := zAllA hm 16
  have m17 : γ 0 10 (9 * ρ 1) 15 = ρ 17 := zAllA hm 17
  have m18 : γ 1 9 (ρ 1) 2 = ρ 18 := zAllA hm 18
  have m19 : γ 1 2 0 6 = ρ 19 := zAllA hm 19
  have m20 : γ 1 10 (9 * ρ 1) 8 = ρ 6 := zAllA hm 20
  have m21 : γ 1 10 (9 * ρ 1) 12 = ρ 7 := zAllA hm 21
  have m22 : γ 1 9 (ρ 1) 3 = ρ 20 := zAllA hm 22
  have m23 : γ 1 1 0 7 = ρ 21 := zAllA hm 23
  have m24 : γ 1 2 0 4 = ρ 11 := zAllA hm 24
  have m25 : γ 1 2 0 5 = ρ 22 := zAllA hm 25
  have m26 : γ 1 2 0 9 = ρ 23 := zAllA hm 26
  have m27 : γ 1 2 0 13 = ρ 24 := zAllA hm 27
  have m28 : γ 1 2 0 16 = ρ 25 := zAllA hm 28
  have m29 : γ 1 3 0 1 = ρ 26 := zAllA hm 29
  have m30 : γ 1 10 (ρ 18 + 9 * ρ 1 + 1) 4 = ρ 27 := zAllA hm 30
  have m31 : γ 1 10 (ρ 18 + 9 * ρ 1 + 1) 11 = ρ 28 := zAllA hm 31
  have m32 : γ 1 10 (ρ 18 + 9 * ρ 1 + 1) 8 = ρ 29 := zAllA hm 32
  have m33 : γ 1 10 (ρ 18 + 9 * ρ 1 + 1) 5 = ρ 30 := zAllA hm 33
  have m34 : γ 1 10 (ρ 18 + 9 * ρ 1 + 1) 7 = ρ 31 := zAllA hm 34
  have m35 : γ 1 10 (ρ 18 + 9 * ρ 1 + 1) 9 = ρ 32 := zAllA hm 35
  have m36 : γ 1 10 (ρ 18 + 9 * ρ 1 + 1) 12 = ρ 33 := zAllA hm 36
  have m37 : γ 3 2 0 6 = ρ 34 := zAllA hm 37
  have m38 : γ 3 10 (ρ 18 + 9 * ρ 1 + 1) 4 = ρ 35 := zAllA hm 38
  have m39 : γ 3 10 (ρ 18 + 9 * ρ 1 + 1) 11 = ρ 36 := zAllA hm 39
  have m40 : γ 3 10 (ρ 18 + 9 * ρ 1 + 1) 8 = (-1) := zAllA hm 40
  have m41 : γ 3 10 (9 * ρ 1) 8 = ρ 6 := zAllA hm 41
  have m42 : γ 3 10 (9 * ρ 1) 12 = ρ 7 := zAllA hm 42
  have m43 : γ 3 1 0 7 = ρ 21 := zAllA hm 43
  have m44 : γ 3 2 0 4 = ρ 11 := zAllA hm 44
  have m45 : γ 3 2 0 5 = ρ 37 := zAllA hm 45
  have m46 : γ 3 2 0 9 = ρ 38 := zAllA hm 46
  have m47 : γ 3 2 0 13 = ρ 39 := zAllA hm 47
  have m48 : γ 3 2 0 16 = ρ 25 := zAllA hm 48
  have m49 : γ 3 3 0 1 = ρ 40 := zAllA hm 49
  have m50 : γ 3 10 (ρ 18 + 9 * ρ 1 + 1) 5 = ρ 41 := zAllA hm 50
  have m51 : γ 3 10 (ρ 18 + 9 * ρ 1 + 1) 7 = ρ 42 := zAllA hm 51
  have m52 : γ 3 10 (ρ 18 + 9 * ρ 1 + 1) 9 = (-1) := zAllA hm 52
  have m53 : γ 3 10 (ρ 18 + 9 * ρ 1 + 1) 12 = 0 := zAllA hm 53
  have m54 : γ 5 2 0 6 = ρ 44 := zAllA hm 54
  have m55 : γ 6 2 0 4 = ρ 44 := zAllA hm 55
  have c1 : ∀ (G : Nat) (k j : Int), ¬ rMdP m107_ G j → γ 1 G k j = γ 0 G k j := And.right (zChA hc 5)
  have c2 : ∀ (G : Nat) (k j : Int), ¬ rMdP m0_ G j → γ 2 G k j = γ 1 G k j := And.right (zChA hc 4)
  have c3 : ∀ (G : Nat) (k j : Int), ¬ rMdP m106_ G j → γ 3 G k j = γ 2 G k j := And.right (zChA hc 3)
  have c4 : γ 4 = rUp (γ 3) 9 (ρ 1) 2 (ρ 18 + 1) := And.right (zChA hc 2)
  have c5 : ∀ (G : Nat) (k j : Int), ¬ rMdP m77_ G j → γ 5 G k j = γ 4 G k j := And.right (zChA hc 1)
  have c6 : ∀ (G : Nat) (k j : Int), ¬ rMdP m72_ G j → γ 6 G k j = γ 5 G k j := And.right (zChA hc 0)
  have l0 : sn132 [ρ 1, ρ 18] (γ 1) 0 (ρ 18 + 9 * ρ 1 + 1) (γ 2) := hS132 _ _ _ _ _ (zAllA hl 0)
  have l1 : sn157 [ρ 0, ρ 1, ρ 18, ρ 19, ρ 4, ρ 27, ρ 28, ρ 29, ρ 5, ρ 6, ρ 7, ρ 21, ρ 11, ρ 22, ρ 23, ρ 24, ρ 25, ρ 26, ρ 30, ρ 31, ρ 32, ρ 33] (γ 2) 0 1 (γ 3) := hS157 _ _ _ _ _ (zAllA hl 1)
  have l2 : sn114 [ρ 34, ρ 4] (γ 4) 0 (ρ 43) (γ 5) := hS114 _ _ _ _ _ (zAllA hl 2)
  have l3 : ρ 43 ≠ 46 := zAllA hl 3
  have l4 : ρ 43 ≠ 44 := zAllA hl 4
  have l5 : sn109 [ρ 44, ρ 11] (γ 5) 0 0 (γ 6) := hS109 _ _ _ _ _ (zAllA hl 5)
  show sn158 [ρ 0, ρ 1, ρ 2, ρ 3, ρ 4, ρ 5, ρ 6, ρ 7, ρ 8, ρ 9, ρ 10, ρ 11, ρ 12, ρ 13, ρ 14, ρ 15, ρ 16, ρ 17] (γ 0) 0 0 (γ 6)
  have hD : en158 (γ 0) (0, [], γ 1) = .inr (0, 0, γ 6) := by
    unfold en158
    refine zIP (show (0 : Nat) = 0 by decide) (zLV (γ 1) rfl (zLE m0 (zLE m1 (zLE m18 (zLE m22 (zIN (show ¬ (ρ 18 ≥ 8) by omega) (zLE (show fn132 [ρ 1, ρ 18] (γ 1) = (0, ρ 18 + 9 * ρ 1 + 1, γ 2) from l0.symm) ?_)))))))
    refine zLV (γ 2) rfl (zLE (show fn157 [] (γ 2) = (0, 1, γ 3) from l1.symm) (zLV (γ 3) rfl (zIP (show (1 : Int) ≤ 1 by omega) (zIP (show 3 ≤ γ 3 10 (ρ 18 + 9 * ρ 1 + 1) 4 by omega) (zIP (show 6 ≤ γ 3 10 (ρ 18 + 9 * ρ 1 + 1) 4 by omega) (zLE c4.symm (zLE (show fn114 [] (γ 4) = (0, ρ 43, γ 5) from l2.symm) ?_)))))))
    refine zLV (γ 5) rfl (zIP (show (0 : Int) ≤ ρ 43 by omega) (zLV (ρ 43) rfl (zLE m54 (zIP (show ρ 43 ≠ 46 by omega) (zIN (show ¬ (ρ 43 = 44) by omega) (zLE (show fn109 [ρ 44] (γ 5) = (0, 0, γ 6) from l5.symm) (zLV (γ 6) rfl ?_)))))))
    rfl
  exact zGoo_aend hJ hD
theorem vn158a0_12 {S : Nat → zSpc} (hS109 : zIm S 109 sn109) (hS114 : zIm S 114 sn114) (hS132 : zIm S 132 sn132) (hS152 : zIm S 152 sn152) (hS153 : zIm S 153 sn153) (hS157 : zIm S 157 sn157) {a : List Int} {g : rHp} : ∀ (ρ : Nat → Int) (γ : Nat → rHp), jn158 a g 0 (zAg (zNA a158_ 0) ρ) (γ 1) → zO 18 S a g q158a0_12 ρ γ → zGl (fun i vs g1 => jn158 a g i vs g1) (sn158 a g) q158a0_12 ρ γ := by
  intro ρ γ hJ h
  obtain ⟨ha, hg, hr, hf, hm, hc, hl⟩ := h
  have ha : a = [ρ 0, ρ 1, ρ 2, ρ 3, ρ 4, ρ 5, ρ 6, ρ 7, ρ 8, ρ 9, ρ 10, ρ 11, ρ 12, ρ 13, ρ 14, ρ 15, ρ 16, ρ 17] := ha
  subst ha
  subst hg
  have hJ : jn158 [ρ 0, ρ 1, ρ 2, ρ 3, ρ 4, ρ 5, ρ 6, ρ 7, ρ 8, ρ 9, ρ 10, ρ 11, ρ 12, ρ 13, ρ 14, ρ 15, ρ 16, ρ 17] (γ 0) 0 [ρ 0, ρ 1, ρ 2, ρ 3, ρ 4, ρ 5, ρ 6, ρ 7, ρ 8, ρ 9, ρ 10, ρ 11, ρ 12, ρ 13, ρ 14, ρ 15, ρ 16, ρ 17, ρ 18, ρ 19, ρ 20, ρ 21, ρ 22, ρ 23, ρ 24, ρ 25, ρ 26] (γ 1) := hJ
  have r0 : (0 : Int) ≤ ρ 0 ∧ ρ 0 ≤ 60 := zRnA hr 0
  have r1 : (0 : Int) ≤ ρ 1 ∧ ρ 1 ≤ 60 := zRnA hr 1
  have r2 : (0 : Int) ≤ ρ 2 ∧ ρ 2 ≤ 8 := zRnA hr 2
  have r3 : (0 : Int) ≤ ρ 3 ∧ ρ 3 ≤ 2000 := zRnA hr 3
  have r4 : (0 : Int) ≤ ρ 4 ∧ ρ 4 ≤ 2000 := zRnA hr 4
  have r5 : (0 : Int) ≤ ρ 5 ∧ ρ 5 ≤ 0 := zRnA hr 5
  have r6 : ((-1) : Int) ≤ ρ 6 ∧ ρ 6 ≤ 19 := zRnA hr 6
  have r7 : (0 : Int) ≤ ρ 7 ∧ ρ 7 ≤ 4 := zRnA hr 7
  have r8 : ((-1) : Int) ≤ ρ 8 ∧ ρ 8 ≤ 7 := zRnA hr 8
  have r9 : (0 : Int) ≤ ρ 9 ∧ ρ 9 ≤ 8 := zRnA hr 9
  have r10 : (0 : Int) ≤ ρ 10 ∧ ρ 10 ≤ 20 := zRnA hr 10
  have r11 : ((-2147483648) : Int) ≤ ρ 11 ∧ ρ 11 ≤ 2147483647 := zRnA hr 11
  have r12 : ((-2147483648) : Int) ≤ ρ 12 ∧ ρ 12 ≤ 2147483647 := zRnA hr 12
  have r13 : ((-2147483648) : Int) ≤ ρ 13 ∧ ρ 13 ≤ 2147483647 := zRnA hr 13
  have r14 : (0 : Int) ≤ ρ 14 ∧ ρ 14 ≤ 8 := zRnA hr 14
  have r15 : (0 : Int) ≤ ρ 15 ∧ ρ 15 ≤ 32 := zRnA hr 15
  have r16 : (0 : Int) ≤ ρ 16 ∧ ρ 16 ≤ 5120 := zRnA hr 16
  have r17 : ((-2147483648) : Int) ≤ ρ 17 ∧ ρ 17 ≤ 2147483647 := zRnA hr 17
  have r18 : (0 : Int) ≤ ρ 18 ∧ ρ 18 ≤ 7 := zRnA hr 18
  have r19 : (0 : Int) ≤ ρ 19 ∧ ρ 19 ≤ 2000 := zRnA hr 19
  have r20 : (0 : Int) ≤ ρ 20 ∧ ρ 20 ≤ 8 := zRnA hr 20
  have r21 : (0 : Int) ≤ ρ 21 ∧ ρ 21 ≤ 20 := zRnA hr 21
  have r22 : ((-2147483648) : Int) ≤ ρ 22 ∧ ρ 22 ≤ 2147483647 := zRnA hr 22
  have r23 : ((-2147483648) : Int) ≤ ρ 23 ∧ ρ 23 ≤ 2147483647 := zRnA hr 23
  have r24 : (0 : Int) ≤ ρ 24 ∧ ρ 24 ≤ 8 := zRnA hr 24
  have r25 : (0 : Int) ≤ ρ 25 ∧ ρ 25 ≤ 32 := zRnA hr 25
  have r26 : (0 : Int) ≤ ρ 26 ∧ ρ 26 ≤ 5120 := zRnA hr 26
  have r27 : (0 : Int) ≤ ρ 27 ∧ ρ 27 ≤ 8 := zRnA hr 27
  have r28 : ((-1) : Int) ≤ ρ 28 ∧ ρ 28 ≤ 7 := zRnA hr 28
  have r29 : ((-1) : Int) ≤ ρ 29 ∧ ρ 29 ≤ 19 := zRnA hr 29
  have r30 : (0 : Int) ≤ ρ 30 ∧ ρ 30 ≤ 4 := zRnA hr 30
  have r31 : ((-2147483648) : Int) ≤ ρ 31 ∧ ρ 31 ≤ 2147483647 := zRnA hr 31
  have r32 : ((-1) : Int) ≤ ρ 32 ∧ ρ 32 ≤ 3 := zRnA hr 32
  have r33 : (0 : Int) ≤ ρ 33 ∧ ρ 33 ≤ 4 := zRnA hr 33
  have r34 : (4 : Int) ≤ ρ 34 ∧ ρ 34 ≤ 2000 := zRnA hr 34
  have r35 : (6 : Int) ≤ ρ 35 ∧ ρ 35 ≤ 8 := zRnA hr 35
  have r36 : (0 : Int) ≤ ρ 36 ∧ ρ 36 ≤ 7 := zRnA hr 36
  have r37 : ((-2147483648) : Int) ≤ ρ 37 ∧ ρ 37 ≤ 2147483647 := zRnA hr 37
  have r38 : ((-2147483648) : Int) ≤ ρ 38 ∧ ρ 38 ≤ 2147483647 := zRnA hr 38
  have r39 : (1 : Int) ≤ ρ 39 ∧ ρ 39 ≤ 8 := zRnA hr 39
  have r40 : (0 : Int) ≤ ρ 40 ∧ ρ 40 ≤ 5120 := zRnA hr 40
  have r41 : (1 : Int) ≤ ρ 41 ∧ ρ 41 ≤ 2 := zRnA hr 41
  have r42 : (0 : Int) ≤ ρ 42 ∧ ρ 42 ≤ 1999 := zRnA hr 42
  have r43 : (46 : Int) ≤ ρ 43 ∧ ρ 43 ≤ 46 := zRnA hr 43
  have r44 : (0 : Int) ≤ ρ 44 ∧ ρ 44 ≤ 2000 := zRnA hr 44
  have r45 : (0 : Int) ≤ ρ 45 ∧ ρ 45 ≤ 4 := zRnA hr 45
  have r46 : ((-2147483648) : Int) ≤ ρ 46 ∧ ρ 46 ≤ 2147483647 := zRnA hr 46
  have f0 : (0 : Int) ≤ ρ 44 + -ρ 34 := zAllA hf 0
  have f1 : (0 : Int) ≤ -ρ 44 + ρ 4 + (-1) := zAllA hf 1
  have f2 : (0 : Int) ≤ -ρ 34 + ρ 4 + (-1) := zAllA hf 2
  have f3 : (0 : Int) ≤ -ρ 42 + ρ 34 + (-1) := zAllA hf 3
  have f4 : (0 : Int) ≤ ρ 34 + -ρ 19 + (-1) := zAllA hf 4
  have f5 : (0 : Int) ≤ ρ 39 + -ρ 36 + (-1) := zAllA hf 5
  have f6 : (0 : Int) ≤ ρ 39 + -ρ 24 := zAllA hf 6
  have f7 : (0 : Int) ≤ ρ 40 + -ρ 26 := zAllA hf 7
  have f8 : (0 : Int) ≤ ρ 42 + -ρ 19 := zAllA hf 8
  have f9 : (0 : Int) ≤ -ρ 41 + ρ 4 := zAllA hf 9
  have f10 : (0 : Int) ≤ -ρ 42 + ρ 4 + (-1) := zAllA hf 10
  have f11 : (0 : Int) ≤ -ρ 19 + ρ 4 + (-1) := zAllA hf 11
  have f12 : (0 : Int) ≤ -ρ 32 + ρ 4 := zAllA hf 12
  have f13 : (0 : Int) ≤ -ρ 36 + ρ 24 := zAllA hf 13
  have f14 : (0 : Int) ≤ -ρ 18 + ρ 4 := zAllA hf 14
  have f15 : (0 : Int) ≤ ρ 26 + -ρ 16 := zAllA hf 15
  have f16 : (0 : Int) ≤ ρ 25 + -ρ 15 := zAllA hf 16
  have f17 : (0 : Int) ≤ ρ 24 + -ρ 14 := zAllA hf 17
  have f18 : (0 : Int) ≤ ρ 21 + -ρ 10 := zAllA hf 18
  have f19 : (0 : Int) ≤ ρ 19 + -ρ 3 := zAllA hf 19
  have f20 : (0 : Int) ≤ ρ 19 + -ρ 18 := zAllA hf 20
  have f21 : (0 : Int) ≤ -ρ 20 + ρ 18 := zAllA hf 21
  have m0 : γ 0 1 0 10 = ρ 0 := zAllA hm 0
  have m1 : γ 0 40 0 (ρ 0) = ρ 1 := zAllA hm 1
  have m2 : γ 0 9 (ρ 1) 2 = ρ 2 := zAllA hm 2
  have m3 : γ 0 2 0 6 = ρ 3 := zAllA hm 3
  have m4 : γ 0 2 0 3 = ρ 4 := zAllA hm 4
  have m5 : γ 0 2 0 7 = ρ 5 := zAllA hm 5
  have m6 : γ 0 10 (9 * ρ 1) 8 = ρ 6 := zAllA hm 6
  have m7 : γ 0 10 (9 * ρ 1) 12 = ρ 7 := zAllA hm 7
  have m8 : γ 0 10 (9 * ρ 1) 14 = ρ 8 := zAllA hm 8
  have m9 : γ 0 9 (ρ 1) 3 = ρ 9 := zAllA hm 9
  have m10 : γ 0 1 0 7 = ρ 10 := zAllA hm 10
  have m11 : γ 0 2 0 4 = ρ 11 := zAllA hm 11
  have m12 : γ 0 2 0 5 = ρ 12 := zAllA hm 12
  have m13 : γ 0 2 0 9 = ρ 13 := zAllA hm 13
  have m14 : γ 0 2 0 13 = ρ 14 := zAllA hm 14
  have m15 : γ 0 2 0 16 = ρ 15 := zAllA hm 15
  have m16 : γ 0 3 0 1 = ρ 16 := zAllA hm 16
  have m17 : γ 0 10 (9 * ρ 1) 15 = ρ 17 := zAllA hm 17
  have m18 : γ 1 9 (ρ 1) 2 = ρ 18 := zAllA hm 18
  have m19 : γ 1 2 0 6 = ρ 19 := zAllA hm 19
  have m20 : γ 1 10 (9 * ρ 1) 8 = ρ 6 := zAllA hm 20
  have m21 : γ 1 10 (9 * ρ 1) 12 = ρ 7 := zAllA hm 21
  have m22 : γ 1 9 (ρ 1) 3 = ρ 20 := zAllA hm 22
  have m23 : γ 1 1 0 7 = ρ 21 := zAllA hm 23
  have m24 : γ 1 2 0 4 = ρ 11 := zAllA hm 24
  have m25 : γ 1 2 0 5 = ρ 22 := zAllA hm 25
  have m26 : γ 1 2 0 9 = ρ 23 := zAllA hm 26
  have m27 : γ 1 2 0 13 = ρ 24 := zAllA hm 27
  have m28 : γ 1 2 0 16 = ρ 25 := zAllA hm 28
  have m29 : γ 1 3 0 1 = ρ 26 := zAllA hm 29
  have m30 : γ 1 10 (ρ 18 + 9 * ρ 1 + 1) 4 = ρ 27 := zAllA hm 30
  have m31 : γ 1 10 (ρ 18 + 9 * ρ 1 + 1) 11 = ρ 28 := zAllA hm 31
  have m32 : γ 1 10 (ρ 18 + 9 * ρ 1 + 1) 8 = ρ 29 := zAllA hm 32
  have m33 : γ 1 10 (ρ 18 + 9 * ρ 1 + 1) 5 = ρ 30 := zAllA hm 33
  have m34 : γ 1 10 (ρ 18 + 9 * ρ 1 + 1) 7 = ρ 31 := zAllA hm 34
  have m35 : γ 1 10 (ρ 18 + 9 * ρ 1 + 1) 9 = ρ 32 := zAllA hm 35
  have m36 : γ 1 10 (ρ 18 + 9 * ρ 1 + 1) 12 = ρ 33 := zAllA hm 36
  have m37 : γ 3 2 0 6 = ρ 34 := zAllA hm 37
  have m38 : γ 3 10 (ρ 18 + 9 * ρ 1 + 1) 4 = ρ 35 := zAllA hm 38
  have m39 : γ 3 10 (ρ 18 + 9 * ρ 1 + 1) 11 = ρ 36 := zAllA hm 39
  have m40 : γ 3 10 (ρ 18 + 9 * ρ 1 + 1) 8 = (-1) := zAllA hm 40
  have m41 : γ 3 10 (9 * ρ 1) 8 = ρ 6 := zAllA hm 41
  have m42 : γ 3 10 (9 * ρ 1) 12 = ρ 7 := zAllA hm 42
  have m43 : γ 3 1 0 7 = ρ 21 := zAllA hm 43
  have m44 : γ 3 2 0 4 = ρ 11 := zAllA hm 44
  have m45 : γ 3 2 0 5 = ρ 37 := zAllA hm 45
  have m46 : γ 3 2 0 9 = ρ 38 := zAllA hm 46
  have m47 : γ 3 2 0 13 = ρ 39 := zAllA hm 47
  have m48 : γ 3 2 0 16 = ρ 25 := zAllA hm 48
  have m49 : γ 3 3 0 1 = ρ 40 := zAllA hm 49
  have m50 : γ 3 10 (ρ 18 + 9 * ρ 1 + 1) 5 = ρ 41 := zAllA hm 50
  have m51 : γ 3 10 (ρ 18 + 9 * ρ 1 + 1) 7 = ρ 42 := zAllA hm 51
  have m52 : γ 3 10 (ρ 18 + 9 * ρ 1 + 1) 9 = (-1) := zAllA hm 52
  have m53 : γ 3 10 (ρ 18 + 9 * ρ 1 + 1) 12 = 0 := zAllA hm 53
  have m54 : γ 5 2 0 6 = ρ 44 := zAllA hm 54
  have m55 : γ 3 10 (9 * ρ 1) 5 = ρ 45 := zAllA hm 55
  have m56 : γ 7 2 0 4 = ρ 46 := zAllA hm 56
  have c1 : ∀ (G : Nat) (k j : Int), ¬ rMdP m107_ G j → γ 1 G k j = γ 0 G k j := And.right (zChA hc 6)
  have c2 : ∀ (G : Nat) (k j : Int), ¬ rMdP m0_ G j → γ 2 G k j = γ 1 G k j := And.right (zChA hc 5)
  have c3 : ∀ (G : Nat) (k j : Int), ¬ rMdP m106_ G j → γ 3 G k j = γ 2 G k j := And.right (zChA hc 4)
  have c4 : γ 4 = rUp (γ 3) 9 (ρ 1) 2 (ρ 18 + 1) := And.right (zChA hc 3)
  have c5 : ∀ (G : Nat) (k j : Int), ¬ rMdP m77_ G j → γ 5 G k j = γ 4 G k j := And.right (zChA hc 2)
  have c6 : γ 6 = rUp (γ 5) 2 0 6 (ρ 44 + 1) := And.right (zChA hc 1)
  have c7 : ∀ (G : Nat) (k j : Int), ¬ rMdP m72_ G j → γ 7 G k j = γ 6 G k j := And.right (zChA hc 0)
  have l0 : sn132 [ρ 1, ρ 18] (γ 1) 0 (ρ 18 + 9 * ρ 1 + 1) (γ 2) := hS132 _ _ _ _ _ (zAllA hl 0)
  have l1 : sn157 [ρ 0, ρ 1, ρ 18, ρ 19, ρ 4, ρ 27, ρ 28, ρ 29, ρ 5, ρ 6, ρ 7, ρ 21, ρ 11, ρ 22, ρ 23, ρ 24, ρ 25, ρ 26, ρ 30, ρ 31, ρ 32, ρ 33] (γ 2) 0 1 (γ 3) := hS157 _ _ _ _ _ (zAllA hl 1)
  have l2 : sn114 [ρ 34, ρ 4] (γ 4) 0 (ρ 43) (γ 5) := hS114 _ _ _ _ _ (zAllA hl 2)
  have l3 : sn153 [9 * ρ 1, ρ 11, ρ 37, ρ 45, ρ 7, ρ 8, ρ 17] (γ 6) 0 0 (γ 7) := hS153 _ _ _ _ _ (zAllA hl 3)
  show sn158 [ρ 0, ρ 1, ρ 2, ρ 3, ρ 4, ρ 5, ρ 6, ρ 7, ρ 8, ρ 9, ρ 10, ρ 11, ρ 12, ρ 13, ρ 14, ρ 15, ρ 16, ρ 17] (γ 0) 0 0 (γ 7)
  have hD : en158 (γ 0) (0, [], γ 1) = .inr (0, 0, γ 7) := by
    unfold en158
    refine zIP (show (0 : Nat) = 0 by decide) (zLV (γ 1) rfl (zLE m0 (zLE m1 (zLE m18 (zLE m22 (zIN (show ¬ (ρ 18 ≥ 8) by omega) (zLE (show fn132 [ρ 1, ρ 18] (γ 1) = (0, ρ 18 + 9 * ρ 1 + 1, γ 2) from l0.symm) ?_)))))))
    refine zLV (γ 2) rfl (zLE (show fn157 [] (γ 2) = (0, 1, γ 3) from l1.symm) (zLV (γ 3) rfl (zIP (show (1 : Int) ≤ 1 by omega) (zIP (show 3 ≤ γ 3 10 (ρ 18 + 9 * ρ 1 + 1) 4 by omega) (zIP (show 6 ≤ γ 3 10 (ρ 18 + 9 * ρ 1 + 1) 4 by omega) (zLE c4.symm (zLE (show fn114 [] (γ 4) = (0, ρ 43, γ 5) from l2.symm) ?_)))))))
    refine zLV (γ 5) rfl (zIP (show (0 : Int) ≤ ρ 43 by omega) (zLV (ρ 43) rfl (zLE m54 (zIN (show ¬ (ρ 43 ≠ 46) by omega) (zLE c6.symm (zLE (show fn153 [9 * ρ 1] (γ 6) = (0, 0, γ 7) from l3.symm) (zLV (γ 7) rfl ?_)))))))
    refine zIN (show ¬ ((1 : Int) ≤ 0) by omega) ?_
    rfl
  exact zGoo_aend hJ hD
theorem vn158a0_13 {S : Nat → zSpc} (hS109 : zIm S 109 sn109) (hS114 : zIm S 114 sn114) (hS132 : zIm S 132 sn132) (hS152 : zIm S 152 sn152) (hS153 : zIm S 153 sn153) (hS157 : zIm S 157 sn157) {a : List Int} {g : rHp} : ∀ (ρ : Nat → Int) (γ : Nat → rHp), jn158 a g 0 (zAg (zNA a158_ 0) ρ) (γ 1) → zO 18 S a g q158a0_13 ρ γ → zGl (fun i vs g1 => jn158 a g i vs g1) (sn158 a g) q158a0_13 ρ γ := by
  intro ρ γ hJ h
  obtain ⟨ha, hg, hr, hf, hm, hc, hl⟩ := h
  have ha : a = [ρ 0, ρ 1, ρ 2, ρ 3, ρ 4, ρ 5, ρ 6, ρ 7, ρ 8, ρ 9, ρ 10, ρ 11, ρ 12, ρ 13, ρ 14, ρ 15, ρ 16, ρ 17] := ha
  subst ha
  subst hg
  have hJ : jn158 [ρ 0, ρ 1, ρ 2, ρ 3, ρ 4, ρ 5, ρ 6, ρ 7, ρ 8, ρ 9, ρ 10, ρ 11, ρ 12, ρ 13, ρ 14, ρ 15, ρ 16, ρ 17] (γ 0) 0 [ρ 0, ρ 1, ρ 2, ρ 3, ρ 4, ρ 5, ρ 6, ρ 7, ρ 8, ρ 9, ρ 10, ρ 11, ρ 12, ρ 13, ρ 14, ρ 15, ρ 16, ρ 17, ρ 18, ρ 19, ρ 20, ρ 21, ρ 22, ρ 23, ρ 24, ρ 25, ρ 26] (γ 1) := hJ
  have r0 : (0 : Int) ≤ ρ 0 ∧ ρ 0 ≤ 60 := zRnA hr 0
  have r1 : (0 : Int) ≤ ρ 1 ∧ ρ 1 ≤ 60 := zRnA hr 1
  have r2 : (0 : Int) ≤ ρ 2 ∧ ρ 2 ≤ 8 := zRnA hr 2
  have r3 : (0 : Int) ≤ ρ 3 ∧ ρ 3 ≤ 2000 := zRnA hr 3
  have r4 : (0 : Int) ≤ ρ 4 ∧ ρ 4 ≤ 2000 := zRnA hr 4
  have r5 : (0 : Int) ≤ ρ 5 ∧ ρ 5 ≤ 0 := zRnA hr 5
  have r6 : ((-1) : Int) ≤ ρ 6 ∧ ρ 6 ≤ 19 := zRnA hr 6
  have r7 : (0 : Int) ≤ ρ 7 ∧ ρ 7 ≤ 4 := zRnA hr 7
  have r8 : ((-1) : Int) ≤ ρ 8 ∧ ρ 8 ≤ 7 := zRnA hr 8
  have r9 : (0 : Int) ≤ ρ 9 ∧ ρ 9 ≤ 8 := zRnA hr 9
  have r10 : (0 : Int) ≤ ρ 10 ∧ ρ 10 ≤ 20 := zRnA hr 10
  have r11 : ((-2147483648) : Int) ≤ ρ 11 ∧ ρ 11 ≤ 2147483647 := zRnA hr 11
  have r12 : ((-2147483648) : Int) ≤ ρ 12 ∧ ρ 12 ≤ 2147483647 := zRnA hr 12
  have r13 : ((-2147483648) : Int) ≤ ρ 13 ∧ ρ 13 ≤ 2147483647 := zRnA hr 13
  have r14 : (0 : Int) ≤ ρ 14 ∧ ρ 14 ≤ 8 := zRnA hr 14
  have r15 : (0 : Int) ≤ ρ 15 ∧ ρ 15 ≤ 32 := zRnA hr 15
  have r16 : (0 : Int) ≤ ρ 16 ∧ ρ 16 ≤ 5120 := zRnA hr 16
  have r17 : ((-2147483648) : Int) ≤ ρ 17 ∧ ρ 17 ≤ 2147483647 := zRnA hr 17
  have r18 : (0 : Int) ≤ ρ 18 ∧ ρ 18 ≤ 7 := zRnA hr 18
  have r19 : (0 : Int) ≤ ρ 19 ∧ ρ 19 ≤ 2000 := zRnA hr 19
  have r20 : (0 : Int) ≤ ρ 20 ∧ ρ 20 ≤ 8 := zRnA hr 20
  have r21 : (0 : Int) ≤ ρ 21 ∧ ρ 21 ≤ 20 := zRnA hr 21
  have r22 : ((-2147483648) : Int) ≤ ρ 22 ∧ ρ 22 ≤ 2147483647 := zRnA hr 22
  have r23 : ((-2147483648) : Int) ≤ ρ 23 ∧ ρ 23 ≤ 2147483647 := zRnA hr 23
  have r24 : (0 : Int) ≤ ρ 24 ∧ ρ 24 ≤ 8 := zRnA hr 24
  have r25 : (0 : Int) ≤ ρ 25 ∧ ρ 25 ≤ 32 := zRnA hr 25
  have r26 : (0 : Int) ≤ ρ 26 ∧ ρ 26 ≤ 5120 := zRnA hr 26
  have r27 : (0 : Int) ≤ ρ 27 ∧ ρ 27 ≤ 8 := zRnA hr 27
  have r28 : ((-1) : Int) ≤ ρ 28 ∧ ρ 28 ≤ 7 := zRnA hr 28
  have r29 : ((-1) : Int) ≤ ρ 29 ∧ ρ 29 ≤ 19 := zRnA hr 29
  have r30 : (0 : Int) ≤ ρ 30 ∧ ρ 30 ≤ 4 := zRnA hr 30
  have r31 : ((-2147483648) : Int) ≤ ρ 31 ∧ ρ 31 ≤ 2147483647 := zRnA hr 31
  have r32 : ((-1) : Int) ≤ ρ 32 ∧ ρ 32 ≤ 3 := zRnA hr 32
  have r33 : (0 : Int) ≤ ρ 33 ∧ ρ 33 ≤ 4 := zRnA hr 33
  have r34 : (4 : Int) ≤ ρ 34 ∧ ρ 34 ≤ 2000 := zRnA hr 34
  have r35 : (6 : Int) ≤ ρ 35 ∧ ρ 35 ≤ 8 := zRnA hr 35
  have r36 : (0 : Int) ≤ ρ 36 ∧ ρ 36 ≤ 7 := zRnA hr 36
  have r37 : ((-2147483648) : Int) ≤ ρ 37 ∧ ρ 37 ≤ 2147483647 := zRnA hr 37
  have r38 : ((-2147483648) : Int) ≤ ρ 38 ∧ ρ 38 ≤ 2147483647 := zRnA hr 38
  have r39 : (1 : Int) ≤ ρ 39 ∧ ρ 39 ≤ 8 := zRnA hr 39
  have r40 : (0 : Int) ≤ ρ 40 ∧ ρ 40 ≤ 5120 := zRnA hr 40
  have r41 : (1 : Int) ≤ ρ 41 ∧ ρ 41 ≤ 2 := zRnA hr 41
  have r42 : (0 : Int) ≤ ρ 42 ∧ ρ 42 ≤ 1999 := zRnA hr 42
  have r43 : (46 : Int) ≤ ρ 43 ∧ ρ 43 ≤ 46 := zRnA hr 43
  have r44 : (0 : Int) ≤ ρ 44 ∧ ρ 44 ≤ 2000 := zRnA hr 44
  have r45 : (0 : Int) ≤ ρ 45 ∧ ρ 45 ≤ 4 := zRnA hr 45
  have r46 : ((-2147483648) : Int) ≤ ρ 46 ∧ ρ 46 ≤ 2147483647 := zRnA hr 46
  have f0 : (0 : Int) ≤ ρ 44 + -ρ 34 := zAllA hf 0
  have f1 : (0 : Int) ≤ -ρ 44 + ρ 4 + (-1) := zAllA hf 1
  have f2 : (0 : Int) ≤ -ρ 34 + ρ 4 + (-1) := zAllA hf 2
  have f3 : (0 : Int) ≤ -ρ 42 + ρ 34 + (-1) := zAllA hf 3
  have f4 : (0 : Int) ≤ ρ 34 + -ρ 19 + (-1) := zAllA hf 4
  have f5 : (0 : Int) ≤ ρ 39 + -ρ 36 + (-1) := zAllA hf 5
  have f6 : (0 : Int) ≤ ρ 39 + -ρ 24 := zAllA hf 6
  have f7 : (0 : Int) ≤ ρ 40 + -ρ 26 := zAllA hf 7
  have f8 : (0 : Int) ≤ ρ 42 + -ρ 19 := zAllA hf 8
  have f9 : (0 : Int) ≤ -ρ 41 + ρ 4 := zAllA hf 9
  have f10 : (0 : Int) ≤ -ρ 42 + ρ 4 + (-1) := zAllA hf 10
  have f11 : (0 : Int) ≤ -ρ 19 + ρ 4 + (-1) := zAllA hf 11
  have f12 : (0 : Int) ≤ -ρ 32 + ρ 4 := zAllA hf 12
  have f13 : (0 : Int) ≤ -ρ 36 + ρ 24 := zAllA hf 13
  have f14 : (0 : Int) ≤ -ρ 18 + ρ 4 := zAllA hf 14
  have f15 : (0 : Int) ≤ ρ 26 + -ρ 16 := zAllA hf 15
  have f16 : (0 : Int) ≤ ρ 25 + -ρ 15 := zAllA hf 16
  have f17 : (0 : Int) ≤ ρ 24 + -ρ 14 := zAllA hf 17
  have f18 : (0 : Int) ≤ ρ 21 + -ρ 10 := zAllA hf 18
  have f19 : (0 : Int) ≤ ρ 19 + -ρ 3 := zAllA hf 19
  have f20 : (0 : Int) ≤ ρ 19 + -ρ 18 := zAllA hf 20
  have f21 : (0 : Int) ≤ -ρ 20 + ρ 18 := zAllA hf 21
  have m0 : γ 0 1 0 10 = ρ 0 := zAllA hm 0
  have m1 : γ 0 40 0 (ρ 0) = ρ 1 := zAllA hm 1
  have m2 : γ 0 9 (ρ 1) 2 = ρ 2 := zAllA hm 2
  have m3 : γ 0 2 0 6 = ρ 3 := zAllA hm 3
  have m4 : γ 0 2 0 3 = ρ 4 := zAllA hm 4
  have m5 : γ 0 2 0 7 = ρ 5 := zAllA hm 5
  have m6 : γ 0 10 (9 * ρ 1) 8 = ρ 6 := zAllA hm 6
  have m7 : γ 0 10 (9 * ρ 1) 12 = ρ 7 := zAllA hm 7
  have m8 : γ 0 10 (9 * ρ 1) 14 = ρ 8 := zAllA hm 8
  have m9 : γ 0 9 (ρ 1) 3 = ρ 9 := zAllA hm 9
  have m10 : γ 0 1 0 7 = ρ 10 := zAllA hm 10
  have m11 : γ 0 2 0 4 = ρ 11 := zAllA hm 11
  have m12 : γ 0 2 0 5 = ρ 12 := zAllA hm 12
  have m13 : γ 0 2 0 9 = ρ 13 := zAllA hm 13
  have m14 : γ 0 2 0 13 = ρ 14 := zAllA hm 14
  have m15 : γ 0 2 0 16 = ρ 15 := zAllA hm 15
  have m16 : γ 0 3 0 1 = ρ 16 := zAllA hm 16
  have m17 : γ 0 10 (9 * ρ 1) 15 = ρ 17 := zAllA hm 17
  have m18 : γ 1 9 (ρ 1) 2 = ρ 18 := zAllA hm 18
  have m19 : γ 1 2 0 6 = ρ 19 := zAllA hm 19
  have m20 : γ 1 10 (9 * ρ 1) 8 = ρ 6 := zAllA hm 20
  have m21 : γ 1 10 (9 * ρ 1) 12 = ρ 7 := zAllA hm 21
  have m22 : γ 1 9 (ρ 1) 3 = ρ 20 := zAllA hm 22
  have m23 : γ 1 1 0 7 = ρ 21 := zAllA hm 23
  have m24 : γ 1 2 0 4 = ρ 11 := zAllA hm 24
  have m25 : γ 1 2 0 5 = ρ 22 := zAllA hm 25
  have m26 : γ 1 2 0 9 = ρ 23 := zAllA hm 26
  have m27 : γ 1 2 0 13 = ρ 24 := zAllA hm 27
  have m28 : γ 1 2 0 16 = ρ 25 := zAllA hm 28
  have m29 : γ 1 3 0 1 = ρ 26 := zAllA hm 29
  have m30 : γ 1 10 (ρ 18 + 9 * ρ 1 + 1) 4 = ρ 27 := zAllA hm 30
  have m31 : γ 1 10 (ρ 18 + 9 * ρ 1 + 1) 11 = ρ 28 := zAllA hm 31
  have m32 : γ 1 10 (ρ 18 + 9 * ρ 1 + 1) 8 = ρ 29 := zAllA hm 32
  have m33 : γ 1 10 (ρ 18 + 9 * ρ 1 + 1) 5 = ρ 30 := zAllA hm 33
  have m34 : γ 1 10 (ρ 18 + 9 * ρ 1 + 1) 7 = ρ 31 := zAllA hm 34
  have m35 : γ 1 10 (ρ 18 + 9 * ρ 1 + 1) 9 = ρ 32 := zAllA hm 35
  have m36 : γ 1 10 (ρ 18 + 9 * ρ 1 + 1) 12 = ρ 33 := zAllA hm 36
  have m37 : γ 3 2 0 6 = ρ 34 := zAllA hm 37
  have m38 : γ 3 10 (ρ 18 + 9 * ρ 1 + 1) 4 = ρ 35 := zAllA hm 38
  have m39 : γ 3 10 (ρ 18 + 9 * ρ 1 + 1) 11 = ρ 36 := zAllA hm 39
  have m40 : γ 3 10 (ρ 18 + 9 * ρ 1 + 1) 8 = (-1) := zAllA hm 40
  have m41 : γ 3 10 (9 * ρ 1) 8 = ρ 6 := zAllA hm 41
  have m42 : γ 3 10 (9 * ρ 1) 12 = ρ 7 := zAllA hm 42
  have m43 : γ 3 1 0 7 = ρ 21 := zAllA hm 43
  have m44 : γ 3 2 0 4 = ρ 11 := zAllA hm 44
  have m45 : γ 3 2 0 5 = ρ 37 := zAllA hm 45
  have m46 : γ 3 2 0 9 = ρ 38 := zAllA hm 46
  have m47 : γ 3 2 0 13 = ρ 39 := zAllA hm 47
  have m48 : γ 3 2 0 16 = ρ 25 := zAllA hm 48
  have m49 : γ 3 3 0 1 = ρ 40 := zAllA hm 49
  have m50 : γ 3 10 (ρ 18 + 9 * ρ 1 + 1) 5 = ρ 41 := zAllA hm 50
  have m51 : γ 3 10 (ρ 18 + 9 * ρ 1 + 1) 7 = ρ 42 := zAllA hm 51
  have m52 : γ 3 10 (ρ 18 + 9 * ρ 1 + 1) 9 = (-1) := zAllA hm 52
  have m53 : γ 3 10 (ρ 18 + 9 * ρ 1 + 1) 12 = 0 := zAllA hm 53
  have m54 : γ 5 2 0 6 = ρ 44 := zAllA hm 54
  have m55 : γ 3 10 (9 * ρ 1) 5 = ρ 45 := zAllA hm 55
  have m56 : γ 7 2 0 4 = ρ 11 := zAllA hm 56
  have m57 : γ 8 2 0 4 = ρ 46 := zAllA hm 57
  have c1 : ∀ (G : Nat) (k j : Int), ¬ rMdP m107_ G j → γ 1 G k j = γ 0 G k j := And.right (zChA hc 7)
  have c2 : ∀ (G : Nat) (k j : Int), ¬ rMdP m0_ G j → γ 2 G k j = γ 1 G k j := And.right (zChA hc 6)
  have c3 : ∀ (G : Nat) (k j : Int), ¬ rMdP m106_ G j → γ 3 G k j = γ 2 G k j := And.right (zChA hc 5)
  have c4 : γ 4 = rUp (γ 3) 9 (ρ 1) 2 (ρ 18 + 1) := And.right (zChA hc 4)
  have c5 : ∀ (G : Nat) (k j : Int), ¬ rMdP m77_ G j → γ 5 G k j = γ 4 G k j := And.right (zChA hc 3)
  have c6 : γ 6 = rUp (γ 5) 2 0 6 (ρ 44 + 1) := And.right (zChA hc 2)
  have c7 : ∀ (G : Nat) (k j : Int), ¬ rMdP m72_ G j → γ 7 G k j = γ 6 G k j := And.right (zChA hc 1)
  have c8 : ∀ (G : Nat) (k j : Int), ¬ rMdP m72_ G j → γ 8 G k j = γ 7 G k j := And.right (zChA hc 0)
  have l0 : sn132 [ρ 1, ρ 18] (γ 1) 0 (ρ 18 + 9 * ρ 1 + 1) (γ 2) := hS132 _ _ _ _ _ (zAllA hl 0)
  have l1 : sn157 [ρ 0, ρ 1, ρ 18, ρ 19, ρ 4, ρ 27, ρ 28, ρ 29, ρ 5, ρ 6, ρ 7, ρ 21, ρ 11, ρ 22, ρ 23, ρ 24, ρ 25, ρ 26, ρ 30, ρ 31, ρ 32, ρ 33] (γ 2) 0 1 (γ 3) := hS157 _ _ _ _ _ (zAllA hl 1)
  have l2 : sn114 [ρ 34, ρ 4] (γ 4) 0 (ρ 43) (γ 5) := hS114 _ _ _ _ _ (zAllA hl 2)
  have l3 : sn153 [9 * ρ 1, ρ 11, ρ 37, ρ 45, ρ 7, ρ 8, ρ 17] (γ 6) 0 1 (γ 7) := hS153 _ _ _ _ _ (zAllA hl 3)
  have l4 : sn152 [ρ 11, ρ 25] (γ 7) 0 0 (γ 8) := hS152 _ _ _ _ _ (zAllA hl 4)
  show sn158 [ρ 0, ρ 1, ρ 2, ρ 3, ρ 4, ρ 5, ρ 6, ρ 7, ρ 8, ρ 9, ρ 10, ρ 11, ρ 12, ρ 13, ρ 14, ρ 15, ρ 16, ρ 17] (γ 0) 0 0 (γ 8)
  have hD : en158 (γ 0) (0, [], γ 1) = .inr (0, 0, γ 8) := by
    unfold en158
    refine zIP (show (0 : Nat) = 0 by decide) (zLV (γ 1) rfl (zLE m0 (zLE m1 (zLE m18 (zLE m22 (zIN (show ¬ (ρ 18 ≥ 8) by omega) (zLE (show fn132 [ρ 1, ρ 18] (γ 1) = (0, ρ 18 + 9 * ρ 1 + 1, γ 2) from l0.symm) ?_)))))))
    refine zLV (γ 2) rfl (zLE (show fn157 [] (γ 2) = (0, 1, γ 3) from l1.symm) (zLV (γ 3) rfl (zIP (show (1 : Int) ≤ 1 by omega) (zIP (show 3 ≤ γ 3 10 (ρ 18 + 9 * ρ 1 + 1) 4 by omega) (zIP (show 6 ≤ γ 3 10 (ρ 18 + 9 * ρ 1 + 1) 4 by omega) (zLE c4.symm (zLE (show fn114 [] (γ 4) = (0, ρ 43, γ 5) from l2.symm) ?_)))))))
    refine zLV (γ 5) rfl (zIP (show (0 : Int) ≤ ρ 43 by omega) (zLV (ρ 43) rfl (zLE m54 (zIN (show ¬ (ρ 43 ≠ 46) by omega) (zLE c6.symm (zLE (show fn153 [9 * ρ 1] (γ 6) = (0, 1, γ 7) from l3.symm) (zLV (γ 7) rfl ?_)))))))
    refine zIP (show (1 : Int) ≤ 1 by omega) (zLE (show fn152 [] (γ 7) = (0, 0, γ 8) from l4.symm) (zLV (γ 8) rfl (zIN (show ¬ ((1 : Int) ≤ 0) by omega) ?_)))
    rfl
  exact zGoo_aend hJ hD
theorem vn158a0_14 {S : Nat → zSpc} (hS109 : zIm S 109 sn109) (hS114 : zIm S 114 sn114) (hS132 : zIm S 132 sn132) (hS152 : zIm S 152 sn152) (hS153 : zIm S 153 sn153) (hS157 : zIm S 157 sn157) {a : List Int} {g : rHp} : ∀ (ρ : Nat → Int) (γ : Nat → rHp), jn158 a g 0 (zAg (zNA a158_ 0) ρ) (γ 1) → zO 18 S a g q158a0_14 ρ γ → zGl (fun i vs g1 => jn158 a g i vs g1) (sn158 a g) q158a0_14 ρ γ := by
  intro ρ γ hJ h
  obtain ⟨ha, hg, hr, hf, hm, hc, hl⟩ := h
  have ha : a = [ρ 0, ρ 1, ρ 2, ρ 3, ρ 4, ρ 5, ρ 6, ρ 7, ρ 8, ρ 9, ρ 10, ρ 11, ρ 12, ρ 13, ρ 14, ρ 15, ρ 16, ρ 17] := ha
  subst ha
  subst hg
  have hJ : jn158 [ρ 0, ρ 1, ρ 2, ρ 3, ρ 4, ρ 5, ρ 6, ρ 7, ρ 8, ρ 9, ρ 10, ρ 11, ρ 12, ρ 13, ρ 14, ρ 15, ρ 16, ρ 17] (γ 0) 0 [ρ 0, ρ 1, ρ 2, ρ 3, ρ 4, ρ 5, ρ 6, ρ 7, ρ 8, ρ 9, ρ 10, ρ 11, ρ 12, ρ 13, ρ 14, ρ 15, ρ 16, ρ 17, ρ 18, ρ 19, ρ 20, ρ 21, ρ 22, ρ 23, ρ 24, ρ 25, ρ 26] (γ 1) := hJ
  have r0 : (0 : Int) ≤ ρ 0 ∧ ρ 0 ≤ 60 := zRnA hr 0
  have r1 : (0 : Int) ≤ ρ 1 ∧ ρ 1 ≤ 60 := zRnA hr 1
  have r2 : (0 : Int) ≤ ρ 2 ∧ ρ 2 ≤ 8 := zRnA hr 2
  have r3 : (0 : Int) ≤ ρ 3 ∧ ρ 3 ≤ 2000 := zRnA hr 3
  have r4 : (0 : Int) ≤ ρ 4 ∧ ρ 4 ≤ 2000 := zRnA hr 4
  have r5 : (0 : Int) ≤ ρ 5 ∧ ρ 5 ≤ 0 := zRnA hr 5
  have r6 : ((-1) : Int) ≤ ρ 6 ∧ ρ 6 ≤ 19 := zRnA hr 6
  have r7 : (0 : Int) ≤ ρ 7 ∧ ρ 7 ≤ 4 := zRnA hr 7
  have r8 : ((-1) : Int) ≤ ρ 8 ∧ ρ 8 ≤ 7 := zRnA hr 8
  have r9 : (0 : Int) ≤ ρ 9 ∧ ρ 9 ≤ 8 := zRnA hr 9
  have r10 : (0 : Int) ≤ ρ 10 ∧ ρ 10 ≤ 20 := zRnA hr 10
  have r11 : ((-2147483648) : Int) ≤ ρ 11 ∧ ρ 11 ≤ 2147483647 := zRnA hr 11
  have r12 : ((-2147483648) : Int) ≤ ρ 12 ∧ ρ 12 ≤ 2147483647 := zRnA hr 12
  have r13 : ((-2147483648) : Int) ≤ ρ 13 ∧ ρ 13 ≤ 2147483647 := zRnA hr 13
  have r14 : (0 : Int) ≤ ρ 14 ∧ ρ 14 ≤ 8 := zRnA hr 14
  have r15 : (0 : Int) ≤ ρ 15 ∧ ρ 15 ≤ 32 := zRnA hr 15
  have r16 : (0 : Int) ≤ ρ 16 ∧ ρ 16 ≤ 5120 := zRnA hr 16
  have r17 : ((-2147483648) : Int) ≤ ρ 17 ∧ ρ 17 ≤ 2147483647 := zRnA hr 17
  have r18 : (0 : Int) ≤ ρ 18 ∧ ρ 18 ≤ 7 := zRnA hr 18
  have r19 : (0 : Int) ≤ ρ 19 ∧ ρ 19 ≤ 2000 := zRnA hr 19
  have r20 : (0 : Int) ≤ ρ 20 ∧ ρ 20 ≤ 8 := zRnA hr 20
  have r21 : (0 : Int) ≤ ρ 21 ∧ ρ 21 ≤ 20 := zRnA hr 21
  have r22 : ((-2147483648) : Int) ≤ ρ 22 ∧ ρ 22 ≤ 2147483647 := zRnA hr 22
  have r23 : ((-2147483648) : Int) ≤ ρ 23 ∧ ρ 23 ≤ 2147483647 := zRnA hr 23
  have r24 : (0 : Int) ≤ ρ 24 ∧ ρ 24 ≤ 8 := zRnA hr 24
  have r25 : (0 : Int) ≤ ρ 25 ∧ ρ 25 ≤ 32 := zRnA hr 25
  have r26 : (0 : Int) ≤ ρ 26 ∧ ρ 26 ≤ 5120 := zRnA hr 26
  have r27 : (0 : Int) ≤ ρ 27 ∧ ρ 27 ≤ 8 := zRnA hr 27
  have r28 : ((-1) : Int) ≤ ρ 28 ∧ ρ 28 ≤ 7 := zRnA hr 28
  have r29 : ((-1) : Int) ≤ ρ 29 ∧ ρ 29 ≤ 19 := zRnA hr 29
  have r30 : (0 : Int) ≤ ρ 30 ∧ ρ 30 ≤ 4 := zRnA hr 30
  have r31 : ((-2147483648) : Int) ≤ ρ 31 ∧ ρ 31 ≤ 2147483647 := zRnA hr 31
  have r32 : ((-1) : Int) ≤ ρ 32 ∧ ρ 32 ≤ 3 := zRnA hr 32
  have r33 : (0 : Int) ≤ ρ 33 ∧ ρ 33 ≤ 4 := zRnA hr 33
  have r34 : (4 : Int) ≤ ρ 34 ∧ ρ 34 ≤ 2000 := zRnA hr 34
  have r35 : (6 : Int) ≤ ρ 35 ∧ ρ 35 ≤ 8 := zRnA hr 35
  have r36 : (0 : Int) ≤ ρ 36 ∧ ρ 36 ≤ 7 := zRnA hr 36
  have r37 : ((-2147483648) : Int) ≤ ρ 37 ∧ ρ 37 ≤ 2147483647 := zRnA hr 37
  have r38 : ((-2147483648) : Int) ≤ ρ 38 ∧ ρ 38 ≤ 2147483647 := zRnA hr 38
  have r39 : (1 : Int) ≤ ρ 39 ∧ ρ 39 ≤ 8 := zRnA hr 39
  have r40 : (0 : Int) ≤ ρ 40 ∧ ρ 40 ≤ 5120 := zRnA hr 40
  have r41 : (1 : Int) ≤ ρ 41 ∧ ρ 41 ≤ 2 := zRnA hr 41
  have r42 : (0 : Int) ≤ ρ 42 ∧ ρ 42 ≤ 1999 := zRnA hr 42
  have r43 : (46 : Int) ≤ ρ 43 ∧ ρ 43 ≤ 46 := zRnA hr 43
  have r44 : (0 : Int) ≤ ρ 44 ∧ ρ 44 ≤ 2000 := zRnA hr 44
  have r45 : (0 : Int) ≤ ρ 45 ∧ ρ 45 ≤ 4 := zRnA hr 45
  have f0 : (0 : Int) ≤ ρ 44 + -ρ 34 := zAllA hf 0
  have f1 : (0 : Int) ≤ -ρ 44 + ρ 4 + (-1) := zAllA hf 1
  have f2 : (0 : Int) ≤ -ρ 34 + ρ 4 + (-1) := zAllA hf 2
  have f3 : (0 : Int) ≤ -ρ 42 + ρ 34 + (-1) := zAllA hf 3
  have f4 : (0 : Int) ≤ ρ 34 + -ρ 19 + (-1) := zAllA hf 4
  have f5 : (0 : Int) ≤ ρ 39 + -ρ 36 + (-1) := zAllA hf 5
  have f6 : (0 : Int) ≤ ρ 39 + -ρ 24 := zAllA hf 6
  have f7 : (0 : Int) ≤ ρ 40 + -ρ 26 := zAllA hf 7
  have f8 : (0 : Int) ≤ ρ 42 + -ρ 19 := zAllA hf 8
  have f9 : (0 : Int) ≤ -ρ 41 + ρ 4 := zAllA hf 9
  have f10 : (0 : Int) ≤ -ρ 42 + ρ 4 + (-1) := zAllA hf 10
  have f11 : (0 : Int) ≤ -ρ 19 + ρ 4 + (-1) := zAllA hf 11
  have f12 : (0 : Int) ≤ -ρ 32 + ρ 4 := zAllA hf 12
  have f13 : (0 : Int) ≤ -ρ 36 + ρ 24 := zAllA hf 13
  have f14 : (0 : Int) ≤ -ρ 18 + ρ 4 := zAllA hf 14
  have f15 : (0 : Int) ≤ ρ 26 + -ρ 16 := zAllA hf 15
  have f16 : (0 : Int) ≤ ρ 25 + -ρ 15 := zAllA hf 16
  have f17 : (0 : Int) ≤ ρ 24 + -ρ 14 := zAllA hf 17
  have f18 : (0 : Int) ≤ ρ 21 + -ρ 10 := zAllA hf 18
  have f19 : (0 : Int) ≤ ρ 19 + -ρ 3 := zAllA hf 19
  have f20 : (0 : Int) ≤ ρ 19 + -ρ 18 := zAllA hf 20
  have f21 : (0 : Int) ≤ -ρ 20 + ρ 18 := zAllA hf 21
  have m0 : γ 0 1 0 10 = ρ 0 := zAllA hm 0
  have m1 : γ 0 40 0 (ρ 0) = ρ 1 := zAllA hm 1
  have m2 : γ 0 9 (ρ 1) 2 = ρ 2 := zAllA hm 2
  have m3 : γ 0 2 0 6 = ρ 3 := zAllA hm 3
  have m4 : γ 0 2 0 3 = ρ 4 := zAllA hm 4
  have m5 : γ 0 2 0 7 = ρ 5 := zAllA hm 5
  have m6 : γ 0 10 (9 * ρ 1) 8 = ρ 6 := zAllA hm 6
  have m7 : γ 0 10 (9 * ρ 1) 12 = ρ 7 := zAllA hm 7
  have m8 : γ 0 10 (9 * ρ 1) 14 = ρ 8 := zAllA hm 8
  have m9 : γ 0 9 (ρ 1) 3 = ρ 9 := zAllA hm 9
  have m10 : γ 0 1 0 7 = ρ 10 := zAllA hm 10
  have m11 : γ 0 2 0 4 = ρ 11 := zAllA hm 11
  have m12 : γ 0 2 0 5 = ρ 12 := zAllA hm 12
  have m13 : γ 0 2 0 9 = ρ 13 := zAllA hm 13
  have m14 : γ 0 2 0 13 = ρ 14 := zAllA hm 14
  have m15 : γ 0 2 0 16 = ρ 15 := zAllA hm 15
  have m16 : γ 0 3 0 1 = ρ 16 := zAllA hm 16
  have m17 : γ 0 10 (9 * ρ 1) 15 = ρ 17 := zAllA hm 17
  have m18 : γ 1 9 (ρ 1) 2 = ρ 18 := zAllA hm 18
  have m19 : γ 1 2 0 6 = ρ 19 := zAllA hm 19
  have m20 : γ 1 10 (9 * ρ 1) 8 = ρ 6 := zAllA hm 20
  have m21 : γ 1 10 (9 * ρ 1) 12 = ρ 7 := zAllA hm 21
  have m22 : γ 1 9 (ρ 1) 3 = ρ 20 := zAllA hm 22
  have m23 : γ 1 1 0 7 = ρ 21 := zAllA hm 23
  have m24 : γ 1 2 0 4 = ρ 11 := zAllA hm 24
  have m25 : γ 1 2 0 5 = ρ 22 := zAllA hm 25
  have m26 : γ 1 2 0 9 = ρ 23 := zAllA hm 26
  have m27 : γ 1 2 0 13 = ρ 24 := zAllA hm 27
  have m28 : γ 1 2 0 16 = ρ 25 := zAllA hm 28
  have m29 : γ 1 3 0 1 = ρ 26 := zAllA hm 29
  have m30 : γ 1 10 (ρ 18 + 9 * ρ 1 + 1) 4 = ρ 27 := zAllA hm 30
  have m31 : γ 1 10 (ρ 18 + 9 * ρ 1 + 1) 11 = ρ 28 := zAllA hm 31
  have m32 : γ 1 10 (ρ 18 + 9 * ρ 1 + 1) 8 = ρ 29 := zAllA hm 32
  have m33 : γ 1 10 (ρ 18 + 9 * ρ 1 + 1) 5 = ρ 30 := zAllA hm 33
  have m34 : γ 1 10 (ρ 18 + 9 * ρ 1 + 1) 7 = ρ 31 := zAllA hm 34
  have m35 : γ 1 10 (ρ 18 + 9 * ρ 1 + 1) 9 = ρ 32 := zAllA hm 35
  have m36 : γ 1 10 (ρ 18 + 9 * ρ 1 + 1) 12 = ρ 33 := zAllA hm 36
  have m37 : γ 3 2 0 6 = ρ 34 := zAllA hm 37
  have m38 : γ 3 10 (ρ 18 + 9 * ρ 1 + 1) 4 = ρ 35 := zAllA hm 38
  have m39 : γ 3 10 (ρ 18 + 9 * ρ 1 + 1) 11 = ρ 36 := zAllA hm 39
  have m40 : γ 3 10 (ρ 18 + 9 * ρ 1 + 1) 8 = (-1) := zAllA hm 40
  have m41 : γ 3 10 (9 * ρ 1) 8 = ρ 6 := zAllA hm 41
  have m42 : γ 3 10 (9 * ρ 1) 12 = ρ 7 := zAllA hm 42
  have m43 : γ 3 1 0 7 = ρ 21 := zAllA hm 43
  have m44 : γ 3 2 0 4 = ρ 11 := zAllA hm 44
  have m45 : γ 3 2 0 5 = ρ 37 := zAllA hm 45
  have m46 : γ 3 2 0 9 = ρ 38 := zAllA hm 46
  have m47 : γ 3 2 0 13 = ρ 39 := zAllA hm 47
  have m48 : γ 3 2 0 16 = ρ 25 := zAllA hm 48
  have m49 : γ 3 3 0 1 = ρ 40 := zAllA hm 49
  have m50 : γ 3 10 (ρ 18 + 9 * ρ 1 + 1) 5 = ρ 41 := zAllA hm 50
  have m51 : γ 3 10 (ρ 18 + 9 * ρ 1 + 1) 7 = ρ 42 := zAllA hm 51
  have m52 : γ 3 10 (ρ 18 + 9 * ρ 1 + 1) 9 = (-1) := zAllA hm 52
  have m53 : γ 3 10 (ρ 18 + 9 * ρ 1 + 1) 12 = 0 := zAllA hm 53
  have m54 : γ 5 2 0 6 = ρ 44 := zAllA hm 54
  have m55 : γ 3 10 (9 * ρ 1) 5 = ρ 45 := zAllA hm 55
  have m56 : γ 7 2 0 4 = ρ 11 := zAllA hm 56
  have m57 : γ 8 2 0 4 = ρ 11 := zAllA hm 57
  have c1 : ∀ (G : Nat) (k j : Int), ¬ rMdP m107_ G j → γ 1 G k j = γ 0 G k j := And.right (zChA hc 7)
  have c2 : ∀ (G : Nat) (k j : Int), ¬ rMdP m0_ G j → γ 2 G k j = γ 1 G k j := And.right (zChA hc 6)
  have c3 : ∀ (G : Nat) (k j : Int), ¬ rMdP m106_ G j → γ 3 G k j = γ 2 G k j := And.right (zChA hc 5)
  have c4 : γ 4 = rUp (γ 3) 9 (ρ 1) 2 (ρ 18 + 1) := And.right (zChA hc 4)
  have c5 : ∀ (G : Nat) (k j : Int), ¬ rMdP m77_ G j → γ 5 G k j = γ 4 G k j := And.right (zChA hc 3)
  have c6 : γ 6 = rUp (γ 5) 2 0 6 (ρ 44 + 1) := And.right (zChA hc 2)
  have c7 : ∀ (G : Nat) (k j : Int), ¬ rMdP m72_ G j → γ 7 G k j = γ 6 G k j := And.right (zChA hc 1)
  have c8 : ∀ (G : Nat) (k j : Int), ¬ rMdP m72_ G j → γ 8 G k j = γ 7 G k j := And.right (zChA hc 0)
  have l0 : sn132 [ρ 1, ρ 18] (γ 1) 0 (ρ 18 + 9 * ρ 1 + 1) (γ 2) := hS132 _ _ _ _ _ (zAllA hl 0)
  have l1 : sn157 [ρ 0, ρ 1, ρ 18, ρ 19, ρ 4, ρ 27, ρ 28, ρ 29, ρ 5, ρ 6, ρ 7, ρ 21, ρ 11, ρ 22, ρ 23, ρ 24, ρ 25, ρ 26, ρ 30, ρ 31, ρ 32, ρ 33] (γ 2) 0 1 (γ 3) := hS157 _ _ _ _ _ (zAllA hl 1)
  have l2 : sn114 [ρ 34, ρ 4] (γ 4) 0 (ρ 43) (γ 5) := hS114 _ _ _ _ _ (zAllA hl 2)
  have l3 : sn153 [9 * ρ 1, ρ 11, ρ 37, ρ 45, ρ 7, ρ 8, ρ 17] (γ 6) 0 1 (γ 7) := hS153 _ _ _ _ _ (zAllA hl 3)
  have l4 : sn152 [ρ 11, ρ 25] (γ 7) 0 1 (γ 8) := hS152 _ _ _ _ _ (zAllA hl 4)
  show sn158 [ρ 0, ρ 1, ρ 2, ρ 3, ρ 4, ρ 5, ρ 6, ρ 7, ρ 8, ρ 9, ρ 10, ρ 11, ρ 12, ρ 13, ρ 14, ρ 15, ρ 16, ρ 17] (γ 0) 0 1 (γ 8)
  have hD : en158 (γ 0) (0, [], γ 1) = .inr (0, 1, γ 8) := by
    unfold en158
    refine zIP (show (0 : Nat) = 0 by decide) (zLV (γ 1) rfl (zLE m0 (zLE m1 (zLE m18 (zLE m22 (zIN (show ¬ (ρ 18 ≥ 8) by omega) (zLE (show fn132 [ρ 1, ρ 18] (γ 1) = (0, ρ 18 + 9 * ρ 1 + 1, γ 2) from l0.symm) ?_)))))))
    refine zLV (γ 2) rfl (zLE (show fn157 [] (γ 2) = (0, 1, γ 3) from l1.symm) (zLV (γ 3) rfl (zIP (show (1 : Int) ≤ 1 by omega) (zIP (show 3 ≤ γ 3 10 (ρ 18 + 9 * ρ 1 + 1) 4 by omega) (zIP (show 6 ≤ γ 3 10 (ρ 18 + 9 * ρ 1 + 1) 4 by omega) (zLE c4.symm (zLE (show fn114 [] (γ 4) = (0, ρ 43, γ 5) from l2.symm) ?_)))))))
    refine zLV (γ 5) rfl (zIP (show (0 : Int) ≤ ρ 43 by omega) (zLV (ρ 43) rfl (zLE m54 (zIN (show ¬ (ρ 43 ≠ 46) by omega) (zLE c6.symm (zLE (show fn153 [9 * ρ 1] (γ 6) = (0, 1, γ 7) from l3.symm) (zLV (γ 7) rfl ?_)))))))
    refine zIP (show (1 : Int) ≤ 1 by omega) (zLE (show fn152 [] (γ 7) = (0, 1, γ 8) from l4.symm) (zLV (γ 8) rfl (zIP (show (1 : Int) ≤ 1 by omega) ?_)))
    rfl
  exact zGoo_aend hJ hD
theorem vn158a0_15 {S : Nat → zSpc} (hS109 : zIm S 109 sn109) (hS114 : zIm S 114 sn114) (hS132 : zIm S 132 sn132) (hS152 : zIm S 152 sn152) (hS153 : zIm S 153 sn153) (hS157 : zIm S 157 sn157) {a : List Int} {g : rHp} : ∀ (ρ : Nat → Int) (γ : Nat → rHp), jn158 a g 0 (zAg (zNA a158_ 0) ρ) (γ 1) → zO 18 S a g q158a0_15 ρ γ → zGl (fun i vs g1 => jn158 a g i vs g1) (sn158 a g) q158a0_15 ρ γ := by
  intro ρ γ hJ h
  obtain ⟨ha, hg, hr, hf, hm, hc, hl⟩ := h
  have ha : a = [ρ 0, ρ 1, ρ 2, ρ 3, ρ 4, ρ 5, ρ 6, ρ 7, ρ 8, ρ 9, ρ 10, ρ 11, ρ 12, ρ 13, ρ 14, ρ 15, ρ 16, ρ 17] := ha
  subst ha
  subst hg
  have hJ : jn158 [ρ 0, ρ 1, ρ 2, ρ 3, ρ 4, ρ 5, ρ 6, ρ 7, ρ 8, ρ 9, ρ 10, ρ 11, ρ 12, ρ 13, ρ 14, ρ 15, ρ 16, ρ 17] (γ 0) 0 [ρ 0, ρ 1, ρ 2, ρ 3, ρ 4, ρ 5, ρ 6, ρ 7, ρ 8, ρ 9, ρ 10, ρ 11, ρ 12, ρ 13, ρ 14, ρ 15, ρ 16, ρ 17, ρ 18, ρ 19, ρ 20, ρ 21, ρ 22, ρ 23, ρ 24, ρ 25, ρ 26] (γ 1) := hJ
  have r0 : (0 : Int) ≤ ρ 0 ∧ ρ 0 ≤ 60 := zRnA hr 0
  have r1 : (0 : Int) ≤ ρ 1 ∧ ρ 1 ≤ 60 := zRnA hr 1
  have r2 : (0 : Int) ≤ ρ 2 ∧ ρ 2 ≤ 8 := zRnA hr 2
  have r3 : (0 : Int) ≤ ρ 3 ∧ ρ 3 ≤ 2000 := zRnA hr 3
  have r4 : (2 : Int) ≤ ρ 4 ∧ ρ 4 ≤ 2000 := zRnA hr 4
  have r5 : (0 : Int) ≤ ρ 5 ∧ ρ 5 ≤ 0 := zRnA hr 5
  have r6 : ((-1) : Int) ≤ ρ 6 ∧ ρ 6 ≤ 19 := zRnA hr 6
  have r7 : (0 : Int) ≤ ρ 7 ∧ ρ 7 ≤ 4 := zRnA hr 7
  have r8 : ((-1) : Int) ≤ ρ 8 ∧ ρ 8 ≤ 7 := zRnA hr 8
  have r9 : (0 : Int) ≤ ρ 9 ∧ ρ 9 ≤ 8 := zRnA hr 9
  have r10 : (0 : Int) ≤ ρ 10 ∧ ρ 10 ≤ 20 := zRnA hr 10
  have r11 : ((-2147483648) : Int) ≤ ρ 11 ∧ ρ 11 ≤ 2147483647 := zRnA hr 11
  have r12 : ((-2147483648) : Int) ≤ ρ 12 ∧ ρ 12 ≤ 2147483647 := zRnA hr 12
  have r13 : ((-2147483648) : Int) ≤ ρ 13 ∧ ρ 13 ≤ 2147483647 := zRnA hr 13
  have r14 : (0 : Int) ≤ ρ 14 ∧ ρ 14 ≤ 8 := zRnA hr 14
  have r15 : (0 : Int) ≤ ρ 15 ∧ ρ 15 ≤ 32 := zRnA hr 15
  have r16 : (0 : Int) ≤ ρ 16 ∧ ρ 16 ≤ 5120 := zRnA hr 16
  have r17 : ((-2147483648) : Int) ≤ ρ 17 ∧ ρ 17 ≤ 2147483647 := zRnA hr 17
  have r18 : (0 : Int) ≤ ρ 18 ∧ ρ 18 ≤ 7 := zRnA hr 18
  have r19 : (0 : Int) ≤ ρ 19 ∧ ρ 19 ≤ 2000 := zRnA hr 19
  have r20 : (0 : Int) ≤ ρ 20 ∧ ρ 20 ≤ 8 := zRnA hr 20
  have r21 : (0 : Int) ≤ ρ 21 ∧ ρ 21 ≤ 20 := zRnA hr 21
  have r22 : ((-2147483648) : Int) ≤ ρ 22 ∧ ρ 22 ≤ 2147483647 := zRnA hr 22
  have r23 : ((-2147483648) : Int) ≤ ρ 23 ∧ ρ 23 ≤ 2147483647 := zRnA hr 23
  have r24 : (0 : Int) ≤ ρ 24 ∧ ρ 24 ≤ 8 := zRnA hr 24
  have r25 : (0 : Int) ≤ ρ 25 ∧ ρ 25 ≤ 32 := zRnA hr 25
  have r26 : (0 : Int) ≤ ρ 26 ∧ ρ 26 ≤ 5120 := zRnA hr 26
  have r27 : (0 : Int) ≤ ρ 27 ∧ ρ 27 ≤ 8 := zRnA hr 27
  have r28 : ((-1) : Int) ≤ ρ 28 ∧ ρ 28 ≤ 7 := zRnA hr 28
  have r29 : ((-1) : Int) ≤ ρ 29 ∧ ρ 29 ≤ 19 := zRnA hr 29
  have r30 : (0 : Int) ≤ ρ 30 ∧ ρ 30 ≤ 4 := zRnA hr 30
  have r31 : ((-2147483648) : Int) ≤ ρ 31 ∧ ρ 31 ≤ 2147483647 := zRnA hr 31
  have r32 : ((-1) : Int) ≤ ρ 32 ∧ ρ 32 ≤ 3 := zRnA hr 32
  have r33 : (0 : Int) ≤ ρ 33 ∧ ρ 33 ≤ 4 := zRnA hr 33
  have r34 : (3 : Int) ≤ ρ 34 ∧ ρ 34 ≤ 2000 := zRnA hr 34
  have r35 : (2 : Int) ≤ ρ 35 ∧ ρ 35 ≤ 2 := zRnA hr 35
  have r36 : (0 : Int) ≤ ρ 36 ∧ ρ 36 ≤ 19 := zRnA hr 36
  have r37 : (1 : Int) ≤ ρ 37 ∧ ρ 37 ≤ 20 := zRnA hr 37
  have r38 : ((-2147483648) : Int) ≤ ρ 38 ∧ ρ 38 ≤ 2147483647 := zRnA hr 38
  have r39 : ((-2147483648) : Int) ≤ ρ 39 ∧ ρ 39 ≤ 2147483647 := zRnA hr 39
  have r40 : (0 : Int) ≤ ρ 40 ∧ ρ 40 ≤ 8 := zRnA hr 40
  have r41 : (0 : Int) ≤ ρ 41 ∧ ρ 41 ≤ 32 := zRnA hr 41
  have r42 : (0 : Int) ≤ ρ 42 ∧ ρ 42 ≤ 5120 := zRnA hr 42
  have r43 : (1 : Int) ≤ ρ 43 ∧ ρ 43 ≤ 4 := zRnA hr 43
  have r44 : (0 : Int) ≤ ρ 44 ∧ ρ 44 ≤ 1999 := zRnA hr 44
  have r45 : ((-1) : Int) ≤ ρ 45 ∧ ρ 45 ≤ 3 := zRnA hr 45
  have r46 : (0 : Int) ≤ ρ 46 ∧ ρ 46 ≤ 0 := zRnA hr 46
  have r47 : (0 : Int) ≤ ρ 47 ∧ ρ 47 ≤ 2000 := zRnA hr 47
  have f0 : (0 : Int) ≤ ρ 47 + -ρ 34 := zAllA hf 0
  have f1 : (0 : Int) ≤ ρ 47 + -ρ 4 := zAllA hf 1
  have f2 : (0 : Int) ≤ -ρ 43 + ρ 34 + (-1) := zAllA hf 2
  have f3 : (0 : Int) ≤ -ρ 44 + ρ 34 + (-1) := zAllA hf 3
  have f4 : (0 : Int) ≤ -ρ 45 + ρ 34 + (-1) := zAllA hf 4
  have f5 : (0 : Int) ≤ ρ 34 + -ρ 19 + (-1) := zAllA hf 5
  have f6 : (0 : Int) ≤ ρ 37 + -ρ 36 + (-1) := zAllA hf 6
  have f7 : (0 : Int) ≤ ρ 37 + -ρ 21 := zAllA hf 7
  have f8 : (0 : Int) ≤ ρ 40 + -ρ 24 := zAllA hf 8
  have f9 : (0 : Int) ≤ ρ 41 + -ρ 25 := zAllA hf 9
  have f10 : (0 : Int) ≤ ρ 42 + -ρ 26 := zAllA hf 10
  have f11 : (0 : Int) ≤ ρ 44 + -ρ 19 := zAllA hf 11
  have f12 : (0 : Int) ≤ -ρ 34 + ρ 4 := zAllA hf 12
  have f13 : (0 : Int) ≤ -ρ 35 + ρ 4 + (-1) := zAllA hf 13
  have f14 : (0 : Int) ≤ -ρ 19 + ρ 4 + (-1) := zAllA hf 14
  have f15 : (0 : Int) ≤ -ρ 5 + ρ 4 + (-1) := zAllA hf 15
  have f16 : (0 : Int) ≤ -ρ 32 + ρ 4 := zAllA hf 16
  have f17 : (0 : Int) ≤ -ρ 36 + ρ 21 := zAllA hf 17
  have f18 : (0 : Int) ≤ -ρ 18 + ρ 4 := zAllA hf 18
  have f19 : (0 : Int) ≤ ρ 26 + -ρ 16 := zAllA hf 19
  have f20 : (0 : Int) ≤ ρ 25 + -ρ 15 := zAllA hf 20
  have f21 : (0 : Int) ≤ ρ 24 + -ρ 14 := zAllA hf 21
  have f22 : (0 : Int) ≤ ρ 21 + -ρ 10 := zAllA hf 22
  have f23 : (0 : Int) ≤ ρ 19 + -ρ 3 := zAllA hf 23
  have f24 : (0 : Int) ≤ ρ 19 + -ρ 18 := zAllA hf 24
  have f25 : (0 : Int) ≤ -ρ 20 + ρ 18 := zAllA hf 25
  have m0 : γ 0 1 0 10 = ρ 0 := zAllA hm 0
  have m1 : γ 0 40 0 (ρ 0) = ρ 1 := zAllA hm 1
  have m2 : γ 0 9 (ρ 1) 2 = ρ 2 := zAllA hm 2
  have m3 : γ 0 2 0 6 = ρ 3 := zAllA hm 3
  have m4 : γ 0 2 0 3 = ρ 4 := zAllA hm 4
  have m5 : γ 0 2 0 7 = ρ 5 := zAllA hm 5
  have m6 : γ 0 10 (9 * ρ 1) 8 = ρ 6 := zAllA hm 6
  have m7 : γ 0 10 (9 * ρ 1) 12 = ρ 7 := zAllA hm 7
  have m8 : γ 0 10 (9 * ρ 1) 14 = ρ 8 := zAllA hm 8
  have m9 : γ 0 9 (ρ 1) 3 = ρ 9 := zAllA hm 9
  have m10 : γ 0 1 0 7 = ρ 10 := zAllA hm 10
  have m11 : γ 0 2 0 4 = ρ 11 := zAllA hm 11
  have m12 : γ 0 2 0 5 = ρ 12 := zAllA hm 12
  have m13 : γ 0 2 0 9 = ρ 13 := zAllA hm 13
  have m14 : γ 0 2 0 13 = ρ 14 := zAllA hm 14
  have m15 : γ 0 2 0 16 = ρ 15 := zAllA hm 15
  have m16 : γ 0 3 0 1 = ρ 16 := zAllA hm 16
  have m17 : γ 0 10 (9 * ρ 1) 15 = ρ 17 := zAllA hm 17
  have m18 : γ 1 9 (ρ 1) 2 = ρ 18 := zAllA hm 18
  have m19 : γ 1 2 0 6 = ρ 19 := zAllA hm 19
  have m20 : γ 1 10 (9 * ρ 1) 8 = ρ 6 := zAllA hm 20
  have m21 : γ 1 10 (9 * ρ 1) 12 = ρ 7 := zAllA hm 21
  have m22 : γ 1 9 (ρ 1) 3 = ρ 20 := zAllA hm 22
  have m23 : γ 1 1 0 7 = ρ 21 := zAllA hm 23
  have m24 : γ 1 2 0 4 = ρ 11 := zAllA hm 24
  have m25 : γ 1 2 0 5 = ρ 22 := zAllA hm 25
  have m26 : γ 1 2 0 9 = ρ 23 := zAllA hm 26
  have m27 : γ 1 2 0 13 = ρ 24 := zAllA hm 27
  have m28 : γ 1 2 0 16 = ρ 25 := zAllA hm 28
  have m29 : γ 1 3 0 1 = ρ 26 := zAllA hm 29
  have m30 : γ 1 10 (ρ 18 + 9 * ρ 1 + 1) 4 = ρ 27 := zAllA hm 30
  have m31 : γ 1 10 (ρ 18 + 9 * ρ 1 + 1) 11 = ρ 28 := zAllA hm 31
  have m32 : γ 1 10 (ρ 18 + 9 * ρ 1 + 1) 8 = ρ 29 := zAllA hm 32
  have m33 : γ 1 10 (ρ 18 + 9 * ρ 1 + 1) 5 = ρ 30 := zAllA hm 33
  have m34 : γ 1 10 (ρ 18 + 9 * ρ 1 + 1) 7 = ρ 31 := zAllA hm 34
  have m35 : γ 1 10 (ρ 18 + 9 * ρ 1 + 1) 9 = ρ 32 := zAllA hm 35
  have m36 : γ 1 10 (ρ 18 + 9 * ρ 1 + 1) 12 = ρ 33 := zAllA hm 36
  have m37 : γ 3 2 0 6 = ρ 34 := zAllA hm 37
  have m38 : γ 3 10 (ρ 18 + 9 * ρ 1 + 1) 4 = ρ 35 := zAllA hm 38
  have m39 : γ 3 10 (ρ 18 + 9 * ρ 1 + 1) 11 = ρ 28 := zAllA hm 39
  have m40 : γ 3 10 (ρ 18 + 9 * ρ 1 + 1) 8 = ρ 36 := zAllA hm 40
  have m41 : γ 3 10 (9 * ρ 1) 8 = ρ 6 := zAllA hm 41
  have m42 : γ 3 10 (9 * ρ 1) 12 = ρ 7 := zAllA hm 42
  have m43 : γ 3 1 0 7 = ρ 37 := zAllA hm 43
  have m44 : γ 3 2 0 4 = ρ 11 := zAllA hm 44
  have m45 : γ 3 2 0 5 = ρ 38 := zAllA hm 45
  have m46 : γ 3 2 0 9 = ρ 39 := zAllA hm 46
  have m47 : γ 3 2 0 13 = ρ 40 := zAllA hm 47
  have m48 : γ 3 2 0 16 = ρ 41 := zAllA hm 48
  have m49 : γ 3 3 0 1 = ρ 42 := zAllA hm 49
  have m50 : γ 3 10 (ρ 18 + 9 * ρ 1 + 1) 5 = ρ 43 := zAllA hm 50
  have m51 : γ 3 10 (ρ 18 + 9 * ρ 1 + 1) 7 = ρ 44 := zAllA hm 51
  have m52 : γ 3 10 (ρ 18 + 9 * ρ 1 + 1) 9 = ρ 45 := zAllA hm 52
  have m53 : γ 3 10 (ρ 18 + 9 * ρ 1 + 1) 12 = ρ 46 := zAllA hm 53
  have m54 : γ 5 2 0 6 = ρ 47 := zAllA hm 54
  have m55 : γ 6 2 0 4 = ρ 47 := zAllA hm 55
  have c1 : ∀ (G : Nat) (k j : Int), ¬ rMdP m107_ G j → γ 1 G k j = γ 0 G k j := And.right (zChA hc 5)
  have c2 : ∀ (G : Nat) (k j : Int), ¬ rMdP m0_ G j → γ 2 G k j = γ 1 G k j := And.right (zChA hc 4)
  have c3 : ∀ (G : Nat) (k j : Int), ¬ rMdP m106_ G j → γ 3 G k j = γ 2 G k j := And.right (zChA hc 3)
  have c4 : γ 4 = rUp (γ 3) 9 (ρ 1) 2 (ρ 18 + 1) := And.right (zChA hc 2)
  have c5 : ∀ (G : Nat) (k j : Int), ¬ rMdP m77_ G j → γ 5 G k j = γ 4 G k j := And.right (zChA hc 1)
  have c6 : ∀ (G : Nat) (k j : Int), ¬ rMdP m72_ G j → γ 6 G k j = γ 5 G k j := And.right (zChA hc 0)
  have l0 : sn132 [ρ 1, ρ 18] (γ 1) 0 (ρ 18 + 9 * ρ 1 + 1) (γ 2) := hS132 _ _ _ _ _ (zAllA hl 0)
  have l1 : sn157 [ρ 0, ρ 1, ρ 18, ρ 19, ρ 4, ρ 27, ρ 28, ρ 29, ρ 5, ρ 6, ρ 7, ρ 21, ρ 11, ρ 22, ρ 23, ρ 24, ρ 25, ρ 26, ρ 30, ρ 31, ρ 32, ρ 33] (γ 2) 0 1 (γ 3) := hS157 _ _ _ _ _ (zAllA hl 1)
  have l2 : sn114 [ρ 34, ρ 4] (γ 4) 0 (-1) (γ 5) := hS114 _ _ _ _ _ (zAllA hl 2)
  have l3 : sn109 [ρ 47, ρ 11] (γ 5) 0 0 (γ 6) := hS109 _ _ _ _ _ (zAllA hl 3)
  show sn158 [ρ 0, ρ 1, ρ 2, ρ 3, ρ 4, ρ 5, ρ 6, ρ 7, ρ 8, ρ 9, ρ 10, ρ 11, ρ 12, ρ 13, ρ 14, ρ 15, ρ 16, ρ 17] (γ 0) 0 0 (γ 6)
  have hD : en158 (γ 0) (0, [], γ 1) = .inr (0, 0, γ 6) := by
    unfold en158
    refine zIP (show (0 : Nat) = 0 by decide) (zLV (γ 1) rfl (zLE m0 (zLE m1 (zLE m18 (zLE m22 (zIN (show ¬ (ρ 18 ≥ 8) by omega) (zLE (show fn132 [ρ 1, ρ 18] (γ 1) = (0, ρ 18 + 9 * ρ 1 + 1, γ 2) from l0.symm) ?_)))))))
    refine zLV (γ 2) rfl (zLE (show fn157 [] (γ 2) = (0, 1, γ 3) from l1.symm) (zLV (γ 3) rfl (zIP (show (1 : Int) ≤ 1 by omega) (zIN (show ¬ (3 ≤ γ 3 10 (ρ 18 + 9 * ρ 1 + 1) 4) by omega) (zLE m38 (zLE c4.symm (zIP (show ρ 35 ≠ 1 by omega) ?_)))))))
    refine zLE (show fn114 [] (γ 4) = (0, (-1), γ 5) from l2.symm) (zLV (γ 5) rfl (zIN (show ¬ ((0 : Int) ≤ (-1)) by omega) (zLE m54 (zLE (show fn109 [ρ 47] (γ 5) = (0, 0, γ 6) from l3.symm) (zLV (γ 6) rfl ?_)))))
    rfl
  exact zGoo_aend hJ hD
theorem vn158a0_16 {S : Nat → zSpc} (hS109 : zIm S 109 sn109) (hS114 : zIm S 114 sn114) (hS132 : zIm S 132 sn132) (hS152 : zIm S 152 sn152) (hS153 : zIm S 153 sn153) (hS157 : zIm S 157 sn157) {a : List Int} {g : rHp} : ∀ (ρ : Nat → Int) (γ : Nat → rHp), jn158 a g 0 (zAg (zNA a158_ 0) ρ) (γ 1) → zO 18 S a g q158a0_16 ρ γ → zGl (fun i vs g1 => jn158 a g i vs g1) (sn158 a g) q158a0_16 ρ γ := by
  intro ρ γ hJ h
  obtain ⟨ha, hg, hr, hf, hm, hc, hl⟩ := h
  have ha : a = [ρ 0, ρ 1, ρ 2, ρ 3, ρ 4, ρ 5, ρ 6, ρ 7, ρ 8, ρ 9, ρ 10, ρ 11, ρ 12, ρ 13, ρ 14, ρ 15, ρ 16, ρ 17] := ha
  subst ha
  subst hg
  have hJ : jn158 [ρ 0, ρ 1, ρ 2, ρ 3, ρ 4, ρ 5, ρ 6, ρ 7, ρ 8, ρ 9, ρ 10, ρ 11, ρ 12, ρ 13, ρ 14, ρ 15, ρ 16, ρ 17] (γ 0) 0 [ρ 0, ρ 1, ρ 2, ρ 3, ρ 4, ρ 5, ρ 6, ρ 7, ρ 8, ρ 9, ρ 10, ρ 11, ρ 12, ρ 13, ρ 14, ρ 15, ρ 16, ρ 17, ρ 18, ρ 19, ρ 20, ρ 21, ρ 22, ρ 23, ρ 24, ρ 25, ρ 26] (γ 1) := hJ
  have r0 : (0 : Int) ≤ ρ 0 ∧ ρ 0 ≤ 60 := zRnA hr 0
  have r1 : (0 : Int) ≤ ρ 1 ∧ ρ 1 ≤ 60 := zRnA hr 1
  have r2 : (0 : Int) ≤ ρ 2 ∧ ρ 2 ≤ 8 := zRnA hr 2
  have r3 : (0 : Int) ≤ ρ 3 ∧ ρ 3 ≤ 2000 := zRnA hr 3
  have r4 : (2 : Int) ≤ ρ 4 ∧ ρ 4 ≤ 2000 := zRnA hr 4
  have r5 : (0 : Int) ≤ ρ 5 ∧ ρ 5 ≤ 0 := zRnA hr 5
  have r6 : ((-1) : Int) ≤ ρ 6 ∧ ρ 6 ≤ 19 := zRnA hr 6
  have r7 : (0 : Int) ≤ ρ 7 ∧ ρ 7 ≤ 4 := zRnA hr 7
  have r8 : ((-1) : Int) ≤ ρ 8 ∧ ρ 8 ≤ 7 := zRnA hr 8
  have r9 : (0 : Int) ≤ ρ 9 ∧ ρ 9 ≤ 8 := zRnA hr 9
  have r10 : (0 : Int) ≤ ρ 10 ∧ ρ 10 ≤ 20 := zRnA hr 10
  have r11 : ((-2147483648) : Int) ≤ ρ 11 ∧ ρ 11 ≤ 2147483647 := zRnA hr 11
  have r12 : ((-2147483648) : Int) ≤ ρ 12 ∧ ρ 12 ≤ 2147483647 := zRnA hr 12
  have r13 : ((-2147483648) : Int) ≤ ρ 13 ∧ ρ 13 ≤ 2147483647 := zRnA hr 13
  have r14 : (0 : Int) ≤ ρ 14 ∧ ρ 14 ≤ 8 := zRnA hr 14
  have r15 : (0 : Int) ≤ ρ 15 ∧ ρ 15 ≤ 32 := zRnA hr 15
  have r16 : (0 : Int) ≤ ρ 16 ∧ ρ 16 ≤ 5120 := zRnA hr 16
  have r17 : ((-2147483648) : Int) ≤ ρ 17 ∧ ρ 17 ≤ 2147483647 := zRnA hr 17
  have r18 : (0 : Int) ≤ ρ 18 ∧ ρ 18 ≤ 7 := zRnA hr 18
  have r19 : (0 : Int) ≤ ρ 19 ∧ ρ 19 ≤ 2000 := zRnA hr 19
  have r20 : (0 : Int) ≤ ρ 20 ∧ ρ 20 ≤ 8 := zRnA hr 20
  have r21 : (0 : Int) ≤ ρ 21 ∧ ρ 21 ≤ 20 := zRnA hr 21
  have r22 : ((-2147483648) : Int) ≤ ρ 22 ∧ ρ 22 ≤ 2147483647 := zRnA hr 22
  have r23 : ((-2147483648) : Int) ≤ ρ 23 ∧ ρ 23 ≤ 2147483647 := zRnA hr 23
  have r24 : (0 : Int) ≤ ρ 24 ∧ ρ 24 ≤ 8 := zRnA hr 24
  have r25 : (0 : Int) ≤ ρ 25 ∧ ρ 25 ≤ 32 := zRnA hr 25
  have r26 : (0 : Int) ≤ ρ 26 ∧ ρ 26 ≤ 5120 := zRnA hr 26
  have r27 : (0 : Int) ≤ ρ 27 ∧ ρ 27 ≤ 8 := zRnA hr 27
  have r28 : ((-1) : Int) ≤ ρ 28 ∧ ρ 28 ≤ 7 := zRnA hr 28
  have r29 : ((-1) : Int) ≤ ρ 29 ∧ ρ 29 ≤ 19 := zRnA hr 29
  have r30 : (0 : Int) ≤ ρ 30 ∧ ρ 30 ≤ 4 := zRnA hr 30
  have r31 : ((-2147483648) : Int) ≤ ρ 31 ∧ ρ 31 ≤ 2147483647 := zRnA hr 31
  have r32 : ((-1) : Int) ≤ ρ 32 ∧ ρ 32 ≤ 3 := zRnA hr 32
  have r33 : (0 : Int) ≤ ρ 33 ∧ ρ 33 ≤ 4 := zRnA hr 33
  have r34 : (3 : Int) ≤ ρ 34 ∧ ρ 34 ≤ 2000 := zRnA hr 34
  have r35 : (2 : Int) ≤ ρ 35 ∧ ρ 35 ≤ 2 := zRnA hr 35
  have r36 : (0 : Int) ≤ ρ 36 ∧ ρ 36 ≤ 19 := zRnA hr 36
  have r37 : (1 : Int) ≤ ρ 37 ∧ ρ 37 ≤ 20 := zRnA hr 37
  have r38 : ((-2147483648) : Int) ≤ ρ 38 ∧ ρ 38 ≤ 2147483647 := zRnA hr 38
  have r39 : ((-2147483648) : Int) ≤ ρ 39 ∧ ρ 39 ≤ 2147483647 := zRnA hr 39
  have r40 : (0 : Int) ≤ ρ 40 ∧ ρ 40 ≤ 8 := zRnA hr 40
  have r41 : (0 : Int) ≤ ρ 41 ∧ ρ 41 ≤ 32 := zRnA hr 41
  have r42 : (0 : Int) ≤ ρ 42 ∧ ρ 42 ≤ 5120 := zRnA hr 42
  have r43 : (1 : Int) ≤ ρ 43 ∧ ρ 43 ≤ 4 := zRnA hr 43
  have r44 : (0 : Int) ≤ ρ 44 ∧ ρ 44 ≤ 1999 := zRnA hr 44
  have r45 : ((-1) : Int) ≤ ρ 45 ∧ ρ 45 ≤ 3 := zRnA hr 45
  have r46 : (0 : Int) ≤ ρ 46 ∧ ρ 46 ≤ 0 := zRnA hr 46
  have r47 : (44 : Int) ≤ ρ 47 ∧ ρ 47 ≤ 44 := zRnA hr 47
  have r48 : (0 : Int) ≤ ρ 48 ∧ ρ 48 ≤ 2000 := zRnA hr 48
  have f0 : (0 : Int) ≤ ρ 48 + -ρ 34 := zAllA hf 0
  have f1 : (0 : Int) ≤ -ρ 48 + ρ 4 + (-1) := zAllA hf 1
  have f2 : (0 : Int) ≤ -ρ 34 + ρ 4 + (-1) := zAllA hf 2
  have f3 : (0 : Int) ≤ -ρ 43 + ρ 34 + (-1) := zAllA hf 3
  have f4 : (0 : Int) ≤ -ρ 44 + ρ 34 + (-1) := zAllA hf 4
  have f5 : (0 : Int) ≤ -ρ 45 + ρ 34 + (-1) := zAllA hf 5
  have f6 : (0 : Int) ≤ ρ 34 + -ρ 19 + (-1) := zAllA hf 6
  have f7 : (0 : Int) ≤ ρ 37 + -ρ 36 + (-1) := zAllA hf 7
  have f8 : (0 : Int) ≤ ρ 37 + -ρ 21 := zAllA hf 8
  have f9 : (0 : Int) ≤ ρ 40 + -ρ 24 := zAllA hf 9
  have f10 : (0 : Int) ≤ ρ 41 + -ρ 25 := zAllA hf 10
  have f11 : (0 : Int) ≤ ρ 42 + -ρ 26 := zAllA hf 11
  have f12 : (0 : Int) ≤ ρ 44 + -ρ 19 := zAllA hf 12
  have f13 : (0 : Int) ≤ -ρ 34 + ρ 4 := zAllA hf 13
  have f14 : (0 : Int) ≤ -ρ 35 + ρ 4 + (-1) := zAllA hf 14
  have f15 : (0 : Int) ≤ -ρ 19 + ρ 4 + (-1) := zAllA hf 15
  have f16 : (0 : Int) ≤ -ρ 5 + ρ 4 + (-1) := zAllA hf 16
  have f17 : (0 : Int) ≤ -ρ 32 + ρ 4 := zAllA hf 17
  have f18 : (0 : Int) ≤ -ρ 36 + ρ 21 := zAllA hf 18
  have f19 : (0 : Int) ≤ -ρ 18 + ρ 4 := zAllA hf 19
  have f20 : (0 : Int) ≤ ρ 26 + -ρ 16 := zAllA hf 20
  have f21 : (0 : Int) ≤ ρ 25 + -ρ 15 := zAllA hf 21
  have f22 : (0 : Int) ≤ ρ 24 + -ρ 14 := zAllA hf 22
  have f23 : (0 : Int) ≤ ρ 21 + -ρ 10 := zAllA hf 23
  have f24 : (0 : Int) ≤ ρ 19 + -ρ 3 := zAllA hf 24
  have f25 : (0 : Int) ≤ ρ 19 + -ρ 18 := zAllA hf 25
  have f26 : (0 : Int) ≤ -ρ 20 + ρ 18 := zAllA hf 26
  have m0 : γ 0 1 0 10 = ρ 0 := zAllA hm 0
  have m1 : γ 0 40 0 (ρ 0) = ρ 1 := zAllA hm 1
  have m2 : γ 0 9 (ρ 1) 2 = ρ 2 := zAllA hm 2
  have m3 : γ 0 2 0 6 = ρ 3 := zAllA hm 3
  have m4 : γ 0 2 0 3 = ρ 4 := zAllA hm 4
  have m5 : γ 0 2 0 7 = ρ 5 := zAllA hm 5
  have m6 : γ 0 10 (9 * ρ 1) 8 = ρ 6 := zAllA hm 6
  have m7 : γ 0 10 (9 * ρ 1) 12 = ρ 7 := zAllA hm 7
  have m8 : γ 0 10 (9 * ρ 1) 14 = ρ 8 := zAllA hm 8
  have m9 : γ 0 9 (ρ 1) 3 = ρ 9 := zAllA hm 9
  have m10 : γ 0 1 0 7 = ρ 10 := zAllA hm 10
  have m11 : γ 0 2 0 4 = ρ 11 := zAllA hm 11
  have m12 : γ 0 2 0 5 = ρ 12 := zAllA hm 12
  have m13 : γ 0 2 0 9 = ρ 13 := zAllA hm 13
  have m14 : γ 0 2 0 13 = ρ 14 := zAllA hm 14
  have m15 : γ 0 2 0 16 = ρ 15 := zAllA hm 15
  have m16 : γ 0 3 0 1 = ρ 16 := zAllA hm 16
  have m17 : γ 0 10 (9 * ρ 1) 15 = ρ 17 := zAllA hm 17
  have m18 : γ 1 9 (ρ 1) 2 = ρ 18 := zAllA hm 18
  have m19 : γ 1 2 0 6 = ρ 19 := zAllA hm 19
  have m20 : γ 1 10 (9 * ρ 1) 8 = ρ 6 := zAllA hm 20
  have m21 : γ 1 10 (9 * ρ 1) 12 = ρ 7 := zAllA hm 21
  have m22 : γ 1 9 (ρ 1) 3 = ρ 20 := zAllA hm 22
  have m23 : γ 1 1 0 7 = ρ 21 := zAllA hm 23
  have m24 : γ 1 2 0 4 = ρ 11 := zAllA hm 24
  have m25 : γ 1 2 0 5 = ρ 22 := zAllA hm 25
  have m26 : γ 1 2 0 9 = ρ 23 := zAllA hm 26
  have m27 : γ 1 2 0 13 = ρ 24 := zAllA hm 27
  have m28 : γ 1 2 0 16 = ρ 25 := zAllA hm 28
  have m29 : γ 1 3 0 1 = ρ 26 := zAllA hm 29
  have m30 : γ 1 10 (ρ 18 + 9 * ρ 1 + 1) 4 = ρ 27 := zAllA hm 30
  have m31 : γ 1 10 (ρ 18 + 9 * ρ 1 + 1) 11 = ρ 28 := zAllA hm 31
  have m32 : γ 1 10 (ρ 18 + 9 * ρ 1 + 1) 8 = ρ 29 := zAllA hm 32
  have m33 : γ 1 10 (ρ 18 + 9 * ρ 1 + 1) 5 = ρ 30 := zAllA hm 33
  have m34 : γ 1 10 (ρ 18 + 9 * ρ 1 + 1) 7 = ρ 31 := zAllA hm 34
  have m35 : γ 1 10 (ρ 18 + 9 * ρ 1 + 1) 9 = ρ 32 := zAllA hm 35
  have m36 : γ 1 10 (ρ 18 + 9 * ρ 1 + 1) 12 = ρ 33 := zAllA hm 36
  have m37 : γ 3 2 0 6 = ρ 34 := zAllA hm 37
  have m38 : γ 3 10 (ρ 18 + 9 * ρ 1 + 1) 4 = ρ 35 := zAllA hm 38
  have m39 : γ 3 10 (ρ 18 + 9 * ρ 1 + 1) 11 = ρ 28 := zAllA hm 39
  have m40 : γ 3 10 (ρ 18 + 9 * ρ 1 + 1) 8 = ρ 36 := zAllA hm 40
  have m41 : γ 3 10 (9 * ρ 1) 8 = ρ 6 := zAllA hm 41
  have m42 : γ 3 10 (9 * ρ 1) 12 = ρ 7 := zAllA hm 42
  have m43 : γ 3 1 0 7 = ρ 37 := zAllA hm 43
  have m44 : γ 3 2 0 4 = ρ 11 := zAllA hm 44
  have m45 : γ 3 2 0 5 = ρ 38 := zAllA hm 45
  have m46 : γ 3 2 0 9 = ρ 39 := zAllA hm 46
  have m47 : γ 3 2 0 13 = ρ 40 := zAllA hm 47
  have m48 : γ 3 2 0 16 = ρ 41 := zAllA hm 48
  have m49 : γ 3 3 0 1 = ρ 42 := zAllA hm 49
  have m50 : γ 3 10 (ρ 18 + 9 * ρ 1 + 1) 5 = ρ 43 := zAllA hm 50
  have m51 : γ 3 10 (ρ 18 + 9 * ρ 1 + 1) 7 = ρ 44 := zAllA hm 51
  have m52 : γ 3 10 (ρ 18 + 9 * ρ 1 + 1) 9 = ρ 45 := zAllA hm 52
  have m53 : γ 3 10 (ρ 18 + 9 * ρ 1 + 1) 12 = ρ 46 := zAllA hm 53
  have m54 : γ 5 2 0 6 = ρ 48 := zAllA hm 54
  have c1 : ∀ (G : Nat) (k j : Int), ¬ rMdP m107_ G j → γ 1 G k j = γ 0 G k j := And.right (zChA hc 5)
  have c2 : ∀ (G : Nat) (k j : Int), ¬ rMdP m0_ G j → γ 2 G k j = γ 1 G k j := And.right (zChA hc 4)
  have c3 : ∀ (G : Nat) (k j : Int), ¬ rMdP m106_ G j → γ 3 G k j = γ 2 G k j := And.right (zChA hc 3)
  have c4 : γ 4 = rUp (γ 3) 9 (ρ 1) 2 (ρ 18 + 1) := And.right (zChA hc 2)
  have c5 : ∀ (G : Nat) (k j : Int), ¬ rMdP m77_ G j → γ 5 G k j = γ 4 G k j := And.right (zChA hc 1)
  have c6 : γ 6 = rUp (γ 5) 2 0 6 (ρ 48 + 1) := And.right (zChA hc 0)
  have l0 : sn132 [ρ 1, ρ 18] (γ 1) 0 (ρ 18 + 9 * ρ 1 + 1) (γ 2) := hS132 _ _ _ _ _ (zAllA hl 0)
  have l1 : sn157 [ρ 0, ρ 1, ρ 18, ρ 19, ρ 4, ρ 27, ρ 28, ρ 29, ρ 5, ρ 6, ρ 7, ρ 21, ρ 11, ρ 22, ρ 23, ρ 24, ρ 25, ρ 26, ρ 30, ρ 31, ρ 32, ρ 33] (γ 2) 0 1 (γ 3) := hS157 _ _ _ _ _ (zAllA hl 1)
  have l2 : sn114 [ρ 34, ρ 4] (γ 4) 0 (ρ 47) (γ 5) := hS114 _ _ _ _ _ (zAllA hl 2)
  have l3 : ρ 47 ≠ 46 := zAllA hl 3
  show jn158 [ρ 0, ρ 1, ρ 2, ρ 3, ρ 4, ρ 5, ρ 6, ρ 7, ρ 8, ρ 9, ρ 10, ρ 11, ρ 12, ρ 13, ρ 14, ρ 15, ρ 16, ρ 17] (γ 0) 0 [ρ 0, ρ 1, ρ 2, ρ 3, ρ 4, ρ 5, ρ 6, ρ 7, ρ 8, ρ 9, ρ 10, ρ 11, ρ 12, ρ 13, ρ 14, ρ 15, ρ 16, ρ 17, ρ 18 + 1, ρ 48 + 1, ρ 20, ρ 37, ρ 38, ρ 39, ρ 40, ρ 41, ρ 42] (γ 6)
  have hD : en158 (γ 0) (0, [], γ 1) = .inl (0, [], γ 6) := by
    unfold en158
    refine zIP (show (0 : Nat) = 0 by decide) (zLV (γ 1) rfl (zLE m0 (zLE m1 (zLE m18 (zLE m22 (zIN (show ¬ (ρ 18 ≥ 8) by omega) (zLE (show fn132 [ρ 1, ρ 18] (γ 1) = (0, ρ 18 + 9 * ρ 1 + 1, γ 2) from l0.symm) ?_)))))))
    refine zLV (γ 2) rfl (zLE (show fn157 [] (γ 2) = (0, 1, γ 3) from l1.symm) (zLV (γ 3) rfl (zIP (show (1 : Int) ≤ 1 by omega) (zIN (show ¬ (3 ≤ γ 3 10 (ρ 18 + 9 * ρ 1 + 1) 4) by omega) (zLE m38 (zLE c4.symm (zIP (show ρ 35 ≠ 1 by omega) ?_)))))))
    refine zLE (show fn114 [] (γ 4) = (0, ρ 47, γ 5) from l2.symm) (zLV (γ 5) rfl (zIP (show (0 : Int) ≤ ρ 47 by omega) (zLV (ρ 47) rfl (zLE m54 (zIP (show ρ 47 ≠ 46 by omega) (zIP (show ρ 47 = 44 by omega) (zLE c6.symm ?_)))))))
    rfl
  exact zGoo_ato hJ hD
theorem vn158a0_17 {S : Nat → zSpc} (hS109 : zIm S 109 sn109) (hS114 : zIm S 114 sn114) (hS132 : zIm S 132 sn132) (hS152 : zIm S 152 sn152) (hS153 : zIm S 153 sn153) (hS157 : zIm S 157 sn157) {a : List Int} {g : rHp} : ∀ (ρ : Nat → Int) (γ : Nat → rHp), jn158 a g 0 (zAg (zNA a158_ 0) ρ) (γ 1) → zO 18 S a g q158a0_17 ρ γ → zGl (fun i vs g1 => jn158 a g i vs g1) (sn158 a g) q158a0_17 ρ γ := by
  intro ρ γ hJ h
  obtain ⟨ha, hg, hr, hf, hm, hc, hl⟩ := h
  have ha : a = [ρ 0, ρ 1, ρ 2, ρ 3, ρ 4, ρ 5, ρ 6, ρ 7, ρ 8, ρ 9, ρ 10, ρ 11, ρ 12, ρ 13, ρ 14, ρ 15, ρ 16, ρ 17] := ha
  subst ha
  subst hg
  have hJ : jn158 [ρ 0, ρ 1, ρ 2, ρ 3, ρ 4, ρ 5, ρ 6, ρ 7, ρ 8, ρ 9, ρ 10, ρ 11, ρ 12, ρ 13, ρ 14, ρ 15, ρ 16, ρ 17] (γ 0) 0 [ρ 0, ρ 1, ρ 2, ρ 3, ρ 4, ρ 5, ρ 6, ρ 7, ρ 8, ρ 9, ρ 10, ρ 11, ρ 12, ρ 13, ρ 14, ρ 15, ρ 16, ρ 17, ρ 18, ρ 19, ρ 20, ρ 21, ρ 22, ρ 23, ρ 24, ρ 25, ρ 26] (γ 1) := hJ
  have r0 : (0 : Int) ≤ ρ 0 ∧ ρ 0 ≤ 60 := zRnA hr 0
  have r1 : (0 : Int) ≤ ρ 1 ∧ ρ 1 ≤ 60 := zRnA hr 1
  have r2 : (0 : Int) ≤ ρ 2 ∧ ρ 2 ≤ 8 := zRnA hr 2
  have r3 : (0 : Int) ≤ ρ 3 ∧ ρ 3 ≤ 2000 := zRnA hr 3
  have r4 : (2 : Int) ≤ ρ 4 ∧ ρ 4 ≤ 2000 := zRnA hr 4
  have r5 : (0 : Int) ≤ ρ 5 ∧ ρ 5 ≤ 0 := zRnA hr 5
  have r6 : ((-1) : Int) ≤ ρ 6 ∧ ρ 6 ≤ 19 := zRnA hr 6
  have r7 : (0 : Int) ≤ ρ 7 ∧ ρ 7 ≤ 4 := zRnA hr 7
  have r8 : ((-1) : Int) ≤ ρ 8 ∧ ρ 8 ≤ 7 := zRnA hr 8
  have r9 : (0 : Int) ≤ ρ 9 ∧ ρ 9 ≤ 8 := zRnA hr 9
  have r10 : (0 : Int) ≤ ρ 10 ∧ ρ 10 ≤ 20 := zRnA hr 10
  have r11 : ((-2147483648) : Int) ≤ ρ 11 ∧ ρ 11 ≤ 2147483647 := zRnA hr 11
  have r12 : ((-2147483648) : Int) ≤ ρ 12 ∧ ρ 12 ≤ 2147483647 := zRnA hr 12
  have r13 : ((-2147483648) : Int) ≤ ρ 13 ∧ ρ 13 ≤ 2147483647 := zRnA hr 13
  have r14 : (0 : Int) ≤ ρ 14 ∧ ρ 14 ≤ 8 := zRnA hr 14
  have r15 : (0 : Int) ≤ ρ 15 ∧ ρ 15 ≤ 32 := zRnA hr 15
  have r16 : (0 : Int) ≤ ρ 16 ∧ ρ 16 ≤ 5120 := zRnA hr 16
  have r17 : ((-2147483648) : Int) ≤ ρ 17 ∧ ρ 17 ≤ 2147483647 := zRnA hr 17
  have r18 : (0 : Int) ≤ ρ 18 ∧ ρ 18 ≤ 7 := zRnA hr 18
  have r19 : (0 : Int) ≤ ρ 19 ∧ ρ 19 ≤ 2000 := zRnA hr 19
  have r20 : (0 : Int) ≤ ρ 20 ∧ ρ 20 ≤ 8 := zRnA hr 20
  have r21 : (0 : Int) ≤ ρ 21 ∧ ρ 21 ≤ 20 := zRnA hr 21
  have r22 : ((-2147483648) : Int) ≤ ρ 22 ∧ ρ 22 ≤ 2147483647 := zRnA hr 22
  have r23 : ((-2147483648) : Int) ≤ ρ 23 ∧ ρ 23 ≤ 2147483647 := zRnA hr 23
  have r24 : (0 : Int) ≤ ρ 24 ∧ ρ 24 ≤ 8 := zRnA hr 24
  have r25 : (0 : Int) ≤ ρ 25 ∧ ρ 25 ≤ 32 := zRnA hr 25
  have r26 : (0 : Int) ≤ ρ 26 ∧ ρ 26 ≤ 5120 := zRnA hr 26
  have r27 : (0 : Int) ≤ ρ 27 ∧ ρ 27 ≤ 8 := zRnA hr 27
  have r28 : ((-1) : Int) ≤ ρ 28 ∧ ρ 28 ≤ 7 := zRnA hr 28
  have r29 : ((-1) : Int) ≤ ρ 29 ∧ ρ 29 ≤ 19 := zRnA hr 29
  have r30 : (0 : Int) ≤ ρ 30 ∧ ρ 30 ≤ 4 := zRnA hr 30
  have r31 : ((-2147483648) : Int) ≤ ρ 31 ∧ ρ 31 ≤ 2147483647 := zRnA hr 31
  have r32 : ((-1) : Int) ≤ ρ 32 ∧ ρ 32 ≤ 3 := zRnA hr 32
  have r33 : (0 : Int) ≤ ρ 33 ∧ ρ 33 ≤ 4 := zRnA hr 33
  have r34 : (3 : Int) ≤ ρ 34 ∧ ρ 34 ≤ 2000 := zRnA hr 34
  have r35 : (2 : Int) ≤ ρ 35 ∧ ρ 35 ≤ 2 := zRnA hr 35
  have r36 : (0 : Int) ≤ ρ 36 ∧ ρ 36 ≤ 19 := zRnA hr 36
  have r37 : (1 : Int) ≤ ρ 37 ∧ ρ 37 ≤ 20 := zRnA hr 37
  have r38 : ((-2147483648) : Int) ≤ ρ 38 ∧ ρ 38 ≤ 2147483647 := zRnA hr 38
  have r39 : ((-2147483648) : Int) ≤ ρ 39 ∧ ρ 39 ≤ 2147483647 := zRnA hr 39
  have r40 : (0 : Int) ≤ ρ 40 ∧ ρ 40 ≤ 8 := zRnA hr 40
  have r41 : (0 : Int) ≤ ρ 41 ∧ ρ 41 ≤ 32 := zRnA hr 41
  have r42 : (0 : Int) ≤ ρ 42 ∧ ρ 42 ≤ 5120 := zRnA hr 42
  have r43 : (1 : Int) ≤ ρ 43 ∧ ρ 43 ≤ 4 := zRnA hr 43
  have r44 : (0 : Int) ≤ ρ 44 ∧ ρ 44 ≤ 1999 := zRnA hr 44
  have r45 : ((-1) : Int) ≤ ρ 45 ∧ ρ 45 ≤ 3 := zRnA hr 45
  have r46 : (0 : Int) ≤ ρ 46 ∧ ρ 46 ≤ 0 := zRnA hr 46
  have r47 : (0 : Int) ≤ ρ 47 ∧ ρ 47 ≤ 255 := zRnA hr 47
  have r48 : (0 : Int) ≤ ρ 48 ∧ ρ 48 ≤ 2000 := zRnA hr 48
  have f0 : (0 : Int) ≤ ρ 48 + -ρ 34 := zAllA hf 0
  have f1 : (0 : Int) ≤ -ρ 48 + ρ 4 + (-1) := zAllA hf 1
  have f2 : (0 : Int) ≤ -ρ 34 + ρ 4 + (-1) := zAllA hf 2
  have f3 : (0 : Int) ≤ -ρ 43 + ρ 34 + (-1) := zAllA hf 3
  have f4 : (0 : Int) ≤ -ρ 44 + ρ 34 + (-1) := zAllA hf 4
  have f5 : (0 : Int) ≤ -ρ 45 + ρ 34 + (-1) := zAllA hf 5
  have f6 : (0 : Int) ≤ ρ 34 + -ρ 19 + (-1) := zAllA hf 6
  have f7 : (0 : Int) ≤ ρ 37 + -ρ 36 + (-1) := zAllA hf 7
  have f8 : (0 : Int) ≤ ρ 37 + -ρ 21 := zAllA hf 8
  have f9 : (0 : Int) ≤ ρ 40 + -ρ 24 := zAllA hf 9
  have f10 : (0 : Int) ≤ ρ 41 + -ρ 25 := zAllA hf 10
  have f11 : (0 : Int) ≤ ρ 42 + -ρ 26 := zAllA hf 11
  have f12 : (0 : Int) ≤ ρ 44 + -ρ 19 := zAllA hf 12
  have f13 : (0 : Int) ≤ -ρ 34 + ρ 4 := zAllA hf 13
  have f14 : (0 : Int) ≤ -ρ 35 + ρ 4 + (-1) := zAllA hf 14
  have f15 : (0 : Int) ≤ -ρ 19 + ρ 4 + (-1) := zAllA hf 15
  have f16 : (0 : Int) ≤ -ρ 5 + ρ 4 + (-1) := zAllA hf 16
  have f17 : (0 : Int) ≤ -ρ 32 + ρ 4 := zAllA hf 17
  have f18 : (0 : Int) ≤ -ρ 36 + ρ 21 := zAllA hf 18
  have f19 : (0 : Int) ≤ -ρ 18 + ρ 4 := zAllA hf 19
  have f20 : (0 : Int) ≤ ρ 26 + -ρ 16 := zAllA hf 20
  have f21 : (0 : Int) ≤ ρ 25 + -ρ 15 := zAllA hf 21
  have f22 : (0 : Int) ≤ ρ 24 + -ρ 14 := zAllA hf 22
  have f23 : (0 : Int) ≤ ρ 21 + -ρ 10 := zAllA hf 23
  have f24 : (0 : Int) ≤ ρ 19 + -ρ 3 := zAllA hf 24
  have f25 : (0 : Int) ≤ ρ 19 + -ρ 18 := zAllA hf 25
  have f26 : (0 : Int) ≤ -ρ 20 + ρ 18 := zAllA hf 26
  have m0 : γ 0 1 0 10 = ρ 0 := zAllA hm 0
  have m1 : γ 0 40 0 (ρ 0) = ρ 1 := zAllA hm 1
  have m2 : γ 0 9 (ρ 1) 2 = ρ 2 := zAllA hm 2
  have m3 : γ 0 2 0 6 = ρ 3 := zAllA hm 3
  have m4 : γ 0 2 0 3 = ρ 4 := zAllA hm 4
  have m5 : γ 0 2 0 7 = ρ 5 := zAllA hm 5
  have m6 : γ 0 10 (9 * ρ 1) 8 = ρ 6 := zAllA hm 6
  have m7 : γ 0 10 (9 * ρ 1) 12 = ρ 7 := zAllA hm 7
  have m8 : γ 0 10 (9 * ρ 1) 14 = ρ 8 := zAllA hm 8
  have m9 : γ 0 9 (ρ 1) 3 = ρ 9 := zAllA hm 9
  have m10 : γ 0 1 0 7 = ρ 10 := zAllA hm 10
  have m11 : γ 0 2 0 4 = ρ 11 := zAllA hm 11
  have m12 : γ 0 2 0 5 = ρ 12 := zAllA hm 12
  have m13 : γ 0 2 0 9 = ρ 13 := zAllA hm 13
  have m14 : γ 0 2 0 13 = ρ 14 := zAllA hm 14
  have m15 : γ 0 2 0 16 = ρ 15 := zAllA hm 15
  have m16 : γ 0 3 0 1 = ρ 16 := zAllA hm 16
  have m17 : γ 0 10 (9 * ρ 1) 15 = ρ 17 := zAllA hm 17
  have m18 : γ 1 9 (ρ 1) 2 = ρ 18 := zAllA hm 18
  have m19 : γ 1 2 0 6 = ρ 19 := zAllA hm 19
  have m20 : γ 1 10 (9 * ρ 1) 8 = ρ 6 := zAllA hm 20
  have m21 : γ 1 10 (9 * ρ 1) 12 = ρ 7 := zAllA hm 21
  have m22 : γ 1 9 (ρ 1) 3 = ρ 20 := zAllA hm 22
  have m23 : γ 1 1 0 7 = ρ 21 := zAllA hm 23
  have m24 : γ 1 2 0 4 = ρ 11 := zAllA hm 24
  have m25 : γ 1 2 0 5 = ρ 22 := zAllA hm 25
  have m26 : γ 1 2 0 9 = ρ 23 := zAllA hm 26
  have m27 : γ 1 2 0 13 = ρ 24 := zAllA hm 27
  have m28 : γ 1 2 0 16 = ρ 25 := zAllA hm 28
  have m29 : γ 1 3 0 1 = ρ 26 := zAllA hm 29
  have m30 : γ 1 10 (ρ 18 + 9 * ρ 1 + 1) 4 = ρ 27 := zAllA hm 30
  have m31 : γ 1 10 (ρ 18 + 9 * ρ 1 + 1) 11 = ρ 28 := zAllA hm 31
  have m32 : γ 1 10 (ρ 18 + 9 * ρ 1 + 1) 8 = ρ 29 := zAllA hm 32
  have m33 : γ 1 10 (ρ 18 + 9 * ρ 1 + 1) 5 = ρ 30 := zAllA hm 33
  have m34 : γ 1 10 (ρ 18 + 9 * ρ 1 + 1) 7 = ρ 31 := zAllA hm 34
  have m35 : γ 1 10 (ρ 18 + 9 * ρ 1 + 1) 9 = ρ 32 := zAllA hm 35
  have m36 : γ 1 10 (ρ 18 + 9 * ρ 1 + 1) 12 = ρ 33 := zAllA hm 36
  have m37 : γ 3 2 0 6 = ρ 34 := zAllA hm 37
  have m38 : γ 3 10 (ρ 18 + 9 * ρ 1 + 1) 4 = ρ 35 := zAllA hm 38
  have m39 : γ 3 10 (ρ 18 + 9 * ρ 1 + 1) 11 = ρ 28 := zAllA hm 39
  have m40 : γ 3 10 (ρ 18 + 9 * ρ 1 + 1) 8 = ρ 36 := zAllA hm 40
  have m41 : γ 3 10 (9 * ρ 1) 8 = ρ 6 := zAllA hm 41
  have m42 : γ 3 10 (9 * ρ 1) 12 = ρ 7 := zAllA hm 42
  have m43 : γ 3 1 0 7 = ρ 37 := zAllA hm 43
  have m44 : γ 3 2 0 4 = ρ 11 := zAllA hm 44
  have m45 : γ 3 2 0 5 = ρ 38 := zAllA hm 45
  have m46 : γ 3 2 0 9 = ρ 39 := zAllA hm 46
  have m47 : γ 3 2 0 13 = ρ 40 := zAllA hm 47
  have m48 : γ 3 2 0 16 = ρ 41 := zAllA hm 48
  have m49 : γ 3 3 0 1 = ρ 42 := zAllA hm 49
  have m50 : γ 3 10 (ρ 18 + 9 * ρ 1 + 1) 5 = ρ 43 := zAllA hm 50
  have m51 : γ 3 10 (ρ 18 + 9 * ρ 1 + 1) 7 = ρ 44 := zAllA hm 51
  have m52 : γ 3 10 (ρ 18 + 9 * ρ 1 + 1) 9 = ρ 45 := zAllA hm 52
  have m53 : γ 3 10 (ρ 18 + 9 * ρ 1 + 1) 12 = ρ 46 := zAllA hm 53
  have m54 : γ 5 2 0 6 = ρ 48 := zAllA hm 54
  have m55 : γ 6 2 0 4 = ρ 48 := zAllA hm 55
  have c1 : ∀ (G : Nat) (k j : Int), ¬ rMdP m107_ G j → γ 1 G k j = γ 0 G k j := And.right (zChA hc 5)
  have c2 : ∀ (G : Nat) (k j : Int), ¬ rMdP m0_ G j → γ 2 G k j = γ 1 G k j := And.right (zChA hc 4)
  have c3 : ∀ (G : Nat) (k j : Int), ¬ rMdP m106_ G j → γ 3 G k j = γ 2 G k j := And.right (zChA hc 3)
  have c4 : γ 4 = rUp (γ 3) 9 (ρ 1) 2 (ρ 18 + 1) := And.right (zChA hc 2)
  have c5 : ∀ (G : Nat) (k j : Int), ¬ rMdP m77_ G j → γ 5 G k j = γ 4 G k j := And.right (zChA hc 1)
  have c6 : ∀ (G : Nat) (k j : Int), ¬ rMdP m72_ G j → γ 6 G k j = γ 5 G k j := And.right (zChA hc 0)
  have l0 : sn132 [ρ 1, ρ 18] (γ 1) 0 (ρ 18 + 9 * ρ 1 + 1) (γ 2) := hS132 _ _ _ _ _ (zAllA hl 0)
  have l1 : sn157 [ρ 0, ρ 1, ρ 18, ρ 19, ρ 4, ρ 27, ρ 28, ρ 29, ρ 5, ρ 6, ρ 7, ρ 21, ρ 11, ρ 22, ρ 23, ρ 24, ρ 25, ρ 26, ρ 30, ρ 31, ρ 32, ρ 33] (γ 2) 0 1 (γ 3) := hS157 _ _ _ _ _ (zAllA hl 1)
  have l2 : sn114 [ρ 34, ρ 4] (γ 4) 0 (ρ 47) (γ 5) := hS114 _ _ _ _ _ (zAllA hl 2)
  have l3 : ρ 47 ≠ 46 := zAllA hl 3
  have l4 : ρ 47 ≠ 44 := zAllA hl 4
  have l5 : sn109 [ρ 48, ρ 11] (γ 5) 0 0 (γ 6) := hS109 _ _ _ _ _ (zAllA hl 5)
  show sn158 [ρ 0, ρ 1, ρ 2, ρ 3, ρ 4, ρ 5, ρ 6, ρ 7, ρ 8, ρ 9, ρ 10, ρ 11, ρ 12, ρ 13, ρ 14, ρ 15, ρ 16, ρ 17] (γ 0) 0 0 (γ 6)
  have hD : en158 (γ 0) (0, [], γ 1) = .inr (0, 0, γ 6) := by
    unfold en158
    refine zIP (show (0 : Nat) = 0 by decide) (zLV (γ 1) rfl (zLE m0 (zLE m1 (zLE m18 (zLE m22 (zIN (show ¬ (ρ 18 ≥ 8) by omega) (zLE (show fn132 [ρ 1, ρ 18] (γ 1) = (0, ρ 18 + 9 * ρ 1 + 1, γ 2) from l0.symm) ?_)))))))
    refine zLV (γ 2) rfl (zLE (show fn157 [] (γ 2) = (0, 1, γ 3) from l1.symm) (zLV (γ 3) rfl (zIP (show (1 : Int) ≤ 1 by omega) (zIN (show ¬ (3 ≤ γ 3 10 (ρ 18 + 9 * ρ 1 + 1) 4) by omega) (zLE m38 (zLE c4.symm (zIP (show ρ 35 ≠ 1 by omega) ?_)))))))
    refine zLE (show fn114 [] (γ 4) = (0, ρ 47, γ 5) from l2.symm) (zLV (γ 5) rfl (zIP (show (0 : Int) ≤ ρ 47 by omega) (zLV (ρ 47) rfl (zLE m54 (zIP (show ρ 47 ≠ 46 by omega) (zIN (show ¬ (ρ 47 = 44) by omega) (zLE (show fn109 [ρ 48] (γ 5) = (0, 0, γ 6) from l5.symm) ?_)))))))
    refine zLV (γ 6) rfl ?_
    rfl
  exact zGoo_aend hJ hD
theorem vn158a0_18 {S : Nat → zSpc} (hS109 : zIm S 109 sn109) (hS114 : zIm S 114 sn114) (hS132 : zIm S 132 sn132) (hS152 : zIm S 152 sn152) (hS153 : zIm S 153 sn153) (hS157 : zIm S 157 sn157) {a : List Int} {g : rHp} : ∀ (ρ : Nat → Int) (γ : Nat → rHp), jn158 a g 0 (zAg (zNA a158_ 0) ρ) (γ 1) → zO 18 S a g q158a0_18 ρ γ → zGl (fun i vs g1 => jn158 a g i vs g1) (sn158 a g) q158a0_18 ρ γ := by
  intro ρ γ hJ h
  obtain ⟨ha, hg, hr, hf, hm, hc, hl⟩ := h
  have ha : a = [ρ 0, ρ 1, ρ 2, ρ 3, ρ 4, ρ 5, ρ 6, ρ 7, ρ 8, ρ 9, ρ 10, ρ 11, ρ 12, ρ 13, ρ 14, ρ 15, ρ 16, ρ 17] := ha
  subst ha
  subst hg
  have hJ : jn158 [ρ 0, ρ 1, ρ 2, ρ 3, ρ 4, ρ 5, ρ 6, ρ 7, ρ 8, ρ 9, ρ 10, ρ 11, ρ 12, ρ 13, ρ 14, ρ 15, ρ 16, ρ 17] (γ 0) 0 [ρ 0, ρ 1, ρ 2, ρ 3, ρ 4, ρ 5, ρ 6, ρ 7, ρ 8, ρ 9, ρ 10, ρ 11, ρ 12, ρ 13, ρ 14, ρ 15, ρ 16, ρ 17, ρ 18, ρ 19, ρ 20, ρ 21, ρ 22, ρ 23, ρ 24, ρ 25, ρ 26] (γ 1) := hJ
  have r0 : (0 : Int) ≤ ρ 0 ∧ ρ 0 ≤ 60 := zRnA hr 0
  have r1 : (0 : Int) ≤ ρ 1 ∧ ρ 1 ≤ 60 := zRnA hr 1
  have r2 : (0 : Int) ≤ ρ 2 ∧ ρ 2 ≤ 8 := zRnA hr 2
  have r3 : (0 : Int) ≤ ρ 3 ∧ ρ 3 ≤ 2000 := zRnA hr 3
  have r4 : (2 : Int) ≤ ρ 4 ∧ ρ 4 ≤ 2000 := zRnA hr 4
  have r5 : (0 : Int) ≤ ρ 5 ∧ ρ 5 ≤ 0 := zRnA hr 5
  have r6 : ((-1) : Int) ≤ ρ 6 ∧ ρ 6 ≤ 19 := zRnA hr 6
  have r7 : (0 : Int) ≤ ρ 7 ∧ ρ 7 ≤ 4 := zRnA hr 7
  have r8 : ((-1) : Int) ≤ ρ 8 ∧ ρ 8 ≤ 7 := zRnA hr 8
  have r9 : (0 : Int) ≤ ρ 9 ∧ ρ 9 ≤ 8 := zRnA hr 9
  have r10 : (0 : Int) ≤ ρ 10 ∧ ρ 10 ≤ 20 := zRnA hr 10
  have r11 : ((-2147483648) : Int) ≤ ρ 11 ∧ ρ 11 ≤ 2147483647 := zRnA hr 11
  have r12 : ((-2147483648) : Int) ≤ ρ 12 ∧ ρ 12 ≤ 2147483647 := zRnA hr 12
  have r13 : ((-2147483648) : Int) ≤ ρ 13 ∧ ρ 13 ≤ 2147483647 := zRnA hr 13
  have r14 : (0 : Int) ≤ ρ 14 ∧ ρ 14 ≤ 8 := zRnA hr 14
  have r15 : (0 : Int) ≤ ρ 15 ∧ ρ 15 ≤ 32 := zRnA hr 15
  have r16 : (0 : Int) ≤ ρ 16 ∧ ρ 16 ≤ 5120 := zRnA hr 16
  have r17 : ((-2147483648) : Int) ≤ ρ 17 ∧ ρ 17 ≤ 2147483647 := zRnA hr 17
  have r18 : (0 : Int) ≤ ρ 18 ∧ ρ 18 ≤ 7 := zRnA hr 18
  have r19 : (0 : Int) ≤ ρ 19 ∧ ρ 19 ≤ 2000 := zRnA hr 19
  have r20 : (0 : Int) ≤ ρ 20 ∧ ρ 20 ≤ 8 := zRnA hr 20
  have r21 : (0 : Int) ≤ ρ 21 ∧ ρ 21 ≤ 20 := zRnA hr 21
  have r22 : ((-2147483648) : Int) ≤ ρ 22 ∧ ρ 22 ≤ 2147483647 := zRnA hr 22
  have r23 : ((-2147483648) : Int) ≤ ρ 23 ∧ ρ 23 ≤ 2147483647 := zRnA hr 23
  have r24 : (0 : Int) ≤ ρ 24 ∧ ρ 24 ≤ 8 := zRnA hr 24
  have r25 : (0 : Int) ≤ ρ 25 ∧ ρ 25 ≤ 32 := zRnA hr 25
  have r26 : (0 : Int) ≤ ρ 26 ∧ ρ 26 ≤ 5120 := zRnA hr 26
  have r27 : (0 : Int) ≤ ρ 27 ∧ ρ 27 ≤ 8 := zRnA hr 27
  have r28 : ((-1) : Int) ≤ ρ 28 ∧ ρ 28 ≤ 7 := zRnA hr 28
  have r29 : ((-1) : Int) ≤ ρ 29 ∧ ρ 29 ≤ 19 := zRnA hr 29
  have r30 : (0 : Int) ≤ ρ 30 ∧ ρ 30 ≤ 4 := zRnA hr 30
  have r31 : ((-2147483648) : Int) ≤ ρ 31 ∧ ρ 31 ≤ 2147483647 := zRnA hr 31
  have r32 : ((-1) : Int) ≤ ρ 32 ∧ ρ 32 ≤ 3 := zRnA hr 32
  have r33 : (0 : Int) ≤ ρ 33 ∧ ρ 33 ≤ 4 := zRnA hr 33
  have r34 : (3 : Int) ≤ ρ 34 ∧ ρ 34 ≤ 2000 := zRnA hr 34
  have r35 : (2 : Int) ≤ ρ 35 ∧ ρ 35 ≤ 2 := zRnA hr 35
  have r36 : (0 : Int) ≤ ρ 36 ∧ ρ 36 ≤ 19 := zRnA hr 36
  have r37 : (1 : Int) ≤ ρ 37 ∧ ρ 37 ≤ 20 := zRnA hr 37
  have r38 : ((-2147483648) : Int) ≤ ρ 38 ∧ ρ 38 ≤ 2147483647 := zRnA hr 38
  have r39 : ((-2147483648) : Int) ≤ ρ 39 ∧ ρ 39 ≤ 2147483647 := zRnA hr 39
  have r40 : (0 : Int) ≤ ρ 40 ∧ ρ 40 ≤ 8 := zRnA hr 40
  have r41 : (0 : Int) ≤ ρ 41 ∧ ρ 41 ≤ 32 := zRnA hr 41
  have r42 : (0 : Int) ≤ ρ 42 ∧ ρ 42 ≤ 5120 := zRnA hr 42
  have r43 : (1 : Int) ≤ ρ 43 ∧ ρ 43 ≤ 4 := zRnA hr 43
  have r44 : (0 : Int) ≤ ρ 44 ∧ ρ 44 ≤ 1999 := zRnA hr 44
  have r45 : ((-1) : Int) ≤ ρ 45 ∧ ρ 45 ≤ 3 := zRnA hr 45
  have r46 : (0 : Int) ≤ ρ 46 ∧ ρ 46 ≤ 0 := zRnA hr 46
  have r47 : (46 : Int) ≤ ρ 47 ∧ ρ 47 ≤ 46 := zRnA hr 47
  have r48 : (0 : Int) ≤ ρ 48 ∧ ρ 48 ≤ 2000 := zRnA hr 48
  have r49 : (0 : Int) ≤ ρ 49 ∧ ρ 49 ≤ 4 := zRnA hr 49
  have r50 : ((-2147483648) : Int) ≤ ρ 50 ∧ ρ 50 ≤ 2147483647 := zRnA hr 50
  have f0 : (0 : Int) ≤ ρ 48 + -ρ 34 := zAllA hf 0
  have f1 : (0 : Int) ≤ -ρ 48 + ρ 4 + (-1) := zAllA hf 1
  have f2 : (0 : Int) ≤ -ρ 34 + ρ 4 + (-1) := zAllA hf 2
  have f3 : (0 : Int) ≤ -ρ 43 + ρ 34 + (-1) := zAllA hf 3
  have f4 : (0 : Int) ≤ -ρ 44 + ρ 34 + (-1) := zAllA hf 4
  have f5 : (0 : Int) ≤ -ρ 45 + ρ 34 + (-1) := zAllA hf 5
  have f6 : (0 : Int) ≤ ρ 34 + -ρ 19 + (-1) := zAllA hf 6
  have f7 : (0 : Int) ≤ ρ 37 + -ρ 36 + (-1) := zAllA hf 7
  have f8 : (0 : Int) ≤ ρ 37 + -ρ 21 := zAllA hf 8
  have f9 : (0 : Int) ≤ ρ 40 + -ρ 24 := zAllA hf 9
  have f10 : (0 : Int) ≤ ρ 41 + -ρ 25 := zAllA hf 10
  have f11 : (0 : Int) ≤ ρ 42 + -ρ 26 := zAllA hf 11
  have f12 : (0 : Int) ≤ ρ 44 + -ρ 19 := zAllA hf 12
  have f13 : (0 : Int) ≤ -ρ 34 + ρ 4 := zAllA hf 13
  have f14 : (0 : Int) ≤ -ρ 35 + ρ 4 + (-1) := zAllA hf 14
  have f15 : (0 : Int) ≤ -ρ 19 + ρ 4 + (-1) := zAllA hf 15
  have f16 : (0 : Int) ≤ -ρ 5 + ρ 4 + (-1) := zAllA hf 16
  have f17 : (0 : Int) ≤ -ρ 32 + ρ 4 := zAllA hf 17
  have f18 : (0 : Int) ≤ -ρ 36 + ρ 21 := zAllA hf 18
  have f19 : (0 : Int) ≤ -ρ 18 + ρ 4 := zAllA hf 19
  have f20 : (0 : Int) ≤ ρ 26 + -ρ 16 := zAllA hf 20
  have f21 : (0 : Int) ≤ ρ 25 + -ρ 15 := zAllA hf 21
  have f22 : (0 : Int) ≤ ρ 24 + -ρ 14 := zAllA hf 22
  have f23 : (0 : Int) ≤ ρ 21 + -ρ 10 := zAllA hf 23
  have f24 : (0 : Int) ≤ ρ 19 + -ρ 3 := zAllA hf 24
  have f25 : (0 : Int) ≤ ρ 19 + -ρ 18 := zAllA hf 25
  have f26 : (0 : Int) ≤ -ρ 20 + ρ 18 := zAllA hf 26
  have m0 : γ 0 1 0 10 = ρ 0 := zAllA hm 0
  have m1 : γ 0 40 0 (ρ 0) = ρ 1 := zAllA hm 1
  have m2 : γ 0 9 (ρ 1) 2 = ρ 2 := zAllA hm 2
  have m3 : γ 0 2 0 6 = ρ 3 := zAllA hm 3
  have m4 : γ 0 2 0 3 = ρ 4 := zAllA hm 4
  have m5 : γ 0 2 0 7 = ρ 5 := zAllA hm 5
  have m6 : γ 0 10 (9 * ρ 1) 8 = ρ 6 := zAllA hm 6
  have m7 : γ 0 10 (9 * ρ 1) 12 = ρ 7 := zAllA hm 7
  have m8 : γ 0 10 (9 * ρ 1) 14 = ρ 8 := zAllA hm 8
  have m9 : γ 0 9 (ρ 1) 3 = ρ 9 := zAllA hm 9
  have m10 : γ 0 1 0 7 = ρ 10 := zAllA hm 10
  have m11 : γ 0 2 0 4 = ρ 11 := zAllA hm 11
  have m12 : γ 0 2 0 5 = ρ 12 := zAllA hm 12
  have m13 : γ 0 2 0 9 = ρ 13 := zAllA hm 13
  have m14 : γ 0 2 0 13 = ρ 14 := zAllA hm 14
  have m15 : γ 0 2 0 16 = ρ 15 := zAllA hm 15
  have m16 : γ 0 3 0 1 = ρ 16 := zAllA hm 16
  have m17 : γ 0 10 (9 * ρ 1) 15 = ρ 17 := zAllA hm 17
  have m18 : γ 1 9 (ρ 1) 2 = ρ 18 := zAllA hm 18
  have m19 : γ 1 2 0 6 = ρ 19 := zAllA hm 19
  have m20 : γ 1 10 (9 * ρ 1) 8 = ρ 6 := zAllA hm 20
  have m21 : γ 1 10 (9 * ρ 1) 12 = ρ 7 := zAllA hm 21
  have m22 : γ 1 9 (ρ 1) 3 = ρ 20 := zAllA hm 22
  have m23 : γ 1 1 0 7 = ρ 21 := zAllA hm 23
  have m24 : γ 1 2 0 4 = ρ 11 := zAllA hm 24
  have m25 : γ 1 2 0 5 = ρ 22 := zAllA hm 25
  have m26 : γ 1 2 0 9 = ρ 23 := zAllA hm 26
  have m27 : γ 1 2 0 13 = ρ 24 := zAllA hm 27
  have m28 : γ 1 2 0 16 = ρ 25 := zAllA hm 28
  have m29 : γ 1 3 0 1 = ρ 26 := zAllA hm 29
  have m30 : γ 1 10 (ρ 18 + 9 * ρ 1 + 1) 4 = ρ 27 := zAllA hm 30
  have m31 : γ 1 10 (ρ 18 + 9 * ρ 1 + 1) 11 = ρ 28 := zAllA hm 31
  have m32 : γ 1 10 (ρ 18 + 9 * ρ 1 + 1) 8 = ρ 29 := zAllA hm 32
  have m33 : γ 1 10 (ρ 18 + 9 * ρ 1 + 1) 5 = ρ 30 := zAllA hm 33
  have m34 : γ 1 10 (ρ 18 + 9 * ρ 1 + 1) 7 = ρ 31 := zAllA hm 34
  have m35 : γ 1 10 (ρ 18 + 9 * ρ 1 + 1) 9 = ρ 32 := zAllA hm 35
  have m36 : γ 1 10 (ρ 18 + 9 * ρ 1 + 1) 12 = ρ 33 := zAllA hm 36
  have m37 : γ 3 2 0 6 = ρ 34 := zAllA hm 37
  have m38 : γ 3 10 (ρ 18 + 9 * ρ 1 + 1) 4 = ρ 35 := zAllA hm 38
  have m39 : γ 3 10 (ρ 18 + 9 * ρ 1 + 1) 11 = ρ 28 := zAllA hm 39
  have m40 : γ 3 10 (ρ 18 + 9 * ρ 1 + 1) 8 = ρ 36 := zAllA hm 40
  have m41 : γ 3 10 (9 * ρ 1) 8 = ρ 6 := zAllA hm 41
  have m42 : γ 3 10 (9 * ρ 1) 12 = ρ 7 := zAllA hm 42
  have m43 : γ 3 1 0 7 = ρ 37 := zAllA hm 43
  have m44 : γ 3 2 0 4 = ρ 11 := zAllA hm 44
  have m45 : γ 3 2 0 5 = ρ 38 := zAllA hm 45
  have m46 : γ 3 2 0 9 = ρ 39 := zAllA hm 46
  have m47 : γ 3 2 0 13 = ρ 40 := zAllA hm 47
  have m48 : γ 3 2 0 16 = ρ 41 := zAllA hm 48
  have m49 : γ 3 3 0 1 = ρ 42 := zAllA hm 49
  have m50 : γ 3 10 (ρ 18 + 9 * ρ 1 + 1) 5 = ρ 43 := zAllA hm 50
  have m51 : γ 3 10 (ρ 18 + 9 * ρ 1 + 1) 7 = ρ 44 := zAllA hm 51
  have m52 : γ 3 10 (ρ 18 + 9 * ρ 1 + 1) 9 = ρ 45 := zAllA hm 52
  have m53 : γ 3 10 (ρ 18 + 9 * ρ 1 + 1) 12 = ρ 46 := zAllA hm 53
  have m54 : γ 5 2 0 6 = ρ 48 := zAllA hm 54
  have m55 : γ 3 10 (9 * ρ 1) 5 = ρ 49 := zAllA hm 55
  have m56 : γ 7 2 0 4 = ρ 50 := zAllA hm 56
  have c1 : ∀ (G : Nat) (k j : Int), ¬ rMdP m107_ G j → γ 1 G k j = γ 0 G k j := And.right (zChA hc 6)
  have c2 : ∀ (G : Nat) (k j : Int), ¬ rMdP m0_ G j → γ 2 G k j = γ 1 G k j := And.right (zChA hc 5)
  have c3 : ∀ (G : Nat) (k j : Int), ¬ rMdP m106_ G j → γ 3 G k j = γ 2 G k j := And.right (zChA hc 4)
  have c4 : γ 4 = rUp (γ 3) 9 (ρ 1) 2 (ρ 18 + 1) := And.right (zChA hc 3)
  have c5 : ∀ (G : Nat) (k j : Int), ¬ rMdP m77_ G j → γ 5 G k j = γ 4 G k j := And.right (zChA hc 2)
  have c6 : γ 6 = rUp (γ 5) 2 0 6 (ρ 48 + 1) := And.right (zChA hc 1)
  have c7 : ∀ (G : Nat) (k j : Int), ¬ rMdP m72_ G j → γ 7 G k j = γ 6 G k j := And.right (zChA hc 0)
  have l0 : sn132 [ρ 1, ρ 18] (γ 1) 0 (ρ 18 + 9 * ρ 1 + 1) (γ 2) := hS132 _ _ _ _ _ (zAllA hl 0)
  have l1 : sn157 [ρ 0, ρ 1, ρ 18, ρ 19, ρ 4, ρ 27, ρ 28, ρ 29, ρ 5, ρ 6, ρ 7, ρ 21, ρ 11, ρ 22, ρ 23, ρ 24, ρ 25, ρ 26, ρ 30, ρ 31, ρ 32, ρ 33] (γ 2) 0 1 (γ 3) := hS157 _ _ _ _ _ (zAllA hl 1)
  have l2 : sn114 [ρ 34, ρ 4] (γ 4) 0 (ρ 47) (γ 5) := hS114 _ _ _ _ _ (zAllA hl 2)
  have l3 : sn153 [9 * ρ 1, ρ 11, ρ 38, ρ 49, ρ 7, ρ 8, ρ 17] (γ 6) 0 0 (γ 7) := hS153 _ _ _ _ _ (zAllA hl 3)
  show sn158 [ρ 0, ρ 1, ρ 2, ρ 3, ρ 4, ρ 5, ρ 6, ρ 7, ρ 8, ρ 9, ρ 10, ρ 11, ρ 12, ρ 13, ρ 14, ρ 15, ρ 16, ρ 17] (γ 0) 0 0 (γ 7)
  have hD : en158 (γ 0) (0, [], γ 1) = .inr (0, 0, γ 7) := by
    unfold en158
    refine zIP (show (0 : Nat) = 0 by decide) (zLV (γ 1) rfl (zLE m0 (zLE m1 (zLE m18 (zLE m22 (zIN (show ¬ (ρ 18 ≥ 8) by omega) (zLE (show fn132 [ρ 1, ρ 18] (γ 1) = (0, ρ 18 + 9 * ρ 1 + 1, γ 2) from l0.symm) ?_)))))))
    refine zLV (γ 2) rfl (zLE (show fn157 [] (γ 2) = (0, 1, γ 3) from l1.symm) (zLV (γ 3) rfl (zIP (show (1 : Int) ≤ 1 by omega) (zIN (show ¬ (3 ≤ γ 3 10 (ρ 18 + 9 * ρ 1 + 1) 4) by omega) (zLE m38 (zLE c4.symm (zIP (show ρ 35 ≠ 1 by omega) ?_)))))))
    refine zLE (show fn114 [] (γ 4) = (0, ρ 47, γ 5) from l2.symm) (zLV (γ 5) rfl (zIP (show (0 : Int) ≤ ρ 47 by omega) (zLV (ρ 47) rfl (zLE m54 (zIN (show ¬ (ρ 47 ≠ 46) by omega) (zLE c6.symm (zLE (show fn153 [9 * ρ 1] (γ 6) = (0, 0, γ 7) from l3.symm) ?_)))))))
    refine zLV (γ 7) rfl (zIN (show ¬ ((1 : Int) ≤ 0) by omega) ?_)
    rfl
  exact zGoo_aend hJ hD
theorem vn158a0_19 {S : Nat → zSpc} (hS109 : zIm S 109 sn109) (hS114 : zIm S 114 sn114) (hS132 : zIm S 132 sn132) (hS152 : zIm S 152 sn152) (hS153 : zIm S 153 sn153) (hS157 : zIm S 157 sn157) {a : List Int} {g : rHp} : ∀ (ρ : Nat → Int) (γ : Nat → rHp), jn158 a g 0 (zAg (zNA a158_ 0) ρ) (γ 1) → zO 18 S a g q158a0_19 ρ γ → zGl (fun i vs g1 => jn158 a g i vs g1) (sn158 a g) q158a0_19 ρ γ := by
  intro ρ γ hJ h
  obtain ⟨ha, hg, hr, hf, hm, hc, hl⟩ := h
  have ha : a = [ρ 0, ρ 1, ρ 2, ρ 3, ρ 4, ρ 5, ρ 6, ρ 7, ρ 8, ρ 9, ρ 10, ρ 11, ρ 12, ρ 13, ρ 14, ρ 15, ρ 16, ρ 17] := ha
  subst ha
  subst hg
  have hJ : jn158 [ρ 0, ρ 1, ρ 2, ρ 3, ρ 4, ρ 5, ρ 6, ρ 7, ρ 8, ρ 9, ρ 10, ρ 11, ρ 12, ρ 13, ρ 14, ρ 15, ρ 16, ρ 17] (γ 0) 0 [ρ 0, ρ 1, ρ 2, ρ 3, ρ 4, ρ 5, ρ 6, ρ 7, ρ 8, ρ 9, ρ 10, ρ 11, ρ 12, ρ 13, ρ 14, ρ 15, ρ 16, ρ 17, ρ 18, ρ 19, ρ 20, ρ 21, ρ 22, ρ 23, ρ 24, ρ 25, ρ 26] (γ 1) := hJ
  have r0 : (0 : Int) ≤ ρ 0 ∧ ρ 0 ≤ 60 := zRnA hr 0
  have r1 : (0 : Int) ≤ ρ 1 ∧ ρ 1 ≤ 60 := zRnA hr 1
  have r2 : (0 : Int) ≤ ρ 2 ∧ ρ 2 ≤ 8 := zRnA hr 2
  have r3 : (0 : Int) ≤ ρ 3 ∧ ρ 3 ≤ 2000 := zRnA hr 3
  have r4 : (2 : Int) ≤ ρ 4 ∧ ρ 4 ≤ 2000 := zRnA hr 4
  have r5 : (0 : Int) ≤ ρ 5 ∧ ρ 5 ≤ 0 := zRnA hr 5
  have r6 : ((-1) : Int) ≤ ρ 6 ∧ ρ 6 ≤ 19 := zRnA hr 6
  have r7 : (0 : Int) ≤ ρ 7 ∧ ρ 7 ≤ 4 := zRnA hr 7
  have r8 : ((-1) : Int) ≤ ρ 8 ∧ ρ 8 ≤ 7 := zRnA hr 8
  have r9 : (0 : Int) ≤ ρ 9 ∧ ρ 9 ≤ 8 := zRnA hr 9
  have r10 : (0 : Int) ≤ ρ 10 ∧ ρ 10 ≤ 20 := zRnA hr 10
  have r11 : ((-2147483648) : Int) ≤ ρ 11 ∧ ρ 11 ≤ 2147483647 := zRnA hr 11
  have r12 : ((-2147483648) : Int) ≤ ρ 12 ∧ ρ 12 ≤ 2147483647 := zRnA hr 12
  have r13 : ((-2147483648) : Int) ≤ ρ 13 ∧ ρ 13 ≤ 2147483647 := zRnA hr 13
  have r14 : (0 : Int) ≤ ρ 14 ∧ ρ 14 ≤ 8 := zRnA hr 14
  have r15 : (0 : Int) ≤ ρ 15 ∧ ρ 15 ≤ 32 := zRnA hr 15
  have r16 : (0 : Int) ≤ ρ 16 ∧ ρ 16 ≤ 5120 := zRnA hr 16
  have r17 : ((-2147483648) : Int) ≤ ρ 17 ∧ ρ 17 ≤ 2147483647 := zRnA hr 17
  have r18 : (0 : Int) ≤ ρ 18 ∧ ρ 18 ≤ 7 := zRnA hr 18
  have r19 : (0 : Int) ≤ ρ 19 ∧ ρ 19 ≤ 2000 := zRnA hr 19
  have r20 : (0 : Int) ≤ ρ 20 ∧ ρ 20 ≤ 8 := zRnA hr 20
  have r21 : (0 : Int) ≤ ρ 21 ∧ ρ 21 ≤ 20 := zRnA hr 21
  have r22 : ((-2147483648) : Int) ≤ ρ 22 ∧ ρ 22 ≤ 2147483647 := zRnA hr 22
  have r23 : ((-2147483648) : Int) ≤ ρ 23 ∧ ρ 23 ≤ 2147483647 := zRnA hr 23
  have r24 : (0 : Int) ≤ ρ 24 ∧ ρ 24 ≤ 8 := zRnA hr 24
  have r25 : (0 : Int) ≤ ρ 25 ∧ ρ 25 ≤ 32 := zRnA hr 25
  have r26 : (0 : Int) ≤ ρ 26 ∧ ρ 26 ≤ 5120 := zRnA hr 26
  have r27 : (0 : Int) ≤ ρ 27 ∧ ρ 27 ≤ 8 := zRnA hr 27
  have r28 : ((-1) : Int) ≤ ρ 28 ∧ ρ 28 ≤ 7 := zRnA hr 28
  have r29 : ((-1) : Int) ≤ ρ 29 ∧ ρ 29 ≤ 19 := zRnA hr 29
  have r30 : (0 : Int) ≤ ρ 30 ∧ ρ 30 ≤ 4 := zRnA hr 30
  have r31 : ((-2147483648) : Int) ≤ ρ 31 ∧ ρ 31 ≤ 2147483647 := zRnA hr 31
  have r32 : ((-1) : Int) ≤ ρ 32 ∧ ρ 32 ≤ 3 := zRnA hr 32
  have r33 : (0 : Int) ≤ ρ 33 ∧ ρ 33 ≤ 4 := zRnA hr 33
  have r34 : (3 : Int) ≤ ρ 34 ∧ ρ 34 ≤ 2000 := zRnA hr 34
  have r35 : (2 : Int) ≤ ρ 35 ∧ ρ 35 ≤ 2 := zRnA hr 35
  have r36 : (0 : Int) ≤ ρ 36 ∧ ρ 36 ≤ 19 := zRnA hr 36
  have r37 : (1 : Int) ≤ ρ 37 ∧ ρ 37 ≤ 20 := zRnA hr 37
  have r38 : ((-2147483648) : Int) ≤ ρ 38 ∧ ρ 38 ≤ 2147483647 := zRnA hr 38
  have r39 : ((-2147483648) : Int) ≤ ρ 39 ∧ ρ 39 ≤ 2147483647 := zRnA hr 39
  have r40 : (0 : Int) ≤ ρ 40 ∧ ρ 40 ≤ 8 := zRnA hr 40
  have r41 : (0 : Int) ≤ ρ 41 ∧ ρ 41 ≤ 32 := zRnA hr 41
  have r42 : (0 : Int) ≤ ρ 42 ∧ ρ 42 ≤ 5120 := zRnA hr 42
  have r43 : (1 : Int) ≤ ρ 43 ∧ ρ 43 ≤ 4 := zRnA hr 43
  have r44 : (0 : Int) ≤ ρ 44 ∧ ρ 44 ≤ 1999 := zRnA hr 44
  have r45 : ((-1) : Int) ≤ ρ 45 ∧ ρ 45 ≤ 3 := zRnA hr 45
  have r46 : (0 : Int) ≤ ρ 46 ∧ ρ 46 ≤ 0 := zRnA hr 46
  have r47 : (46 : Int) ≤ ρ 47 ∧ ρ 47 ≤ 46 := zRnA hr 47
  have r48 : (0 : Int) ≤ ρ 48 ∧ ρ 48 ≤ 2000 := zRnA hr 48
  have r49 : (0 : Int) ≤ ρ 49 ∧ ρ 49 ≤ 4 := zRnA hr 49
  have r50 : ((-2147483648) : Int) ≤ ρ 50 ∧ ρ 50 ≤ 2147483647 := zRnA hr 50
  have f0 : (0 : Int) ≤ ρ 48 + -ρ 34 := zAllA hf 0
  have f1 : (0 : Int) ≤ -ρ 48 + ρ 4 + (-1) := zAllA hf 1
  have f2 : (0 : Int) ≤ -ρ 34 + ρ 4 + (-1) := zAllA hf 2
  have f3 : (0 : Int) ≤ -ρ 43 + ρ 34 + (-1) := zAllA hf 3
  have f4 : (0 : Int) ≤ -ρ 44 + ρ 34 + (-1) := zAllA hf 4
  have f5 : (0 : Int) ≤ -ρ 45 + ρ 34 + (-1) := zAllA hf 5
  have f6 : (0 : Int) ≤ ρ 34 + -ρ 19 + (-1) := zAllA hf 6
  have f7 : (0 : Int) ≤ ρ 37 + -ρ 36 + (-1) := zAllA hf 7
  have f8 : (0 : Int) ≤ ρ 37 + -ρ 21 := zAllA hf 8
  have f9 : (0 : Int) ≤ ρ 40 + -ρ 24 := zAllA hf 9
  have f10 : (0 : Int) ≤ ρ 41 + -ρ 25 := zAllA hf 10
  have f11 : (0 : Int) ≤ ρ 42 + -ρ 26 := zAllA hf 11
  have f12 : (0 : Int) ≤ ρ 44 + -ρ 19 := zAllA hf 12
  have f13 : (0 : Int) ≤ -ρ 34 + ρ 4 := zAllA hf 13
  have f14 : (0 : Int) ≤ -ρ 35 + ρ 4 + (-1) := zAllA hf 14
  have f15 : (0 : Int) ≤ -ρ 19 + ρ 4 + (-1) := zAllA hf 15
  have f16 : (0 : Int) ≤ -ρ 5 + ρ 4 + (-1) := zAllA hf 16
  have f17 : (0 : Int) ≤ -ρ 32 + ρ 4 := zAllA hf 17
  have f18 : (0 : Int) ≤ -ρ 36 + ρ 21 := zAllA hf 18
  have f19 : (0 : Int) ≤ -ρ 18 + ρ 4 := zAllA hf 19
  have f20 : (0 : Int) ≤ ρ 26 + -ρ 16 := zAllA hf 20
  have f21 : (0 : Int) ≤ ρ 25 + -ρ 15 := zAllA hf 21
  have f22 : (0 : Int) ≤ ρ 24 + -ρ 14 := zAllA hf 22
  have f23 : (0 : Int) ≤ ρ 21 + -ρ 10 := zAllA hf 23
  have f24 : (0 : Int) ≤ ρ 19 + -ρ 3 := zAllA hf 24
  have f25 : (0 : Int) ≤ ρ 19 + -ρ 18 := zAllA hf 25
  have f26 : (0 : Int) ≤ -ρ 20 + ρ 18 := zAllA hf 26
  have m0 : γ 0 1 0 10 = ρ 0 := zAllA hm 0
  have m1 : γ 0 40 0 (ρ 0) = ρ 1 := zAllA hm 1
  have m2 : γ 0 9 (ρ 1) 2 = ρ 2 := zAllA hm 2
  have m3 : γ 0 2 0 6 = ρ 3 := zAllA hm 3
  have m4 : γ 0 2 0 3 = ρ 4 := zAllA hm 4
  have m5 : γ 0 2 0 7 = ρ 5 := zAllA hm 5
  have m6 : γ 0 10 (9 * ρ 1) 8 = ρ 6 := zAllA hm 6
  have m7 : γ 0 10 (9 * ρ 1) 12 = ρ 7 := zAllA hm 7
  have m8 : γ 0 10 (9 * ρ 1) 14 = ρ 8 := zAllA hm 8
  have m9 : γ 0 9 (ρ 1) 3 = ρ 9 := zAllA hm 9
  have m10 : γ 0 1 0 7 = ρ 10 := zAllA hm 10
  have m11 : γ 0 2 0 4 = ρ 11 := zAllA hm 11
  have m12 : γ 0 2 0 5 = ρ 12 := zAllA hm 12
  have m13 : γ 0 2 0 9 = ρ 13 := zAllA hm 13
  have m14 : γ 0 2 0 13 = ρ 14 := zAllA hm 14
  have m15 : γ 0 2 0 16 = ρ 15 := zAllA hm 15
  have m16 : γ 0 3 0 1 = ρ 16 := zAllA hm 16
  have m17 : γ 0 10 (9 * ρ 1) 15 = ρ 17 := zAllA hm 17
  have m18 : γ 1 9 (ρ 1) 2 = ρ 18 := zAllA hm 18
  have m19 : γ 1 2 0 6 = ρ 19 := zAllA hm 19
  have m20 : γ 1 10 (9 * ρ 1) 8 = ρ 6 := zAllA hm 20
  have m21 : γ 1 10 (9 * ρ 1) 12 = ρ 7 := zAllA hm 21
  have m22 : γ 1 9 (ρ 1) 3 = ρ 20 := zAllA hm 22
  have m23 : γ 1 1 0 7 = ρ 21 := zAllA hm 23
  have m24 : γ 1 2 0 4 = ρ 11 := zAllA hm 24
  have m25 : γ 1 2 0 5 = ρ 22 := zAllA hm 25
  have m26 : γ 1 2 0 9 = ρ 23 := zAllA hm 26
  have m27 : γ 1 2 0 13 = ρ 24 := zAllA hm 27
  have m28 : γ 1 2 0 16 = ρ 25 := zAllA hm 28
  have m29 : γ 1 3 0 1 = ρ 26 := zAllA hm 29
  have m30 : γ 1 10 (ρ 18 + 9 * ρ 1 + 1) 4 = ρ 27 := zAllA hm 30
  have m31 : γ 1 10 (ρ 18 + 9 * ρ 1 + 1) 11 = ρ 28 := zAllA hm 31
  have m32 : γ 1 10 (ρ 18 + 9 * ρ 1 + 1) 8 = ρ 29 := zAllA hm 32
  have m33 : γ 1 10 (ρ 18 + 9 * ρ 1 + 1) 5 = ρ 30 := zAllA hm 33
  have m34 : γ 1 10 (ρ 18 + 9 * ρ 1 + 1) 7 = ρ 31 := zAllA hm 34
  have m35 : γ 1 10 (ρ 18 + 9 * ρ 1 + 1) 9 = ρ 32 := zAllA hm 35
  have m36 : γ 1 10 (ρ 18 + 9 * ρ 1 + 1) 12 = ρ 33 := zAllA hm 36
  have m37 : γ 3 2 0 6 = ρ 34 := zAllA hm 37
  have m38 : γ 3 10 (ρ 18 + 9 * ρ 1 + 1) 4 = ρ 35 := zAllA hm 38
  have m39 : γ 3 10 (ρ 18 + 9 * ρ 1 + 1) 11 = ρ 28 := zAllA hm 39
  have m40 : γ 3 10 (ρ 18 + 9 * ρ 1 + 1) 8 = ρ 36 := zAllA hm 40
  have m41 : γ 3 10 (9 * ρ 1) 8 = ρ 6 := zAllA hm 41
  have m42 : γ 3 10 (9 * ρ 1) 12 = ρ 7 := zAllA hm 42
  have m43 : γ 3 1 0 7 = ρ 37 := zAllA hm 43
  have m44 : γ 3 2 0 4 = ρ 11 := zAllA hm 44
  have m45 : γ 3 2 0 5 = ρ 38 := zAllA hm 45
  have m46 : γ 3 2 0 9 = ρ 39 := zAllA hm 46
  have m47 : γ 3 2 0 13 = ρ 40 := zAllA hm 47
  have m48 : γ 3 2 0 16 = ρ 41 := zAllA hm 48
  have m49 : γ 3 3 0 1 = ρ 42 := zAllA hm 49
  have m50 : γ 3 10 (ρ 18 + 9 * ρ 1 + 1) 5 = ρ 43 := zAllA hm 50
  have m51 : γ 3 10 (ρ 18 + 9 * ρ 1 + 1) 7 = ρ 44 := zAllA hm 51
  have m52 : γ 3 10 (ρ 18 + 9 * ρ 1 + 1) 9 = ρ 45 := zAllA hm 52
  have m53 : γ 3 10 (ρ 18 + 9 * ρ 1 + 1) 12 = ρ 46 := zAllA hm 53
  have m54 : γ 5 2 0 6 = ρ 48 := zAllA hm 54
  have m55 : γ 3 10 (9 * ρ 1) 5 = ρ 49 := zAllA hm 55
  have m56 : γ 7 2 0 4 = ρ 11 := zAllA hm 56
  have m57 : γ 8 2 0 4 = ρ 50 := zAllA hm 57
  have c1 : ∀ (G : Nat) (k j : Int), ¬ rMdP m107_ G j → γ 1 G k j = γ 0 G k j := And.right (zChA hc 7)
  have c2 : ∀ (G : Nat) (k j : Int), ¬ rMdP m0_ G j → γ 2 G k j = γ 1 G k j := And.right (zChA hc 6)
  have c3 : ∀ (G : Nat) (k j : Int), ¬ rMdP m106_ G j → γ 3 G k j = γ 2 G k j := And.right (zChA hc 5)
  have c4 : γ 4 = rUp (γ 3) 9 (ρ 1) 2 (ρ 18 + 1) := And.right (zChA hc 4)
  have c5 : ∀ (G : Nat) (k j : Int), ¬ rMdP m77_ G j → γ 5 G k j = γ 4 G k j := And.right (zChA hc 3)
  have c6 : γ 6 = rUp (γ 5) 2 0 6 (ρ 48 + 1) := And.right (zChA hc 2)
  have c7 : ∀ (G : Nat) (k j : Int), ¬ rMdP m72_ G j → γ 7 G k j = γ 6 G k j := And.right (zChA hc 1)
  have c8 : ∀ (G : Nat) (k j : Int), ¬ rMdP m72_ G j → γ 8 G k j = γ 7 G k j := And.right (zChA hc 0)
  have l0 : sn132 [ρ 1, ρ 18] (γ 1) 0 (ρ 18 + 9 * ρ 1 + 1) (γ 2) := hS132 _ _ _ _ _ (zAllA hl 0)
  have l1 : sn157 [ρ 0, ρ 1, ρ 18, ρ 19, ρ 4, ρ 27, ρ 28, ρ 29, ρ 5, ρ 6, ρ 7, ρ 21, ρ 11, ρ 22, ρ 23, ρ 24, ρ 25, ρ 26, ρ 30, ρ 31, ρ 32, ρ 33] (γ 2) 0 1 (γ 3) := hS157 _ _ _ _ _ (zAllA hl 1)
  have l2 : sn114 [ρ 34, ρ 4] (γ 4) 0 (ρ 47) (γ 5) := hS114 _ _ _ _ _ (zAllA hl 2)
  have l3 : sn153 [9 * ρ 1, ρ 11, ρ 38, ρ 49, ρ 7, ρ 8, ρ 17] (γ 6) 0 1 (γ 7) := hS153 _ _ _ _ _ (zAllA hl 3)
  have l4 : sn152 [ρ 11, ρ 41] (γ 7) 0 0 (γ 8) := hS152 _ _ _ _ _ (zAllA hl 4)
  show sn158 [ρ 0, ρ 1, ρ 2, ρ 3, ρ 4, ρ 5, ρ 6, ρ 7, ρ 8, ρ 9, ρ 10, ρ 11, ρ 12, ρ 13, ρ 14, ρ 15, ρ 16, ρ 17] (γ 0) 0 0 (γ 8)
  have hD : en158 (γ 0) (0, [], γ 1) = .inr (0, 0, γ 8) := by
    unfold en158
    refine zIP (show (0 : Nat) = 0 by decide) (zLV (γ 1) rfl (zLE m0 (zLE m1 (zLE m18 (zLE m22 (zIN (show ¬ (ρ 18 ≥ 8) by omega) (zLE (show fn132 [ρ 1, ρ 18] (γ 1) = (0, ρ 18 + 9 * ρ 1 + 1, γ 2) from l0.symm) ?_)))))))
    refine zLV (γ 2) rfl (zLE (show fn157 [] (γ 2) = (0, 1, γ 3) from l1.symm) (zLV (γ 3) rfl (zIP (show (1 : Int) ≤ 1 by omega) (zIN (show ¬ (3 ≤ γ 3 10 (ρ 18 + 9 * ρ 1 + 1) 4) by omega) (zLE m38 (zLE c4.symm (zIP (show ρ 35 ≠ 1 by omega) ?_)))))))
    refine zLE (show fn114 [] (γ 4) = (0, ρ 47, γ 5) from l2.symm) (zLV (γ 5) rfl (zIP (show (0 : Int) ≤ ρ 47 by omega) (zLV (ρ 47) rfl (zLE m54 (zIN (show ¬ (ρ 47 ≠ 46) by omega) (zLE c6.symm (zLE (show fn153 [9 * ρ 1] (γ 6) = (0, 1, γ 7) from l3.symm) ?_)))))))
    refine zLV (γ 7) rfl (zIP (show (1 : Int) ≤ 1 by omega) (zLE (show fn152 [] (γ 7) = (0, 0, γ 8) from l4.symm) (zLV (γ 8) rfl (zIN (show ¬ ((1 : Int) ≤ 0) by omega) ?_))))
    rfl
  exact zGoo_aend hJ hD
theorem vn158a0_20 {S : Nat → zSpc} (hS109 : zIm S 109 sn109) (hS114 : zIm S 114 sn114) (hS132 : zIm S 132 sn132) (hS152 : zIm S 152 sn152) (hS153 : zIm S 153 sn153) (hS157 : zIm S 157 sn157) {a : List Int} {g : rHp} : ∀ (ρ : Nat → Int) (γ : Nat → rHp), jn158 a g 0 (zAg (zNA a158_ 0) ρ) (γ 1) → zO 18 S a g q158a0_20 ρ γ → zGl (fun i vs g1 => jn158 a g i vs g1) (sn158 a g) q158a0_20 ρ γ := by
  intro ρ γ hJ h
  obtain ⟨ha, hg, hr, hf, hm, hc, hl⟩ := h
  have ha : a = [ρ 0, ρ 1, ρ 2, ρ 3, ρ 4, ρ 5, ρ 6, ρ 7, ρ 8, ρ 9, ρ 10, ρ 11, ρ 12, ρ 13, ρ 14, ρ 15, ρ 16, ρ 17] := ha
  subst ha
  subst hg
  have hJ : jn158 [ρ 0, ρ 1, ρ 2, ρ 3, ρ 4, ρ 5, ρ 6, ρ 7, ρ 8, ρ 9, ρ 10, ρ 11, ρ 12, ρ 13, ρ 14, ρ 15, ρ 16, ρ 17] (γ 0) 0 [ρ 0, ρ 1, ρ 2, ρ 3, ρ 4, ρ 5, ρ 6, ρ 7, ρ 8, ρ 9, ρ 10, ρ 11, ρ 12, ρ 13, ρ 14, ρ 15, ρ 16, ρ 17, ρ 18, ρ 19, ρ 20, ρ 21, ρ 22, ρ 23, ρ 24, ρ 25, ρ 26] (γ 1) := hJ
  have r0 : (0 : Int) ≤ ρ 0 ∧ ρ 0 ≤ 60 := zRnA hr 0
  have r1 : (0 : Int) ≤ ρ 1 ∧ ρ 1 ≤ 60 := zRnA hr 1
  have r2 : (0 : Int) ≤ ρ 2 ∧ ρ 2 ≤ 8 := zRnA hr 2
  have r3 : (0 : Int) ≤ ρ 3 ∧ ρ 3 ≤ 2000 := zRnA hr 3
  have r4 : (2 : Int) ≤ ρ 4 ∧ ρ 4 ≤ 2000 := zRnA hr 4
  have r5 : (0 : Int) ≤ ρ 5 ∧ ρ 5 ≤ 0 := zRnA hr 5
  have r6 : ((-1) : Int) ≤ ρ 6 ∧ ρ 6 ≤ 19 := zRnA hr 6
  have r7 : (0 : Int) ≤ ρ 7 ∧ ρ 7 ≤ 4 := zRnA hr 7
  have r8 : ((-1) : Int) ≤ ρ 8 ∧ ρ 8 ≤ 7 := zRnA hr 8
  have r9 : (0 : Int) ≤ ρ 9 ∧ ρ 9 ≤ 8 := zRnA hr 9
  have r10 : (0 : Int) ≤ ρ 10 ∧ ρ 10 ≤ 20 := zRnA hr 10
  have r11 : ((-2147483648) : Int) ≤ ρ 11 ∧ ρ 11 ≤ 2147483647 := zRnA hr 11
  have r12 : ((-2147483648) : Int) ≤ ρ 12 ∧ ρ 12 ≤ 2147483647 := zRnA hr 12
  have r13 : ((-2147483648) : Int) ≤ ρ 13 ∧ ρ 13 ≤ 2147483647 := zRnA hr 13
  have r14 : (0 : Int) ≤ ρ 14 ∧ ρ 14 ≤ 8 := zRnA hr 14
  have r15 : (0 : Int) ≤ ρ 15 ∧ ρ 15 ≤ 32 := zRnA hr 15
  have r16 : (0 : Int) ≤ ρ 16 ∧ ρ 16 ≤ 5120 := zRnA hr 16
  have r17 : ((-2147483648) : Int) ≤ ρ 17 ∧ ρ 17 ≤ 2147483647 := zRnA hr 17
  have r18 : (0 : Int) ≤ ρ 18 ∧ ρ 18 ≤ 7 := zRnA hr 18
  have r19 : (0 : Int) ≤ ρ 19 ∧ ρ 19 ≤ 2000 := zRnA hr 19
  have r20 : (0 : Int) ≤ ρ 20 ∧ ρ 20 ≤ 8 := zRnA hr 20
  have r21 : (0 : Int) ≤ ρ 21 ∧ ρ 21 ≤ 20 := zRnA hr 21
  have r22 : ((-2147483648) : Int) ≤ ρ 22 ∧ ρ 22 ≤ 2147483647 := zRnA hr 22
  have r23 : ((-2147483648) : Int) ≤ ρ 23 ∧ ρ 23 ≤ 2147483647 := zRnA hr 23
  have r24 : (0 : Int) ≤ ρ 24 ∧ ρ 24 ≤ 8 := zRnA hr 24
  have r25 : (0 : Int) ≤ ρ 25 ∧ ρ 25 ≤ 32 := zRnA hr 25
  have r26 : (0 : Int) ≤ ρ 26 ∧ ρ 26 ≤ 5120 := zRnA hr 26
  have r27 : (0 : Int) ≤ ρ 27 ∧ ρ 27 ≤ 8 := zRnA hr 27
  have r28 : ((-1) : Int) ≤ ρ 28 ∧ ρ 28 ≤ 7 := zRnA hr 28
  have r29 : ((-1) : Int) ≤ ρ 29 ∧ ρ 29 ≤ 19 := zRnA hr 29
  have r30 : (0 : Int) ≤ ρ 30 ∧ ρ 30 ≤ 4 := zRnA hr 30
  have r31 : ((-2147483648) : Int) ≤ ρ 31 ∧ ρ 31 ≤ 2147483647 := zRnA hr 31
  have r32 : ((-1) : Int) ≤ ρ 32 ∧ ρ 32 ≤ 3 := zRnA hr 32
  have r33 : (0 : Int) ≤ ρ 33 ∧ ρ 33 ≤ 4 := zRnA hr 33
  have r34 : (3 : Int) ≤ ρ 34 ∧ ρ 34 ≤ 2000 := zRnA hr 34
  have r35 : (2 : Int) ≤ ρ 35 ∧ ρ 35 ≤ 2 := zRnA hr 35
  have r36 : (0 : Int) ≤ ρ 36 ∧ ρ 36 ≤ 19 := zRnA hr 36
  have r37 : (1 : Int) ≤ ρ 37 ∧ ρ 37 ≤ 20 := zRnA hr 37
  have r38 : ((-2147483648) : Int) ≤ ρ 38 ∧ ρ 38 ≤ 2147483647 := zRnA hr 38
  have r39 : ((-2147483648) : Int) ≤ ρ 39 ∧ ρ 39 ≤ 2147483647 := zRnA hr 39
  have r40 : (0 : Int) ≤ ρ 40 ∧ ρ 40 ≤ 8 := zRnA hr 40
  have r41 : (0 : Int) ≤ ρ 41 ∧ ρ 41 ≤ 32 := zRnA hr 41
  have r42 : (0 : Int) ≤ ρ 42 ∧ ρ 42 ≤ 5120 := zRnA hr 42
  have r43 : (1 : Int) ≤ ρ 43 ∧ ρ 43 ≤ 4 := zRnA hr 43
  have r44 : (0 : Int) ≤ ρ 44 ∧ ρ 44 ≤ 1999 := zRnA hr 44
  have r45 : ((-1) : Int) ≤ ρ 45 ∧ ρ 45 ≤ 3 := zRnA hr 45
  have r46 : (0 : Int) ≤ ρ 46 ∧ ρ 46 ≤ 0 := zRnA hr 46
  have r47 : (46 : Int) ≤ ρ 47 ∧ ρ 47 ≤ 46 := zRnA hr 47
  have r48 : (0 : Int) ≤ ρ 48 ∧ ρ 48 ≤ 2000 := zRnA hr 48
  have r49 : (0 : Int) ≤ ρ 49 ∧ ρ 49 ≤ 4 := zRnA hr 49
  have f0 : (0 : Int) ≤ ρ 48 + -ρ 34 := zAllA hf 0
  have f1 : (0 : Int) ≤ -ρ 48 + ρ 4 + (-1) := zAllA hf 1
  have f2 : (0 : Int) ≤ -ρ 34 + ρ 4 + (-1) := zAllA hf 2
  have f3 : (0 : Int) ≤ -ρ 43 + ρ 34 + (-1) := zAllA hf 3
  have f4 : (0 : Int) ≤ -ρ 44 + ρ 34 + (-1) := zAllA hf 4
  have f5 : (0 : Int) ≤ -ρ 45 + ρ 34 + (-1) := zAllA hf 5
  have f6 : (0 : Int) ≤ ρ 34 + -ρ 19 + (-1) := zAllA hf 6
  have f7 : (0 : Int) ≤ ρ 37 + -ρ 36 + (-1) := zAllA hf 7
  have f8 : (0 : Int) ≤ ρ 37 + -ρ 21 := zAllA hf 8
  have f9 : (0 : Int) ≤ ρ 40 + -ρ 24 := zAllA hf 9
  have f10 : (0 : Int) ≤ ρ 41 + -ρ 25 := zAllA hf 10
  have f11 : (0 : Int) ≤ ρ 42 + -ρ 26 := zAllA hf 11
  have f12 : (0 : Int) ≤ ρ 44 + -ρ 19 := zAllA hf 12
  have f13 : (0 : Int) ≤ -ρ 34 + ρ 4 := zAllA hf 13
  have f14 : (0 : Int) ≤ -ρ 35 + ρ 4 + (-1) := zAllA hf 14
  have f15 : (0 : Int) ≤ -ρ 19 + ρ 4 + (-1) := zAllA hf 15
  have f16 : (0 : Int) ≤ -ρ 5 + ρ 4 + (-1) := zAllA hf 16
  have f17 : (0 : Int) ≤ -ρ 32 + ρ 4 := zAllA hf 17
  have f18 : (0 : Int) ≤ -ρ 36 + ρ 21 := zAllA hf 18
  have f19 : (0 : Int) ≤ -ρ 18 + ρ 4 := zAllA hf 19
  have f20 : (0 : Int) ≤ ρ 26 + -ρ 16 := zAllA hf 20
  have f21 : (0 : Int) ≤ ρ 25 + -ρ 15 := zAllA hf 21
  have f22 : (0 : Int) ≤ ρ 24 + -ρ 14 := zAllA hf 22
  have f23 : (0 : Int) ≤ ρ 21 + -ρ 10 := zAllA hf 23
  have f24 : (0 : Int) ≤ ρ 19 + -ρ 3 := zAllA hf 24
  have f25 : (0 : Int) ≤ ρ 19 + -ρ 18 := zAllA hf 25
  have f26 : (0 : Int) ≤ -ρ 20 + ρ 18 := zAllA hf 26
  have m0 : γ 0 1 0 10 = ρ 0 := zAllA hm 0
  have m1 : γ 0 40 0 (ρ 0) = ρ 1 := zAllA hm 1
  have m2 : γ 0 9 (ρ 1) 2 = ρ 2 := zAllA hm 2
  have m3 : γ 0 2 0 6 = ρ 3 := zAllA hm 3
  have m4 : γ 0 2 0 3 = ρ 4 := zAllA hm 4
  have m5 : γ 0 2 0 7 = ρ 5 := zAllA hm 5
  have m6 : γ 0 10 (9 * ρ 1) 8 = ρ 6 := zAllA hm 6
  have m7 : γ 0 10 (9 * ρ 1) 12 = ρ 7 := zAllA hm 7
  have m8 : γ 0 10 (9 * ρ 1) 14 = ρ 8 := zAllA hm 8
  have m9 : γ 0 9 (ρ 1) 3 = ρ 9 := zAllA hm 9
  have m10 : γ 0 1 0 7 = ρ 10 := zAllA hm 10
  have m11 : γ 0 2 0 4 = ρ 11 := zAllA hm 11
  have m12 : γ 0 2 0 5 = ρ 12 := zAllA hm 12
  have m13 : γ 0 2 0 9 = ρ 13 := zAllA hm 13
  have m14 : γ 0 2 0 13 = ρ 14 := zAllA hm 14
  have m15 : γ 0 2 0 16 = ρ 15 := zAllA hm 15
  have m16 : γ 0 3 0 1 = ρ 16 := zAllA hm 16
  have m17 : γ 0 10 (9 * ρ 1) 15 = ρ 17 := zAllA hm 17
  have m18 : γ 1 9 (ρ 1) 2 = ρ 18 := zAllA hm 18
  have m19 : γ 1 2 0 6 = ρ 19 := zAllA hm 19
  have m20 : γ 1 10 (9 * ρ 1) 8 = ρ 6 := zAllA hm 20
  have m21 : γ 1 10 (9 * ρ 1) 12 = ρ 7 := zAllA hm 21
  have m22 : γ 1 9 (ρ 1) 3 = ρ 20 := zAllA hm 22
  have m23 : γ 1 1 0 7 = ρ 21 := zAllA hm 23
  have m24 : γ 1 2 0 4 = ρ 11 := zAllA hm 24
  have m25 : γ 1 2 0 5 = ρ 22 := zAllA hm 25
  have m26 : γ 1 2 0 9 = ρ 23 := zAllA hm 26
  have m27 : γ 1 2 0 13 = ρ 24 := zAllA hm 27
  have m28 : γ 1 2 0 16 = ρ 25 := zAllA hm 28
  have m29 : γ 1 3 0 1 = ρ 26 := zAllA hm 29
  have m30 : γ 1 10 (ρ 18 + 9 * ρ 1 + 1) 4 = ρ 27 := zAllA hm 30
  have m31 : γ 1 10 (ρ 18 + 9 * ρ 1 + 1) 11 = ρ 28 := zAllA hm 31
  have m32 : γ 1 10 (ρ 18 + 9 * ρ 1 + 1) 8 = ρ 29 := zAllA hm 32
  have m33 : γ 1 10 (ρ 18 + 9 * ρ 1 + 1) 5 = ρ 30 := zAllA hm 33
  have m34 : γ 1 10 (ρ 18 + 9 * ρ 1 + 1) 7 = ρ 31 := zAllA hm 34
  have m35 : γ 1 10 (ρ 18 + 9 * ρ 1 + 1) 9 = ρ 32 := zAllA hm 35
  have m36 : γ 1 10 (ρ 18 + 9 * ρ 1 + 1) 12 = ρ 33 := zAllA hm 36
  have m37 : γ 3 2 0 6 = ρ 34 := zAllA hm 37
  have m38 : γ 3 10 (ρ 18 + 9 * ρ 1 + 1) 4 = ρ 35 := zAllA hm 38
  have m39 : γ 3 10 (ρ 18 + 9 * ρ 1 + 1) 11 = ρ 28 := zAllA hm 39
  have m40 : γ 3 10 (ρ 18 + 9 * ρ 1 + 1) 8 = ρ 36 := zAllA hm 40
  have m41 : γ 3 10 (9 * ρ 1) 8 = ρ 6 := zAllA hm 41
  have m42 : γ 3 10 (9 * ρ 1) 12 = ρ 7 := zAllA hm 42
  have m43 : γ 3 1 0 7 = ρ 37 := zAllA hm 43
  have m44 : γ 3 2 0 4 = ρ 11 := zAllA hm 44
  have m45 : γ 3 2 0 5 = ρ 38 := zAllA hm 45
  have m46 : γ 3 2 0 9 = ρ 39 := zAllA hm 46
  have m47 : γ 3 2 0 13 = ρ 40 := zAllA hm 47
  have m48 : γ 3 2 0 16 = ρ 41 := zAllA hm 48
  have m49 : γ 3 3 0 1 = ρ 42 := zAllA hm 49
  have m50 : γ 3 10 (ρ 18 + 9 * ρ 1 + 1) 5 = ρ 43 := zAllA hm 50
  have m51 : γ 3 10 (ρ 18 + 9 * ρ 1 + 1) 7 = ρ 44 := zAllA hm 51
  have m52 : γ 3 10 (ρ 18 + 9 * ρ 1 + 1) 9 = ρ 45 := zAllA hm 52
  have m53 : γ 3 10 (ρ 18 + 9 * ρ 1 + 1) 12 = ρ 46 := zAllA hm 53
  have m54 : γ 5 2 0 6 = ρ 48 := zAllA hm 54
  have m55 : γ 3 10 (9 * ρ 1) 5 = ρ 49 := zAllA hm 55
  have m56 : γ 7 2 0 4 = ρ 11 := zAllA hm 56
  have m57 : γ 8 2 0 4 = ρ 11 := zAllA hm 57
  have c1 : ∀ (G : Nat) (k j : Int), ¬ rMdP m107_ G j → γ 1 G k j = γ 0 G k j := And.right (zChA hc 7)
  have c2 : ∀ (G : Nat) (k j : Int), ¬ rMdP m0_ G j → γ 2 G k j = γ 1 G k j := And.right (zChA hc 6)
  have c3 : ∀ (G : Nat) (k j : Int), ¬ rMdP m106_ G j → γ 3 G k j = γ 2 G k j := And.right (zChA hc 5)
  have c4 : γ 4 = rUp (γ 3) 9 (ρ 1) 2 (ρ 18 + 1) := And.right (zChA hc 4)
  have c5 : ∀ (G : Nat) (k j : Int), ¬ rMdP m77_ G j → γ 5 G k j = γ 4 G k j := And.right (zChA hc 3)
  have c6 : γ 6 = rUp (γ 5) 2 0 6 (ρ 48 + 1) := And.right (zChA hc 2)
  have c7 : ∀ (G : Nat) (k j : Int), ¬ rMdP m72_ G j → γ 7 G k j = γ 6 G k j := And.right (zChA hc 1)
  have c8 : ∀ (G : Nat) (k j : Int), ¬ rMdP m72_ G j → γ 8 G k j = γ 7 G k j := And.right (zChA hc 0)
  have l0 : sn132 [ρ 1, ρ 18] (γ 1) 0 (ρ 18 + 9 * ρ 1 + 1) (γ 2) := hS132 _ _ _ _ _ (zAllA hl 0)
  have l1 : sn157 [ρ 0, ρ 1, ρ 18, ρ 19, ρ 4, ρ 27, ρ 28, ρ 29, ρ 5, ρ 6, ρ 7, ρ 21, ρ 11, ρ 22, ρ 23, ρ 24, ρ 25, ρ 26, ρ 30, ρ 31, ρ 32, ρ 33] (γ 2) 0 1 (γ 3) := hS157 _ _ _ _ _ (zAllA hl 1)
  have l2 : sn114 [ρ 34, ρ 4] (γ 4) 0 (ρ 47) (γ 5) := hS114 _ _ _ _ _ (zAllA hl 2)
  have l3 : sn153 [9 * ρ 1, ρ 11, ρ 38, ρ 49, ρ 7, ρ 8, ρ 17] (γ 6) 0 1 (γ 7) := hS153 _ _ _ _ _ (zAllA hl 3)
  have l4 : sn152 [ρ 11, ρ 41] (γ 7) 0 1 (γ 8) := hS152 _ _ _ _ _ (zAllA hl 4)
  show sn158 [ρ 0, ρ 1, ρ 2, ρ 3, ρ 4, ρ 5, ρ 6, ρ 7, ρ 8, ρ 9, ρ 10, ρ 11, ρ 12, ρ 13, ρ 14, ρ 15, ρ 16, ρ 17] (γ 0) 0 1 (γ 8)
  have hD : en158 (γ 0) (0, [], γ 1) = .inr (0, 1, γ 8) := by
    unfold en158
    refine zIP (show (0 : Nat) = 0 by decide) (zLV (γ 1) rfl (zLE m0 (zLE m1 (zLE m18 (zLE m22 (zIN (show ¬ (ρ 18 ≥ 8) by omega) (zLE (show fn132 [ρ 1, ρ 18] (γ 1) = (0, ρ 18 + 9 * ρ 1 + 1, γ 2) from l0.symm) ?_)))))))
    refine zLV (γ 2) rfl (zLE (show fn157 [] (γ 2) = (0, 1, γ 3) from l1.symm) (zLV (γ 3) rfl (zIP (show (1 : Int) ≤ 1 by omega) (zIN (show ¬ (3 ≤ γ 3 10 (ρ 18 + 9 * ρ 1 + 1) 4) by omega) (zLE m38 (zLE c4.symm (zIP (show ρ 35 ≠ 1 by omega) ?_)))))))
    refine zLE (show fn114 [] (γ 4) = (0, ρ 47, γ 5) from l2.symm) (zLV (γ 5) rfl (zIP (show (0 : Int) ≤ ρ 47 by omega) (zLV (ρ 47) rfl (zLE m54 (zIN (show ¬ (ρ 47 ≠ 46) by omega) (zLE c6.symm (zLE (show fn153 [9 * ρ 1] (γ 6) = (0, 1, γ 7) from l3.symm) ?_)))))))
    refine zLV (γ 7) rfl (zIP (show (1 : Int) ≤ 1 by omega) (zLE (show fn152 [] (γ 7) = (0, 1, γ 8) from l4.symm) (zLV (γ 8) rfl (zIP (show (1 : Int) ≤ 1 by omega) ?_))))
    rfl
  exact zGoo_aend hJ hD
theorem vn158a0_21 {S : Nat → zSpc} (hS109 : zIm S 109 sn109) (hS114 : zIm S 114 sn114) (hS132 : zIm S 132 sn132) (hS152 : zIm S 152 sn152) (hS153 : zIm S 153 sn153) (hS157 : zIm S 157 sn157) {a : List Int} {g : rHp} : ∀ (ρ : Nat → Int) (γ : Nat → rHp), jn158 a g 0 (zAg (zNA a158_ 0) ρ) (γ 1) → zO 18 S a g q158a0_21 ρ γ → zGl (fun i vs g1 => jn158 a g i vs g1) (sn158 a g) q158a0_21 ρ γ := by
  intro ρ γ hJ h
  obtain ⟨ha, hg, hr, hf, hm, hc, hl⟩ := h
  have ha : a = [ρ 0, ρ 1, ρ 2, ρ 3, ρ 4, ρ 5, ρ 6, ρ 7, ρ 8, ρ 9, ρ 10, ρ 11, ρ 12, ρ 13, ρ 14, ρ 15, ρ 16, ρ 17] := ha
  subst ha
  subst hg
  have hJ : jn158 [ρ 0, ρ 1, ρ 2, ρ 3, ρ 4, ρ 5, ρ 6, ρ 7, ρ 8, ρ 9, ρ 10, ρ 11, ρ 12, ρ 13, ρ 14, ρ 15, ρ 16, ρ 17] (γ 0) 0 [ρ 0, ρ 1, ρ 2, ρ 3, ρ 4, ρ 5, ρ 6, ρ 7, ρ 8, ρ 9, ρ 10, ρ 11, ρ 12, ρ 13, ρ 14, ρ 15, ρ 16, ρ 17, ρ 18, ρ 19, ρ 20, ρ 21, ρ 22, ρ 23, ρ 24, ρ 25, ρ 26] (γ 1) := hJ
  have r0 : (0 : Int) ≤ ρ 0 ∧ ρ 0 ≤ 60 := zRnA hr 0
  have r1 : (0 : Int) ≤ ρ 1 ∧ ρ 1 ≤ 60 := zRnA hr 1
  have r2 : (0 : Int) ≤ ρ 2 ∧ ρ 2 ≤ 8 := zRnA hr 2
  have r3 : (0 : Int) ≤ ρ 3 ∧ ρ 3 ≤ 2000 := zRnA hr 3
  have r4 : (2 : Int) ≤ ρ 4 ∧ ρ 4 ≤ 2000 := zRnA hr 4
  have r5 : (0 : Int) ≤ ρ 5 ∧ ρ 5 ≤ 0 := zRnA hr 5
  have r6 : ((-1) : Int) ≤ ρ 6 ∧ ρ 6 ≤ 19 := zRnA hr 6
  have r7 : (0 : Int) ≤ ρ 7 ∧ ρ 7 ≤ 4 := zRnA hr 7
  have r8 : ((-1) : Int) ≤ ρ 8 ∧ ρ 8 ≤ 7 := zRnA hr 8
  have r9 : (0 : Int) ≤ ρ 9 ∧ ρ 9 ≤ 8 := zRnA hr 9
  have r10 : (0 : Int) ≤ ρ 10 ∧ ρ 10 ≤ 20 := zRnA hr 10
  have r11 : ((-2147483648) : Int) ≤ ρ 11 ∧ ρ 11 ≤ 2147483647 := zRnA hr 11
  have r12 : ((-2147483648) : Int) ≤ ρ 12 ∧ ρ 12 ≤ 2147483647 := zRnA hr 12
  have r13 : ((-2147483648) : Int) ≤ ρ 13 ∧ ρ 13 ≤ 2147483647 := zRnA hr 13
  have r14 : (0 : Int) ≤ ρ 14 ∧ ρ 14 ≤ 8 := zRnA hr 14
  have r15 : (0 : Int) ≤ ρ 15 ∧ ρ 15 ≤ 32 := zRnA hr 15
  have r16 : (0 : Int) ≤ ρ 16 ∧ ρ 16 ≤ 5120 := zRnA hr 16
  have r17 : ((-2147483648) : Int) ≤ ρ 17 ∧ ρ 17 ≤ 2147483647 := zRnA hr 17
  have r18 : (0 : Int) ≤ ρ 18 ∧ ρ 18 ≤ 7 := zRnA hr 18
  have r19 : (0 : Int) ≤ ρ 19 ∧ ρ 19 ≤ 2000 := zRnA hr 19
  have r20 : (0 : Int) ≤ ρ 20 ∧ ρ 20 ≤ 8 := zRnA hr 20
  have r21 : (0 : Int) ≤ ρ 21 ∧ ρ 21 ≤ 20 := zRnA hr 21
  have r22 : ((-2147483648) : Int) ≤ ρ 22 ∧ ρ 22 ≤ 2147483647 := zRnA hr 22
  have r23 : ((-2147483648) : Int) ≤ ρ 23 ∧ ρ 23 ≤ 2147483647 := zRnA hr 23
  have r24 : (0 : Int) ≤ ρ 24 ∧ ρ 24 ≤ 8 := zRnA hr 24
  have r25 : (0 : Int) ≤ ρ 25 ∧ ρ 25 ≤ 32 := zRnA hr 25
  have r26 : (0 : Int) ≤ ρ 26 ∧ ρ 26 ≤ 5120 := zRnA hr 26
  have r27 : (0 : Int) ≤ ρ 27 ∧ ρ 27 ≤ 8 := zRnA hr 27
  have r28 : ((-1) : Int) ≤ ρ 28 ∧ ρ 28 ≤ 7 := zRnA hr 28
  have r29 : ((-1) : Int) ≤ ρ 29 ∧ ρ 29 ≤ 19 := zRnA hr 29
  have r30 : (0 : Int) ≤ ρ 30 ∧ ρ 30 ≤ 4 := zRnA hr 30
  have r31 : ((-2147483648) : Int) ≤ ρ 31 ∧ ρ 31 ≤ 2147483647 := zRnA hr 31
  have r32 : ((-1) : Int) ≤ ρ 32 ∧ ρ 32 ≤ 3 := zRnA hr 32
  have r33 : (0 : Int) ≤ ρ 33 ∧ ρ 33 ≤ 4 := zRnA hr 33
  have r34 : (3 : Int) ≤ ρ 34 ∧ ρ 34 ≤ 2000 := zRnA hr 34
  have r35 : (1 : Int) ≤ ρ 35 ∧ ρ 35 ≤ 1 := zRnA hr 35
  have r36 : (0 : Int) ≤ ρ 36 ∧ ρ 36 ≤ 19 := zRnA hr 36
  have r37 : (1 : Int) ≤ ρ 37 ∧ ρ 37 ≤ 20 := zRnA hr 37
  have r38 : ((-2147483648) : Int) ≤ ρ 38 ∧ ρ 38 ≤ 2147483647 := zRnA hr 38
  have r39 : ((-2147483648) : Int) ≤ ρ 39 ∧ ρ 39 ≤ 2147483647 := zRnA hr 39
  have r40 : (0 : Int) ≤ ρ 40 ∧ ρ 40 ≤ 8 := zRnA hr 40
  have r41 : (0 : Int) ≤ ρ 41 ∧ ρ 41 ≤ 32 := zRnA hr 41
  have r42 : (0 : Int) ≤ ρ 42 ∧ ρ 42 ≤ 5120 := zRnA hr 42
  have r43 : (1 : Int) ≤ ρ 43 ∧ ρ 43 ≤ 4 := zRnA hr 43
  have r44 : (0 : Int) ≤ ρ 44 ∧ ρ 44 ≤ 1999 := zRnA hr 44
  have r45 : ((-1) : Int) ≤ ρ 45 ∧ ρ 45 ≤ 3 := zRnA hr 45
  have r46 : (0 : Int) ≤ ρ 46 ∧ ρ 46 ≤ 0 := zRnA hr 46
  have r47 : (0 : Int) ≤ ρ 47 ∧ ρ 47 ≤ 2000 := zRnA hr 47
  have f0 : (0 : Int) ≤ ρ 47 + -ρ 34 := zAllA hf 0
  have f1 : (0 : Int) ≤ ρ 47 + -ρ 4 := zAllA hf 1
  have f2 : (0 : Int) ≤ -ρ 43 + ρ 34 + (-1) := zAllA hf 2
  have f3 : (0 : Int) ≤ -ρ 44 + ρ 34 + (-1) := zAllA hf 3
  have f4 : (0 : Int) ≤ -ρ 45 + ρ 34 + (-1) := zAllA hf 4
  have f5 : (0 : Int) ≤ ρ 34 + -ρ 19 + (-1) := zAllA hf 5
  have f6 : (0 : Int) ≤ ρ 37 + -ρ 36 + (-1) := zAllA hf 6
  have f7 : (0 : Int) ≤ ρ 37 + -ρ 21 := zAllA hf 7
  have f8 : (0 : Int) ≤ ρ 40 + -ρ 24 := zAllA hf 8
  have f9 : (0 : Int) ≤ ρ 41 + -ρ 25 := zAllA hf 9
  have f10 : (0 : Int) ≤ ρ 42 + -ρ 26 := zAllA hf 10
  have f11 : (0 : Int) ≤ ρ 44 + -ρ 19 := zAllA hf 11
  have f12 : (0 : Int) ≤ -ρ 34 + ρ 4 := zAllA hf 12
  have f13 : (0 : Int) ≤ -ρ 35 + ρ 4 + (-1) := zAllA hf 13
  have f14 : (0 : Int) ≤ -ρ 19 + ρ 4 + (-1) := zAllA hf 14
  have f15 : (0 : Int) ≤ -ρ 5 + ρ 4 + (-1) := zAllA hf 15
  have f16 : (0 : Int) ≤ -ρ 32 + ρ 4 := zAllA hf 16
  have f17 : (0 : Int) ≤ -ρ 36 + ρ 21 := zAllA hf 17
  have f18 : (0 : Int) ≤ -ρ 18 + ρ 4 := zAllA hf 18
  have f19 : (0 : Int) ≤ ρ 26 + -ρ 16 := zAllA hf 19
  have f20 : (0 : Int) ≤ ρ 25 + -ρ 15 := zAllA hf 20
  have f21 : (0 : Int) ≤ ρ 24 + -ρ 14 := zAllA hf 21
  have f22 : (0 : Int) ≤ ρ 21 + -ρ 10 := zAllA hf 22
  have f23 : (0 : Int) ≤ ρ 19 + -ρ 3 := zAllA hf 23
  have f24 : (0 : Int) ≤ ρ 19 + -ρ 18 := zAllA hf 24
  have f25 : (0 : Int) ≤ -ρ 20 + ρ 18 := zAllA hf 25
  have m0 : γ 0 1 0 10 = ρ 0 := zAllA hm 0
  have m1 : γ 0 40 0 (ρ 0) = ρ 1 := zAllA hm 1
  have m2 : γ 0 9 (ρ 1) 2 = ρ 2 := zAllA hm 2
  have m3 : γ 0 2 0 6 = ρ 3 := zAllA hm 3
  have m4 : γ 0 2 0 3 = ρ 4 := zAllA hm 4
  have m5 : γ 0 2 0 7 = ρ 5 := zAllA hm 5
  have m6 : γ 0 10 (9 * ρ 1) 8 = ρ 6 := zAllA hm 6
  have m7 : γ 0 10 (9 * ρ 1) 12 = ρ 7 := zAllA hm 7
  have m8 : γ 0 10 (9 * ρ 1) 14 = ρ 8 := zAllA hm 8
  have m9 : γ 0 9 (ρ 1) 3 = ρ 9 := zAllA hm 9
  have m10 : γ 0 1 0 7 = ρ 10 := zAllA hm 10
  have m11 : γ 0 2 0 4 = ρ 11 := zAllA hm 11
  have m12 : γ 0 2 0 5 = ρ 12 := zAllA hm 12
  have m13 : γ 0 2 0 9 = ρ 13 := zAllA hm 13
  have m14 : γ 0 2 0 13 = ρ 14 := zAllA hm 14
  have m15 : γ 0 2 0 16 = ρ 15 := zAllA hm 15
  have m16 : γ 0 3 0 1 = ρ 16 := zAllA hm 16
  have m17 : γ 0 10 (9 * ρ 1) 15 = ρ 17 := zAllA hm 17
  have m18 : γ 1 9 (ρ 1) 2 = ρ 18 := zAllA hm 18
  have m19 : γ 1 2 0 6 = ρ 19 := zAllA hm 19
  have m20 : γ 1 10 (9 * ρ 1) 8 = ρ 6 := zAllA hm 20
  have m21 : γ 1 10 (9 * ρ 1) 12 = ρ 7 := zAllA hm 21
  have m22 : γ 1 9 (ρ 1) 3 = ρ 20 := zAllA hm 22
  have m23 : γ 1 1 0 7 = ρ 21 := zAllA hm 23
  have m24 : γ 1 2 0 4 = ρ 11 := zAllA hm 24
  have m25 : γ 1 2 0 5 = ρ 22 := zAllA hm 25
  have m26 : γ 1 2 0 9 = ρ 23 := zAllA hm 26
  have m27 : γ 1 2 0 13 = ρ 24 := zAllA hm 27
  have m28 : γ 1 2 0 16 = ρ 25 := zAllA hm 28
  have m29 : γ 1 3 0 1 = ρ 26 := zAllA hm 29
  have m30 : γ 1 10 (ρ 18 + 9 * ρ 1 + 1) 4 = ρ 27 := zAllA hm 30
  have m31 : γ 1 10 (ρ 18 + 9 * ρ 1 + 1) 11 = ρ 28 := zAllA hm 31
  have m32 : γ 1 10 (ρ 18 + 9 * ρ 1 + 1) 8 = ρ 29 := zAllA hm 32
  have m33 : γ 1 10 (ρ 18 + 9 * ρ 1 + 1) 5 = ρ 30 := zAllA hm 33
  have m34 : γ 1 10 (ρ 18 + 9 * ρ 1 + 1) 7 = ρ 31 := zAllA hm 34
  have m35 : γ 1 10 (ρ 18 + 9 * ρ 1 + 1) 9 = ρ 32 := zAllA hm 35
  have m36 : γ 1 10 (ρ 18 + 9 * ρ 1 + 1) 12 = ρ 33 := zAllA hm 36
  have m37 : γ 3 2 0 6 = ρ 34 := zAllA hm 37
  have m38 : γ 3 10 (ρ 18 + 9 * ρ 1 + 1) 4 = ρ 35 := zAllA hm 38
  have m39 : γ 3 10 (ρ 18 + 9 * ρ 1 + 1) 11 = ρ 28 := zAllA hm 39
  have m40 : γ 3 10 (ρ 18 + 9 * ρ 1 + 1) 8 = ρ 36 := zAllA hm 40
  have m41 : γ 3 10 (9 * ρ 1) 8 = ρ 6 := zAllA hm 41
  have m42 : γ 3 10 (9 * ρ 1) 12 = ρ 7 := zAllA hm 42
  have m43 : γ 3 1 0 7 = ρ 37 := zAllA hm 43
  have m44 : γ 3 2 0 4 = ρ 11 := zAllA hm 44
  have m45 : γ 3 2 0 5 = ρ 38 := zAllA hm 45
  have m46 : γ 3 2 0 9 = ρ 39 := zAllA hm 46
  have m47 : γ 3 2 0 13 = ρ 40 := zAllA hm 47
  have m48 : γ 3 2 0 16 = ρ 41 := zAllA hm 48
  have m49 : γ 3 3 0 1 = ρ 42 := zAllA hm 49
  have m50 : γ 3 10 (ρ 18 + 9 * ρ 1 + 1) 5 = ρ 43 := zAllA hm 50
  have m51 : γ 3 10 (ρ 18 + 9 * ρ 1 + 1) 7 = ρ 44 := zAllA hm 51
  have m52 : γ 3 10 (ρ 18 + 9 * ρ 1 + 1) 9 = ρ 45 := zAllA hm 52
  have m53 : γ 3 10 (ρ 18 + 9 * ρ 1 + 1) 12 = ρ 46 := zAllA hm 53
  have m54 : γ 7 2 0 6 = ρ 47 := zAllA hm 54
  have m55 : γ 8 2 0 4 = ρ 47 := zAllA hm 55
  have c1 : ∀ (G : Nat) (k j : Int), ¬ rMdP m107_ G j → γ 1 G k j = γ 0 G k j := And.right (zChA hc 7)
  have c2 : ∀ (G : Nat) (k j : Int), ¬ rMdP m0_ G j → γ 2 G k j = γ 1 G k j := And.right (zChA hc 6)
  have c3 : ∀ (G : Nat) (k j : Int), ¬ rMdP m106_ G j → γ 3 G k j = γ 2 G k j := And.right (zChA hc 5)
  have c4 : γ 4 = rUp (γ 3) 9 (ρ 1) 2 (ρ 18 + 1) := And.right (zChA hc 4)
  have c5 : γ 5 = rUp (γ 4) 10 (ρ 18 + 9 * ρ 1 + 1) 10 (ρ 20) := And.right (zChA hc 3)
  have c6 : γ 6 = rUp (γ 5) 9 (ρ 1) 3 (ρ 20 + 1) := And.right (zChA hc 2)
  have c7 : ∀ (G : Nat) (k j : Int), ¬ rMdP m77_ G j → γ 7 G k j = γ 6 G k j := And.right (zChA hc 1)
  have c8 : ∀ (G : Nat) (k j : Int), ¬ rMdP m72_ G j → γ 8 G k j = γ 7 G k j := And.right (zChA hc 0)
  have l0 : sn132 [ρ 1, ρ 18] (γ 1) 0 (ρ 18 + 9 * ρ 1 + 1) (γ 2) := hS132 _ _ _ _ _ (zAllA hl 0)
  have l1 : sn157 [ρ 0, ρ 1, ρ 18, ρ 19, ρ 4, ρ 27, ρ 28, ρ 29, ρ 5, ρ 6, ρ 7, ρ 21, ρ 11, ρ 22, ρ 23, ρ 24, ρ 25, ρ 26, ρ 30, ρ 31, ρ 32, ρ 33] (γ 2) 0 1 (γ 3) := hS157 _ _ _ _ _ (zAllA hl 1)
  have l2 : sn114 [ρ 34, ρ 4] (γ 6) 0 (-1) (γ 7) := hS114 _ _ _ _ _ (zAllA hl 2)
  have l3 : sn109 [ρ 47, ρ 11] (γ 7) 0 0 (γ 8) := hS109 _ _ _ _ _ (zAllA hl 3)
  show sn158 [ρ 0, ρ 1, ρ 2, ρ 3, ρ 4, ρ 5, ρ 6, ρ 7, ρ 8, ρ 9, ρ 10, ρ 11, ρ 12, ρ 13, ρ 14, ρ 15, ρ 16, ρ 17] (γ 0) 0 0 (γ 8)
  have hD : en158 (γ 0) (0, [], γ 1) = .inr (0, 0, γ 8) := by
    unfold en158
    refine zIP (show (0 : Nat) = 0 by decide) (zLV (γ 1) rfl (zLE m0 (zLE m1 (zLE m18 (zLE m22 (zIN (show ¬ (ρ 18 ≥ 8) by omega) (zLE (show fn132 [ρ 1, ρ 18] (γ 1) = (0, ρ 18 + 9 * ρ 1 + 1, γ 2) from l0.symm) ?_)))))))
    refine zLV (γ 2) rfl (zLE (show fn157 [] (γ 2) = (0, 1, γ 3) from l1.symm) (zLV (γ 3) rfl (zIP (show (1 : Int) ≤ 1 by omega) (zIN (show ¬ (3 ≤ γ 3 10 (ρ 18 + 9 * ρ 1 + 1) 4) by omega) (zLE m38 (zLE c4.symm (zIN (show ¬ (ρ 35 ≠ 1) by omega) ?_)))))))
    refine zLE c5.symm (zLE c6.symm (zLE (show fn114 [] (γ 6) = (0, (-1), γ 7) from l2.symm) (zLV (γ 7) rfl (zIN (show ¬ ((0 : Int) ≤ (-1)) by omega) (zLE m54 (zLE (show fn109 [ρ 47] (γ 7) = (0, 0, γ 8) from l3.symm) (zLV (γ 8) rfl ?_)))))))
    rfl
  exact zGoo_aend hJ hD
theorem vn158a0_22 {S : Nat → zSpc} (hS109 : zIm S 109 sn109) (hS114 : zIm S 114 sn114) (hS132 : zIm S 132 sn132) (hS152 : zIm S 152 sn152) (hS153 : zIm S 153 sn153) (hS157 : zIm S 157 sn157) {a : List Int} {g : rHp} : ∀ (ρ : Nat → Int) (γ : Nat → rHp), jn158 a g 0 (zAg (zNA a158_ 0) ρ) (γ 1) → zO 18 S a g q158a0_22 ρ γ → zGl (fun i vs g1 => jn158 a g i vs g1) (sn158 a g) q158a0_22 ρ γ := by
  intro ρ γ hJ h
  obtain ⟨ha, hg, hr, hf, hm, hc, hl⟩ := h
  have ha : a = [ρ 0, ρ 1, ρ 2, ρ 3, ρ 4, ρ 5, ρ 6, ρ 7, ρ 8, ρ 9, ρ 10, ρ 11, ρ 12, ρ 13, ρ 14, ρ 15, ρ 16, ρ 17] := ha
  subst ha
  subst hg
  have hJ : jn158 [ρ 0, ρ 1, ρ 2, ρ 3, ρ 4, ρ 5, ρ 6, ρ 7, ρ 8, ρ 9, ρ 10, ρ 11, ρ 12, ρ 13, ρ 14, ρ 15, ρ 16, ρ 17] (γ 0) 0 [ρ 0, ρ 1, ρ 2, ρ 3, ρ 4, ρ 5, ρ 6, ρ 7, ρ 8, ρ 9, ρ 10, ρ 11, ρ 12, ρ 13, ρ 14, ρ 15, ρ 16, ρ 17, ρ 18, ρ 19, ρ 20, ρ 21, ρ 22, ρ 23, ρ 24, ρ 25, ρ 26] (γ 1) := hJ
  have r0 : (0 : Int) ≤ ρ 0 ∧ ρ 0 ≤ 60 := zRnA hr 0
  have r1 : (0 : Int) ≤ ρ 1 ∧ ρ 1 ≤ 60 := zRnA hr 1
  have r2 : (0 : Int) ≤ ρ 2 ∧ ρ 2 ≤ 8 := zRnA hr 2
  have r3 : (0 : Int) ≤ ρ 3 ∧ ρ 3 ≤ 2000 := zRnA hr 3
  have r4 : (2 : Int) ≤ ρ 4 ∧ ρ 4 ≤ 2000 := zRnA hr 4
  have r5 : (0 : Int) ≤ ρ 5 ∧ ρ 5 ≤ 0 := zRnA hr 5
  have r6 : ((-1) : Int) ≤ ρ 6 ∧ ρ 6 ≤ 19 := zRnA hr 6
  have r7 : (0 : Int) ≤ ρ 7 ∧ ρ 7 ≤ 4 := zRnA hr 7
  have r8 : ((-1) : Int) ≤ ρ 8 ∧ ρ 8 ≤ 7 := zRnA hr 8
  have r9 : (0 : Int) ≤ ρ 9 ∧ ρ 9 ≤ 8 := zRnA hr 9
  have r10 : (0 : Int) ≤ ρ 10 ∧ ρ 10 ≤ 20 := zRnA hr 10
  have r11 : ((-2147483648) : Int) ≤ ρ 11 ∧ ρ 11 ≤ 2147483647 := zRnA hr 11
  have r12 : ((-2147483648) : Int) ≤ ρ 12 ∧ ρ 12 ≤ 2147483647 := zRnA hr 12
  have r13 : ((-2147483648) : Int) ≤ ρ 13 ∧ ρ 13 ≤ 2147483647 := zRnA hr 13
  have r14 : (0 : Int) ≤ ρ 14 ∧ ρ 14 ≤ 8 := zRnA hr 14
  have r15 : (0 : Int) ≤ ρ 15 ∧ ρ 15 ≤ 32 := zRnA hr 15
  have r16 : (0 : Int) ≤ ρ 16 ∧ ρ 16 ≤ 5120 := zRnA hr 16
  have r17 : ((-2147483648) : Int) ≤ ρ 17 ∧ ρ 17 ≤ 2147483647 := zRnA hr 17
  have r18 : (0 : Int) ≤ ρ 18 ∧ ρ 18 ≤ 7 := zRnA hr 18
  have r19 : (0 : Int) ≤ ρ 19 ∧ ρ 19 ≤ 2000 := zRnA hr 19
  have r20 : (0 : Int) ≤ ρ 20 ∧ ρ 20 ≤ 8 := zRnA hr 20
  have r21 : (0 : Int) ≤ ρ 21 ∧ ρ 21 ≤ 20 := zRnA hr 21
  have r22 : ((-2147483648) : Int) ≤ ρ 22 ∧ ρ 22 ≤ 2147483647 := zRnA hr 22
  have r23 : ((-2147483648) : Int) ≤ ρ 23 ∧ ρ 23 ≤ 2147483647 := zRnA hr 23
  have r24 : (0 : Int) ≤ ρ 24 ∧ ρ 24 ≤ 8 := zRnA hr 24
  have r25 : (0 : Int) ≤ ρ 25 ∧ ρ 25 ≤ 32 := zRnA hr 25
  have r26 : (0 : Int) ≤ ρ 26 ∧ ρ 26 ≤ 5120 := zRnA hr 26
  have r27 : (0 : Int) ≤ ρ 27 ∧ ρ 27 ≤ 8 := zRnA hr 27
  have r28 : ((-1) : Int) ≤ ρ 28 ∧ ρ 28 ≤ 7 := zRnA hr 28
  have r29 : ((-1) : Int) ≤ ρ 29 ∧ ρ 29 ≤ 19 := zRnA hr 29
  have r30 : (0 : Int) ≤ ρ 30 ∧ ρ 30 ≤ 4 := zRnA hr 30
  have r31 : ((-2147483648) : Int) ≤ ρ 31 ∧ ρ 31 ≤ 2147483647 := zRnA hr 31
  have r32 : ((-1) : Int) ≤ ρ 32 ∧ ρ 32 ≤ 3 := zRnA hr 32
  have r33 : (0 : Int) ≤ ρ 33 ∧ ρ 33 ≤ 4 := zRnA hr 33
  have r34 : (3 : Int) ≤ ρ 34 ∧ ρ 34 ≤ 2000 := zRnA hr 34
  have r35 : (1 : Int) ≤ ρ 35 ∧ ρ 35 ≤ 1 := zRnA hr 35
  have r36 : (0 : Int) ≤ ρ 36 ∧ ρ 36 ≤ 19 := zRnA hr 36
  have r37 : (1 : Int) ≤ ρ 37 ∧ ρ 37 ≤ 20 := zRnA hr 37
  have r38 : ((-2147483648) : Int) ≤ ρ 38 ∧ ρ 38 ≤ 2147483647 := zRnA hr 38
  have r39 : ((-2147483648) : Int) ≤ ρ 39 ∧ ρ 39 ≤ 2147483647 := zRnA hr 39
  have r40 : (0 : Int) ≤ ρ 40 ∧ ρ 40 ≤ 8 := zRnA hr 40
  have r41 : (0 : Int) ≤ ρ 41 ∧ ρ 41 ≤ 32 := zRnA hr 41
  have r42 : (0 : Int) ≤ ρ 42 ∧ ρ 42 ≤ 5120 := zRnA hr 42
  have r43 : (1 : Int) ≤ ρ 43 ∧ ρ 43 ≤ 4 := zRnA hr 43
  have r44 : (0 : Int) ≤ ρ 44 ∧ ρ 44 ≤ 1999 := zRnA hr 44
  have r45 : ((-1) : Int) ≤ ρ 45 ∧ ρ 45 ≤ 3 := zRnA hr 45
  have r46 : (0 : Int) ≤ ρ 46 ∧ ρ 46 ≤ 0 := zRnA hr 46
  have r47 : (44 : Int) ≤ ρ 47 ∧ ρ 47 ≤ 44 := zRnA hr 47
  have r48 : (0 : Int) ≤ ρ 48 ∧ ρ 48 ≤ 2000 := zRnA hr 48
  have f0 : (0 : Int) ≤ ρ 48 + -ρ 34 := zAllA hf 0
  have f1 : (0 : Int) ≤ -ρ 48 + ρ 4 + (-1) := zAllA hf 1
  have f2 : (0 : Int) ≤ -ρ 34 + ρ 4 + (-1) := zAllA hf 2
  have f3 : (0 : Int) ≤ -ρ 43 + ρ 34 + (-1) := zAllA hf 3
  have f4 : (0 : Int) ≤ -ρ 44 + ρ 34 + (-1) := zAllA hf 4
  have f5 : (0 : Int) ≤ -ρ 45 + ρ 34 + (-1) := zAllA hf 5
  have f6 : (0 : Int) ≤ ρ 34 + -ρ 19 + (-1) := zAllA hf 6
  have f7 : (0 : Int) ≤ ρ 37 + -ρ 36 + (-1) := zAllA hf 7
  have f8 : (0 : Int) ≤ ρ 37 + -ρ 21 := zAllA hf 8
  have f9 : (0 : Int) ≤ ρ 40 + -ρ 24 := zAllA hf 9
  have f10 : (0 : Int) ≤ ρ 41 + -ρ 25 := zAllA hf 10
  have f11 : (0 : Int) ≤ ρ 42 + -ρ 26 := zAllA hf 11
  have f12 : (0 : Int) ≤ ρ 44 + -ρ 19 := zAllA hf 12
  have f13 : (0 : Int) ≤ -ρ 34 + ρ 4 := zAllA hf 13
  have f14 : (0 : Int) ≤ -ρ 35 + ρ 4 + (-1) := zAllA hf 14
  have f15 : (0 : Int) ≤ -ρ 19 + ρ 4 + (-1) := zAllA hf 15
  have f16 : (0 : Int) ≤ -ρ 5 + ρ 4 + (-1) := zAllA hf 16
  have f17 : (0 : Int) ≤ -ρ 32 + ρ 4 := zAllA hf 17
  have f18 : (0 : Int) ≤ -ρ 36 + ρ 21 := zAllA hf 18
  have f19 : (0 : Int) ≤ -ρ 18 + ρ 4 := zAllA hf 19
  have f20 : (0 : Int) ≤ ρ 26 + -ρ 16 := zAllA hf 20
  have f21 : (0 : Int) ≤ ρ 25 + -ρ 15 := zAllA hf 21
  have f22 : (0 : Int) ≤ ρ 24 + -ρ 14 := zAllA hf 22
  have f23 : (0 : Int) ≤ ρ 21 + -ρ 10 := zAllA hf 23
  have f24 : (0 : Int) ≤ ρ 19 + -ρ 3 := zAllA hf 24
  have f25 : (0 : Int) ≤ ρ 19 + -ρ 18 := zAllA hf 25
  have f26 : (0 : Int) ≤ -ρ 20 + ρ 18 := zAllA hf 26
  have m0 : γ 0 1 0 10 = ρ 0 := zAllA hm 0
  have m1 : γ 0 40 0 (ρ 0) = ρ 1 := zAllA hm 1
  have m2 : γ 0 9 (ρ 1) 2 = ρ 2 := zAllA hm 2
  have m3 : γ 0 2 0 6 = ρ 3 := zAllA hm 3
  have m4 : γ 0 2 0 3 = ρ 4 := zAllA hm 4
  have m5 : γ 0 2 0 7 = ρ 5 := zAllA hm 5
  have m6 : γ 0 10 (9 * ρ 1) 8 = ρ 6 := zAllA hm 6
  have m7 : γ 0 10 (9 * ρ 1) 12 = ρ 7 := zAllA hm 7
  have m8 : γ 0 10 (9 * ρ 1) 14 = ρ 8 := zAllA hm 8
  have m9 : γ 0 9 (ρ 1) 3 = ρ 9 := zAllA hm 9
  have m10 : γ 0 1 0 7 = ρ 10 := zAllA hm 10
  have m11 : γ 0 2 0 4 = ρ 11 := zAllA hm 11
  have m12 : γ 0 2 0 5 = ρ 12 := zAllA hm 12
  have m13 : γ 0 2 0 9 = ρ 13 := zAllA hm 13
  have m14 : γ 0 2 0 13 = ρ 14 := zAllA hm 14
  have m15 : γ 0 2 0 16 = ρ 15 := zAllA hm 15
  have m16 : γ 0 3 0 1 = ρ 16 := zAllA hm 16
  have m17 : γ 0 10 (9 * ρ 1) 15 = ρ 17 := zAllA hm 17
  have m18 : γ 1 9 (ρ 1) 2 = ρ 18 := zAllA hm 18
  have m19 : γ 1 2 0 6 = ρ 19 := zAllA hm 19
  have m20 : γ 1 10 (9 * ρ 1) 8 = ρ 6 := zAllA hm 20
  have m21 : γ 1 10 (9 * ρ 1) 12 = ρ 7 := zAllA hm 21
  have m22 : γ 1 9 (ρ 1) 3 = ρ 20 := zAllA hm 22
  have m23 : γ 1 1 0 7 = ρ 21 := zAllA hm 23
  have m24 : γ 1 2 0 4 = ρ 11 := zAllA hm 24
  have m25 : γ 1 2 0 5 = ρ 22 := zAllA hm 25
  have m26 : γ 1 2 0 9 = ρ 23 := zAllA hm 26
  have m27 : γ 1 2 0 13 = ρ 24 := zAllA hm 27
  have m28 : γ 1 2 0 16 = ρ 25 := zAllA hm 28
  have m29 : γ 1 3 0 1 = ρ 26 := zAllA hm 29
  have m30 : γ 1 10 (ρ 18 + 9 * ρ 1 + 1) 4 = ρ 27 := zAllA hm 30
  have m31 : γ 1 10 (ρ 18 + 9 * ρ 1 + 1) 11 = ρ 28 := zAllA hm 31
  have m32 : γ 1 10 (ρ 18 + 9 * ρ 1 + 1) 8 = ρ 29 := zAllA hm 32
  have m33 : γ 1 10 (ρ 18 + 9 * ρ 1 + 1) 5 = ρ 30 := zAllA hm 33
  have m34 : γ 1 10 (ρ 18 + 9 * ρ 1 + 1) 7 = ρ 31 := zAllA hm 34
  have m35 : γ 1 10 (ρ 18 + 9 * ρ 1 + 1) 9 = ρ 32 := zAllA hm 35
  have m36 : γ 1 10 (ρ 18 + 9 * ρ 1 + 1) 12 = ρ 33 := zAllA hm 36
  have m37 : γ 3 2 0 6 = ρ 34 := zAllA hm 37
  have m38 : γ 3 10 (ρ 18 + 9 * ρ 1 + 1) 4 = ρ 35 := zAllA hm 38
  have m39 : γ 3 10 (ρ 18 + 9 * ρ 1 + 1) 11 = ρ 28 := zAllA hm 39
  have m40 : γ 3 10 (ρ 18 + 9 * ρ 1 + 1) 8 = ρ 36 := zAllA hm 40
  have m41 : γ 3 10 (9 * ρ 1) 8 = ρ 6 := zAllA hm 41
  have m42 : γ 3 10 (9 * ρ 1) 12 = ρ 7 := zAllA hm 42
  have m43 : γ 3 1 0 7 = ρ 37 := zAllA hm 43
  have m44 : γ 3 2 0 4 = ρ 11 := zAllA hm 44
  have m45 : γ 3 2 0 5 = ρ 38 := zAllA hm 45
  have m46 : γ 3 2 0 9 = ρ 39 := zAllA hm 46
  have m47 : γ 3 2 0 13 = ρ 40 := zAllA hm 47
  have m48 : γ 3 2 0 16 = ρ 41 := zAllA hm 48
  have m49 : γ 3 3 0 1 = ρ 42 := zAllA hm 49
  have m50 : γ 3 10 (ρ 18 + 9 * ρ 1 + 1) 5 = ρ 43 := zAllA hm 50
  have m51 : γ 3 10 (ρ 18 + 9 * ρ 1 + 1) 7 = ρ 44 := zAllA hm 51
  have m52 : γ 3 10 (ρ 18 + 9 * ρ 1 + 1) 9 = ρ 45 := zAllA hm 52
  have m53 : γ 3 10 (ρ 18 + 9 * ρ 1 + 1) 12 = ρ 46 := zAllA hm 53
  have m54 : γ 7 2 0 6 = ρ 48 := zAllA hm 54
  have c1 : ∀ (G : Nat) (k j : Int), ¬ rMdP m107_ G j → γ 1 G k j = γ 0 G k j := And.right (zChA hc 7)
  have c2 : ∀ (G : Nat) (k j : Int), ¬ rMdP m0_ G j → γ 2 G k j = γ 1 G k j := And.right (zChA hc 6)
  have c3 : ∀ (G : Nat) (k j : Int), ¬ rMdP m106_ G j → γ 3 G k j = γ 2 G k j := And.right (zChA hc 5)
  have c4 : γ 4 = rUp (γ 3) 9 (ρ 1) 2 (ρ 18 + 1) := And.right (zChA hc 4)
  have c5 : γ 5 = rUp (γ 4) 10 (ρ 18 + 9 * ρ 1 + 1) 10 (ρ 20) := And.right (zChA hc 3)
  have c6 : γ 6 = rUp (γ 5) 9 (ρ 1) 3 (ρ 20 + 1) := And.right (zChA hc 2)
  have c7 : ∀ (G : Nat) (k j : Int), ¬ rMdP m77_ G j → γ 7 G k j = γ 6 G k j := And.right (zChA hc 1)
  have c8 : γ 8 = rUp (γ 7) 2 0 6 (ρ 48 + 1) := And.right (zChA hc 0)
  have l0 : sn132 [ρ 1, ρ 18] (γ 1) 0 (ρ 18 + 9 * ρ 1 + 1) (γ 2) := hS132 _ _ _ _ _ (zAllA hl 0)
  have l1 : sn157 [ρ 0, ρ 1, ρ 18, ρ 19, ρ 4, ρ 27, ρ 28, ρ 29, ρ 5, ρ 6, ρ 7, ρ 21, ρ 11, ρ 22, ρ 23, ρ 24, ρ 25, ρ 26, ρ 30, ρ 31, ρ 32, ρ 33] (γ 2) 0 1 (γ 3) := hS157 _ _ _ _ _ (zAllA hl 1)
  have l2 : sn114 [ρ 34, ρ 4] (γ 6) 0 (ρ 47) (γ 7) := hS114 _ _ _ _ _ (zAllA hl 2)
  have l3 : ρ 47 ≠ 46 := zAllA hl 3
  show jn158 [ρ 0, ρ 1, ρ 2, ρ 3, ρ 4, ρ 5, ρ 6, ρ 7, ρ 8, ρ 9, ρ 10, ρ 11, ρ 12, ρ 13, ρ 14, ρ 15, ρ 16, ρ 17] (γ 0) 0 [ρ 0, ρ 1, ρ 2, ρ 3, ρ 4, ρ 5, ρ 6, ρ 7, ρ 8, ρ 9, ρ 10, ρ 11, ρ 12, ρ 13, ρ 14, ρ 15, ρ 16, ρ 17, ρ 18 + 1, ρ 48 + 1, ρ 20 + 1, ρ 37, ρ 38, ρ 39, ρ 40, ρ 41, ρ 42] (γ 8)
  have hD : en158 (γ 0) (0, [], γ 1) = .inl (0, [], γ 8) := by
    unfold en158
    refine zIP (show (0 : Nat) = 0 by decide) (zLV (γ 1) rfl (zLE m0 (zLE m1 (zLE m18 (zLE m22 (zIN (show ¬ (ρ 18 ≥ 8) by omega) (zLE (show fn132 [ρ 1, ρ 18] (γ 1) = (0, ρ 18 + 9 * ρ 1 + 1, γ 2) from l0.symm) ?_)))))))
    refine zLV (γ 2) rfl (zLE (show fn157 [] (γ 2) = (0, 1, γ 3) from l1.symm) (zLV (γ 3) rfl (zIP (show (1 : Int) ≤ 1 by omega) (zIN (show ¬ (3 ≤ γ 3 10 (ρ 18 + 9 * ρ 1 + 1) 4) by omega) (zLE m38 (zLE c4.symm (zIN (show ¬ (ρ 35 ≠ 1) by omega) ?_)))))))
    refine zLE c5.symm (zLE c6.symm (zLE (show fn114 [] (γ 6) = (0, ρ 47, γ 7) from l2.symm) (zLV (γ 7) rfl (zIP (show (0 : Int) ≤ ρ 47 by omega) (zLV (ρ 47) rfl (zLE m54 (zIP (show ρ 47 ≠ 46 by omega) ?_)))))))
    refine zIP (show ρ 47 = 44 by omega) (zLE c8.symm ?_)
    rfl
  exact zGoo_ato hJ hD
theorem vn158a0_23 {S : Nat → zSpc} (hS109 : zIm S 109 sn109) (hS114 : zIm S 114 sn114) (hS132 : zIm S 132 sn132) (hS152 : zIm S 152 sn152) (hS153 : zIm S 153 sn153) (hS157 : zIm S 157 sn157) {a : List Int} {g : rHp} : ∀ (ρ : Nat → Int) (γ : Nat → rHp), jn158 a g 0 (zAg (zNA a158_ 0) ρ) (γ 1) → zO 18 S a g q158a0_23 ρ γ → zGl (fun i vs g1 => jn158 a g i vs g1) (sn158 a g) q158a0_23 ρ γ := by
  intro ρ γ hJ h
  obtain ⟨ha, hg, hr, hf, hm, hc, hl⟩ := h
  have ha : a = [ρ 0, ρ 1, ρ 2, ρ 3, ρ 4, ρ 5, ρ 6, ρ 7, ρ 8, ρ 9, ρ 10, ρ 11, ρ 12, ρ 13, ρ 14, ρ 15, ρ 16, ρ 17] := ha
  subst ha
  subst hg
  have hJ : jn158 [ρ 0, ρ 1, ρ 2, ρ 3, ρ 4, ρ 5, ρ 6, ρ 7, ρ 8, ρ 9, ρ 10, ρ 11, ρ 12, ρ 13, ρ 14, ρ 15, ρ 16, ρ 17] (γ 0) 0 [ρ 0, ρ 1, ρ 2, ρ 3, ρ 4, ρ 5, ρ 6, ρ 7, ρ 8, ρ 9, ρ 10, ρ 11, ρ 12, ρ 13, ρ 14, ρ 15, ρ 16, ρ 17, ρ 18, ρ 19, ρ 20, ρ 21, ρ 22, ρ 23, ρ 24, ρ 25, ρ 26] (γ 1) := hJ
  have r0 : (0 : Int) ≤ ρ 0 ∧ ρ 0 ≤ 60 := zRnA hr 0
  have r1 : (0 : Int) ≤ ρ 1 ∧ ρ 1 ≤ 60 := zRnA hr 1
  have r2 : (0 : Int) ≤ ρ 2 ∧ ρ 2 ≤ 8 := zRnA hr 2
  have r3 : (0 : Int) ≤ ρ 3 ∧ ρ 3 ≤ 2000 := zRnA hr 3
  have r4 : (2 : Int) ≤ ρ 4 ∧ ρ 4 ≤ 2000 := zRnA hr 4
  have r5 : (0 : Int) ≤ ρ 5 ∧ ρ 5 ≤ 0 := zRnA hr 5
  have r6 : ((-1) : Int) ≤ ρ 6 ∧ ρ 6 ≤ 19 := zRnA hr 6
  have r7 : (0 : Int) ≤ ρ 7 ∧ ρ 7 ≤ 4 := zRnA hr 7
  have r8 : ((-1) : Int) ≤ ρ 8 ∧ ρ 8 ≤ 7 := zRnA hr 8
  have r9 : (0 : Int) ≤ ρ 9 ∧ ρ 9 ≤ 8 := zRnA hr 9
  have r10 : (0 : Int) ≤ ρ 10 ∧ ρ 10 ≤ 20 := zRnA hr 10
  have r11 : ((-2147483648) : Int) ≤ ρ 11 ∧ ρ 11 ≤ 2147483647 := zRnA hr 11
  have r12 : ((-2147483648) : Int) ≤ ρ 12 ∧ ρ 12 ≤ 2147483647 := zRnA hr 12
  have r13 : ((-2147483648) : Int) ≤ ρ 13 ∧ ρ 13 ≤ 2147483647 := zRnA hr 13
  have r14 : (0 : Int) ≤ ρ 14 ∧ ρ 14 ≤ 8 := zRnA hr 14
  have r15 : (0 : Int) ≤ ρ 15 ∧ ρ 15 ≤ 32 := zRnA hr 15
  have r16 : (0 : Int) ≤ ρ 16 ∧ ρ 16 ≤ 5120 := zRnA hr 16
  have r17 : ((-2147483648) : Int) ≤ ρ 17 ∧ ρ 17 ≤ 2147483647 := zRnA hr 17
  have r18 : (0 : Int) ≤ ρ 18 ∧ ρ 18 ≤ 7 := zRnA hr 18
  have r19 : (0 : Int) ≤ ρ 19 ∧ ρ 19 ≤ 2000 := zRnA hr 19
  have r20 : (0 : Int) ≤ ρ 20 ∧ ρ 20 ≤ 8 := zRnA hr 20
  have r21 : (0 : Int) ≤ ρ 21 ∧ ρ 21 ≤ 20 := zRnA hr 21
  have r22 : ((-2147483648) : Int) ≤ ρ 22 ∧ ρ 22 ≤ 2147483647 := zRnA hr 22
  have r23 : ((-2147483648) : Int) ≤ ρ 23 ∧ ρ 23 ≤ 2147483647 := zRnA hr 23
  have r24 : (0 : Int) ≤ ρ 24 ∧ ρ 24 ≤ 8 := zRnA hr 24
  have r25 : (0 : Int) ≤ ρ 25 ∧ ρ 25 ≤ 32 := zRnA hr 25
  have r26 : (0 : Int) ≤ ρ 26 ∧ ρ 26 ≤ 5120 := zRnA hr 26
  have r27 : (0 : Int) ≤ ρ 27 ∧ ρ 27 ≤ 8 := zRnA hr 27
  have r28 : ((-1) : Int) ≤ ρ 28 ∧ ρ 28 ≤ 7 := zRnA hr 28
  have r29 : ((-1) : Int) ≤ ρ 29 ∧ ρ 29 ≤ 19 := zRnA hr 29
  have r30 : (0 : Int) ≤ ρ 30 ∧ ρ 30 ≤ 4 := zRnA hr 30
  have r31 : ((-2147483648) : Int) ≤ ρ 31 ∧ ρ 31 ≤ 2147483647 := zRnA hr 31
  have r32 : ((-1) : Int) ≤ ρ 32 ∧ ρ 32 ≤ 3 := zRnA hr 32
  have r33 : (0 : Int) ≤ ρ 33 ∧ ρ 33 ≤ 4 := zRnA hr 33
  have r34 : (3 : Int) ≤ ρ 34 ∧ ρ 34 ≤ 2000 := zRnA hr 34
  have r35 : (1 : Int) ≤ ρ 35 ∧ ρ 35 ≤ 1 := zRnA hr 35
  have r36 : (0 : Int) ≤ ρ 36 ∧ ρ 36 ≤ 19 := zRnA hr 36
  have r37 : (1 : Int) ≤ ρ 37 ∧ ρ 37 ≤ 20 := zRnA hr 37
  have r38 : ((-2147483648) : Int) ≤ ρ 38 ∧ ρ 38 ≤ 2147483647 := zRnA hr 38
  have r39 : ((-2147483648) : Int) ≤ ρ 39 ∧ ρ 39 ≤ 2147483647 := zRnA hr 39
  have r40 : (0 : Int) ≤ ρ 40 ∧ ρ 40 ≤ 8 := zRnA hr 40
  have r41 : (0 : Int) ≤ ρ 41 ∧ ρ 41 ≤ 32 := zRnA hr 41
  have r42 : (0 : Int) ≤ ρ 42 ∧ ρ 42 ≤ 5120 := zRnA hr 42
  have r43 : (1 : Int) ≤ ρ 43 ∧ ρ 43 ≤ 4 := zRnA hr 43
  have r44 : (0 : Int) ≤ ρ 44 ∧ ρ 44 ≤ 1999 := zRnA hr 44
  have r45 : ((-1) : Int) ≤ ρ 45 ∧ ρ 45 ≤ 3 := zRnA hr 45
  have r46 : (0 : Int) ≤ ρ 46 ∧ ρ 46 ≤ 0 := zRnA hr 46
  have r47 : (0 : Int) ≤ ρ 47 ∧ ρ 47 ≤ 255 := zRnA hr 47
  have r48 : (0 : Int) ≤ ρ 48 ∧ ρ 48 ≤ 2000 := zRnA hr 48
  have f0 : (0 : Int) ≤ ρ 48 + -ρ 34 := zAllA hf 0
  have f1 : (0 : Int) ≤ -ρ 48 + ρ 4 + (-1) := zAllA hf 1
  have f2 : (0 : Int) ≤ -ρ 34 + ρ 4 + (-1) := zAllA hf 2
  have f3 : (0 : Int) ≤ -ρ 43 + ρ 34 + (-1) := zAllA hf 3
  have f4 : (0 : Int) ≤ -ρ 44 + ρ 34 + (-1) := zAllA hf 4
  have f5 : (0 : Int) ≤ -ρ 45 + ρ 34 + (-1) := zAllA hf 5
  have f6 : (0 : Int) ≤ ρ 34 + -ρ 19 + (-1) := zAllA hf 6
  have f7 : (0 : Int) ≤ ρ 37 + -ρ 36 + (-1) := zAllA hf 7
  have f8 : (0 : Int) ≤ ρ 37 + -ρ 21 := zAllA hf 8
  have f9 : (0 : Int) ≤ ρ 40 + -ρ 24 := zAllA hf 9
  have f10 : (0 : Int) ≤ ρ 41 + -ρ 25 := zAllA hf 10
  have f11 : (0 : Int) ≤ ρ 42 + -ρ 26 := zAllA hf 11
  have f12 : (0 : Int) ≤ ρ 44 + -ρ 19 := zAllA hf 12
  have f13 : (0 : Int) ≤ -ρ 34 + ρ 4 := zAllA hf 13
  have f14 : (0 : Int) ≤ -ρ 35 + ρ 4 + (-1) := zAllA hf 14
  have f15 : (0 : Int) ≤ -ρ 19 + ρ 4 + (-1) := zAllA hf 15
  have f16 : (0 : Int) ≤ -ρ 5 + ρ 4 + (-1) := zAllA hf 16
  have f17 : (0 : Int) ≤ -ρ 32 + ρ 4 := zAllA hf 17
  have f18 : (0 : Int) ≤ -ρ 36 + ρ 21 := zAllA hf 18
  have f19 : (0 : Int) ≤ -ρ 18 + ρ 4 := zAllA hf 19
  have f20 : (0 : Int) ≤ ρ 26 + -ρ 16 := zAllA hf 20
  have f21 : (0 : Int) ≤ ρ 25 + -ρ 15 := zAllA hf 21
  have f22 : (0 : Int) ≤ ρ 24 + -ρ 14 := zAllA hf 22
  have f23 : (0 : Int) ≤ ρ 21 + -ρ 10 := zAllA hf 23
  have f24 : (0 : Int) ≤ ρ 19 + -ρ 3 := zAllA hf 24
  have f25 : (0 : Int) ≤ ρ 19 + -ρ 18 := zAllA hf 25
  have f26 : (0 : Int) ≤ -ρ 20 + ρ 18 := zAllA hf 26
  have m0 : γ 0 1 0 10 = ρ 0 := zAllA hm 0
  have m1 : γ 0 40 0 (ρ 0) = ρ 1 := zAllA hm 1
  have m2 : γ 0 9 (ρ 1) 2 = ρ 2 := zAllA hm 2
  have m3 : γ 0 2 0 6 = ρ 3 := zAllA hm 3
  have m4 : γ 0 2 0 3 = ρ 4 := zAllA hm 4
  have m5 : γ 0 2 0 7 = ρ 5 := zAllA hm 5
  have m6 : γ 0 10 (9 * ρ 1) 8 = ρ 6 := zAllA hm 6
  have m7 : γ 0 10 (9 * ρ 1) 12 = ρ 7 := zAllA hm 7
  have m8 : γ 0 10 (9 * ρ 1) 14 = ρ 8 := zAllA hm 8
  have m9 : γ 0 9 (ρ 1) 3 = ρ 9 := zAllA hm 9
  have m10 : γ 0 1 0 7 = ρ 10 := zAllA hm 10
  have m11 : γ 0 2 0 4 = ρ 11 := zAllA hm 11
  have m12 : γ 0 2 0 5 = ρ 12 := zAllA hm 12
  have m13 : γ 0 2 0 9 = ρ 13 := zAllA hm 13
  have m14 : γ 0 2 0 13 = ρ 14 := zAllA hm 14
  have m15 : γ 0 2 0 16 = ρ 15 := zAllA hm 15
  have m16 : γ 0 3 0 1 = ρ 16 := zAllA hm 16
  have m17 : γ 0 10 (9 * ρ 1) 15 = ρ 17 := zAllA hm 17
  have m18 : γ 1 9 (ρ 1) 2 = ρ 18 := zAllA hm 18
  have m19 : γ 1 2 0 6 = ρ 19 := zAllA hm 19
  have m20 : γ 1 10 (9 * ρ 1) 8 = ρ 6 := zAllA hm 20
  have m21 : γ 1 10 (9 * ρ 1) 12 = ρ 7 := zAllA hm 21
  have m22 : γ 1 9 (ρ 1) 3 = ρ 20 := zAllA hm 22
  have m23 : γ 1 1 0 7 = ρ 21 := zAllA hm 23
  have m24 : γ 1 2 0 4 = ρ 11 := zAllA hm 24
  have m25 : γ 1 2 0 5 = ρ 22 := zAllA hm 25
  have m26 : γ 1 2 0 9 = ρ 23 := zAllA hm 26
  have m27 : γ 1 2 0 13 = ρ 24 := zAllA hm 27
  have m28 : γ 1 2 0 16 = ρ 25 := zAllA hm 28
  have m29 : γ 1 3 0 1 = ρ 26 := zAllA hm 29
  have m30 : γ 1 10 (ρ 18 + 9 * ρ 1 + 1) 4 = ρ 27 := zAllA hm 30
  have m31 : γ 1 10 (ρ 18 + 9 * ρ 1 + 1) 11 = ρ 28 := zAllA hm 31
  have m32 : γ 1 10 (ρ 18 + 9 * ρ 1 + 1) 8 = ρ 29 := zAllA hm 32
  have m33 : γ 1 10 (ρ 18 + 9 * ρ 1 + 1) 5 = ρ 30 := zAllA hm 33
  have m34 : γ 1 10 (ρ 18 + 9 * ρ 1 + 1) 7 = ρ 31 := zAllA hm 34
  have m35 : γ 1 10 (ρ 18 + 9 * ρ 1 + 1) 9 = ρ 32 := zAllA hm 35
  have m36 : γ 1 10 (ρ 18 + 9 * ρ 1 + 1) 12 = ρ 33 := zAllA hm 36
  have m37 : γ 3 2 0 6 = ρ 34 := zAllA hm 37
  have m38 : γ 3 10 (ρ 18 + 9 * ρ 1 + 1) 4 = ρ 35 := zAllA hm 38
  have m39 : γ 3 10 (ρ 18 + 9 * ρ 1 + 1) 11 = ρ 28 := zAllA hm 39
  have m40 : γ 3 10 (ρ 18 + 9 * ρ 1 + 1) 8 = ρ 36 := zAllA hm 40
  have m41 : γ 3 10 (9 * ρ 1) 8 = ρ 6 := zAllA hm 41
  have m42 : γ 3 10 (9 * ρ 1) 12 = ρ 7 := zAllA hm 42
  have m43 : γ 3 1 0 7 = ρ 37 := zAllA hm 43
  have m44 : γ 3 2 0 4 = ρ 11 := zAllA hm 44
  have m45 : γ 3 2 0 5 = ρ 38 := zAllA hm 45
  have m46 : γ 3 2 0 9 = ρ 39 := zAllA hm 46
  have m47 : γ 3 2 0 13 = ρ 40 := zAllA hm 47
  have m48 : γ 3 2 0 16 = ρ 41 := zAllA hm 48
  have m49 : γ 3 3 0 1 = ρ 42 := zAllA hm 49
  have m50 : γ 3 10 (ρ 18 + 9 * ρ 1 + 1) 5 = ρ 43 := zAllA hm 50
  have m51 : γ 3 10 (ρ 18 + 9 * ρ 1 + 1) 7 = ρ 44 := zAllA hm 51
  have m52 : γ 3 10 (ρ 18 + 9 * ρ 1 + 1) 9 = ρ 45 := zAllA hm 52
  have m53 : γ 3 10 (ρ 18 + 9 * ρ 1 + 1) 12 = ρ 46 := zAllA hm 53
  have m54 : γ 7 2 0 6 = ρ 48 := zAllA hm 54
  have m55 : γ 8 2 0 4 = ρ 48 := zAllA hm 55
  have c1 : ∀ (G : Nat) (k j : Int), ¬ rMdP m107_ G j → γ 1 G k j = γ 0 G k j := And.right (zChA hc 7)
  have c2 : ∀ (G : Nat) (k j : Int), ¬ rMdP m0_ G j → γ 2 G k j = γ 1 G k j := And.right (zChA hc 6)
  have c3 : ∀ (G : Nat) (k j : Int), ¬ rMdP m106_ G j → γ 3 G k j = γ 2 G k j := And.right (zChA hc 5)
  have c4 : γ 4 = rUp (γ 3) 9 (ρ 1) 2 (ρ 18 + 1) := And.right (zChA hc 4)
  have c5 : γ 5 = rUp (γ 4) 10 (ρ 18 + 9 * ρ 1 + 1) 10 (ρ 20) := And.right (zChA hc 3)
  have c6 : γ 6 = rUp (γ 5) 9 (ρ 1) 3 (ρ 20 + 1) := And.right (zChA hc 2)
  have c7 : ∀ (G : Nat) (k j : Int), ¬ rMdP m77_ G j → γ 7 G k j = γ 6 G k j := And.right (zChA hc 1)
  have c8 : ∀ (G : Nat) (k j : Int), ¬ rMdP m72_ G j → γ 8 G k j = γ 7 G k j := And.right (zChA hc 0)
  have l0 : sn132 [ρ 1, ρ 18] (γ 1) 0 (ρ 18 + 9 * ρ 1 + 1) (γ 2) := hS132 _ _ _ _ _ (zAllA hl 0)
  have l1 : sn157 [ρ 0, ρ 1, ρ 18, ρ 19, ρ 4, ρ 27, ρ 28, ρ 29, ρ 5, ρ 6, ρ 7, ρ 21, ρ 11, ρ 22, ρ 23, ρ 24, ρ 25, ρ 26, ρ 30, ρ 31, ρ 32, ρ 33] (γ 2) 0 1 (γ 3) := hS157 _ _ _ _ _ (zAllA hl 1)
  have l2 : sn114 [ρ 34, ρ 4] (γ 6) 0 (ρ 47) (γ 7) := hS114 _ _ _ _ _ (zAllA hl 2)
  have l3 : ρ 47 ≠ 46 := zAllA hl 3
  have l4 : ρ 47 ≠ 44 := zAllA hl 4
  have l5 : sn109 [ρ 48, ρ 11] (γ 7) 0 0 (γ 8) := hS109 _ _ _ _ _ (zAllA hl 5)
  show sn158 [ρ 0, ρ 1, ρ 2, ρ 3, ρ 4, ρ 5, ρ 6, ρ 7, ρ 8, ρ 9, ρ 10, ρ 11, ρ 12, ρ 13, ρ 14, ρ 15, ρ 16, ρ 17] (γ 0) 0 0 (γ 8)
  have hD : en158 (γ 0) (0, [], γ 1) = .inr (0, 0, γ 8) := by
    unfold en158
    refine zIP (show (0 : Nat) = 0 by decide) (zLV (γ 1) rfl (zLE m0 (zLE m1 (zLE m18 (zLE m22 (zIN (show ¬ (ρ 18 ≥ 8) by omega) (zLE (show fn132 [ρ 1, ρ 18] (γ 1) = (0, ρ 18 + 9 * ρ 1 + 1, γ 2) from l0.symm) ?_)))))))
    refine zLV (γ 2) rfl (zLE (show fn157 [] (γ 2) = (0, 1, γ 3) from l1.symm) (zLV (γ 3) rfl (zIP (show (1 : Int) ≤ 1 by omega) (zIN (show ¬ (3 ≤ γ 3 10 (ρ 18 + 9 * ρ 1 + 1) 4) by omega) (zLE m38 (zLE c4.symm (zIN (show ¬ (ρ 35 ≠ 1) by omega) ?_)))))))
    refine zLE c5.symm (zLE c6.symm (zLE (show fn114 [] (γ 6) = (0, ρ 47, γ 7) from l2.symm) (zLV (γ 7) rfl (zIP (show (0 : Int) ≤ ρ 47 by omega) (zLV (ρ 47) rfl (zLE m54 (zIP (show ρ 47 ≠ 46 by omega) ?_)))))))
    refine zIN (show ¬ (ρ 47 = 44) by omega) (zLE (show fn109 [ρ 48] (γ 7) = (0, 0, γ 8) from l5.symm) (zLV (γ 8) rfl ?_))
    rfl
  exact zGoo_aend hJ hD
theorem vn158a0_24 {S : Nat → zSpc} (hS109 : zIm S 109 sn109) (hS114 : zIm S 114 sn114) (hS132 : zIm S 132 sn132) (hS152 : zIm S 152 sn152) (hS153 : zIm S 153 sn153) (hS157 : zIm S 157 sn157) {a : List Int} {g : rHp} : ∀ (ρ : Nat → Int) (γ : Nat → rHp), jn158 a g 0 (zAg (zNA a158_ 0) ρ) (γ 1) → zO 18 S a g q158a0_24 ρ γ → zGl (fun i vs g1 => jn158 a g i vs g1) (sn158 a g) q158a0_24 ρ γ := by
  intro ρ γ hJ h
  obtain ⟨ha, hg, hr, hf, hm, hc, hl⟩ := h
  have ha : a = [ρ 0, ρ 1, ρ 2, ρ 3, ρ 4, ρ 5, ρ 6, ρ 7, ρ 8, ρ 9, ρ 10, ρ 11, ρ 12, ρ 13, ρ 14, ρ 15, ρ 16, ρ 17] := ha
  subst ha
  subst hg
  have hJ : jn158 [ρ 0, ρ 1, ρ 2, ρ 3, ρ 4, ρ 5, ρ 6, ρ 7, ρ 8, ρ 9, ρ 10, ρ 11, ρ 12, ρ 13, ρ 14, ρ 15, ρ 16, ρ 17] (γ 0) 0 [ρ 0, ρ 1, ρ 2, ρ 3, ρ 4, ρ 5, ρ 6, ρ 7, ρ 8, ρ 9, ρ 10, ρ 11, ρ 12, ρ 13, ρ 14, ρ 15, ρ 16, ρ 17, ρ 18, ρ 19, ρ 20, ρ 21, ρ 22, ρ 23, ρ 24, ρ 25, ρ 26] (γ 1) := hJ
  have r0 : (0 : Int) ≤ ρ 0 ∧ ρ 0 ≤ 60 := zRnA hr 0
  have r1 : (0 : Int) ≤ ρ 1 ∧ ρ 1 ≤ 60 := zRnA hr 1
  have r2 : (0 : Int) ≤ ρ 2 ∧ ρ 2 ≤ 8 := zRnA hr 2
  have r3 : (0 : Int) ≤ ρ 3 ∧ ρ 3 ≤ 2000 := zRnA hr 3
  have r4 : (2 : Int) ≤ ρ 4 ∧ ρ 4 ≤ 2000 := zRnA hr 4
  have r5 : (0 : Int) ≤ ρ 5 ∧ ρ 5 ≤ 0 := zRnA hr 5
  have r6 : ((-1) : Int) ≤ ρ 6 ∧ ρ 6 ≤ 19 := zRnA hr 6
  have r7 : (0 : Int) ≤ ρ 7 ∧ ρ 7 ≤ 4 := zRnA hr 7
  have r8 : ((-1) : Int) ≤ ρ 8 ∧ ρ 8 ≤ 7 := zRnA hr 8
  have r9 : (0 : Int) ≤ ρ 9 ∧ ρ 9 ≤ 8 := zRnA hr 9
  have r10 : (0 : Int) ≤ ρ 10 ∧ ρ 10 ≤ 20 := zRnA hr 10
  have r11 : ((-2147483648) : Int) ≤ ρ 11 ∧ ρ 11 ≤ 2147483647 := zRnA hr 11
  have r12 : ((-2147483648) : Int) ≤ ρ 12 ∧ ρ 12 ≤ 2147483647 := zRnA hr 12
  have r13 : ((-2147483648) : Int) ≤ ρ 13 ∧ ρ 13 ≤ 2147483647 := zRnA hr 13
  have r14 : (0 : Int) ≤ ρ 14 ∧ ρ 14 ≤ 8 := zRnA hr 14
  have r15 : (0 : Int) ≤ ρ 15 ∧ ρ 15 ≤ 32 := zRnA hr 15
  have r16 : (0 : Int) ≤ ρ 16 ∧ ρ 16 ≤ 5120 := zRnA hr 16
  have r17 : ((-2147483648) : Int) ≤ ρ 17 ∧ ρ 17 ≤ 2147483647 := zRnA hr 17
  have r18 : (0 : Int) ≤ ρ 18 ∧ ρ 18 ≤ 7 := zRnA hr 18
  have r19 : (0 : Int) ≤ ρ 19 ∧ ρ 19 ≤ 2000 := zRnA hr 19
  have r20 : (0 : Int) ≤ ρ 20 ∧ ρ 20 ≤ 8 := zRnA hr 20
  have r21 : (0 : Int) ≤ ρ 21 ∧ ρ 21 ≤ 20 := zRnA hr 21
  have r22 : ((-2147483648) : Int) ≤ ρ 22 ∧ ρ 22 ≤ 2147483647 := zRnA hr 22
  have r23 : ((-2147483648) : Int) ≤ ρ 23 ∧ ρ 23 ≤ 2147483647 := zRnA hr 23
  have r24 : (0 : Int) ≤ ρ 24 ∧ ρ 24 ≤ 8 := zRnA hr 24
  have r25 : (0 : Int) ≤ ρ 25 ∧ ρ 25 ≤ 32 := zRnA hr 25
  have r26 : (0 : Int) ≤ ρ 26 ∧ ρ 26 ≤ 5120 := zRnA hr 26
  have r27 : (0 : Int) ≤ ρ 27 ∧ ρ 27 ≤ 8 := zRnA hr 27
  have r28 : ((-1) : Int) ≤ ρ 28 ∧ ρ 28 ≤ 7 := zRnA hr 28
  have r29 : ((-1) : Int) ≤ ρ 29 ∧ ρ 29 ≤ 19 := zRnA hr 29
  have r30 : (0 : Int) ≤ ρ 30 ∧ ρ 30 ≤ 4 := zRnA hr 30
  have r31 : ((-2147483648) : Int) ≤ ρ 31 ∧ ρ 31 ≤ 2147483647 := zRnA hr 31
  have r32 : ((-1) : Int) ≤ ρ 32 ∧ ρ 32 ≤ 3 := zRnA hr 32
  have r33 : (0 : Int) ≤ ρ 33 ∧ ρ 33 ≤ 4 := zRnA hr 33
  have r34 : (3 : Int) ≤ ρ 34 ∧ ρ 34 ≤ 2000 := zRnA hr 34
  have r35 : (1 : Int) ≤ ρ 35 ∧ ρ 35 ≤ 1 := zRnA hr 35
  have r36 : (0 : Int) ≤ ρ 36 ∧ ρ 36 ≤ 19 := zRnA hr 36
  have r37 : (1 : Int) ≤ ρ 37 ∧ ρ 37 ≤ 20 := zRnA hr 37
  have r38 : ((-2147483648) : Int) ≤ ρ 38 ∧ ρ 38 ≤ 2147483647 := zRnA hr 38
  have r39 : ((-2147483648) : Int) ≤ ρ 39 ∧ ρ 39 ≤ 2147483647 := zRnA hr 39
  have r40 : (0 : Int) ≤ ρ 40 ∧ ρ 40 ≤ 8 := zRnA hr 40
  have r41 : (0 : Int) ≤ ρ 41 ∧ ρ 41 ≤ 32 := zRnA hr 41
  have r42 : (0 : Int) ≤ ρ 42 ∧ ρ 42 ≤ 5120 := zRnA hr 42
  have r43 : (1 : Int) ≤ ρ 43 ∧ ρ 43 ≤ 4 := zRnA hr 43
  have r44 : (0 : Int) ≤ ρ 44 ∧ ρ 44 ≤ 1999 := zRnA hr 44
  have r45 : ((-1) : Int) ≤ ρ 45 ∧ ρ 45 ≤ 3 := zRnA hr 45
  have r46 : (0 : Int) ≤ ρ 46 ∧ ρ 46 ≤ 0 := zRnA hr 46
  have r47 : (46 : Int) ≤ ρ 47 ∧ ρ 47 ≤ 46 := zRnA hr 47
  have r48 : (0 : Int) ≤ ρ 48 ∧ ρ 48 ≤ 2000 := zRnA hr 48
  have r49 : (0 : Int) ≤ ρ 49 ∧ ρ 49 ≤ 4 := zRnA hr 49
  have r50 : ((-2147483648) : Int) ≤ ρ 50 ∧ ρ 50 ≤ 2147483647 := zRnA hr 50
  have f0 : (0 : Int) ≤ ρ 48 + -ρ 34 := zAllA hf 0
  have f1 : (0 : Int) ≤ -ρ 48 + ρ 4 + (-1) := zAllA hf 1
  have f2 : (0 : Int) ≤ -ρ 34 + ρ 4 + (-1) := zAllA hf 2
  have f3 : (0 : Int) ≤ -ρ 43 + ρ 34 + (-1) := zAllA hf 3
  have f4 : (0 : Int) ≤ -ρ 44 + ρ 34 + (-1) := zAllA hf 4
  have f5 : (0 : Int) ≤ -ρ 45 + ρ 34 + (-1) := zAllA hf 5
  have f6 : (0 : Int) ≤ ρ 34 + -ρ 19 + (-1) := zAllA hf 6
  have f7 : (0 : Int) ≤ ρ 37 + -ρ 36 + (-1) := zAllA hf 7
  have f8 : (0 : Int) ≤ ρ 37 + -ρ 21 := zAllA hf 8
  have f9 : (0 : Int) ≤ ρ 40 + -ρ 24 := zAllA hf 9
  have f10 : (0 : Int) ≤ ρ 41 + -ρ 25 := zAllA hf 10
  have f11 : (0 : Int) ≤ ρ 42 + -ρ 26 := zAllA hf 11
  have f12 : (0 : Int) ≤ ρ 44 + -ρ 19 := zAllA hf 12
  have f13 : (0 : Int) ≤ -ρ 34 + ρ 4 := zAllA hf 13
  have f14 : (0 : Int) ≤ -ρ 35 + ρ 4 + (-1) := zAllA hf 14
  have f15 : (0 : Int) ≤ -ρ 19 + ρ 4 + (-1) := zAllA hf 15
  have f16 : (0 : Int) ≤ -ρ 5 + ρ 4 + (-1) := zAllA hf 16
  have f17 : (0 : Int) ≤ -ρ 32 + ρ 4 := zAllA hf 17
  have f18 : (0 : Int) ≤ -ρ 36 + ρ 21 := zAllA hf 18
  have f19 : (0 : Int) ≤ -ρ 18 + ρ 4 := zAllA hf 19
  have f20 : (0 : Int) ≤ ρ 26 + -ρ 16 := zAllA hf 20
  have f21 : (0 : Int) ≤ ρ 25 + -ρ 15 := zAllA hf 21
  have f22 : (0 : Int) ≤ ρ 24 + -ρ 14 := zAllA hf 22
  have f23 : (0 : Int) ≤ ρ 21 + -ρ 10 := zAllA hf 23
  have f24 : (0 : Int) ≤ ρ 19 + -ρ 3 := zAllA hf 24
  have f25 : (0 : Int) ≤ ρ 19 + -ρ 18 := zAllA hf 25
  have f26 : (0 : Int) ≤ -ρ 20 + ρ 18 := zAllA hf 26
  have m0 : γ 0 1 0 10 = ρ 0 := zAllA hm 0
  have m1 : γ 0 40 0 (ρ 0) = ρ 1 := zAllA hm 1
  have m2 : γ 0 9 (ρ 1) 2 = ρ 2 := zAllA hm 2
  have m3 : γ 0 2 0 6 = ρ 3 := zAllA hm 3
  have m4 : γ 0 2 0 3 = ρ 4 := zAllA hm 4
  have m5 : γ 0 2 0 7 = ρ 5 := zAllA hm 5
  have m6 : γ 0 10 (9 * ρ 1) 8 = ρ 6 := zAllA hm 6
  have m7 : γ 0 10 (9 * ρ 1) 12 = ρ 7 := zAllA hm 7
  have m8 : γ 0 10 (9 * ρ 1) 14 = ρ 8 := zAllA hm 8
  have m9 : γ 0 9 (ρ 1) 3 = ρ 9 := zAllA hm 9
  have m10 : γ 0 1 0 7 = ρ 10 := zAllA hm 10
  have m11 : γ 0 2 0 4 = ρ 11 := zAllA hm 11
  have m12 : γ 0 2 0 5 = ρ 12 := zAllA hm 12
  have m13 : γ 0 2 0 9 = ρ 13 := zAllA hm 13
  have m14 : γ 0 2 0 13 = ρ 14 := zAllA hm 14
  have m15 : γ 0 2 0 16 = ρ 15 := zAllA hm 15
  have m16 : γ 0 3 0 1 = ρ 16 := zAllA hm 16
  have m17 : γ 0 10 (9 * ρ 1) 15 = ρ 17 := zAllA hm 17
  have m18 : γ 1 9 (ρ 1) 2 = ρ 18 := zAllA hm 18
  have m19 : γ 1 2 0 6 = ρ 19 := zAllA hm 19
  have m20 : γ 1 10 (9 * ρ 1) 8 = ρ 6 := zAllA hm 20
  have m21 : γ 1 10 (9 * ρ 1) 12 = ρ 7 := zAllA hm 21
  have m22 : γ 1 9 (ρ 1) 3 = ρ 20 := zAllA hm 22
  have m23 : γ 1 1 0 7 = ρ 21 := zAllA hm 23
  have m24 : γ 1 2 0 4 = ρ 11 := zAllA hm 24
  have m25 : γ 1 2 0 5 = ρ 22 := zAllA hm 25
  have m26 : γ 1 2 0 9 = ρ 23 := zAllA hm 26
  have m27 : γ 1 2 0 13 = ρ 24 := zAllA hm 27
  have m28 : γ 1 2 0 16 = ρ 25 := zAllA hm 28
  have m29 : γ 1 3 0 1 = ρ 26 := zAllA hm 29
  have m30 : γ 1 10 (ρ 18 + 9 * ρ 1 + 1) 4 = ρ 27 := zAllA hm 30
  have m31 : γ 1 10 (ρ 18 + 9 * ρ 1 + 1) 11 = ρ 28 := zAllA hm 31
  have m32 : γ 1 10 (ρ 18 + 9 * ρ 1 + 1) 8 = ρ 29 := zAllA hm 32
  have m33 : γ 1 10 (ρ 18 + 9 * ρ 1 + 1) 5 = ρ 30 := zAllA hm 33
  have m34 : γ 1 10 (ρ 18 + 9 * ρ 1 + 1) 7 = ρ 31 := zAllA hm 34
  have m35 : γ 1 10 (ρ 18 + 9 * ρ 1 + 1) 9 = ρ 32 := zAllA hm 35
  have m36 : γ 1 10 (ρ 18 + 9 * ρ 1 + 1) 12 = ρ 33 := zAllA hm 36
  have m37 : γ 3 2 0 6 = ρ 34 := zAllA hm 37
  have m38 : γ 3 10 (ρ 18 + 9 * ρ 1 + 1) 4 = ρ 35 := zAllA hm 38
  have m39 : γ 3 10 (ρ 18 + 9 * ρ 1 + 1) 11 = ρ 28 := zAllA hm 39
  have m40 : γ 3 10 (ρ 18 + 9 * ρ 1 + 1) 8 = ρ 36 := zAllA hm 40
  have m41 : γ 3 10 (9 * ρ 1) 8 = ρ 6 := zAllA hm 41
  have m42 : γ 3 10 (9 * ρ 1) 12 = ρ 7 := zAllA hm 42
  have m43 : γ 3 1 0 7 = ρ 37 := zAllA hm 43
  have m44 : γ 3 2 0 4 = ρ 11 := zAllA hm 44
  have m45 : γ 3 2 0 5 = ρ 38 := zAllA hm 45
  have m46 : γ 3 2 0 9 = ρ 39 := zAllA hm 46
  have m47 : γ 3 2 0 13 = ρ 40 := zAllA hm 47
  have m48 : γ 3 2 0 16 = ρ 41 := zAllA hm 48
  have m49 : γ 3 3 0 1 = ρ 42 := zAllA hm 49
  have m50 : γ 3 10 (ρ 18 + 9 * ρ 1 + 1) 5 = ρ 43 := zAllA hm 50
  have m51 : γ 3 10 (ρ 18 + 9 * ρ 1 + 1) 7 = ρ 44 := zAllA hm 51
  have m52 : γ 3 10 (ρ 18 + 9 * ρ 1 + 1) 9 = ρ 45 := zAllA hm 52
  have m53 : γ 3 10 (ρ 18 + 9 * ρ 1 + 1) 12 = ρ 46 := zAllA hm 53
  have m54 : γ 7 2 0 6 = ρ 48 := zAllA hm 54
  have m55 : γ 3 10 (9 * ρ 1) 5 = ρ 49 := zAllA hm 55
  have m56 : γ 9 2 0 4 = ρ 50 := zAllA hm 56
  have c1 : ∀ (G : Nat) (k j : Int), ¬ rMdP m107_ G j → γ 1 G k j = γ 0 G k j := And.right (zChA hc 8)
  have c2 : ∀ (G : Nat) (k j : Int), ¬ rMdP m0_ G j → γ 2 G k j = γ 1 G k j := And.right (zChA hc 7)
  have c3 : ∀ (G : Nat) (k j : Int), ¬ rMdP m106_ G j → γ 3 G k j = γ 2 G k j := And.right (zChA hc 6)
  have c4 : γ 4 = rUp (γ 3) 9 (ρ 1) 2 (ρ 18 + 1) := And.right (zChA hc 5)
  have c5 : γ 5 = rUp (γ 4) 10 (ρ 18 + 9 * ρ 1 + 1) 10 (ρ 20) := And.right (zChA hc 4)
  have c6 : γ 6 = rUp (γ 5) 9 (ρ 1) 3 (ρ 20 + 1) := And.right (zChA hc 3)
  have c7 : ∀ (G : Nat) (k j : Int), ¬ rMdP m77_ G j → γ 7 G k j = γ 6 G k j := And.right (zChA hc 2)
  have c8 : γ 8 = rUp (γ 7) 2 0 6 (ρ 48 + 1) := And.right (zChA hc 1)
  have c9 : ∀ (G : Nat) (k j : Int), ¬ rMdP m72_ G j → γ 9 G k j = γ 8 G k j := And.right (zChA hc 0)
  have l0 : sn132 [ρ 1, ρ 18] (γ 1) 0 (ρ 18 + 9 * ρ 1 + 1) (γ 2) := hS132 _ _ _ _ _ (zAllA hl 0)
  have l1 : sn157 [ρ 0, ρ 1, ρ 18, ρ 19, ρ 4, ρ 27, ρ 28, ρ 29, ρ 5, ρ 6, ρ 7, ρ 21, ρ 11, ρ 22, ρ 23, ρ 24, ρ 25, ρ 26, ρ 30, ρ 31, ρ 32, ρ 33] (γ 2) 0 1 (γ 3) := hS157 _ _ _ _ _ (zAllA hl 1)
  have l2 : sn114 [ρ 34, ρ 4] (γ 6) 0 (ρ 47) (γ 7) := hS114 _ _ _ _ _ (zAllA hl 2)
  have l3 : sn153 [9 * ρ 1, ρ 11, ρ 38, ρ 49, ρ 7, ρ 8, ρ 17] (γ 8) 0 0 (γ 9) := hS153 _ _ _ _ _ (zAllA hl 3)
  show sn158 [ρ 0, ρ 1, ρ 2, ρ 3, ρ 4, ρ 5, ρ 6, ρ 7, ρ 8, ρ 9, ρ 10, ρ 11, ρ 12, ρ 13, ρ 14, ρ 15, ρ 16, ρ 17] (γ 0) 0 0 (γ 9)
  have hD : en158 (γ 0) (0, [], γ 1) = .inr (0, 0, γ 9) := by
    unfold en158
    refine zIP (show (0 : Nat) = 0 by decide) (zLV (γ 1) rfl (zLE m0 (zLE m1 (zLE m18 (zLE m22 (zIN (show ¬ (ρ 18 ≥ 8) by omega) (zLE (show fn132 [ρ 1, ρ 18] (γ 1) = (0, ρ 18 + 9 * ρ 1 + 1, γ 2) from l0.symm) ?_)))))))
    refine zLV (γ 2) rfl (zLE (show fn157 [] (γ 2) = (0, 1, γ 3) from l1.symm) (zLV (γ 3) rfl (zIP (show (1 : Int) ≤ 1 by omega) (zIN (show ¬ (3 ≤ γ 3 10 (ρ 18 + 9 * ρ 1 + 1) 4) by omega) (zLE m38 (zLE c4.symm (zIN (show ¬ (ρ 35 ≠ 1) by omega) ?_)))))))
    refine zLE c5.symm (zLE c6.symm (zLE (show fn114 [] (γ 6) = (0, ρ 47, γ 7) from l2.symm) (zLV (γ 7) rfl (zIP (show (0 : Int) ≤ ρ 47 by omega) (zLV (ρ 47) rfl (zLE m54 (zIN (show ¬ (ρ 47 ≠ 46) by omega) ?_)))))))
    refine zLE c8.symm (zLE (show fn153 [9 * ρ 1] (γ 8) = (0, 0, γ 9) from l3.symm) (zLV (γ 9) rfl (zIN (show ¬ ((1 : Int) ≤ 0) by omega) ?_)))
    rfl
  exact zGoo_aend hJ hD
theorem vn158a0_25 {S : Nat → zSpc} (hS109 : zIm S 109 sn109) (hS114 : zIm S 114 sn114) (hS132 : zIm S 132 sn132) (hS152 : zIm S 152 sn152) (hS153 : zIm S 153 sn153) (hS157 : zIm S 157 sn157) {a : List Int} {g : rHp} : ∀ (ρ : Nat → Int) (γ : Nat → rHp), jn158 a g 0 (zAg (zNA a158_ 0) ρ) (γ 1) → zO 18 S a g q158a0_25 ρ γ → zGl (fun i vs g1 => jn158 a g i vs g1) (sn158 a g) q158a0_25 ρ γ := by
  intro ρ γ hJ h
  obtain ⟨ha, hg, hr, hf, hm, hc, hl⟩ := h
  have ha : a = [ρ 0, ρ 1, ρ 2, ρ 3, ρ 4, ρ 5, ρ 6, ρ 7, ρ 8, ρ 9, ρ 10, ρ 11, ρ 12, ρ 13, ρ 14, ρ 15, ρ 16, ρ 17] := ha
  subst ha
  subst hg
  have hJ : jn158 [ρ 0, ρ 1, ρ 2, ρ 3, ρ 4, ρ 5, ρ 6, ρ 7, ρ 8, ρ 9, ρ 10, ρ 11, ρ 12, ρ 13, ρ 14, ρ 15, ρ 16, ρ 17] (γ 0) 0 [ρ 0, ρ 1, ρ 2, ρ 3, ρ 4, ρ 5, ρ 6, ρ 7, ρ 8, ρ 9, ρ 10, ρ 11, ρ 12, ρ 13, ρ 14, ρ 15, ρ 16, ρ 17, ρ 18, ρ 19, ρ 20, ρ 21, ρ 22, ρ 23, ρ 24, ρ 25, ρ 26] (γ 1) := hJ
  have r0 : (0 : Int) ≤ ρ 0 ∧ ρ 0 ≤ 60 := zRnA hr 0
  have r1 : (0 : Int) ≤ ρ 1 ∧ ρ 1 ≤ 60 := zRnA hr 1
  have r2 : (0 : Int) ≤ ρ 2 ∧ ρ 2 ≤ 8 := zRnA hr 2
  have r3 : (0 : Int) ≤ ρ 3 ∧ ρ 3 ≤ 2000 := zRnA hr 3
  have r4 : (2 : Int) ≤ ρ 4 ∧ ρ 4 ≤ 2000 := zRnA hr 4
  have r5 : (0 : Int) ≤ ρ 5 ∧ ρ 5 ≤ 0 := zRnA hr 5
  have r6 : ((-1) : Int) ≤ ρ 6 ∧ ρ 6 ≤ 19 := zRnA hr 6
  have r7 : (0 : Int) ≤ ρ 7 ∧ ρ 7 ≤ 4 := zRnA hr 7
  have r8 : ((-1) : Int) ≤ ρ 8 ∧ ρ 8 ≤ 7 := zRnA hr 8
  have r9 : (0 : Int) ≤ ρ 9 ∧ ρ 9 ≤ 8 := zRnA hr 9
  have r10 : (0 : Int) ≤ ρ 10 ∧ ρ 10 ≤ 20 := zRnA hr 10
  have r11 : ((-2147483648) : Int) ≤ ρ 11 ∧ ρ 11 ≤ 2147483647 := zRnA hr 11
  have r12 : ((-2147483648) : Int) ≤ ρ 12 ∧ ρ 12 ≤ 2147483647 := zRnA hr 12
  have r13 : ((-2147483648) : Int) ≤ ρ 13 ∧ ρ 13 ≤ 2147483647 := zRnA hr 13
  have r14 : (0 : Int) ≤ ρ 14 ∧ ρ 14 ≤ 8 := zRnA hr 14
  have r15 : (0 : Int) ≤ ρ 15 ∧ ρ 15 ≤ 32 := zRnA hr 15
  have r16 : (0 : Int) ≤ ρ 16 ∧ ρ 16 ≤ 5120 := zRnA hr 16
  have r17 : ((-2147483648) : Int) ≤ ρ 17 ∧ ρ 17 ≤ 2147483647 := zRnA hr 17
  have r18 : (0 : Int) ≤ ρ 18 ∧ ρ 18 ≤ 7 := zRnA hr 18
  have r19 : (0 : Int) ≤ ρ 19 ∧ ρ 19 ≤ 2000 := zRnA hr 19
  have r20 : (0 : Int) ≤ ρ 20 ∧ ρ 20 ≤ 8 := zRnA hr 20
  have r21 : (0 : Int) ≤ ρ 21 ∧ ρ 21 ≤ 20 := zRnA hr 21
  have r22 : ((-2147483648) : Int) ≤ ρ 22 ∧ ρ 22 ≤ 2147483647 := zRnA hr 22
  have r23 : ((-2147483648) : Int) ≤ ρ 23 ∧ ρ 23 ≤ 2147483647 := zRnA hr 23
  have r24 : (0 : Int) ≤ ρ 24 ∧ ρ 24 ≤ 8 := zRnA hr 24
  have r25 : (0 : Int) ≤ ρ 25 ∧ ρ 25 ≤ 32 := zRnA hr 25
  have r26 : (0 : Int) ≤ ρ 26 ∧ ρ 26 ≤ 5120 := zRnA hr 26
  have r27 : (0 : Int) ≤ ρ 27 ∧ ρ 27 ≤ 8 := zRnA hr 27
  have r28 : ((-1) : Int) ≤ ρ 28 ∧ ρ 28 ≤ 7 := zRnA hr 28
  have r29 : ((-1) : Int) ≤ ρ 29 ∧ ρ 29 ≤ 19 := zRnA hr 29
  have r30 : (0 : Int) ≤ ρ 30 ∧ ρ 30 ≤ 4 := zRnA hr 30
  have r31 : ((-2147483648) : Int) ≤ ρ 31 ∧ ρ 31 ≤ 2147483647 := zRnA hr 31
  have r32 : ((-1) : Int) ≤ ρ 32 ∧ ρ 32 ≤ 3 := zRnA hr 32
  have r33 : (0 : Int) ≤ ρ 33 ∧ ρ 33 ≤ 4 := zRnA hr 33
  have r34 : (3 : Int) ≤ ρ 34 ∧ ρ 34 ≤ 2000 := zRnA hr 34
  have r35 : (1 : Int) ≤ ρ 35 ∧ ρ 35 ≤ 1 := zRnA hr 35
  have r36 : (0 : Int) ≤ ρ 36 ∧ ρ 36 ≤ 19 := zRnA hr 36
  have r37 : (1 : Int) ≤ ρ 37 ∧ ρ 37 ≤ 20 := zRnA hr 37
  have r38 : ((-2147483648) : Int) ≤ ρ 38 ∧ ρ 38 ≤ 2147483647 := zRnA hr 38
  have r39 : ((-2147483648) : Int) ≤ ρ 39 ∧ ρ 39 ≤ 2147483647 := zRnA hr 39
  have r40 : (0 : Int) ≤ ρ 40 ∧ ρ 40 ≤ 8 := zRnA hr 40
  have r41 : (0 : Int) ≤ ρ 41 ∧ ρ 41 ≤ 32 := zRnA hr 41
  have r42 : (0 : Int) ≤ ρ 42 ∧ ρ 42 ≤ 5120 := zRnA hr 42
  have r43 : (1 : Int) ≤ ρ 43 ∧ ρ 43 ≤ 4 := zRnA hr 43
  have r44 : (0 : Int) ≤ ρ 44 ∧ ρ 44 ≤ 1999 := zRnA hr 44
  have r45 : ((-1) : Int) ≤ ρ 45 ∧ ρ 45 ≤ 3 := zRnA hr 45
  have r46 : (0 : Int) ≤ ρ 46 ∧ ρ 46 ≤ 0 := zRnA hr 46
  have r47 : (46 : Int) ≤ ρ 47 ∧ ρ 47 ≤ 46 := zRnA hr 47
  have r48 : (0 : Int) ≤ ρ 48 ∧ ρ 48 ≤ 2000 := zRnA hr 48
  have r49 : (0 : Int) ≤ ρ 49 ∧ ρ 49 ≤ 4 := zRnA hr 49
  have r50 : ((-2147483648) : Int) ≤ ρ 50 ∧ ρ 50 ≤ 2147483647 := zRnA hr 50
  have f0 : (0 : Int) ≤ ρ 48 + -ρ 34 := zAllA hf 0
  have f1 : (0 : Int) ≤ -ρ 48 + ρ 4 + (-1) := zAllA hf 1
  have f2 : (0 : Int) ≤ -ρ 34 + ρ 4 + (-1) := zAllA hf 2
  have f3 : (0 : Int) ≤ -ρ 43 + ρ 34 + (-1) := zAllA hf 3
  have f4 : (0 : Int) ≤ -ρ 44 + ρ 34 + (-1) := zAllA hf 4
  have f5 : (0 : Int) ≤ -ρ 45 + ρ 34 + (-1) := zAllA hf 5
  have f6 : (0 : Int) ≤ ρ 34 + -ρ 19 + (-1) := zAllA hf 6
  have f7 : (0 : Int) ≤ ρ 37 + -ρ 36 + (-1) := zAllA hf 7
  have f8 : (0 : Int) ≤ ρ 37 + -ρ 21 := zAllA hf 8
  have f9 : (0 : Int) ≤ ρ 40 + -ρ 24 := zAllA hf 9
  have f10 : (0 : Int) ≤ ρ 41 + -ρ 25 := zAllA hf 10
  have f11 : (0 : Int) ≤ ρ 42 + -ρ 26 := zAllA hf 11
  have f12 : (0 : Int) ≤ ρ 44 + -ρ 19 := zAllA hf 12
  have f13 : (0 : Int) ≤ -ρ 34 + ρ 4 := zAllA hf 13
  have f14 : (0 : Int) ≤ -ρ 35 + ρ 4 + (-1) := zAllA hf 14
  have f15 : (0 : Int) ≤ -ρ 19 + ρ 4 + (-1) := zAllA hf 15
  have f16 : (0 : Int) ≤ -ρ 5 + ρ 4 + (-1) := zAllA hf 16
  have f17 : (0 : Int) ≤ -ρ 32 + ρ 4 := zAllA hf 17
  have f18 : (0 : Int) ≤ -ρ 36 + ρ 21 := zAllA hf 18
  have f19 : (0 : Int) ≤ -ρ 18 + ρ 4 := zAllA hf 19
  have f20 : (0 : Int) ≤ ρ 26 + -ρ 16 := zAllA hf 20
  have f21 : (0 : Int) ≤ ρ 25 + -ρ 15 := zAllA hf 21
  have f22 : (0 : Int) ≤ ρ 24 + -ρ 14 := zAllA hf 22
  have f23 : (0 : Int) ≤ ρ 21 + -ρ 10 := zAllA hf 23
  have f24 : (0 : Int) ≤ ρ 19 + -ρ 3 := zAllA hf 24
  have f25 : (0 : Int) ≤ ρ 19 + -ρ 18 := zAllA hf 25
  have f26 : (0 : Int) ≤ -ρ 20 + ρ 18 := zAllA hf 26
  have m0 : γ 0 1 0 10 = ρ 0 := zAllA hm 0
  have m1 : γ 0 40 0 (ρ 0) = ρ 1 := zAllA hm 1
  have m2 : γ 0 9 (ρ 1) 2 = ρ 2 := zAllA hm 2
  have m3 : γ 0 2 0 6 = ρ 3 := zAllA hm 3
  have m4 : γ 0 2 0 3 = ρ 4 := zAllA hm 4
  have m5 : γ 0 2 0 7 = ρ 5 := zAllA hm 5
  have m6 : γ 0 10 (9 * ρ 1) 8 = ρ 6 := zAllA hm 6
  have m7 : γ 0 10 (9 * ρ 1) 12 = ρ 7 := zAllA hm 7
  have m8 : γ 0 10 (9 * ρ 1) 14 = ρ 8 := zAllA hm 8
  have m9 : γ 0 9 (ρ 1) 3 = ρ 9 := zAllA hm 9
  have m10 : γ 0 1 0 7 = ρ 10 := zAllA hm 10
  have m11 : γ 0 2 0 4 = ρ 11 := zAllA hm 11
  have m12 : γ 0 2 0 5 = ρ 12 := zAllA hm 12
  have m13 : γ 0 2 0 9 = ρ 13 := zAllA hm 13
  have m14 : γ 0 2 0 13 = ρ 14 := zAllA hm 14
  have m15 : γ 0 2 0 16 = ρ 15 := zAllA hm 15
  have m16 : γ 0 3 0 1 = ρ 16 := zAllA hm 16
  have m17 : γ 0 10 (9 * ρ 1) 15 = ρ 17 := zAllA hm 17
  have m18 : γ 1 9 (ρ 1) 2 = ρ 18 := zAllA hm 18
  have m19 : γ 1 2 0 6 = ρ 19 := zAllA hm 19
  have m20 : γ 1 10 (9 * ρ 1) 8 = ρ 6 := zAllA hm 20
  have m21 : γ 1 10 (9 * ρ 1) 12 = ρ 7 := zAllA hm 21
  have m22 : γ 1 9 (ρ 1) 3 = ρ 20 := zAllA hm 22
  have m23 : γ 1 1 0 7 = ρ 21 := zAllA hm 23
  have m24 : γ 1 2 0 4 = ρ 11 := zAllA hm 24
  have m25 : γ 1 2 0 5 = ρ 22 := zAllA hm 25
  have m26 : γ 1 2 0 9 = ρ 23 := zAllA hm 26
  have m27 : γ 1 2 0 13 = ρ 24 := zAllA hm 27
  have m28 : γ 1 2 0 16 = ρ 25 := zAllA hm 28
  have m29 : γ 1 3 0 1 = ρ 26 := zAllA hm 29
  have m30 : γ 1 10 (ρ 18 + 9 * ρ 1 + 1) 4 = ρ 27 := zAllA hm 30
  have m31 : γ 1 10 (ρ 18 + 9 * ρ 1 + 1) 11 = ρ 28 := zAllA hm 31
  have m32 : γ 1 10 (ρ 18 + 9 * ρ 1 + 1) 8 = ρ 29 := zAllA hm 32
  have m33 : γ 1 10 (ρ 18 + 9 * ρ 1 + 1) 5 = ρ 30 := zAllA hm 33
  have m34 : γ 1 10 (ρ 18 + 9 * ρ 1 + 1) 7 = ρ 31 := zAllA hm 34
  have m35 : γ 1 10 (ρ 18 + 9 * ρ 1 + 1) 9 = ρ 32 := zAllA hm 35
  have m36 : γ 1 10 (ρ 18 + 9 * ρ 1 + 1) 12 = ρ 33 := zAllA hm 36
  have m37 : γ 3 2 0 6 = ρ 34 := zAllA hm 37
  have m38 : γ 3 10 (ρ 18 + 9 * ρ 1 + 1) 4 = ρ 35 := zAllA hm 38
  have m39 : γ 3 10 (ρ 18 + 9 * ρ 1 + 1) 11 = ρ 28 := zAllA hm 39
  have m40 : γ 3 10 (ρ 18 + 9 * ρ 1 + 1) 8 = ρ 36 := zAllA hm 40
  have m41 : γ 3 10 (9 * ρ 1) 8 = ρ 6 := zAllA hm 41
  have m42 : γ 3 10 (9 * ρ 1) 12 = ρ 7 := zAllA hm 42
  have m43 : γ 3 1 0 7 = ρ 37 := zAllA hm 43
  have m44 : γ 3 2 0 4 = ρ 11 := zAllA hm 44
  have m45 : γ 3 2 0 5 = ρ 38 := zAllA hm 45
  have m46 : γ 3 2 0 9 = ρ 39 := zAllA hm 46
  have m47 : γ 3 2 0 13 = ρ 40 := zAllA hm 47
  have m48 : γ 3 2 0 16 = ρ 41 := zAllA hm 48
  have m49 : γ 3 3 0 1 = ρ 42 := zAllA hm 49
  have m50 : γ 3 10 (ρ 18 + 9 * ρ 1 + 1) 5 = ρ 43 := zAllA hm 50
  have m51 : γ 3 10 (ρ 18 + 9 * ρ 1 + 1) 7 = ρ 44 := zAllA hm 51
  have m52 : γ 3 10 (ρ 18 + 9 * ρ 1 + 1) 9 = ρ 45 := zAllA hm 52
  have m53 : γ 3 10 (ρ 18 + 9 * ρ 1 + 1) 12 = ρ 46 := zAllA hm 53
  have m54 : γ 7 2 0 6 = ρ 48 := zAllA hm 54
  have m55 : γ 3 10 (9 * ρ 1) 5 = ρ 49 := zAllA hm 55
  have m56 : γ 9 2 0 4 = ρ 11 := zAllA hm 56
  have m57 : γ 10 2 0 4 = ρ 50 := zAllA hm 57
  have c1 : ∀ (G : Nat) (k j : Int), ¬ rMdP m107_ G j → γ 1 G k j = γ 0 G k j := And.right (zChA hc 9)
  have c2 : ∀ (G : Nat) (k j : Int), ¬ rMdP m0_ G j → γ 2 G k j = γ 1 G k j := And.right (zChA hc 8)
  have c3 : ∀ (G : Nat) (k j : Int), ¬ rMdP m106_ G j → γ 3 G k j = γ 2 G k j := And.right (zChA hc 7)
  have c4 : γ 4 = rUp (γ 3) 9 (ρ 1) 2 (ρ 18 + 1) := And.right (zChA hc 6)
  have c5 : γ 5 = rUp (γ 4) 10 (ρ 18 + 9 * ρ 1 + 1) 10 (ρ 20) := And.right (zChA hc 5)
  have c6 : γ 6 = rUp (γ 5) 9 (ρ 1) 3 (ρ 20 + 1) := And.right (zChA hc 4)
  have c7 : ∀ (G : Nat) (k j : Int), ¬ rMdP m77_ G j → γ 7 G k j = γ 6 G k j := And.right (zChA hc 3)
  have c8 : γ 8 = rUp (γ 7) 2 0 6 (ρ 48 + 1) := And.right (zChA hc 2)
  have c9 : ∀ (G : Nat) (k j : Int), ¬ rMdP m72_ G j → γ 9 G k j = γ 8 G k j := And.right (zChA hc 1)
  have c10 : ∀ (G : Nat) (k j : Int), ¬ rMdP m72_ G j → γ 10 G k j = γ 9 G k j := And.right (zChA hc 0)
  have l0 : sn132 [ρ 1, ρ 18] (γ 1) 0 (ρ 18 + 9 * ρ 1 + 1) (γ 2) := hS132 _ _ _ _ _ (zAllA hl 0)
  have l1 : sn157 [ρ 0, ρ 1, ρ 18, ρ 19, ρ 4, ρ 27, ρ 28, ρ 29, ρ 5, ρ 6, ρ 7, ρ 21, ρ 11, ρ 22, ρ 23, ρ 24, ρ 25, ρ 26, ρ 30, ρ 31, ρ 32, ρ 33] (γ 2) 0 1 (γ 3) := hS157 _ _ _ _ _ (zAllA hl 1)
  have l2 : sn114 [ρ 34, ρ 4] (γ 6) 0 (ρ 47) (γ 7) := hS114 _ _ _ _ _ (zAllA hl 2)
  have l3 : sn153 [9 * ρ 1, ρ 11, ρ 38, ρ 49, ρ 7, ρ 8, ρ 17] (γ 8) 0 1 (γ 9) := hS153 _ _ _ _ _ (zAllA hl 3)
  have l4 : sn152 [ρ 11, ρ 41] (γ 9) 0 0 (γ 10) := hS152 _ _ _ _ _ (zAllA hl 4)
  show sn158 [ρ 0, ρ 1, ρ 2, ρ 3, ρ 4, ρ 5, ρ 6, ρ 7, ρ 8, ρ 9, ρ 10, ρ 11, ρ 12, ρ 13, ρ 14, ρ 15, ρ 16, ρ 17] (γ 0) 0 0 (γ 10)
  have hD : en158 (γ 0) (0, [], γ 1) = .inr (0, 0, γ 10) := by
    unfold en158
    refine zIP (show (0 : Nat) = 0 by decide) (zLV (γ 1) rfl (zLE m0 (zLE m1 (zLE m18 (zLE m22 (zIN (show ¬ (ρ 18 ≥ 8) by omega) (zLE (show fn132 [ρ 1, ρ 18] (γ 1) = (0, ρ 18 + 9 * ρ 1 + 1, γ 2) from l0.symm) ?_)))))))
    refine zLV (γ 2) rfl (zLE (show fn157 [] (γ 2) = (0, 1, γ 3) from l1.symm) (zLV (γ 3) rfl (zIP (show (1 : Int) ≤ 1 by omega) (zIN (show ¬ (3 ≤ γ 3 10 (ρ 18 + 9 * ρ 1 + 1) 4) by omega) (zLE m38 (zLE c4.symm (zIN (show ¬ (ρ 35 ≠ 1) by omega) ?_)))))))
    refine zLE c5.symm (zLE c6.symm (zLE (show fn114 [] (γ 6) = (0, ρ 47, γ 7) from l2.symm) (zLV (γ 7) rfl (zIP (show (0 : Int) ≤ ρ 47 by omega) (zLV (ρ 47) rfl (zLE m54 (zIN (show ¬ (ρ 47 ≠ 46) by omega) ?_)))))))
    refine zLE c8.symm (zLE (show fn153 [9 * ρ 1] (γ 8) = (0, 1, γ 9) from l3.symm) (zLV (γ 9) rfl (zIP (show (1 : Int) ≤ 1 by omega) (zLE (show fn152 [] (γ 9) = (0, 0, γ 10) from l4.symm) (zLV (γ 10) rfl (zIN (show ¬ ((1 : Int) ≤ 0) by omega) ?_))))))
    rfl
  exact zGoo_aend hJ hD
theorem vn158a0_26 {S : Nat → zSpc} (hS109 : zIm S 109 sn109) (hS114 : zIm S 114 sn114) (hS132 : zIm S 132 sn132) (hS152 : zIm S 152 sn152) (hS153 : zIm S 153 sn153) (hS157 : zIm S 157 sn157) {a : List Int} {g : rHp} : ∀ (ρ : Nat → Int) (γ : Nat → rHp), jn158 a g 0 (zAg (zNA a158_ 0) ρ) (γ 1) → zO 18 S a g q158a0_26 ρ γ → zGl (fun i vs g1 => jn158 a g i vs g1) (sn158 a g) q158a0_26 ρ γ := by
  intro ρ γ hJ h
  obtain ⟨ha, hg, hr, hf, hm, hc, hl⟩ := h
  have ha : a = [ρ 0, ρ 1, ρ 2, ρ 3, ρ 4, ρ 5, ρ 6, ρ 7, ρ 8, ρ 9, ρ 10, ρ 11, ρ 12, ρ 13, ρ 14, ρ 15, ρ 16, ρ 17] := ha
  subst ha
  subst hg
  have hJ : jn158 [ρ 0, ρ 1, ρ 2, ρ 3, ρ 4, ρ 5, ρ 6, ρ 7, ρ 8, ρ 9, ρ 10, ρ 11, ρ 12, ρ 13, ρ 14, ρ 15, ρ 16, ρ 17] (γ 0) 0 [ρ 0, ρ 1, ρ 2, ρ 3, ρ 4, ρ 5, ρ 6, ρ 7, ρ 8, ρ 9, ρ 10, ρ 11, ρ 12, ρ 13, ρ 14, ρ 15, ρ 16, ρ 17, ρ 18, ρ 19, ρ 20, ρ 21, ρ 22, ρ 23, ρ 24, ρ 25, ρ 26] (γ 1) := hJ
  have r0 : (0 : Int) ≤ ρ 0 ∧ ρ 0 ≤ 60 := zRnA hr 0
  have r1 : (0 : Int) ≤ ρ 1 ∧ ρ 1 ≤ 60 := zRnA hr 1
  have r2 : (0 : Int) ≤ ρ 2 ∧ ρ 2 ≤ 8 := zRnA hr 2
  have r3 : (0 : Int) ≤ ρ 3 ∧ ρ 3 ≤ 2000 := zRnA hr 3
  have r4 : (2 : Int) ≤ ρ 4 ∧ ρ 4 ≤ 2000 := zRnA hr 4
  have r5 : (0 : Int) ≤ ρ 5 ∧ ρ 5 ≤ 0 := zRnA hr 5
  have r6 : ((-1) : Int) ≤ ρ 6 ∧ ρ 6 ≤ 19 := zRnA hr 6
  have r7 : (0 : Int) ≤ ρ 7 ∧ ρ 7 ≤ 4 := zRnA hr 7
  have r8 : ((-1) : Int) ≤ ρ 8 ∧ ρ 8 ≤ 7 := zRnA hr 8
  have r9 : (0 : Int) ≤ ρ 9 ∧ ρ 9 ≤ 8 := zRnA hr 9
  have r10 : (0 : Int) ≤ ρ 10 ∧ ρ 10 ≤ 20 := zRnA hr 10
  have r11 : ((-2147483648) : Int) ≤ ρ 11 ∧ ρ 11 ≤ 2147483647 := zRnA hr 11
  have r12 : ((-2147483648) : Int) ≤ ρ 12 ∧ ρ 12 ≤ 2147483647 := zRnA hr 12
  have r13 : ((-2147483648) : Int) ≤ ρ 13 ∧ ρ 13 ≤ 2147483647 := zRnA hr 13
  have r14 : (0 : Int) ≤ ρ 14 ∧ ρ 14 ≤ 8 := zRnA hr 14
  have r15 : (0 : Int) ≤ ρ 15 ∧ ρ 15 ≤ 32 := zRnA hr 15
  have r16 : (0 : Int) ≤ ρ 16 ∧ ρ 16 ≤ 5120 := zRnA hr 16
  have r17 : ((-2147483648) : Int) ≤ ρ 17 ∧ ρ 17 ≤ 2147483647 := zRnA hr 17
  have r18 : (0 : Int) ≤ ρ 18 ∧ ρ 18 ≤ 7 := zRnA hr 18
  have r19 : (0 : Int) ≤ ρ 19 ∧ ρ 19 ≤ 2000 := zRnA hr 19
  have r20 : (0 : Int) ≤ ρ 20 ∧ ρ 20 ≤ 8 := zRnA hr 20
  have r21 : (0 : Int) ≤ ρ 21 ∧ ρ 21 ≤ 20 := zRnA hr 21
  have r22 : ((-2147483648) : Int) ≤ ρ 22 ∧ ρ 22 ≤ 2147483647 := zRnA hr 22
  have r23 : ((-2147483648) : Int) ≤ ρ 23 ∧ ρ 23 ≤ 2147483647 := zRnA hr 23
  have r24 : (0 : Int) ≤ ρ 24 ∧ ρ 24 ≤ 8 := zRnA hr 24
  have r25 : (0 : Int) ≤ ρ 25 ∧ ρ 25 ≤ 32 := zRnA hr 25
  have r26 : (0 : Int) ≤ ρ 26 ∧ ρ 26 ≤ 5120 := zRnA hr 26
  have r27 : (0 : Int) ≤ ρ 27 ∧ ρ 27 ≤ 8 := zRnA hr 27
  have r28 : ((-1) : Int) ≤ ρ 28 ∧ ρ 28 ≤ 7 := zRnA hr 28
  have r29 : ((-1) : Int) ≤ ρ 29 ∧ ρ 29 ≤ 19 := zRnA hr 29
  have r30 : (0 : Int) ≤ ρ 30 ∧ ρ 30 ≤ 4 := zRnA hr 30
  have r31 : ((-2147483648) : Int) ≤ ρ 31 ∧ ρ 31 ≤ 2147483647 := zRnA hr 31
  have r32 : ((-1) : Int) ≤ ρ 32 ∧ ρ 32 ≤ 3 := zRnA hr 32
  have r33 : (0 : Int) ≤ ρ 33 ∧ ρ 33 ≤ 4 := zRnA hr 33
  have r34 : (3 : Int) ≤ ρ 34 ∧ ρ 34 ≤ 2000 := zRnA hr 34
  have r35 : (1 : Int) ≤ ρ 35 ∧ ρ 35 ≤ 1 := zRnA hr 35
  have r36 : (0 : Int) ≤ ρ 36 ∧ ρ 36 ≤ 19 := zRnA hr 36
  have r37 : (1 : Int) ≤ ρ 37 ∧ ρ 37 ≤ 20 := zRnA hr 37
  have r38 : ((-2147483648) : Int) ≤ ρ 38 ∧ ρ 38 ≤ 2147483647 := zRnA hr 38
  have r39 : ((-2147483648) : Int) ≤ ρ 39 ∧ ρ 39 ≤ 2147483647 := zRnA hr 39
  have r40 : (0 : Int) ≤ ρ 40 ∧ ρ 40 ≤ 8 := zRnA hr 40
  have r41 : (0 : Int) ≤ ρ 41 ∧ ρ 41 ≤ 32 := zRnA hr 41
  have r42 : (0 : Int) ≤ ρ 42 ∧ ρ 42 ≤ 5120 := zRnA hr 42
  have r43 : (1 : Int) ≤ ρ 43 ∧ ρ 43 ≤ 4 := zRnA hr 43
  have r44 : (0 : Int) ≤ ρ 44 ∧ ρ 44 ≤ 1999 := zRnA hr 44
  have r45 : ((-1) : Int) ≤ ρ 45 ∧ ρ 45 ≤ 3 := zRnA hr 45
  have r46 : (0 : Int) ≤ ρ 46 ∧ ρ 46 ≤ 0 := zRnA hr 46
  have r47 : (46 : Int) ≤ ρ 47 ∧ ρ 47 ≤ 46 := zRnA hr 47
  have r48 : (0 : Int) ≤ ρ 48 ∧ ρ 48 ≤ 2000 := zRnA hr 48
  have r49 : (0 : Int) ≤ ρ 49 ∧ ρ 49 ≤ 4 := zRnA hr 49
  have f0 : (0 : Int) ≤ ρ 48 + -ρ 34 := zAllA hf 0
  have f1 : (0 : Int) ≤ -ρ 48 + ρ 4 + (-1) := zAllA hf 1
  have f2 : (0 : Int) ≤ -ρ 34 + ρ 4 + (-1) := zAllA hf 2
  have f3 : (0 : Int) ≤ -ρ 43 + ρ 34 + (-1) := zAllA hf 3
  have f4 : (0 : Int) ≤ -ρ 44 + ρ 34 + (-1) := zAllA hf 4
  have f5 : (0 : Int) ≤ -ρ 45 + ρ 34 + (-1) := zAllA hf 5
  have f6 : (0 : Int) ≤ ρ 34 + -ρ 19 + (-1) := zAllA hf 6
  have f7 : (0 : Int) ≤ ρ 37 + -ρ 36 + (-1) := zAllA hf 7
  have f8 : (0 : Int) ≤ ρ 37 + -ρ 21 := zAllA hf 8
  have f9 : (0 : Int) ≤ ρ 40 + -ρ 24 := zAllA hf 9
  have f10 : (0 : Int) ≤ ρ 41 + -ρ 25 := zAllA hf 10
  have f11 : (0 : Int) ≤ ρ 42 + -ρ 26 := zAllA hf 11
  have f12 : (0 : Int) ≤ ρ 44 + -ρ 19 := zAllA hf 12
  have f13 : (0 : Int) ≤ -ρ 34 + ρ 4 := zAllA hf 13
  have f14 : (0 : Int) ≤ -ρ 35 + ρ 4 + (-1) := zAllA hf 14
  have f15 : (0 : Int) ≤ -ρ 19 + ρ 4 + (-1) := zAllA hf 15
  have f16 : (0 : Int) ≤ -ρ 5 + ρ 4 + (-1) := zAllA hf 16
  have f17 : (0 : Int) ≤ -ρ 32 + ρ 4 := zAllA hf 17
  have f18 : (0 : Int) ≤ -ρ 36 + ρ 21 := zAllA hf 18
  have f19 : (0 : Int) ≤ -ρ 18 + ρ 4 := zAllA hf 19
  have f20 : (0 : Int) ≤ ρ 26 + -ρ 16 := zAllA hf 20
  have f21 : (0 : Int) ≤ ρ 25 + -ρ 15 := zAllA hf 21
  have f22 : (0 : Int) ≤ ρ 24 + -ρ 14 := zAllA hf 22
  have f23 : (0 : Int) ≤ ρ 21 + -ρ 10 := zAllA hf 23
  have f24 : (0 : Int) ≤ ρ 19 + -ρ 3 := zAllA hf 24
  have f25 : (0 : Int) ≤ ρ 19 + -ρ 18 := zAllA hf 25
  have f26 : (0 : Int) ≤ -ρ 20 + ρ 18 := zAllA hf 26
  have m0 : γ 0 1 0 10 = ρ 0 := zAllA hm 0
  have m1 : γ 0 40 0 (ρ 0) = ρ 1 := zAllA hm 1
  have m2 : γ 0 9 (ρ 1) 2 = ρ 2 := zAllA hm 2
  have m3 : γ 0 2 0 6 = ρ 3 := zAllA hm 3
  have m4 : γ 0 2 0 3 = ρ 4 := zAllA hm 4
  have m5 : γ 0 2 0 7 = ρ 5 := zAllA hm 5
  have m6 : γ 0 10 (9 * ρ 1) 8 = ρ 6 := zAllA hm 6
  have m7 : γ 0 10 (9 * ρ 1) 12 = ρ 7 := zAllA hm 7
  have m8 : γ 0 10 (9 * ρ 1) 14 = ρ 8 := zAllA hm 8
  have m9 : γ 0 9 (ρ 1) 3 = ρ 9 := zAllA hm 9
  have m10 : γ 0 1 0 7 = ρ 10 := zAllA hm 10
  have m11 : γ 0 2 0 4 = ρ 11 := zAllA hm 11
  have m12 : γ 0 2 0 5 = ρ 12 := zAllA hm 12
  have m13 : γ 0 2 0 9 = ρ 13 := zAllA hm 13
  have m14 : γ 0 2 0 13 = ρ 14 := zAllA hm 14
  have m15 : γ 0 2 0 16 = ρ 15 := zAllA hm 15
  have m16 : γ 0 3 0 1 = ρ 16 := zAllA hm 16
  have m17 : γ 0 10 (9 * ρ 1) 15 = ρ 17 := zAllA hm 17
  have m18 : γ 1 9 (ρ 1) 2 = ρ 18 := zAllA hm 18
  have m19 : γ 1 2 0 6 = ρ 19 := zAllA hm 19
  have m20 : γ 1 10 (9 * ρ 1) 8 = ρ 6 := zAllA hm 20
  have m21 : γ 1 10 (9 * ρ 1) 12 = ρ 7 := zAllA hm 21
  have m22 : γ 1 9 (ρ 1) 3 = ρ 20 := zAllA hm 22
  have m23 : γ 1 1 0 7 = ρ 21 := zAllA hm 23
  have m24 : γ 1 2 0 4 = ρ 11 := zAllA hm 24
  have m25 : γ 1 2 0 5 = ρ 22 := zAllA hm 25
  have m26 : γ 1 2 0 9 = ρ 23 := zAllA hm 26
  have m27 : γ 1 2 0 13 = ρ 24 := zAllA hm 27
  have m28 : γ 1 2 0 16 = ρ 25 := zAllA hm 28
  have m29 : γ 1 3 0 1 = ρ 26 := zAllA hm 29
  have m30 : γ 1 10 (ρ 18 + 9 * ρ 1 + 1) 4 = ρ 27 := zAllA hm 30
  have m31 : γ 1 10 (ρ 18 + 9 * ρ 1 + 1) 11 = ρ 28 := zAllA hm 31
  have m32 : γ 1 10 (ρ 18 + 9 * ρ 1 + 1) 8 = ρ 29 := zAllA hm 32
  have m33 : γ 1 10 (ρ 18 + 9 * ρ 1 + 1) 5 = ρ 30 := zAllA hm 33
  have m34 : γ 1 10 (ρ 18 + 9 * ρ 1 + 1) 7 = ρ 31 := zAllA hm 34
  have m35 : γ 1 10 (ρ 18 + 9 * ρ 1 + 1) 9 = ρ 32 := zAllA hm 35
  have m36 : γ 1 10 (ρ 18 + 9 * ρ 1 + 1) 12 = ρ 33 := zAllA hm 36
  have m37 : γ 3 2 0 6 = ρ 34 := zAllA hm 37
  have m38 : γ 3 10 (ρ 18 + 9 * ρ 1 + 1) 4 = ρ 35 := zAllA hm 38
  have m39 : γ 3 10 (ρ 18 + 9 * ρ 1 + 1) 11 = ρ 28 := zAllA hm 39
  have m40 : γ 3 10 (ρ 18 + 9 * ρ 1 + 1) 8 = ρ 36 := zAllA hm 40
  have m41 : γ 3 10 (9 * ρ 1) 8 = ρ 6 := zAllA hm 41
  have m42 : γ 3 10 (9 * ρ 1) 12 = ρ 7 := zAllA hm 42
  have m43 : γ 3 1 0 7 = ρ 37 := zAllA hm 43
  have m44 : γ 3 2 0 4 = ρ 11 := zAllA hm 44
  have m45 : γ 3 2 0 5 = ρ 38 := zAllA hm 45
  have m46 : γ 3 2 0 9 = ρ 39 := zAllA hm 46
  have m47 : γ 3 2 0 13 = ρ 40 := zAllA hm 47
  have m48 : γ 3 2 0 16 = ρ 41 := zAllA hm 48
  have m49 : γ 3 3 0 1 = ρ 42 := zAllA hm 49
  have m50 : γ 3 10 (ρ 18 + 9 * ρ 1 + 1) 5 = ρ 43 := zAllA hm 50
  have m51 : γ 3 10 (ρ 18 + 9 * ρ 1 + 1) 7 = ρ 44 := zAllA hm 51
  have m52 : γ 3 10 (ρ 18 + 9 * ρ 1 + 1) 9 = ρ 45 := zAllA hm 52
  have m53 : γ 3 10 (ρ 18 + 9 * ρ 1 + 1) 12 = ρ 46 := zAllA hm 53
  have m54 : γ 7 2 0 6 = ρ 48 := zAllA hm 54
  have m55 : γ 3 10 (9 * ρ 1) 5 = ρ 49 := zAllA hm 55
  have m56 : γ 9 2 0 4 = ρ 11 := zAllA hm 56
  have m57 : γ 10 2 0 4 = ρ 11 := zAllA hm 57
  have c1 : ∀ (G : Nat) (k j : Int), ¬ rMdP m107_ G j → γ 1 G k j = γ 0 G k j := And.right (zChA hc 9)
  have c2 : ∀ (G : Nat) (k j : Int), ¬ rMdP m0_ G j → γ 2 G k j = γ 1 G k j := And.right (zChA hc 8)
  have c3 : ∀ (G : Nat) (k j : Int), ¬ rMdP m106_ G j → γ 3 G k j = γ 2 G k j := And.right (zChA hc 7)
  have c4 : γ 4 = rUp (γ 3) 9 (ρ 1) 2 (ρ 18 + 1) := And.right (zChA hc 6)
  have c5 : γ 5 = rUp (γ 4) 10 (ρ 18 + 9 * ρ 1 + 1) 10 (ρ 20) := And.right (zChA hc 5)
  have c6 : γ 6 = rUp (γ 5) 9 (ρ 1) 3 (ρ 20 + 1) := And.right (zChA hc 4)
  have c7 : ∀ (G : Nat) (k j : Int), ¬ rMdP m77_ G j → γ 7 G k j = γ 6 G k j := And.right (zChA hc 3)
  have c8 : γ 8 = rUp (γ 7) 2 0 6 (ρ 48 + 1) := And.right (zChA hc 2)
  have c9 : ∀ (G : Nat) (k j : Int), ¬ rMdP m72_ G j → γ 9 G k j = γ 8 G k j := And.right (zChA hc 1)
  have c10 : ∀ (G : Nat) (k j : Int), ¬ rMdP m72_ G j → γ 10 G k j = γ 9 G k j := And.right (zChA hc 0)
  have l0 : sn132 [ρ 1, ρ 18] (γ 1) 0 (ρ 18 + 9 * ρ 1 + 1) (γ 2) := hS132 _ _ _ _ _ (zAllA hl 0)
  have l1 : sn157 [ρ 0, ρ 1, ρ 18, ρ 19, ρ 4, ρ 27, ρ 28, ρ 29, ρ 5, ρ 6, ρ 7, ρ 21, ρ 11, ρ 22, ρ 23, ρ 24, ρ 25, ρ 26, ρ 30, ρ 31, ρ 32, ρ 33] (γ 2) 0 1 (γ 3) := hS157 _ _ _ _ _ (zAllA hl 1)
  have l2 : sn114 [ρ 34, ρ 4] (γ 6) 0 (ρ 47) (γ 7) := hS114 _ _ _ _ _ (zAllA hl 2)
  have l3 : sn153 [9 * ρ 1, ρ 11, ρ 38, ρ 49, ρ 7, ρ 8, ρ 17] (γ 8) 0 1 (γ 9) := hS153 _ _ _ _ _ (zAllA hl 3)
  have l4 : sn152 [ρ 11, ρ 41] (γ 9) 0 1 (γ 10) := hS152 _ _ _ _ _ (zAllA hl 4)
  show sn158 [ρ 0, ρ 1, ρ 2, ρ 3, ρ 4, ρ 5, ρ 6, ρ 7, ρ 8, ρ 9, ρ 10, ρ 11, ρ 12, ρ 13, ρ 14, ρ 15, ρ 16, ρ 17] (γ 0) 0 1 (γ 10)
  have hD : en158 (γ 0) (0, [], γ 1) = .inr (0, 1, γ 10) := by
    unfold en158
    refine zIP (show (0 : Nat) = 0 by decide) (zLV (γ 1) rfl (zLE m0 (zLE m1 (zLE m18 (zLE m22 (zIN (show ¬ (ρ 18 ≥ 8) by omega) (zLE (show fn132 [ρ 1, ρ 18] (γ 1) = (0, ρ 18 + 9 * ρ 1 + 1, γ 2) from l0.symm) ?_)))))))
    refine zLV (γ 2) rfl (zLE (show fn157 [] (γ 2) = (0, 1, γ 3) from l1.symm) (zLV (γ 3) rfl (zIP (show (1 : Int) ≤ 1 by omega) (zIN (show ¬ (3 ≤ γ 3 10 (ρ 18 + 9 * ρ 1 + 1) 4) by omega) (zLE m38 (zLE c4.symm (zIN (show ¬ (ρ 35 ≠ 1) by omega) ?_)))))))
    refine zLE c5.symm (zLE c6.symm (zLE (show fn114 [] (γ 6) = (0, ρ 47, γ 7) from l2.symm) (zLV (γ 7) rfl (zIP (show (0 : Int) ≤ ρ 47 by omega) (zLV (ρ 47) rfl (zLE m54 (zIN (show ¬ (ρ 47 ≠ 46) by omega) ?_)))))))
    refine zLE c8.symm (zLE (show fn153 [9 * ρ 1] (γ 8) = (0, 1, γ 9) from l3.symm) (zLV (γ 9) rfl (zIP (show (1 : Int) ≤ 1 by omega) (zLE (show fn152 [] (γ 9) = (0, 1, γ 10) from l4.symm) (zLV (γ 10) rfl (zIP (show (1 : Int) ≤ 1 by omega) ?_))))))
    rfl
  exact zGoo_aend hJ hD
theorem yn158 {S : Nat → zSpc} (hS109 : zIm S 109 sn109) (hS114 : zIm S 114 sn114) (hS132 : zIm S 132 sn132) (hS152 : zIm S 152 sn152) (hS153 : zIm S 153 sn153) (hS157 : zIm S 157 sn157) : ∀ x g o v gz, zSem uW uT w158_.2.2.2.1 w158_.2.2.1.1.length S q158 (fun i => q158a.getD i []) (zNA a158_) x g o v gz → sn158 x g o v gz := by
  intro a g o v gz h
  exact zSem_all (l0 := q158) (las := q158a) (S := S) (J := (fun i vs g1 => jn158 a g i vs g1)) (P := sn158 a g) (fun _ => (show zAll _ [q158_0] from (zAll_c (vn158_0 hS109 hS114 hS132 hS152 hS153 hS157) zAll_n))) (fun _ => (show zAllI _ 0 [q158a0] from ⟨(show zAll _ [q158a0_0, q158a0_1, q158a0_2, q158a0_3, q158a0_4, q158a0_5, q158a0_6, q158a0_7, q158a0_8, q158a0_9, q158a0_10, q158a0_11, q158a0_12, q158a0_13, q158a0_14, q158a0_15, q158a0_16, q158a0_17, q158a0_18, q158a0_19, q158a0_20, q158a0_21, q158a0_22, q158a0_23, q158a0_24, q158a0_25, q158a0_26] from (zAll_c (vn158a0_0 hS109 hS114 hS132 hS152 hS153 hS157) (zAll_c (vn158a0_1 hS109 hS114 hS132 hS152 hS153 hS157) (zAll_c (vn158a0_2 hS109 hS114 hS132 hS152 hS153 hS157) (zAll_c (vn158a0_3 hS109 hS114 hS132 hS152 hS153 hS157) (zAll_c (vn158a0_4 hS109 hS114 hS132 hS152 hS153 hS157) (zAll_c (vn158a0_5 hS109 hS114 hS132 hS152 hS153 hS157) (zAll_c (vn158a0_6 hS109 hS114 hS132 hS152 hS153 hS157) (zAll_c (vn158a0_7 hS109 hS114 hS132 hS152 hS153 hS157) (zAll_c (vn158a0_8 hS109 hS114 hS132 hS152 hS153 hS157) (zAll_c (vn158a0_9 hS109 hS114 hS132 hS152 hS153 hS157) (zAll_c (vn158a0_10 hS109 hS114 hS132 hS152 hS153 hS157) (zAll_c (vn158a0_11 hS109 hS114 hS132 hS152 hS153 hS157) (zAll_c (vn158a0_12 hS109 hS114 hS132 hS152 hS153 hS157) (zAll_c (vn158a0_13 hS109 hS114 hS132 hS152 hS153 hS157) (zAll_c (vn158a0_14 hS109 hS114 hS132 hS152 hS153 hS157) (zAll_c (vn158a0_15 hS109 hS114 hS132 hS152 hS153 hS157) (zAll_c (vn158a0_16 hS109 hS114 hS132 hS152 hS153 hS157) (zAll_c (vn158a0_17 hS109 hS114 hS132 hS152 hS153 hS157) (zAll_c (vn158a0_18 hS109 hS114 hS132 hS152 hS153 hS157) (zAll_c (vn158a0_19 hS109 hS114 hS132 hS152 hS153 hS157) (zAll_c (vn158a0_20 hS109 hS114 hS132 hS152 hS153 hS157) (zAll_c (vn158a0_21 hS109 hS114 hS132 hS152 hS153 hS157) (zAll_c (vn158a0_22 hS109 hS114 hS132 hS152 hS153 hS157) (zAll_c (vn158a0_23 hS109 hS114 hS132 hS152 hS153 hS157) (zAll_c (vn158a0_24 hS109 hS114 hS132 hS152 hS153 hS157) (zAll_c (vn158a0_25 hS109 hS114 hS132 hS152 hS153 hS157) (zAll_c (vn158a0_26 hS109 hS114 hS132 hS152 hS153 hS157) zAll_n)))))))))))))))))))))))))))), trivial⟩)) h
