/-! ===== the runs are the functions ===== -/
theorem vn159_0 {S : Nat → zSpc} (hS109 : zIm S 109 sn109) (hS114 : zIm S 114 sn114) (hS132 : zIm S 132 sn132) (hS152 : zIm S 152 sn152) (hS157 : zIm S 157 sn157) {a : List Int} {g : rHp} : ∀ (ρ : Nat → Int) (γ : Nat → rHp), zO 17 S a g q159_0 ρ γ → zGl (fun i vs g1 => jn159 a g i vs g1) (sn159 a g) q159_0 ρ γ := by
  intro ρ γ h
  obtain ⟨ha, hg, hr, hf, hm, hc, hl⟩ := h
  have ha : a = [ρ 0, ρ 1, ρ 2, ρ 3, ρ 4, ρ 5, ρ 6, ρ 7, ρ 8, ρ 9, ρ 10, ρ 11, ρ 12, ρ 13, ρ 14, ρ 15, ρ 16] := ha
  subst ha
  subst hg
  have m0 : γ 0 1 0 10 = ρ 0 := zAllA hm 0
  have m1 : γ 0 40 0 (ρ 0) = ρ 1 := zAllA hm 1
  have c1 : γ 1 = rUp (γ 0) 9 (ρ 1) 2 0 := And.right (zChA hc 1)
  have c2 : γ 2 = rUp (γ 1) 9 (ρ 1) 3 0 := And.right (zChA hc 0)
  show jn159 [ρ 0, ρ 1, ρ 2, ρ 3, ρ 4, ρ 5, ρ 6, ρ 7, ρ 8, ρ 9, ρ 10, ρ 11, ρ 12, ρ 13, ρ 14, ρ 15, ρ 16] (γ 0) 0 [ρ 0, ρ 1, ρ 2, ρ 3, ρ 4, ρ 5, ρ 6, ρ 7, ρ 8, ρ 9, ρ 10, ρ 11, ρ 12, ρ 13, ρ 14, ρ 15, ρ 16, 0, ρ 3, 0, ρ 10, ρ 12, ρ 13, ρ 14, ρ 15, ρ 16] (γ 2)
  have hD : dn159 [] (γ 0) = .inl (0, [], γ 2) := by
    unfold dn159
    refine zLE m0 (zLE m1 (zLE c1.symm (zLE c2.symm ?_)))
    rfl
  exact zGoo_to hD
theorem vn159a0_0 {S : Nat → zSpc} (hS109 : zIm S 109 sn109) (hS114 : zIm S 114 sn114) (hS132 : zIm S 132 sn132) (hS152 : zIm S 152 sn152) (hS157 : zIm S 157 sn157) {a : List Int} {g : rHp} : ∀ (ρ : Nat → Int) (γ : Nat → rHp), jn159 a g 0 (zAg (zNA a159_ 0) ρ) (γ 1) → zO 17 S a g q159a0_0 ρ γ → zGl (fun i vs g1 => jn159 a g i vs g1) (sn159 a g) q159a0_0 ρ γ := by
  intro ρ γ hJ h
  obtain ⟨ha, hg, hr, hf, hm, hc, hl⟩ := h
  have ha : a = [ρ 0, ρ 1, ρ 2, ρ 3, ρ 4, ρ 5, ρ 6, ρ 7, ρ 8, ρ 9, ρ 10, ρ 11, ρ 12, ρ 13, ρ 14, ρ 15, ρ 16] := ha
  subst ha
  subst hg
  have hJ : jn159 [ρ 0, ρ 1, ρ 2, ρ 3, ρ 4, ρ 5, ρ 6, ρ 7, ρ 8, ρ 9, ρ 10, ρ 11, ρ 12, ρ 13, ρ 14, ρ 15, ρ 16] (γ 0) 0 [ρ 0, ρ 1, ρ 2, ρ 3, ρ 4, ρ 5, ρ 6, ρ 7, ρ 8, ρ 9, ρ 10, ρ 11, ρ 12, ρ 13, ρ 14, ρ 15, ρ 16, ρ 17, ρ 18, ρ 19, ρ 20, ρ 21, ρ 22, ρ 23, ρ 24, ρ 25] (γ 1) := hJ
  have r17 : (8 : Int) ≤ ρ 17 ∧ ρ 17 ≤ 8 := zRnA hr 17
  have w_0 : ρ 17 ≥ 8 := by omega
  have m0 : γ 0 1 0 10 = ρ 0 := zAllA hm 0
  have m1 : γ 0 40 0 (ρ 0) = ρ 1 := zAllA hm 1
  have m17 : γ 1 9 (ρ 1) 2 = ρ 17 := zAllA hm 17
  have m21 : γ 1 9 (ρ 1) 3 = ρ 19 := zAllA hm 21
  have m29 : γ 2 2 0 6 = ρ 26 := zAllA hm 29
  have l0 : sn114 [ρ 18, ρ 4] (γ 1) 0 (-1) (γ 2) := hS114 _ _ _ _ _ (zAllA hl 0)
  have l1 : sn109 [ρ 26, ρ 11] (γ 2) 0 0 (γ 3) := hS109 _ _ _ _ _ (zAllA hl 1)
  show sn159 [ρ 0, ρ 1, ρ 2, ρ 3, ρ 4, ρ 5, ρ 6, ρ 7, ρ 8, ρ 9, ρ 10, ρ 11, ρ 12, ρ 13, ρ 14, ρ 15, ρ 16] (γ 0) 0 0 (γ 3)
  have hD : en159 (γ 0) (0, [], γ 1) = .inr (0, 0, γ 3) := by
    unfold en159
    refine zIP (show (0 : Nat) = 0 by decide) (zLV (γ 1) rfl (zLE m0 (zLE m1 (zLE m17 (zLE m21 (zIP w_0 (zLE (show fn114 [] (γ 1) = (0, (-1), γ 2) from l0.symm) ?_)))))))
    refine zLV (γ 2) rfl (zIN zQ2_ (zLE m29 (zLE (show fn109 [ρ 26] (γ 2) = (0, 0, γ 3) from l1.symm) (zLV (γ 3) rfl ?_))))
    rfl
  exact zGoo_aend hJ hD
theorem vn159a0_1 {S : Nat → zSpc} (hS109 : zIm S 109 sn109) (hS114 : zIm S 114 sn114) (hS132 : zIm S 132 sn132) (hS152 : zIm S 152 sn152) (hS157 : zIm S 157 sn157) {a : List Int} {g : rHp} : ∀ (ρ : Nat → Int) (γ : Nat → rHp), jn159 a g 0 (zAg (zNA a159_ 0) ρ) (γ 1) → zO 17 S a g q159a0_1 ρ γ → zGl (fun i vs g1 => jn159 a g i vs g1) (sn159 a g) q159a0_1 ρ γ := by
  intro ρ γ hJ h
  obtain ⟨ha, hg, hr, hf, hm, hc, hl⟩ := h
  have ha : a = [ρ 0, ρ 1, ρ 2, ρ 3, ρ 4, ρ 5, ρ 6, ρ 7, ρ 8, ρ 9, ρ 10, ρ 11, ρ 12, ρ 13, ρ 14, ρ 15, ρ 16] := ha
  subst ha
  subst hg
  have hJ : jn159 [ρ 0, ρ 1, ρ 2, ρ 3, ρ 4, ρ 5, ρ 6, ρ 7, ρ 8, ρ 9, ρ 10, ρ 11, ρ 12, ρ 13, ρ 14, ρ 15, ρ 16] (γ 0) 0 [ρ 0, ρ 1, ρ 2, ρ 3, ρ 4, ρ 5, ρ 6, ρ 7, ρ 8, ρ 9, ρ 10, ρ 11, ρ 12, ρ 13, ρ 14, ρ 15, ρ 16, ρ 17, ρ 18, ρ 19, ρ 20, ρ 21, ρ 22, ρ 23, ρ 24, ρ 25] (γ 1) := hJ
  have r17 : (8 : Int) ≤ ρ 17 ∧ ρ 17 ≤ 8 := zRnA hr 17
  have r26 : (0 : Int) ≤ ρ 26 ∧ ρ 26 ≤ 255 := zRnA hr 26
  obtain ⟨w_0, w_1⟩ : (ρ 17 ≥ 8) ∧ ((0 : Int) ≤ ρ 26) := ⟨by omega, by omega⟩
  have m0 : γ 0 1 0 10 = ρ 0 := zAllA hm 0
  have m1 : γ 0 40 0 (ρ 0) = ρ 1 := zAllA hm 1
  have m17 : γ 1 9 (ρ 1) 2 = ρ 17 := zAllA hm 17
  have m21 : γ 1 9 (ρ 1) 3 = ρ 19 := zAllA hm 21
  have m29 : γ 2 2 0 6 = ρ 27 := zAllA hm 29
  have l0 : sn114 [ρ 18, ρ 4] (γ 1) 0 (ρ 26) (γ 2) := hS114 _ _ _ _ _ (zAllA hl 0)
  have l1 : sn109 [ρ 27, ρ 11] (γ 2) 0 0 (γ 3) := hS109 _ _ _ _ _ (zAllA hl 1)
  show sn159 [ρ 0, ρ 1, ρ 2, ρ 3, ρ 4, ρ 5, ρ 6, ρ 7, ρ 8, ρ 9, ρ 10, ρ 11, ρ 12, ρ 13, ρ 14, ρ 15, ρ 16] (γ 0) 0 0 (γ 3)
  have hD : en159 (γ 0) (0, [], γ 1) = .inr (0, 0, γ 3) := by
    unfold en159
    refine zIP (show (0 : Nat) = 0 by decide) (zLV (γ 1) rfl (zLE m0 (zLE m1 (zLE m17 (zLE m21 (zIP w_0 (zLE (show fn114 [] (γ 1) = (0, ρ 26, γ 2) from l0.symm) ?_)))))))
    refine zLV (γ 2) rfl (zIP w_1 (zLE m29 (zLE (show fn109 [ρ 27] (γ 2) = (0, 0, γ 3) from l1.symm) (zLV (γ 3) rfl ?_))))
    rfl
  exact zGoo_aend hJ hD
theorem vn159a0_2 {S : Nat → zSpc} (hS109 : zIm S 109 sn109) (hS114 : zIm S 114 sn114) (hS132 : zIm S 132 sn132) (hS152 : zIm S 152 sn152) (hS157 : zIm S 157 sn157) {a : List Int} {g : rHp} : ∀ (ρ : Nat → Int) (γ : Nat → rHp), jn159 a g 0 (zAg (zNA a159_ 0) ρ) (γ 1) → zO 17 S a g q159a0_2 ρ γ → zGl (fun i vs g1 => jn159 a g i vs g1) (sn159 a g) q159a0_2 ρ γ := by
  intro ρ γ hJ h
  obtain ⟨ha, hg, hr, hf, hm, hc, hl⟩ := h
  have ha : a = [ρ 0, ρ 1, ρ 2, ρ 3, ρ 4, ρ 5, ρ 6, ρ 7, ρ 8, ρ 9, ρ 10, ρ 11, ρ 12, ρ 13, ρ 14, ρ 15, ρ 16] := ha
  subst ha
  subst hg
  have hJ : jn159 [ρ 0, ρ 1, ρ 2, ρ 3, ρ 4, ρ 5, ρ 6, ρ 7, ρ 8, ρ 9, ρ 10, ρ 11, ρ 12, ρ 13, ρ 14, ρ 15, ρ 16] (γ 0) 0 [ρ 0, ρ 1, ρ 2, ρ 3, ρ 4, ρ 5, ρ 6, ρ 7, ρ 8, ρ 9, ρ 10, ρ 11, ρ 12, ρ 13, ρ 14, ρ 15, ρ 16, ρ 17, ρ 18, ρ 19, ρ 20, ρ 21, ρ 22, ρ 23, ρ 24, ρ 25] (γ 1) := hJ
  have r17 : (0 : Int) ≤ ρ 17 ∧ ρ 17 ≤ 7 := zRnA hr 17
  have w_0 : ¬ (ρ 17 ≥ 8) := by omega
  have m0 : γ 0 1 0 10 = ρ 0 := zAllA hm 0
  have m1 : γ 0 40 0 (ρ 0) = ρ 1 := zAllA hm 1
  have m17 : γ 1 9 (ρ 1) 2 = ρ 17 := zAllA hm 17
  have m21 : γ 1 9 (ρ 1) 3 = ρ 19 := zAllA hm 21
  have l0 : sn132 [ρ 1, ρ 17] (γ 1) 0 (ρ 17 + 9 * ρ 1 + 1) (γ 2) := hS132 _ _ _ _ _ (zAllA hl 0)
  have l1 : sn157 [ρ 0, ρ 1, ρ 17, ρ 18, ρ 4, ρ 26, ρ 27, ρ 28, ρ 5, ρ 6, ρ 7, ρ 20, ρ 11, ρ 21, ρ 22, ρ 23, ρ 24, ρ 25, ρ 29, ρ 30, ρ 31, ρ 32] (γ 2) 0 0 (γ 3) := hS157 _ _ _ _ _ (zAllA hl 1)
  show sn159 [ρ 0, ρ 1, ρ 2, ρ 3, ρ 4, ρ 5, ρ 6, ρ 7, ρ 8, ρ 9, ρ 10, ρ 11, ρ 12, ρ 13, ρ 14, ρ 15, ρ 16] (γ 0) 0 0 (γ 3)
  have hD : en159 (γ 0) (0, [], γ 1) = .inr (0, 0, γ 3) := by
    unfold en159
    refine zIP (show (0 : Nat) = 0 by decide) (zLV (γ 1) rfl (zLE m0 (zLE m1 (zLE m17 (zLE m21 (zIN w_0 (zLE (show fn132 [ρ 1, ρ 17] (γ 1) = (0, ρ 17 + 9 * ρ 1 + 1, γ 2) from l0.symm) ?_)))))))
    refine zLV (γ 2) rfl (zLE (show fn157 [] (γ 2) = (0, 0, γ 3) from l1.symm) (zLV (γ 3) rfl (zIN zQ0_ ?_)))
    rfl
  exact zGoo_aend hJ hD
theorem vn159a0_3 {S : Nat → zSpc} (hS109 : zIm S 109 sn109) (hS114 : zIm S 114 sn114) (hS132 : zIm S 132 sn132) (hS152 : zIm S 152 sn152) (hS157 : zIm S 157 sn157) {a : List Int} {g : rHp} : ∀ (ρ : Nat → Int) (γ : Nat → rHp), jn159 a g 0 (zAg (zNA a159_ 0) ρ) (γ 1) → zO 17 S a g q159a0_3 ρ γ → zGl (fun i vs g1 => jn159 a g i vs g1) (sn159 a g) q159a0_3 ρ γ := by
  intro ρ γ hJ h
  obtain ⟨ha, hg, hr, hf, hm, hc, hl⟩ := h
  have ha : a = [ρ 0, ρ 1, ρ 2, ρ 3, ρ 4, ρ 5, ρ 6, ρ 7, ρ 8, ρ 9, ρ 10, ρ 11, ρ 12, ρ 13, ρ 14, ρ 15, ρ 16] := ha
  subst ha
  subst hg
  have hJ : jn159 [ρ 0, ρ 1, ρ 2, ρ 3, ρ 4, ρ 5, ρ 6, ρ 7, ρ 8, ρ 9, ρ 10, ρ 11, ρ 12, ρ 13, ρ 14, ρ 15, ρ 16] (γ 0) 0 [ρ 0, ρ 1, ρ 2, ρ 3, ρ 4, ρ 5, ρ 6, ρ 7, ρ 8, ρ 9, ρ 10, ρ 11, ρ 12, ρ 13, ρ 14, ρ 15, ρ 16, ρ 17, ρ 18, ρ 19, ρ 20, ρ 21, ρ 22, ρ 23, ρ 24, ρ 25] (γ 1) := hJ
  have r0 : (0 : Int) ≤ ρ 0 ∧ ρ 0 ≤ 60 := zRnA hr 0
  have r1 : (0 : Int) ≤ ρ 1 ∧ ρ 1 ≤ 60 := zRnA hr 1
  have r2 : (0 : Int) ≤ ρ 2 ∧ ρ 2 ≤ 8 := zRnA hr 2
  have r3 : (0 : Int) ≤ ρ 3 ∧ ρ 3 ≤ 2000 := zRnA hr 3
  have r4 : (0 : Int) ≤ ρ 4 ∧ ρ 4 ≤ 2000 := zRnA hr 4
  have r5 : (2 : Int) ≤ ρ 5 ∧ ρ 5 ≤ 2 := zRnA hr 5
  have r6 : ((-1) : Int) ≤ ρ 6 ∧ ρ 6 ≤ 19 := zRnA hr 6
  have r7 : (0 : Int) ≤ ρ 7 ∧ ρ 7 ≤ 4 := zRnA hr 7
  have r8 : ((-1) : Int) ≤ ρ 8 ∧ ρ 8 ≤ 7 := zRnA hr 8
  have r9 : (0 : Int) ≤ ρ 9 ∧ ρ 9 ≤ 8 := zRnA hr 9
  have r10 : (0 : Int) ≤ ρ 10 ∧ ρ 10 ≤ 20 := zRnA hr 10
  have r11 : ((-2147483648) : Int) ≤ ρ 11 ∧ ρ 11 ≤ 2147483647 := zRnA hr 11
  have r12 : ((-2147483648) : Int) ≤ ρ 12 ∧ ρ 12 ≤ 2147483647 := zRnA hr 12
  have r13 : ((-2147483648) : Int) ≤ ρ 13 ∧ ρ 13 ≤ 2147483647 := zRnA hr 13
  have r14 : (0 : Int) ≤ ρ 14 ∧ ρ 14 ≤ 8 := zRnA hr 14
  have r15 : (0 : Int) ≤ ρ 15 ∧ ρ 15 ≤ 32 := zRnA hr 15
  have r16 : (0 : Int) ≤ ρ 16 ∧ ρ 16 ≤ 5120 := zRnA hr 16
  have r17 : (0 : Int) ≤ ρ 17 ∧ ρ 17 ≤ 7 := zRnA hr 17
  have r18 : (0 : Int) ≤ ρ 18 ∧ ρ 18 ≤ 2000 := zRnA hr 18
  have r19 : (0 : Int) ≤ ρ 19 ∧ ρ 19 ≤ 8 := zRnA hr 19
  have r20 : (0 : Int) ≤ ρ 20 ∧ ρ 20 ≤ 20 := zRnA hr 20
  have r21 : ((-2147483648) : Int) ≤ ρ 21 ∧ ρ 21 ≤ 2147483647 := zRnA hr 21
  have r22 : ((-2147483648) : Int) ≤ ρ 22 ∧ ρ 22 ≤ 2147483647 := zRnA hr 22
  have r23 : (0 : Int) ≤ ρ 23 ∧ ρ 23 ≤ 8 := zRnA hr 23
  have r24 : (0 : Int) ≤ ρ 24 ∧ ρ 24 ≤ 32 := zRnA hr 24
  have r25 : (0 : Int) ≤ ρ 25 ∧ ρ 25 ≤ 5120 := zRnA hr 25
  have r26 : (0 : Int) ≤ ρ 26 ∧ ρ 26 ≤ 8 := zRnA hr 26
  have r27 : ((-1) : Int) ≤ ρ 27 ∧ ρ 27 ≤ 7 := zRnA hr 27
  have r28 : ((-1) : Int) ≤ ρ 28 ∧ ρ 28 ≤ 19 := zRnA hr 28
  have r29 : (0 : Int) ≤ ρ 29 ∧ ρ 29 ≤ 4 := zRnA hr 29
  have r30 : ((-2147483648) : Int) ≤ ρ 30 ∧ ρ 30 ≤ 2147483647 := zRnA hr 30
  have r31 : ((-1) : Int) ≤ ρ 31 ∧ ρ 31 ≤ 3 := zRnA hr 31
  have r32 : (0 : Int) ≤ ρ 32 ∧ ρ 32 ≤ 4 := zRnA hr 32
  have r33 : (2 : Int) ≤ ρ 33 ∧ ρ 33 ≤ 2000 := zRnA hr 33
  have r34 : (3 : Int) ≤ ρ 34 ∧ ρ 34 ≤ 5 := zRnA hr 34
  have r35 : ((-2147483648) : Int) ≤ ρ 35 ∧ ρ 35 ≤ 2147483647 := zRnA hr 35
  have r36 : (0 : Int) ≤ ρ 36 ∧ ρ 36 ≤ 5120 := zRnA hr 36
  have r37 : (1 : Int) ≤ ρ 37 ∧ ρ 37 ≤ 2 := zRnA hr 37
  have r38 : (0 : Int) ≤ ρ 38 ∧ ρ 38 ≤ 2000 := zRnA hr 38
  have r39 : (0 : Int) ≤ ρ 39 ∧ ρ 39 ≤ 2000 := zRnA hr 39
  have r40 : ((-2147483648) : Int) ≤ ρ 40 ∧ ρ 40 ≤ 2147483647 := zRnA hr 40
  have f0 : (0 : Int) ≤ ρ 39 + -ρ 33 := zAllA hf 0
  have f1 : (0 : Int) ≤ ρ 39 + -ρ 4 := zAllA hf 1
  have f2 : (0 : Int) ≤ -ρ 38 + ρ 33 + (-1) := zAllA hf 2
  have f3 : (0 : Int) ≤ ρ 33 + -ρ 18 + (-1) := zAllA hf 3
  have f4 : (0 : Int) ≤ ρ 36 + -ρ 25 := zAllA hf 4
  have f5 : (0 : Int) ≤ ρ 38 + -ρ 18 := zAllA hf 5
  have f6 : (0 : Int) ≤ -ρ 37 + ρ 4 := zAllA hf 6
  have f7 : (0 : Int) ≤ -ρ 38 + ρ 4 + (-1) := zAllA hf 7
  have f8 : (0 : Int) ≤ -ρ 18 + ρ 4 + (-1) := zAllA hf 8
  have f9 : (0 : Int) ≤ -ρ 5 + ρ 4 := zAllA hf 9
  have f10 : (0 : Int) ≤ -ρ 17 + ρ 4 := zAllA hf 10
  have f11 : (0 : Int) ≤ ρ 25 + -ρ 16 := zAllA hf 11
  have f12 : (0 : Int) ≤ ρ 24 + -ρ 15 := zAllA hf 12
  have f13 : (0 : Int) ≤ ρ 23 + -ρ 14 := zAllA hf 13
  have f14 : (0 : Int) ≤ ρ 20 + -ρ 10 := zAllA hf 14
  have f15 : (0 : Int) ≤ ρ 18 + -ρ 3 := zAllA hf 15
  have f16 : (0 : Int) ≤ ρ 18 + -ρ 17 := zAllA hf 16
  have f17 : (0 : Int) ≤ -ρ 19 + ρ 17 := zAllA hf 17
  have m0 : γ 0 1 0 10 = ρ 0 := zAllA hm 0
  have m1 : γ 0 40 0 (ρ 0) = ρ 1 := zAllA hm 1
  have m2 : γ 0 9 (ρ 1) 2 = ρ 2 := zAllA hm 2
  have m3 : γ 0 2 0 6 = ρ 3 := zAllA hm 3
  have m4 : γ 0 2 0 3 = ρ 4 := zAllA hm 4
  have m5 : γ 0 2 0 7 = ρ 5 := zAllA hm 5
  have m6 : γ 0 10 (9 * ρ 1) 8 = ρ 6 := zAllA hm 6
  have m7 : γ 0 10 (9 * ρ 1) 12 = ρ 7 := zAllA hm 7
  have m8 : γ 0 10 (9 * ρ 1) 14 = ρ 8 := zAllA hm 8
  have m9 : γ 0 9 (ρ 1) 3 = ρ 9 := zAllA hm 9
  have m10 : γ 0 1 0 7 = ρ 10 := zAllA hm 10
  have m11 : γ 0 2 0 4 = ρ 11 := zAllA hm 11
  have m12 : γ 0 2 0 5 = ρ 12 := zAllA hm 12
  have m13 : γ 0 2 0 9 = ρ 13 := zAllA hm 13
  have m14 : γ 0 2 0 13 = ρ 14 := zAllA hm 14
  have m15 : γ 0 2 0 16 = ρ 15 := zAllA hm 15
  have m16 : γ 0 3 0 1 = ρ 16 := zAllA hm 16
  have m17 : γ 1 9 (ρ 1) 2 = ρ 17 := zAllA hm 17
  have m18 : γ 1 2 0 6 = ρ 18 := zAllA hm 18
  have m19 : γ 1 10 (9 * ρ 1) 8 = ρ 6 := zAllA hm 19
  have m20 : γ 1 10 (9 * ρ 1) 12 = ρ 7 := zAllA hm 20
  have m21 : γ 1 9 (ρ 1) 3 = ρ 19 := zAllA hm 21
  have m22 : γ 1 1 0 7 = ρ 20 := zAllA hm 22
  have m23 : γ 1 2 0 4 = ρ 11 := zAllA hm 23
  have m24 : γ 1 2 0 5 = ρ 21 := zAllA hm 24
  have m25 : γ 1 2 0 9 = ρ 22 := zAllA hm 25
  have m26 : γ 1 2 0 13 = ρ 23 := zAllA hm 26
  have m27 : γ 1 2 0 16 = ρ 24 := zAllA hm 27
  have m28 : γ 1 3 0 1 = ρ 25 := zAllA hm 28
  have m29 : γ 1 10 (ρ 17 + 9 * ρ 1 + 1) 4 = ρ 26 := zAllA hm 29
  have m30 : γ 1 10 (ρ 17 + 9 * ρ 1 + 1) 11 = ρ 27 := zAllA hm 30
  have m31 : γ 1 10 (ρ 17 + 9 * ρ 1 + 1) 8 = ρ 28 := zAllA hm 31
  have m32 : γ 1 10 (ρ 17 + 9 * ρ 1 + 1) 5 = ρ 29 := zAllA hm 32
  have m33 : γ 1 10 (ρ 17 + 9 * ρ 1 + 1) 7 = ρ 30 := zAllA hm 33
  have m34 : γ 1 10 (ρ 17 + 9 * ρ 1 + 1) 9 = ρ 31 := zAllA hm 34
  have m35 : γ 1 10 (ρ 17 + 9 * ρ 1 + 1) 12 = ρ 32 := zAllA hm 35
  have m36 : γ 3 2 0 6 = ρ 33 := zAllA hm 36
  have m37 : γ 3 10 (ρ 17 + 9 * ρ 1 + 1) 4 = ρ 34 := zAllA hm 37
  have m38 : γ 3 10 (ρ 17 + 9 * ρ 1 + 1) 11 = ρ 27 := zAllA hm 38
  have m39 : γ 3 10 (ρ 17 + 9 * ρ 1 + 1) 8 = (-1) := zAllA hm 39
  have m40 : γ 3 10 (9 * ρ 1) 8 = ρ 6 := zAllA hm 40
  have m41 : γ 3 10 (9 * ρ 1) 12 = ρ 7 := zAllA hm 41
  have m42 : γ 3 1 0 7 = ρ 20 := zAllA hm 42
  have m43 : γ 3 2 0 4 = ρ 11 := zAllA hm 43
  have m44 : γ 3 2 0 5 = ρ 21 := zAllA hm 44
  have m45 : γ 3 2 0 9 = ρ 35 := zAllA hm 45
  have m46 : γ 3 2 0 13 = ρ 23 := zAllA hm 46
  have m47 : γ 3 2 0 16 = ρ 24 := zAllA hm 47
  have m48 : γ 3 3 0 1 = ρ 36 := zAllA hm 48
  have m49 : γ 3 10 (ρ 17 + 9 * ρ 1 + 1) 5 = ρ 37 := zAllA hm 49
  have m50 : γ 3 10 (ρ 17 + 9 * ρ 1 + 1) 7 = ρ 38 := zAllA hm 50
  have m51 : γ 3 10 (ρ 17 + 9 * ρ 1 + 1) 9 = (-1) := zAllA hm 51
  have m52 : γ 3 10 (ρ 17 + 9 * ρ 1 + 1) 12 = 0 := zAllA hm 52
  have m53 : γ 5 2 0 6 = ρ 39 := zAllA hm 53
  have m54 : γ 7 2 0 4 = ρ 40 := zAllA hm 54
  have c1 : ∀ (G : Nat) (k j : Int), ¬ rMdP m107_ G j → γ 1 G k j = γ 0 G k j := And.right (zChA hc 6)
  have c2 : ∀ (G : Nat) (k j : Int), ¬ rMdP m0_ G j → γ 2 G k j = γ 1 G k j := And.right (zChA hc 5)
  have c3 : ∀ (G : Nat) (k j : Int), ¬ rMdP m106_ G j → γ 3 G k j = γ 2 G k j := And.right (zChA hc 4)
  have c4 : γ 4 = rUp (γ 3) 9 (ρ 1) 2 (ρ 17 + 1) := And.right (zChA hc 3)
  have c5 : ∀ (G : Nat) (k j : Int), ¬ rMdP m77_ G j → γ 5 G k j = γ 4 G k j := And.right (zChA hc 2)
  have c6 : γ 6 = rUp (γ 5) 2 0 6 (ρ 39 + 1) := And.right (zChA hc 1)
  have c7 : ∀ (G : Nat) (k j : Int), ¬ rMdP m72_ G j → γ 7 G k j = γ 6 G k j := And.right (zChA hc 0)
  have l0 : sn132 [ρ 1, ρ 17] (γ 1) 0 (ρ 17 + 9 * ρ 1 + 1) (γ 2) := hS132 _ _ _ _ _ (zAllA hl 0)
  have l1 : sn157 [ρ 0, ρ 1, ρ 17, ρ 18, ρ 4, ρ 26, ρ 27, ρ 28, ρ 5, ρ 6, ρ 7, ρ 20, ρ 11, ρ 21, ρ 22, ρ 23, ρ 24, ρ 25, ρ 29, ρ 30, ρ 31, ρ 32] (γ 2) 0 1 (γ 3) := hS157 _ _ _ _ _ (zAllA hl 1)
  have l2 : sn114 [ρ 33, ρ 4] (γ 4) 0 (-1) (γ 5) := hS114 _ _ _ _ _ (zAllA hl 2)
  have l3 : sn152 [ρ 11, ρ 24] (γ 6) 0 0 (γ 7) := hS152 _ _ _ _ _ (zAllA hl 3)
  show sn159 [ρ 0, ρ 1, ρ 2, ρ 3, ρ 4, ρ 5, ρ 6, ρ 7, ρ 8, ρ 9, ρ 10, ρ 11, ρ 12, ρ 13, ρ 14, ρ 15, ρ 16] (γ 0) 0 0 (γ 7)
  have hD : en159 (γ 0) (0, [], γ 1) = .inr (0, 0, γ 7) := by
    unfold en159
    refine zIP (show (0 : Nat) = 0 by decide) (zLV (γ 1) rfl (zLE m0 (zLE m1 (zLE m17 (zLE m21 (zIN (show ¬ (ρ 17 ≥ 8) by omega) (zLE (show fn132 [ρ 1, ρ 17] (γ 1) = (0, ρ 17 + 9 * ρ 1 + 1, γ 2) from l0.symm) ?_)))))))
    refine zLV (γ 2) rfl (zLE (show fn157 [] (γ 2) = (0, 1, γ 3) from l1.symm) (zLV (γ 3) rfl (zIP (show (1 : Int) ≤ 1 by omega) (zIP (show 3 ≤ γ 3 10 (ρ 17 + 9 * ρ 1 + 1) 4 by omega) (zIN (show ¬ (6 ≤ γ 3 10 (ρ 17 + 9 * ρ 1 + 1) 4) by omega) (zLE c4.symm (zLE (show fn114 [] (γ 4) = (0, (-1), γ 5) from l2.symm) ?_)))))))
    refine zLV (γ 5) rfl (zIN (show ¬ ((0 : Int) ≤ (-1)) by omega) (zLE m53 (zLE c6.symm (zLE (show fn152 [] (γ 6) = (0, 0, γ 7) from l3.symm) (zLV (γ 7) rfl (zIN (show ¬ ((1 : Int) ≤ 0) by omega) ?_))))))
    rfl
  exact zGoo_aend hJ hD
theorem vn159a0_4 {S : Nat → zSpc} (hS109 : zIm S 109 sn109) (hS114 : zIm S 114 sn114) (hS132 : zIm S 132 sn132) (hS152 : zIm S 152 sn152) (hS157 : zIm S 157 sn157) {a : List Int} {g : rHp} : ∀ (ρ : Nat → Int) (γ : Nat → rHp), jn159 a g 0 (zAg (zNA a159_ 0) ρ) (γ 1) → zO 17 S a g q159a0_4 ρ γ → zGl (fun i vs g1 => jn159 a g i vs g1) (sn159 a g) q159a0_4 ρ γ := by
  intro ρ γ hJ h
  obtain ⟨ha, hg, hr, hf, hm, hc, hl⟩ := h
  have ha : a = [ρ 0, ρ 1, ρ 2, ρ 3, ρ 4, ρ 5, ρ 6, ρ 7, ρ 8, ρ 9, ρ 10, ρ 11, ρ 12, ρ 13, ρ 14, ρ 15, ρ 16] := ha
  subst ha
  subst hg
  have hJ : jn159 [ρ 0, ρ 1, ρ 2, ρ 3, ρ 4, ρ 5, ρ 6, ρ 7, ρ 8, ρ 9, ρ 10, ρ 11, ρ 12, ρ 13, ρ 14, ρ 15, ρ 16] (γ 0) 0 [ρ 0, ρ 1, ρ 2, ρ 3, ρ 4, ρ 5, ρ 6, ρ 7, ρ 8, ρ 9, ρ 10, ρ 11, ρ 12, ρ 13, ρ 14, ρ 15, ρ 16, ρ 17, ρ 18, ρ 19, ρ 20, ρ 21, ρ 22, ρ 23, ρ 24, ρ 25] (γ 1) := hJ
  have r0 : (0 : Int) ≤ ρ 0 ∧ ρ 0 ≤ 60 := zRnA hr 0
  have r1 : (0 : Int) ≤ ρ 1 ∧ ρ 1 ≤ 60 := zRnA hr 1
  have r2 : (0 : Int) ≤ ρ 2 ∧ ρ 2 ≤ 8 := zRnA hr 2
  have r3 : (0 : Int) ≤ ρ 3 ∧ ρ 3 ≤ 2000 := zRnA hr 3
  have r4 : (0 : Int) ≤ ρ 4 ∧ ρ 4 ≤ 2000 := zRnA hr 4
  have r5 : (2 : Int) ≤ ρ 5 ∧ ρ 5 ≤ 2 := zRnA hr 5
  have r6 : ((-1) : Int) ≤ ρ 6 ∧ ρ 6 ≤ 19 := zRnA hr 6
  have r7 : (0 : Int) ≤ ρ 7 ∧ ρ 7 ≤ 4 := zRnA hr 7
  have r8 : ((-1) : Int) ≤ ρ 8 ∧ ρ 8 ≤ 7 := zRnA hr 8
  have r9 : (0 : Int) ≤ ρ 9 ∧ ρ 9 ≤ 8 := zRnA hr 9
  have r10 : (0 : Int) ≤ ρ 10 ∧ ρ 10 ≤ 20 := zRnA hr 10
  have r11 : ((-2147483648) : Int) ≤ ρ 11 ∧ ρ 11 ≤ 2147483647 := zRnA hr 11
  have r12 : ((-2147483648) : Int) ≤ ρ 12 ∧ ρ 12 ≤ 2147483647 := zRnA hr 12
  have r13 : ((-2147483648) : Int) ≤ ρ 13 ∧ ρ 13 ≤ 2147483647 := zRnA hr 13
  have r14 : (0 : Int) ≤ ρ 14 ∧ ρ 14 ≤ 8 := zRnA hr 14
  have r15 : (0 : Int) ≤ ρ 15 ∧ ρ 15 ≤ 32 := zRnA hr 15
  have r16 : (0 : Int) ≤ ρ 16 ∧ ρ 16 ≤ 5120 := zRnA hr 16
  have r17 : (0 : Int) ≤ ρ 17 ∧ ρ 17 ≤ 7 := zRnA hr 17
  have r18 : (0 : Int) ≤ ρ 18 ∧ ρ 18 ≤ 2000 := zRnA hr 18
  have r19 : (0 : Int) ≤ ρ 19 ∧ ρ 19 ≤ 8 := zRnA hr 19
  have r20 : (0 : Int) ≤ ρ 20 ∧ ρ 20 ≤ 20 := zRnA hr 20
  have r21 : ((-2147483648) : Int) ≤ ρ 21 ∧ ρ 21 ≤ 2147483647 := zRnA hr 21
  have r22 : ((-2147483648) : Int) ≤ ρ 22 ∧ ρ 22 ≤ 2147483647 := zRnA hr 22
  have r23 : (0 : Int) ≤ ρ 23 ∧ ρ 23 ≤ 8 := zRnA hr 23
  have r24 : (0 : Int) ≤ ρ 24 ∧ ρ 24 ≤ 32 := zRnA hr 24
  have r25 : (0 : Int) ≤ ρ 25 ∧ ρ 25 ≤ 5120 := zRnA hr 25
  have r26 : (0 : Int) ≤ ρ 26 ∧ ρ 26 ≤ 8 := zRnA hr 26
  have r27 : ((-1) : Int) ≤ ρ 27 ∧ ρ 27 ≤ 7 := zRnA hr 27
  have r28 : ((-1) : Int) ≤ ρ 28 ∧ ρ 28 ≤ 19 := zRnA hr 28
  have r29 : (0 : Int) ≤ ρ 29 ∧ ρ 29 ≤ 4 := zRnA hr 29
  have r30 : ((-2147483648) : Int) ≤ ρ 30 ∧ ρ 30 ≤ 2147483647 := zRnA hr 30
  have r31 : ((-1) : Int) ≤ ρ 31 ∧ ρ 31 ≤ 3 := zRnA hr 31
  have r32 : (0 : Int) ≤ ρ 32 ∧ ρ 32 ≤ 4 := zRnA hr 32
  have r33 : (2 : Int) ≤ ρ 33 ∧ ρ 33 ≤ 2000 := zRnA hr 33
  have r34 : (3 : Int) ≤ ρ 34 ∧ ρ 34 ≤ 5 := zRnA hr 34
  have r35 : ((-2147483648) : Int) ≤ ρ 35 ∧ ρ 35 ≤ 2147483647 := zRnA hr 35
  have r36 : (0 : Int) ≤ ρ 36 ∧ ρ 36 ≤ 5120 := zRnA hr 36
  have r37 : (1 : Int) ≤ ρ 37 ∧ ρ 37 ≤ 2 := zRnA hr 37
  have r38 : (0 : Int) ≤ ρ 38 ∧ ρ 38 ≤ 2000 := zRnA hr 38
  have r39 : (0 : Int) ≤ ρ 39 ∧ ρ 39 ≤ 2000 := zRnA hr 39
  have f0 : (0 : Int) ≤ ρ 39 + -ρ 33 := zAllA hf 0
  have f1 : (0 : Int) ≤ ρ 39 + -ρ 4 := zAllA hf 1
  have f2 : (0 : Int) ≤ -ρ 38 + ρ 33 + (-1) := zAllA hf 2
  have f3 : (0 : Int) ≤ ρ 33 + -ρ 18 + (-1) := zAllA hf 3
  have f4 : (0 : Int) ≤ ρ 36 + -ρ 25 := zAllA hf 4
  have f5 : (0 : Int) ≤ ρ 38 + -ρ 18 := zAllA hf 5
  have f6 : (0 : Int) ≤ -ρ 37 + ρ 4 := zAllA hf 6
  have f7 : (0 : Int) ≤ -ρ 38 + ρ 4 + (-1) := zAllA hf 7
  have f8 : (0 : Int) ≤ -ρ 18 + ρ 4 + (-1) := zAllA hf 8
  have f9 : (0 : Int) ≤ -ρ 5 + ρ 4 := zAllA hf 9
  have f10 : (0 : Int) ≤ -ρ 17 + ρ 4 := zAllA hf 10
  have f11 : (0 : Int) ≤ ρ 25 + -ρ 16 := zAllA hf 11
  have f12 : (0 : Int) ≤ ρ 24 + -ρ 15 := zAllA hf 12
  have f13 : (0 : Int) ≤ ρ 23 + -ρ 14 := zAllA hf 13
  have f14 : (0 : Int) ≤ ρ 20 + -ρ 10 := zAllA hf 14
  have f15 : (0 : Int) ≤ ρ 18 + -ρ 3 := zAllA hf 15
  have f16 : (0 : Int) ≤ ρ 18 + -ρ 17 := zAllA hf 16
  have f17 : (0 : Int) ≤ -ρ 19 + ρ 17 := zAllA hf 17
  have m0 : γ 0 1 0 10 = ρ 0 := zAllA hm 0
  have m1 : γ 0 40 0 (ρ 0) = ρ 1 := zAllA hm 1
  have m2 : γ 0 9 (ρ 1) 2 = ρ 2 := zAllA hm 2
  have m3 : γ 0 2 0 6 = ρ 3 := zAllA hm 3
  have m4 : γ 0 2 0 3 = ρ 4 := zAllA hm 4
  have m5 : γ 0 2 0 7 = ρ 5 := zAllA hm 5
  have m6 : γ 0 10 (9 * ρ 1) 8 = ρ 6 := zAllA hm 6
  have m7 : γ 0 10 (9 * ρ 1) 12 = ρ 7 := zAllA hm 7
  have m8 : γ 0 10 (9 * ρ 1) 14 = ρ 8 := zAllA hm 8
  have m9 : γ 0 9 (ρ 1) 3 = ρ 9 := zAllA hm 9
  have m10 : γ 0 1 0 7 = ρ 10 := zAllA hm 10
  have m11 : γ 0 2 0 4 = ρ 11 := zAllA hm 11
  have m12 : γ 0 2 0 5 = ρ 12 := zAllA hm 12
  have m13 : γ 0 2 0 9 = ρ 13 := zAllA hm 13
  have m14 : γ 0 2 0 13 = ρ 14 := zAllA hm 14
  have m15 : γ 0 2 0 16 = ρ 15 := zAllA hm 15
  have m16 : γ 0 3 0 1 = ρ 16 := zAllA hm 16
  have m17 : γ 1 9 (ρ 1) 2 = ρ 17 := zAllA hm 17
  have m18 : γ 1 2 0 6 = ρ 18 := zAllA hm 18
  have m19 : γ 1 10 (9 * ρ 1) 8 = ρ 6 := zAllA hm 19
  have m20 : γ 1 10 (9 * ρ 1) 12 = ρ 7 := zAllA hm 20
  have m21 : γ 1 9 (ρ 1) 3 = ρ 19 := zAllA hm 21
  have m22 : γ 1 1 0 7 = ρ 20 := zAllA hm 22
  have m23 : γ 1 2 0 4 = ρ 11 := zAllA hm 23
  have m24 : γ 1 2 0 5 = ρ 21 := zAllA hm 24
  have m25 : γ 1 2 0 9 = ρ 22 := zAllA hm 25
  have m26 : γ 1 2 0 13 = ρ 23 := zAllA hm 26
  have m27 : γ 1 2 0 16 = ρ 24 := zAllA hm 27
  have m28 : γ 1 3 0 1 = ρ 25 := zAllA hm 28
  have m29 : γ 1 10 (ρ 17 + 9 * ρ 1 + 1) 4 = ρ 26 := zAllA hm 29
  have m30 : γ 1 10 (ρ 17 + 9 * ρ 1 + 1) 11 = ρ 27 := zAllA hm 30
  have m31 : γ 1 10 (ρ 17 + 9 * ρ 1 + 1) 8 = ρ 28 := zAllA hm 31
  have m32 : γ 1 10 (ρ 17 + 9 * ρ 1 + 1) 5 = ρ 29 := zAllA hm 32
  have m33 : γ 1 10 (ρ 17 + 9 * ρ 1 + 1) 7 = ρ 30 := zAllA hm 33
  have m34 : γ 1 10 (ρ 17 + 9 * ρ 1 + 1) 9 = ρ 31 := zAllA hm 34
  have m35 : γ 1 10 (ρ 17 + 9 * ρ 1 + 1) 12 = ρ 32 := zAllA hm 35
  have m36 : γ 3 2 0 6 = ρ 33 := zAllA hm 36
  have m37 : γ 3 10 (ρ 17 + 9 * ρ 1 + 1) 4 = ρ 34 := zAllA hm 37
  have m38 : γ 3 10 (ρ 17 + 9 * ρ 1 + 1) 11 = ρ 27 := zAllA hm 38
  have m39 : γ 3 10 (ρ 17 + 9 * ρ 1 + 1) 8 = (-1) := zAllA hm 39
  have m40 : γ 3 10 (9 * ρ 1) 8 = ρ 6 := zAllA hm 40
  have m41 : γ 3 10 (9 * ρ 1) 12 = ρ 7 := zAllA hm 41
  have m42 : γ 3 1 0 7 = ρ 20 := zAllA hm 42
  have m43 : γ 3 2 0 4 = ρ 11 := zAllA hm 43
  have m44 : γ 3 2 0 5 = ρ 21 := zAllA hm 44
  have m45 : γ 3 2 0 9 = ρ 35 := zAllA hm 45
  have m46 : γ 3 2 0 13 = ρ 23 := zAllA hm 46
  have m47 : γ 3 2 0 16 = ρ 24 := zAllA hm 47
  have m48 : γ 3 3 0 1 = ρ 36 := zAllA hm 48
  have m49 : γ 3 10 (ρ 17 + 9 * ρ 1 + 1) 5 = ρ 37 := zAllA hm 49
  have m50 : γ 3 10 (ρ 17 + 9 * ρ 1 + 1) 7 = ρ 38 := zAllA hm 50
  have m51 : γ 3 10 (ρ 17 + 9 * ρ 1 + 1) 9 = (-1) := zAllA hm 51
  have m52 : γ 3 10 (ρ 17 + 9 * ρ 1 + 1) 12 = 0 := zAllA hm 52
  have m53 : γ 5 2 0 6 = ρ 39 := zAllA hm 53
  have m54 : γ 7 2 0 4 = ρ 11 := zAllA hm 54
  have c1 : ∀ (G : Nat) (k j : Int), ¬ rMdP m107_ G j → γ 1 G k j = γ 0 G k j := And.right (zChA hc 6)
  have c2 : ∀ (G : Nat) (k j : Int), ¬ rMdP m0_ G j → γ 2 G k j = γ 1 G k j := And.right (zChA hc 5)
  have c3 : ∀ (G : Nat) (k j : Int), ¬ rMdP m106_ G j → γ 3 G k j = γ 2 G k j := And.right (zChA hc 4)
  have c4 : γ 4 = rUp (γ 3) 9 (ρ 1) 2 (ρ 17 + 1) := And.right (zChA hc 3)
  have c5 : ∀ (G : Nat) (k j : Int), ¬ rMdP m77_ G j → γ 5 G k j = γ 4 G k j := And.right (zChA hc 2)
  have c6 : γ 6 = rUp (γ 5) 2 0 6 (ρ 39 + 1) := And.right (zChA hc 1)
  have c7 : ∀ (G : Nat) (k j : Int), ¬ rMdP m72_ G j → γ 7 G k j = γ 6 G k j := And.right (zChA hc 0)
  have l0 : sn132 [ρ 1, ρ 17] (γ 1) 0 (ρ 17 + 9 * ρ 1 + 1) (γ 2) := hS132 _ _ _ _ _ (zAllA hl 0)
  have l1 : sn157 [ρ 0, ρ 1, ρ 17, ρ 18, ρ 4, ρ 26, ρ 27, ρ 28, ρ 5, ρ 6, ρ 7, ρ 20, ρ 11, ρ 21, ρ 22, ρ 23, ρ 24, ρ 25, ρ 29, ρ 30, ρ 31, ρ 32] (γ 2) 0 1 (γ 3) := hS157 _ _ _ _ _ (zAllA hl 1)
  have l2 : sn114 [ρ 33, ρ 4] (γ 4) 0 (-1) (γ 5) := hS114 _ _ _ _ _ (zAllA hl 2)
  have l3 : sn152 [ρ 11, ρ 24] (γ 6) 0 1 (γ 7) := hS152 _ _ _ _ _ (zAllA hl 3)
  show sn159 [ρ 0, ρ 1, ρ 2, ρ 3, ρ 4, ρ 5, ρ 6, ρ 7, ρ 8, ρ 9, ρ 10, ρ 11, ρ 12, ρ 13, ρ 14, ρ 15, ρ 16] (γ 0) 0 1 (γ 7)
  have hD : en159 (γ 0) (0, [], γ 1) = .inr (0, 1, γ 7) := by
    unfold en159
    refine zIP (show (0 : Nat) = 0 by decide) (zLV (γ 1) rfl (zLE m0 (zLE m1 (zLE m17 (zLE m21 (zIN (show ¬ (ρ 17 ≥ 8) by omega) (zLE (show fn132 [ρ 1, ρ 17] (γ 1) = (0, ρ 17 + 9 * ρ 1 + 1, γ 2) from l0.symm) ?_)))))))
    refine zLV (γ 2) rfl (zLE (show fn157 [] (γ 2) = (0, 1, γ 3) from l1.symm) (zLV (γ 3) rfl (zIP (show (1 : Int) ≤ 1 by omega) (zIP (show 3 ≤ γ 3 10 (ρ 17 + 9 * ρ 1 + 1) 4 by omega) (zIN (show ¬ (6 ≤ γ 3 10 (ρ 17 + 9 * ρ 1 + 1) 4) by omega) (zLE c4.symm (zLE (show fn114 [] (γ 4) = (0, (-1), γ 5) from l2.symm) ?_)))))))
    refine zLV (γ 5) rfl (zIN (show ¬ ((0 : Int) ≤ (-1)) by omega) (zLE m53 (zLE c6.symm (zLE (show fn152 [] (γ 6) = (0, 1, γ 7) from l3.symm) (zLV (γ 7) rfl (zIP (show (1 : Int) ≤ 1 by omega) ?_))))))
    rfl
  exact zGoo_aend hJ hD
theorem vn159a0_5 {S : Nat → zSpc} (hS109 : zIm S 109 sn109) (hS114 : zIm S 114 sn114) (hS132 : zIm S 132 sn132) (hS152 : zIm S 152 sn152) (hS157 : zIm S 157 sn157) {a : List Int} {g : rHp} : ∀ (ρ : Nat → Int) (γ : Nat → rHp), jn159 a g 0 (zAg (zNA a159_ 0) ρ) (γ 1) → zO 17 S a g q159a0_5 ρ γ → zGl (fun i vs g1 => jn159 a g i vs g1) (sn159 a g) q159a0_5 ρ γ := by
  intro ρ γ hJ h
  obtain ⟨ha, hg, hr, hf, hm, hc, hl⟩ := h
  have ha : a = [ρ 0, ρ 1, ρ 2, ρ 3, ρ 4, ρ 5, ρ 6, ρ 7, ρ 8, ρ 9, ρ 10, ρ 11, ρ 12, ρ 13, ρ 14, ρ 15, ρ 16] := ha
  subst ha
  subst hg
  have hJ : jn159 [ρ 0, ρ 1, ρ 2, ρ 3, ρ 4, ρ 5, ρ 6, ρ 7, ρ 8, ρ 9, ρ 10, ρ 11, ρ 12, ρ 13, ρ 14, ρ 15, ρ 16] (γ 0) 0 [ρ 0, ρ 1, ρ 2, ρ 3, ρ 4, ρ 5, ρ 6, ρ 7, ρ 8, ρ 9, ρ 10, ρ 11, ρ 12, ρ 13, ρ 14, ρ 15, ρ 16, ρ 17, ρ 18, ρ 19, ρ 20, ρ 21, ρ 22, ρ 23, ρ 24, ρ 25] (γ 1) := hJ
  have r0 : (0 : Int) ≤ ρ 0 ∧ ρ 0 ≤ 60 := zRnA hr 0
  have r1 : (0 : Int) ≤ ρ 1 ∧ ρ 1 ≤ 60 := zRnA hr 1
  have r2 : (0 : Int) ≤ ρ 2 ∧ ρ 2 ≤ 8 := zRnA hr 2
  have r3 : (0 : Int) ≤ ρ 3 ∧ ρ 3 ≤ 2000 := zRnA hr 3
  have r4 : (0 : Int) ≤ ρ 4 ∧ ρ 4 ≤ 2000 := zRnA hr 4
  have r5 : (2 : Int) ≤ ρ 5 ∧ ρ 5 ≤ 2 := zRnA hr 5
  have r6 : ((-1) : Int) ≤ ρ 6 ∧ ρ 6 ≤ 19 := zRnA hr 6
  have r7 : (0 : Int) ≤ ρ 7 ∧ ρ 7 ≤ 4 := zRnA hr 7
  have r8 : ((-1) : Int) ≤ ρ 8 ∧ ρ 8 ≤ 7 := zRnA hr 8
  have r9 : (0 : Int) ≤ ρ 9 ∧ ρ 9 ≤ 8 := zRnA hr 9
  have r10 : (0 : Int) ≤ ρ 10 ∧ ρ 10 ≤ 20 := zRnA hr 10
  have r11 : ((-2147483648) : Int) ≤ ρ 11 ∧ ρ 11 ≤ 2147483647 := zRnA hr 11
  have r12 : ((-2147483648) : Int) ≤ ρ 12 ∧ ρ 12 ≤ 2147483647 := zRnA hr 12
  have r13 : ((-2147483648) : Int) ≤ ρ 13 ∧ ρ 13 ≤ 2147483647 := zRnA hr 13
  have r14 : (0 : Int) ≤ ρ 14 ∧ ρ 14 ≤ 8 := zRnA hr 14
  have r15 : (0 : Int) ≤ ρ 15 ∧ ρ 15 ≤ 32 := zRnA hr 15
  have r16 : (0 : Int) ≤ ρ 16 ∧ ρ 16 ≤ 5120 := zRnA hr 16
  have r17 : (0 : Int) ≤ ρ 17 ∧ ρ 17 ≤ 7 := zRnA hr 17
  have r18 : (0 : Int) ≤ ρ 18 ∧ ρ 18 ≤ 2000 := zRnA hr 18
  have r19 : (0 : Int) ≤ ρ 19 ∧ ρ 19 ≤ 8 := zRnA hr 19
  have r20 : (0 : Int) ≤ ρ 20 ∧ ρ 20 ≤ 20 := zRnA hr 20
  have r21 : ((-2147483648) : Int) ≤ ρ 21 ∧ ρ 21 ≤ 2147483647 := zRnA hr 21
  have r22 : ((-2147483648) : Int) ≤ ρ 22 ∧ ρ 22 ≤ 2147483647 := zRnA hr 22
  have r23 : (0 : Int) ≤ ρ 23 ∧ ρ 23 ≤ 8 := zRnA hr 23
  have r24 : (0 : Int) ≤ ρ 24 ∧ ρ 24 ≤ 32 := zRnA hr 24
  have r25 : (0 : Int) ≤ ρ 25 ∧ ρ 25 ≤ 5120 := zRnA hr 25
  have r26 : (0 : Int) ≤ ρ 26 ∧ ρ 26 ≤ 8 := zRnA hr 26
  have r27 : ((-1) : Int) ≤ ρ 27 ∧ ρ 27 ≤ 7 := zRnA hr 27
  have r28 : ((-1) : Int) ≤ ρ 28 ∧ ρ 28 ≤ 19 := zRnA hr 28
  have r29 : (0 : Int) ≤ ρ 29 ∧ ρ 29 ≤ 4 := zRnA hr 29
  have r30 : ((-2147483648) : Int) ≤ ρ 30 ∧ ρ 30 ≤ 2147483647 := zRnA hr 30
  have r31 : ((-1) : Int) ≤ ρ 31 ∧ ρ 31 ≤ 3 := zRnA hr 31
  have r32 : (0 : Int) ≤ ρ 32 ∧ ρ 32 ≤ 4 := zRnA hr 32
  have r33 : (2 : Int) ≤ ρ 33 ∧ ρ 33 ≤ 2000 := zRnA hr 33
  have r34 : (3 : Int) ≤ ρ 34 ∧ ρ 34 ≤ 5 := zRnA hr 34
  have r35 : ((-2147483648) : Int) ≤ ρ 35 ∧ ρ 35 ≤ 2147483647 := zRnA hr 35
  have r36 : (0 : Int) ≤ ρ 36 ∧ ρ 36 ≤ 5120 := zRnA hr 36
  have r37 : (1 : Int) ≤ ρ 37 ∧ ρ 37 ≤ 2 := zRnA hr 37
  have r38 : (0 : Int) ≤ ρ 38 ∧ ρ 38 ≤ 2000 := zRnA hr 38
  have r39 : (44 : Int) ≤ ρ 39 ∧ ρ 39 ≤ 44 := zRnA hr 39
  have r40 : (0 : Int) ≤ ρ 40 ∧ ρ 40 ≤ 2000 := zRnA hr 40
  have f0 : (0 : Int) ≤ ρ 40 + -ρ 33 := zAllA hf 0
  have f1 : (0 : Int) ≤ -ρ 40 + ρ 4 + (-1) := zAllA hf 1
  have f2 : (0 : Int) ≤ -ρ 33 + ρ 4 + (-1) := zAllA hf 2
  have f3 : (0 : Int) ≤ -ρ 38 + ρ 33 + (-1) := zAllA hf 3
  have f4 : (0 : Int) ≤ ρ 33 + -ρ 18 + (-1) := zAllA hf 4
  have f5 : (0 : Int) ≤ ρ 36 + -ρ 25 := zAllA hf 5
  have f6 : (0 : Int) ≤ ρ 38 + -ρ 18 := zAllA hf 6
  have f7 : (0 : Int) ≤ -ρ 37 + ρ 4 := zAllA hf 7
  have f8 : (0 : Int) ≤ -ρ 38 + ρ 4 + (-1) := zAllA hf 8
  have f9 : (0 : Int) ≤ -ρ 18 + ρ 4 + (-1) := zAllA hf 9
  have f10 : (0 : Int) ≤ -ρ 5 + ρ 4 := zAllA hf 10
  have f11 : (0 : Int) ≤ -ρ 17 + ρ 4 := zAllA hf 11
  have f12 : (0 : Int) ≤ ρ 25 + -ρ 16 := zAllA hf 12
  have f13 : (0 : Int) ≤ ρ 24 + -ρ 15 := zAllA hf 13
  have f14 : (0 : Int) ≤ ρ 23 + -ρ 14 := zAllA hf 14
  have f15 : (0 : Int) ≤ ρ 20 + -ρ 10 := zAllA hf 15
  have f16 : (0 : Int) ≤ ρ 18 + -ρ 3 := zAllA hf 16
  have f17 : (0 : Int) ≤ ρ 18 + -ρ 17 := zAllA hf 17
  have f18 : (0 : Int) ≤ -ρ 19 + ρ 17 := zAllA hf 18
  have m0 : γ 0 1 0 10 = ρ 0 := zAllA hm 0
  have m1 : γ 0 40 0 (ρ 0) = ρ 1 := zAllA hm 1
  have m2 : γ 0 9 (ρ 1) 2 = ρ 2 := zAllA hm 2
  have m3 : γ 0 2 0 6 = ρ 3 := zAllA hm 3
  have m4 : γ 0 2 0 3 = ρ 4 := zAllA hm 4
  have m5 : γ 0 2 0 7 = ρ 5 := zAllA hm 5
  have m6 : γ 0 10 (9 * ρ 1) 8 = ρ 6 := zAllA hm 6
  have m7 : γ 0 10 (9 * ρ 1) 12 = ρ 7 := zAllA hm 7
  have m8 : γ 0 10 (9 * ρ 1) 14 = ρ 8 := zAllA hm 8
  have m9 : γ 0 9 (ρ 1) 3 = ρ 9 := zAllA hm 9
  have m10 : γ 0 1 0 7 = ρ 10 := zAllA hm 10
  have m11 : γ 0 2 0 4 = ρ 11 := zAllA hm 11
  have m12 : γ 0 2 0 5 = ρ 12 := zAllA hm 12
  have m13 : γ 0 2 0 9 = ρ 13 := zAllA hm 13
  have m14 : γ 0 2 0 13 = ρ 14 := zAllA hm 14
  have m15 : γ 0 2 0 16 = ρ 15 := zAllA hm 15
  have m16 : γ 0 3 0 1 = ρ 16 := zAllA hm 16
  have m17 : γ 1 9 (ρ 1) 2 = ρ 17 := zAllA hm 17
  have m18 : γ 1 2 0 6 = ρ 18 := zAllA hm 18
  have m19 : γ 1 10 (9 * ρ 1) 8 = ρ 6 := zAllA hm 19
  have m20 : γ 1 10 (9 * ρ 1) 12 = ρ 7 := zAllA hm 20
  have m21 : γ 1 9 (ρ 1) 3 = ρ 19 := zAllA hm 21
  have m22 : γ 1 1 0 7 = ρ 20 := zAllA hm 22
  have m23 : γ 1 2 0 4 = ρ 11 := zAllA hm 23
  have m24 : γ 1 2 0 5 = ρ 21 := zAllA hm 24
  have m25 : γ 1 2 0 9 = ρ 22 := zAllA hm 25
  have m26 : γ 1 2 0 13 = ρ 23 := zAllA hm 26
  have m27 : γ 1 2 0 16 = ρ 24 := zAllA hm 27
  have m28 : γ 1 3 0 1 = ρ 25 := zAllA hm 28
  have m29 : γ 1 10 (ρ 17 + 9 * ρ 1 + 1) 4 = ρ 26 := zAllA hm 29
  have m30 : γ 1 10 (ρ 17 + 9 * ρ 1 + 1) 11 = ρ 27 := zAllA hm 30
  have m31 : γ 1 10 (ρ 17 + 9 * ρ 1 + 1) 8 = ρ 28 := zAllA hm 31
  have m32 : γ 1 10 (ρ 17 + 9 * ρ 1 + 1) 5 = ρ 29 := zAllA hm 32
  have m33 : γ 1 10 (ρ 17 + 9 * ρ 1 + 1) 7 = ρ 30 := zAllA hm 33
  have m34 : γ 1 10 (ρ 17 + 9 * ρ 1 + 1) 9 = ρ 31 := zAllA hm 34
  have m35 : γ 1 10 (ρ 17 + 9 * ρ 1 + 1) 12 = ρ 32 := zAllA hm 35
  have m36 : γ 3 2 0 6 = ρ 33 := zAllA hm 36
  have m37 : γ 3 10 (ρ 17 + 9 * ρ 1 + 1) 4 = ρ 34 := zAllA hm 37
  have m38 : γ 3 10 (ρ 17 + 9 * ρ 1 + 1) 11 = ρ 27 := zAllA hm 38
  have m39 : γ 3 10 (ρ 17 + 9 * ρ 1 + 1) 8 = (-1) := zAllA hm 39
  have m40 : γ 3 10 (9 * ρ 1) 8 = ρ 6 := zAllA hm 40
  have m41 : γ 3 10 (9 * ρ 1) 12 = ρ 7 := zAllA hm 41
  have m42 : γ 3 1 0 7 = ρ 20 := zAllA hm 42
  have m43 : γ 3 2 0 4 = ρ 11 := zAllA hm 43
  have m44 : γ 3 2 0 5 = ρ 21 := zAllA hm 44
  have m45 : γ 3 2 0 9 = ρ 35 := zAllA hm 45
  have m46 : γ 3 2 0 13 = ρ 23 := zAllA hm 46
  have m47 : γ 3 2 0 16 = ρ 24 := zAllA hm 47
  have m48 : γ 3 3 0 1 = ρ 36 := zAllA hm 48
  have m49 : γ 3 10 (ρ 17 + 9 * ρ 1 + 1) 5 = ρ 37 := zAllA hm 49
  have m50 : γ 3 10 (ρ 17 + 9 * ρ 1 + 1) 7 = ρ 38 := zAllA hm 50
  have m51 : γ 3 10 (ρ 17 + 9 * ρ 1 + 1) 9 = (-1) := zAllA hm 51
  have m52 : γ 3 10 (ρ 17 + 9 * ρ 1 + 1) 12 = 0 := zAllA hm 52
  have m53 : γ 5 2 0 6 = ρ 40 := zAllA hm 53
  have c1 : ∀ (G : Nat) (k j : Int), ¬ rMdP m107_ G j → γ 1 G k j = γ 0 G k j := And.right (zChA hc 5)
  have c2 : ∀ (G : Nat) (k j : Int), ¬ rMdP m0_ G j → γ 2 G k j = γ 1 G k j := And.right (zChA hc 4)
  have c3 : ∀ (G : Nat) (k j : Int), ¬ rMdP m106_ G j → γ 3 G k j = γ 2 G k j := And.right (zChA hc 3)
  have c4 : γ 4 = rUp (γ 3) 9 (ρ 1) 2 (ρ 17 + 1) := And.right (zChA hc 2)
  have c5 : ∀ (G : Nat) (k j : Int), ¬ rMdP m77_ G j → γ 5 G k j = γ 4 G k j := And.right (zChA hc 1)
  have c6 : γ 6 = rUp (γ 5) 2 0 6 (ρ 40 + 1) := And.right (zChA hc 0)
  have l0 : sn132 [ρ 1, ρ 17] (γ 1) 0 (ρ 17 + 9 * ρ 1 + 1) (γ 2) := hS132 _ _ _ _ _ (zAllA hl 0)
  have l1 : sn157 [ρ 0, ρ 1, ρ 17, ρ 18, ρ 4, ρ 26, ρ 27, ρ 28, ρ 5, ρ 6, ρ 7, ρ 20, ρ 11, ρ 21, ρ 22, ρ 23, ρ 24, ρ 25, ρ 29, ρ 30, ρ 31, ρ 32] (γ 2) 0 1 (γ 3) := hS157 _ _ _ _ _ (zAllA hl 1)
  have l2 : sn114 [ρ 33, ρ 4] (γ 4) 0 (ρ 39) (γ 5) := hS114 _ _ _ _ _ (zAllA hl 2)
  show jn159 [ρ 0, ρ 1, ρ 2, ρ 3, ρ 4, ρ 5, ρ 6, ρ 7, ρ 8, ρ 9, ρ 10, ρ 11, ρ 12, ρ 13, ρ 14, ρ 15, ρ 16] (γ 0) 0 [ρ 0, ρ 1, ρ 2, ρ 3, ρ 4, ρ 5, ρ 6, ρ 7, ρ 8, ρ 9, ρ 10, ρ 11, ρ 12, ρ 13, ρ 14, ρ 15, ρ 16, ρ 17 + 1, ρ 40 + 1, ρ 19, ρ 20, ρ 21, ρ 35, ρ 23, ρ 24, ρ 36] (γ 6)
  have hD : en159 (γ 0) (0, [], γ 1) = .inl (0, [], γ 6) := by
    unfold en159
    refine zIP (show (0 : Nat) = 0 by decide) (zLV (γ 1) rfl (zLE m0 (zLE m1 (zLE m17 (zLE m21 (zIN (show ¬ (ρ 17 ≥ 8) by omega) (zLE (show fn132 [ρ 1, ρ 17] (γ 1) = (0, ρ 17 + 9 * ρ 1 + 1, γ 2) from l0.symm) ?_)))))))
    refine zLV (γ 2) rfl (zLE (show fn157 [] (γ 2) = (0, 1, γ 3) from l1.symm) (zLV (γ 3) rfl (zIP (show (1 : Int) ≤ 1 by omega) (zIP (show 3 ≤ γ 3 10 (ρ 17 + 9 * ρ 1 + 1) 4 by omega) (zIN (show ¬ (6 ≤ γ 3 10 (ρ 17 + 9 * ρ 1 + 1) 4) by omega) (zLE c4.symm (zLE (show fn114 [] (γ 4) = (0, ρ 39, γ 5) from l2.symm) ?_)))))))
    refine zLV (γ 5) rfl (zIP (show (0 : Int) ≤ ρ 39 by omega) (zLV (ρ 39) rfl (zLE m53 (zIP (show ρ 39 = 44 by omega) (zLE c6.symm ?_)))))
    rfl
  exact zGoo_ato hJ hD
theorem vn159a0_6 {S : Nat → zSpc} (hS109 : zIm S 109 sn109) (hS114 : zIm S 114 sn114) (hS132 : zIm S 132 sn132) (hS152 : zIm S 152 sn152) (hS157 : zIm S 157 sn157) {a : List Int} {g : rHp} : ∀ (ρ : Nat → Int) (γ : Nat → rHp), jn159 a g 0 (zAg (zNA a159_ 0) ρ) (γ 1) → zO 17 S a g q159a0_6 ρ γ → zGl (fun i vs g1 => jn159 a g i vs g1) (sn159 a g) q159a0_6 ρ γ := by
  intro ρ γ hJ h
  obtain ⟨ha, hg, hr, hf, hm, hc, hl⟩ := h
  have ha : a = [ρ 0, ρ 1, ρ 2, ρ 3, ρ 4, ρ 5, ρ 6, ρ 7, ρ 8, ρ 9, ρ 10, ρ 11, ρ 12, ρ 13, ρ 14, ρ 15, ρ 16] := ha
  subst ha
  subst hg
  have hJ : jn159 [ρ 0, ρ 1, ρ 2, ρ 3, ρ 4, ρ 5, ρ 6, ρ 7, ρ 8, ρ 9, ρ 10, ρ 11, ρ 12, ρ 13, ρ 14, ρ 15, ρ 16] (γ 0) 0 [ρ 0, ρ 1, ρ 2, ρ 3, ρ 4, ρ 5, ρ 6, ρ 7, ρ 8, ρ 9, ρ 10, ρ 11, ρ 12, ρ 13, ρ 14, ρ 15, ρ 16, ρ 17, ρ 18, ρ 19, ρ 20, ρ 21, ρ 22, ρ 23, ρ 24, ρ 25] (γ 1) := hJ
  have r0 : (0 : Int) ≤ ρ 0 ∧ ρ 0 ≤ 60 := zRnA hr 0
  have r1 : (0 : Int) ≤ ρ 1 ∧ ρ 1 ≤ 60 := zRnA hr 1
  have r2 : (0 : Int) ≤ ρ 2 ∧ ρ 2 ≤ 8 := zRnA hr 2
  have r3 : (0 : Int) ≤ ρ 3 ∧ ρ 3 ≤ 2000 := zRnA hr 3
  have r4 : (0 : Int) ≤ ρ 4 ∧ ρ 4 ≤ 2000 := zRnA hr 4
  have r5 : (2 : Int) ≤ ρ 5 ∧ ρ 5 ≤ 2 := zRnA hr 5
  have r6 : ((-1) : Int) ≤ ρ 6 ∧ ρ 6 ≤ 19 := zRnA hr 6
  have r7 : (0 : Int) ≤ ρ 7 ∧ ρ 7 ≤ 4 := zRnA hr 7
  have r8 : ((-1) : Int) ≤ ρ 8 ∧ ρ 8 ≤ 7 := zRnA hr 8
  have r9 : (0 : Int) ≤ ρ 9 ∧ ρ 9 ≤ 8 := zRnA hr 9
  have r10 : (0 : Int) ≤ ρ 10 ∧ ρ 10 ≤ 20 := zRnA hr 10
  have r11 : ((-2147483648) : Int) ≤ ρ 11 ∧ ρ 11 ≤ 2147483647 := zRnA hr 11
  have r12 : ((-2147483648) : Int) ≤ ρ 12 ∧ ρ 12 ≤ 2147483647 := zRnA hr 12
  have r13 : ((-2147483648) : Int) ≤ ρ 13 ∧ ρ 13 ≤ 2147483647 := zRnA hr 13
  have r14 : (0 : Int) ≤ ρ 14 ∧ ρ 14 ≤ 8 := zRnA hr 14
  have r15 : (0 : Int) ≤ ρ 15 ∧ ρ 15 ≤ 32 := zRnA hr 15
  have r16 : (0 : Int) ≤ ρ 16 ∧ ρ 16 ≤ 5120 := zRnA hr 16
  have r17 : (0 : Int) ≤ ρ 17 ∧ ρ 17 ≤ 7 := zRnA hr 17
  have r18 : (0 : Int) ≤ ρ 18 ∧ ρ 18 ≤ 2000 := zRnA hr 18
  have r19 : (0 : Int) ≤ ρ 19 ∧ ρ 19 ≤ 8 := zRnA hr 19
  have r20 : (0 : Int) ≤ ρ 20 ∧ ρ 20 ≤ 20 := zRnA hr 20
  have r21 : ((-2147483648) : Int) ≤ ρ 21 ∧ ρ 21 ≤ 2147483647 := zRnA hr 21
  have r22 : ((-2147483648) : Int) ≤ ρ 22 ∧ ρ 22 ≤ 2147483647 := zRnA hr 22
  have r23 : (0 : Int) ≤ ρ 23 ∧ ρ 23 ≤ 8 := zRnA hr 23
  have r24 : (0 : Int) ≤ ρ 24 ∧ ρ 24 ≤ 32 := zRnA hr 24
  have r25 : (0 : Int) ≤ ρ 25 ∧ ρ 25 ≤ 5120 := zRnA hr 25
  have r26 : (0 : Int) ≤ ρ 26 ∧ ρ 26 ≤ 8 := zRnA hr 26
  have r27 : ((-1) : Int) ≤ ρ 27 ∧ ρ 27 ≤ 7 := zRnA hr 27
  have r28 : ((-1) : Int) ≤ ρ 28 ∧ ρ 28 ≤ 19 := zRnA hr 28
  have r29 : (0 : Int) ≤ ρ 29 ∧ ρ 29 ≤ 4 := zRnA hr 29
  have r30 : ((-2147483648) : Int) ≤ ρ 30 ∧ ρ 30 ≤ 2147483647 := zRnA hr 30
  have r31 : ((-1) : Int) ≤ ρ 31 ∧ ρ 31 ≤ 3 := zRnA hr 31
  have r32 : (0 : Int) ≤ ρ 32 ∧ ρ 32 ≤ 4 := zRnA hr 32
  have r33 : (2 : Int) ≤ ρ 33 ∧ ρ 33 ≤ 2000 := zRnA hr 33
  have r34 : (3 : Int) ≤ ρ 34 ∧ ρ 34 ≤ 5 := zRnA hr 34
  have r35 : ((-2147483648) : Int) ≤ ρ 35 ∧ ρ 35 ≤ 2147483647 := zRnA hr 35
  have r36 : (0 : Int) ≤ ρ 36 ∧ ρ 36 ≤ 5120 := zRnA hr 36
  have r37 : (1 : Int) ≤ ρ 37 ∧ ρ 37 ≤ 2 := zRnA hr 37
  have r38 : (0 : Int) ≤ ρ 38 ∧ ρ 38 ≤ 2000 := zRnA hr 38
  have r39 : (0 : Int) ≤ ρ 39 ∧ ρ 39 ≤ 255 := zRnA hr 39
  have r40 : (0 : Int) ≤ ρ 40 ∧ ρ 40 ≤ 2000 := zRnA hr 40
  have f0 : (0 : Int) ≤ ρ 40 + -ρ 33 := zAllA hf 0
  have f1 : (0 : Int) ≤ -ρ 40 + ρ 4 + (-1) := zAllA hf 1
  have f2 : (0 : Int) ≤ -ρ 33 + ρ 4 + (-1) := zAllA hf 2
  have f3 : (0 : Int) ≤ -ρ 38 + ρ 33 + (-1) := zAllA hf 3
  have f4 : (0 : Int) ≤ ρ 33 + -ρ 18 + (-1) := zAllA hf 4
  have f5 : (0 : Int) ≤ ρ 36 + -ρ 25 := zAllA hf 5
  have f6 : (0 : Int) ≤ ρ 38 + -ρ 18 := zAllA hf 6
  have f7 : (0 : Int) ≤ -ρ 37 + ρ 4 := zAllA hf 7
  have f8 : (0 : Int) ≤ -ρ 38 + ρ 4 + (-1) := zAllA hf 8
  have f9 : (0 : Int) ≤ -ρ 18 + ρ 4 + (-1) := zAllA hf 9
  have f10 : (0 : Int) ≤ -ρ 5 + ρ 4 := zAllA hf 10
  have f11 : (0 : Int) ≤ -ρ 17 + ρ 4 := zAllA hf 11
  have f12 : (0 : Int) ≤ ρ 25 + -ρ 16 := zAllA hf 12
  have f13 : (0 : Int) ≤ ρ 24 + -ρ 15 := zAllA hf 13
  have f14 : (0 : Int) ≤ ρ 23 + -ρ 14 := zAllA hf 14
  have f15 : (0 : Int) ≤ ρ 20 + -ρ 10 := zAllA hf 15
  have f16 : (0 : Int) ≤ ρ 18 + -ρ 3 := zAllA hf 16
  have f17 : (0 : Int) ≤ ρ 18 + -ρ 17 := zAllA hf 17
  have f18 : (0 : Int) ≤ -ρ 19 + ρ 17 := zAllA hf 18
  have m0 : γ 0 1 0 10 = ρ 0 := zAllA hm 0
  have m1 : γ 0 40 0 (ρ 0) = ρ 1 := zAllA hm 1
  have m2 : γ 0 9 (ρ 1) 2 = ρ 2 := zAllA hm 2
  have m3 : γ 0 2 0 6 = ρ 3 := zAllA hm 3
  have m4 : γ 0 2 0 3 = ρ 4 := zAllA hm 4
  have m5 : γ 0 2 0 7 = ρ 5 := zAllA hm 5
  have m6 : γ 0 10 (9 * ρ 1) 8 = ρ 6 := zAllA hm 6
  have m7 : γ 0 10 (9 * ρ 1) 12 = ρ 7 := zAllA hm 7
  have m8 : γ 0 10 (9 * ρ 1) 14 = ρ 8 := zAllA hm 8
  have m9 : γ 0 9 (ρ 1) 3 = ρ 9 := zAllA hm 9
  have m10 : γ 0 1 0 7 = ρ 10 := zAllA hm 10
  have m11 : γ 0 2 0 4 = ρ 11 := zAllA hm 11
  have m12 : γ 0 2 0 5 = ρ 12 := zAllA hm 12
  have m13 : γ 0 2 0 9 = ρ 13 := zAllA hm 13
  have m14 : γ 0 2 0 13 = ρ 14 := zAllA hm 14
  have m15 : γ 0 2 0 16 = ρ 15 := zAllA hm 15
  have m16 : γ 0 3 0 1 = ρ 16 := zAllA hm 16
  have m17 : γ 1 9 (ρ 1) 2 = ρ 17 := zAllA hm 17
  have m18 : γ 1 2 0 6 = ρ 18 := zAllA hm 18
  have m19 : γ 1 10 (9 * ρ 1) 8 = ρ 6 := zAllA hm 19
  have m20 : γ 1 10 (9 * ρ 1) 12 = ρ 7 := zAllA hm 20
  have m21 : γ 1 9 (ρ 1) 3 = ρ 19 := zAllA hm 21
  have m22 : γ 1 1 0 7 = ρ 20 := zAllA hm 22
  have m23 : γ 1 2 0 4 = ρ 11 := zAllA hm 23
  have m24 : γ 1 2 0 5 = ρ 21 := zAllA hm 24
  have m25 : γ 1 2 0 9 = ρ 22 := zAllA hm 25
  have m26 : γ 1 2 0 13 = ρ 23 := zAllA hm 26
  have m27 : γ 1 2 0 16 = ρ 24 := zAllA hm 27
  have m28 : γ 1 3 0 1 = ρ 25 := zAllA hm 28
  have m29 : γ 1 10 (ρ 17 + 9 * ρ 1 + 1) 4 = ρ 26 := zAllA hm 29
  have m30 : γ 1 10 (ρ 17 + 9 * ρ 1 + 1) 11 = ρ 27 := zAllA hm 30
  have m31 : γ 1 10 (ρ 17 + 9 * ρ 1 + 1) 8 = ρ 28 := zAllA hm 31
  have m32 : γ 1 10 (ρ 17 + 9 * ρ 1 + 1) 5 = ρ 29 := zAllA hm 32
  have m33 : γ 1 10 (ρ 17 + 9 * ρ 1 + 1) 7 = ρ 30 := zAllA hm 33
  have m34 : γ 1 10 (ρ 17 + 9 * ρ 1 + 1) 9 = ρ 31 := zAllA hm 34
  have m35 : γ 1 10 (ρ 17 + 9 * ρ 1 + 1) 12 = ρ 32 := zAllA hm 35
  have m36 : γ 3 2 0 6 = ρ 33 := zAllA hm 36
  have m37 : γ 3 10 (ρ 17 + 9 * ρ 1 + 1) 4 = ρ 34 := zAllA hm 37
  have m38 : γ 3 10 (ρ 17 + 9 * ρ 1 + 1) 11 = ρ 27 := zAllA hm 38
  have m39 : γ 3 10 (ρ 17 + 9 * ρ 1 + 1) 8 = (-1) := zAllA hm 39
  have m40 : γ 3 10 (9 * ρ 1) 8 = ρ 6 := zAllA hm 40
  have m41 : γ 3 10 (9 * ρ 1) 12 = ρ 7 := zAllA hm 41
  have m42 : γ 3 1 0 7 = ρ 20 := zAllA hm 42
  have m43 : γ 3 2 0 4 = ρ 11 := zAllA hm 43
  have m44 : γ 3 2 0 5 = ρ 21 := zAllA hm 44
  have m45 : γ 3 2 0 9 = ρ 35 := zAllA hm 45
  have m46 : γ 3 2 0 13 = ρ 23 := zAllA hm 46
  have m47 : γ 3 2 0 16 = ρ 24 := zAllA hm 47
  have m48 : γ 3 3 0 1 = ρ 36 := zAllA hm 48
  have m49 : γ 3 10 (ρ 17 + 9 * ρ 1 + 1) 5 = ρ 37 := zAllA hm 49
  have m50 : γ 3 10 (ρ 17 + 9 * ρ 1 + 1) 7 = ρ 38 := zAllA hm 50
  have m51 : γ 3 10 (ρ 17 + 9 * ρ 1 + 1) 9 = (-1) := zAllA hm 51
  have m52 : γ 3 10 (ρ 17 + 9 * ρ 1 + 1) 12 = 0 := zAllA hm 52
  have m53 : γ 5 2 0 6 = ρ 40 := zAllA hm 53
  have m54 : γ 6 2 0 4 = ρ 40 := zAllA hm 54
  have c1 : ∀ (G : Nat) (k j : Int), ¬ rMdP m107_ G j → γ 1 G k j = γ 0 G k j := And.right (zChA hc 5)
  have c2 : ∀ (G : Nat) (k j : Int), ¬ rMdP m0_ G j → γ 2 G k j = γ 1 G k j := And.right (zChA hc 4)
  have c3 : ∀ (G : Nat) (k j : Int), ¬ rMdP m106_ G j → γ 3 G k j = γ 2 G k j := And.right (zChA hc 3)
  have c4 : γ 4 = rUp (γ 3) 9 (ρ 1) 2 (ρ 17 + 1) := And.right (zChA hc 2)
  have c5 : ∀ (G : Nat) (k j : Int), ¬ rMdP m77_ G j → γ 5 G k j = γ 4 G k j := And.right (zChA hc 1)
  have c6 : ∀ (G : Nat) (k j : Int), ¬ rMdP m72_ G j → γ 6 G k j = γ 5 G k j := And.right (zChA hc 0)
  have l0 : sn132 [ρ 1, ρ 17] (γ 1) 0 (ρ 17 + 9 * ρ 1 + 1) (γ 2) := hS132 _ _ _ _ _ (zAllA hl 0)
  have l1 : sn157 [ρ 0, ρ 1, ρ 17, ρ 18, ρ 4, ρ 26, ρ 27, ρ 28, ρ 5, ρ 6, ρ 7, ρ 20, ρ 11, ρ 21, ρ 22, ρ 23, ρ 24, ρ 25, ρ 29, ρ 30, ρ 31, ρ 32] (γ 2) 0 1 (γ 3) := hS157 _ _ _ _ _ (zAllA hl 1)
  have l2 : sn114 [ρ 33, ρ 4] (γ 4) 0 (ρ 39) (γ 5) := hS114 _ _ _ _ _ (zAllA hl 2)
  have l3 : ρ 39 ≠ 44 := zAllA hl 3
  have l4 : sn109 [ρ 40, ρ 11] (γ 5) 0 0 (γ 6) := hS109 _ _ _ _ _ (zAllA hl 4)
  show sn159 [ρ 0, ρ 1, ρ 2, ρ 3, ρ 4, ρ 5, ρ 6, ρ 7, ρ 8, ρ 9, ρ 10, ρ 11, ρ 12, ρ 13, ρ 14, ρ 15, ρ 16] (γ 0) 0 0 (γ 6)
  have hD : en159 (γ 0) (0, [], γ 1) = .inr (0, 0, γ 6) := by
    unfold en159
    refine zIP (show (0 : Nat) = 0 by decide) (zLV (γ 1) rfl (zLE m0 (zLE m1 (zLE m17 (zLE m21 (zIN (show ¬ (ρ 17 ≥ 8) by omega) (zLE (show fn132 [ρ 1, ρ 17] (γ 1) = (0, ρ 17 + 9 * ρ 1 + 1, γ 2) from l0.symm) ?_)))))))
    refine zLV (γ 2) rfl (zLE (show fn157 [] (γ 2) = (0, 1, γ 3) from l1.symm) (zLV (γ 3) rfl (zIP (show (1 : Int) ≤ 1 by omega) (zIP (show 3 ≤ γ 3 10 (ρ 17 + 9 * ρ 1 + 1) 4 by omega) (zIN (show ¬ (6 ≤ γ 3 10 (ρ 17 + 9 * ρ 1 + 1) 4) by omega) (zLE c4.symm (zLE (show fn114 [] (γ 4) = (0, ρ 39, γ 5) from l2.symm) ?_)))))))
    refine zLV (γ 5) rfl (zIP (show (0 : Int) ≤ ρ 39 by omega) (zLV (ρ 39) rfl (zLE m53 (zIN (show ¬ (ρ 39 = 44) by omega) (zLE (show fn109 [ρ 40] (γ 5) = (0, 0, γ 6) from l4.symm) (zLV (γ 6) rfl ?_))))))
    rfl
  exact zGoo_aend hJ hD
theorem vn159a0_7 {S : Nat → zSpc} (hS109 : zIm S 109 sn109) (hS114 : zIm S 114 sn114) (hS132 : zIm S 132 sn132) (hS152 : zIm S 152 sn152) (hS157 : zIm S 157 sn157) {a : List Int} {g : rHp} : ∀ (ρ : Nat → Int) (γ : Nat → rHp), jn159 a g 0 (zAg (zNA a159_ 0) ρ) (γ 1) → zO 17 S a g q159a0_7 ρ γ → zGl (fun i vs g1 => jn159 a g i vs g1) (sn159 a g) q159a0_7 ρ γ := by
  intro ρ γ hJ h
  obtain ⟨ha, hg, hr, hf, hm, hc, hl⟩ := h
  have ha : a = [ρ 0, ρ 1, ρ 2, ρ 3, ρ 4, ρ 5, ρ 6, ρ 7, ρ 8, ρ 9, ρ 10, ρ 11, ρ 12, ρ 13, ρ 14, ρ 15, ρ 16] := ha
  subst ha
  subst hg
  have hJ : jn159 [ρ 0, ρ 1, ρ 2, ρ 3, ρ 4, ρ 5, ρ 6, ρ 7, ρ 8, ρ 9, ρ 10, ρ 11, ρ 12, ρ 13, ρ 14, ρ 15, ρ 16] (γ 0) 0 [ρ 0, ρ 1, ρ 2, ρ 3, ρ 4, ρ 5, ρ 6, ρ 7, ρ 8, ρ 9, ρ 10, ρ 11, ρ 12, ρ 13, ρ 14, ρ 15, ρ 16, ρ 17, ρ 18, ρ 19, ρ 20, ρ 21, ρ 22, ρ 23, ρ 24, ρ 25] (γ 1) := hJ
  have r0 : (0 : Int) ≤ ρ 0 ∧ ρ 0 ≤ 60 := zRnA hr 0
  have r1 : (0 : Int) ≤ ρ 1 ∧ ρ 1 ≤ 60 := zRnA hr 1
  have r2 : (0 : Int) ≤ ρ 2 ∧ ρ 2 ≤ 8 := zRnA hr 2
  have r3 : (0 : Int) ≤ ρ 3 ∧ ρ 3 ≤ 2000 := zRnA hr 3
  have r4 : (0 : Int) ≤ ρ 4 ∧ ρ 4 ≤ 2000 := zRnA hr 4
  have r5 : (2 : Int) ≤ ρ 5 ∧ ρ 5 ≤ 2 := zRnA hr 5
  have r6 : ((-1) : Int) ≤ ρ 6 ∧ ρ 6 ≤ 19 := zRnA hr 6
  have r7 : (0 : Int) ≤ ρ 7 ∧ ρ 7 ≤ 4 := zRnA hr 7
  have r8 : ((-1) : Int) ≤ ρ 8 ∧ ρ 8 ≤ 7 := zRnA hr 8
  have r9 : (0 : Int) ≤ ρ 9 ∧ ρ 9 ≤ 8 := zRnA hr 9
  have r10 : (0 : Int) ≤ ρ 10 ∧ ρ 10 ≤ 20 := zRnA hr 10
  have r11 : ((-2147483648) : Int) ≤ ρ 11 ∧ ρ 11 ≤ 2147483647 := zRnA hr 11
  have r12 : ((-2147483648) : Int) ≤ ρ 12 ∧ ρ 12 ≤ 2147483647 := zRnA hr 12
  have r13 : ((-2147483648) : Int) ≤ ρ 13 ∧ ρ 13 ≤ 2147483647 := zRnA hr 13
  have r14 : (0 : Int) ≤ ρ 14 ∧ ρ 14 ≤ 8 := zRnA hr 14
  have r15 : (0 : Int) ≤ ρ 15 ∧ ρ 15 ≤ 32 := zRnA hr 15
  have r16 : (0 : Int) ≤ ρ 16 ∧ ρ 16 ≤ 5120 := zRnA hr 16
  have r17 : (0 : Int) ≤ ρ 17 ∧ ρ 17 ≤ 7 := zRnA hr 17
  have r18 : (0 : Int) ≤ ρ 18 ∧ ρ 18 ≤ 2000 := zRnA hr 18
  have r19 : (0 : Int) ≤ ρ 19 ∧ ρ 19 ≤ 8 := zRnA hr 19
  have r20 : (0 : Int) ≤ ρ 20 ∧ ρ 20 ≤ 20 := zRnA hr 20
  have r21 : ((-2147483648) : Int) ≤ ρ 21 ∧ ρ 21 ≤ 2147483647 := zRnA hr 21
  have r22 : ((-2147483648) : Int) ≤ ρ 22 ∧ ρ 22 ≤ 2147483647 := zRnA hr 22
  have r23 : (0 : Int) ≤ ρ 23 ∧ ρ 23 ≤ 8 := zRnA hr 23
  have r24 : (0 : Int) ≤ ρ 24 ∧ ρ 24 ≤ 32 := zRnA hr 24
  have r25 : (0 : Int) ≤ ρ 25 ∧ ρ 25 ≤ 5120 := zRnA hr 25
  have r26 : (0 : Int) ≤ ρ 26 ∧ ρ 26 ≤ 8 := zRnA hr 26
  have r27 : ((-1) : Int) ≤ ρ 27 ∧ ρ 27 ≤ 7 := zRnA hr 27
  have r28 : ((-1) : Int) ≤ ρ 28 ∧ ρ 28 ≤ 19 := zRnA hr 28
  have r29 : (0 : Int) ≤ ρ 29 ∧ ρ 29 ≤ 4 := zRnA hr 29
  have r30 : ((-2147483648) : Int) ≤ ρ 30 ∧ ρ 30 ≤ 2147483647 := zRnA hr 30
  have r31 : ((-1) : Int) ≤ ρ 31 ∧ ρ 31 ≤ 3 := zRnA hr 31
  have r32 : (0 : Int) ≤ ρ 32 ∧ ρ 32 ≤ 4 := zRnA hr 32
  have r33 : (4 : Int) ≤ ρ 33 ∧ ρ 33 ≤ 2000 := zRnA hr 33
  have r34 : (6 : Int) ≤ ρ 34 ∧ ρ 34 ≤ 8 := zRnA hr 34
  have r35 : (0 : Int) ≤ ρ 35 ∧ ρ 35 ≤ 7 := zRnA hr 35
  have r36 : ((-2147483648) : Int) ≤ ρ 36 ∧ ρ 36 ≤ 2147483647 := zRnA hr 36
  have r37 : ((-2147483648) : Int) ≤ ρ 37 ∧ ρ 37 ≤ 2147483647 := zRnA hr 37
  have r38 : (1 : Int) ≤ ρ 38 ∧ ρ 38 ≤ 8 := zRnA hr 38
  have r39 : (0 : Int) ≤ ρ 39 ∧ ρ 39 ≤ 5120 := zRnA hr 39
  have r40 : (1 : Int) ≤ ρ 40 ∧ ρ 40 ≤ 2 := zRnA hr 40
  have r41 : (0 : Int) ≤ ρ 41 ∧ ρ 41 ≤ 1999 := zRnA hr 41
  have r42 : (0 : Int) ≤ ρ 42 ∧ ρ 42 ≤ 2000 := zRnA hr 42
  have r43 : ((-2147483648) : Int) ≤ ρ 43 ∧ ρ 43 ≤ 2147483647 := zRnA hr 43
  have f0 : (0 : Int) ≤ ρ 42 + -ρ 33 := zAllA hf 0
  have f1 : (0 : Int) ≤ ρ 42 + -ρ 4 := zAllA hf 1
  have f2 : (0 : Int) ≤ -ρ 41 + ρ 33 + (-1) := zAllA hf 2
  have f3 : (0 : Int) ≤ ρ 33 + -ρ 18 + (-1) := zAllA hf 3
  have f4 : (0 : Int) ≤ ρ 38 + -ρ 35 + (-1) := zAllA hf 4
  have f5 : (0 : Int) ≤ ρ 38 + -ρ 23 := zAllA hf 5
  have f6 : (0 : Int) ≤ ρ 39 + -ρ 25 := zAllA hf 6
  have f7 : (0 : Int) ≤ ρ 41 + -ρ 18 := zAllA hf 7
  have f8 : (0 : Int) ≤ -ρ 40 + ρ 4 := zAllA hf 8
  have f9 : (0 : Int) ≤ -ρ 41 + ρ 4 + (-1) := zAllA hf 9
  have f10 : (0 : Int) ≤ -ρ 18 + ρ 4 + (-1) := zAllA hf 10
  have f11 : (0 : Int) ≤ -ρ 5 + ρ 4 := zAllA hf 11
  have f12 : (0 : Int) ≤ -ρ 31 + ρ 4 := zAllA hf 12
  have f13 : (0 : Int) ≤ -ρ 35 + ρ 23 := zAllA hf 13
  have f14 : (0 : Int) ≤ -ρ 17 + ρ 4 := zAllA hf 14
  have f15 : (0 : Int) ≤ ρ 25 + -ρ 16 := zAllA hf 15
  have f16 : (0 : Int) ≤ ρ 24 + -ρ 15 := zAllA hf 16
  have f17 : (0 : Int) ≤ ρ 23 + -ρ 14 := zAllA hf 17
  have f18 : (0 : Int) ≤ ρ 20 + -ρ 10 := zAllA hf 18
  have f19 : (0 : Int) ≤ ρ 18 + -ρ 3 := zAllA hf 19
  have f20 : (0 : Int) ≤ ρ 18 + -ρ 17 := zAllA hf 20
  have f21 : (0 : Int) ≤ -ρ 19 + ρ 17 := zAllA hf 21
  have m0 : γ 0 1 0 10 = ρ 0 := zAllA hm 0
  have m1 : γ 0 40 0 (ρ 0) = ρ 1 := zAllA hm 1
  have m2 : γ 0 9 (ρ 1) 2 = ρ 2 := zAllA hm 2
  have m3 : γ 0 2 0 6 = ρ 3 := zAllA hm 3
  have m4 : γ 0 2 0 3 = ρ 4 := zAllA hm 4
  have m5 : γ 0 2 0 7 = ρ 5 := zAllA hm 5
  have m6 : γ 0 10 (9 * ρ 1) 8 = ρ 6 := zAllA hm 6
  have m7 : γ 0 10 (9 * ρ 1) 12 = ρ 7 := zAllA hm 7
  have m8 : γ 0 10 (9 * ρ 1) 14 = ρ 8 := zAllA hm 8
  have m9 : γ 0 9 (ρ 1) 3 = ρ 9 := zAllA hm 9
  have m10 : γ 0 1 0 7 = ρ 10 := zAllA hm 10
  have m11 : γ 0 2 0 4 = ρ 11 := zAllA hm 11
  have m12 : γ 0 2 0 5 = ρ 12 := zAllA hm 12
  have m13 : γ 0 2 0 9 = ρ 13 := zAllA hm 13
  have m14 : γ 0 2 0 13 = ρ 14 := zAllA hm 14
  have m15 : γ 0 2 0 16 = ρ 15 := zAllA hm 15
  have m16 : γ 0 3 0 1 = ρ 16 := zAllA hm 16
  have m17 : γ 1 9 (ρ 1) 2 = ρ 17 := zAllA hm 17
  have m18 : γ 1 2 0 6 = ρ 18 := zAllA hm 18
  have m19 : γ 1 10 (9 * ρ 1) 8 = ρ 6 := zAllA hm 19
  have m20 : γ 1 10 (9 * ρ 1) 12 = ρ 7 := zAllA hm 20
  have m21 : γ 1 9 (ρ 1) 3 = ρ 19 := zAllA hm 21
  have m22 : γ 1 1 0 7 = ρ 20 := zAllA hm 22
  have m23 : γ 1 2 0 4 = ρ 11 := zAllA hm 23
  have m24 : γ 1 2 0 5 = ρ 21 := zAllA hm 24
  have m25 : γ 1 2 0 9 = ρ 22 := zAllA hm 25
  have m26 : γ 1 2 0 13 = ρ 23 := zAllA hm 26
  have m27 : γ 1 2 0 16 = ρ 24 := zAllA hm 27
  have m28 : γ 1 3 0 1 = ρ 25 := zAllA hm 28
  have m29 : γ 1 10 (ρ 17 + 9 * ρ 1 + 1) 4 = ρ 26 := zAllA hm 29
  have m30 : γ 1 10 (ρ 17 + 9 * ρ 1 + 1) 11 = ρ 27 := zAllA hm 30
  have m31 : γ 1 10 (ρ 17 + 9 * ρ 1 + 1) 8 = ρ 28 := zAllA hm 31
  have m32 : γ 1 10 (ρ 17 + 9 * ρ 1 + 1) 5 = ρ 29 := zAllA hm 32
  have m33 : γ 1 10 (ρ 17 + 9 * ρ 1 + 1) 7 = ρ 30 := zAllA hm 33
  have m34 : γ 1 10 (ρ 17 + 9 * ρ 1 + 1) 9 = ρ 31 := zAllA hm 34
  have m35 : γ 1 10 (ρ 17 + 9 * ρ 1 + 1) 12 = ρ 32 := zAllA hm 35
  have m36 : γ 3 2 0 6 = ρ 33 := zAllA hm 36
  have m37 : γ 3 10 (ρ 17 + 9 * ρ 1 + 1) 4 = ρ 34 := zAllA hm 37
  have m38 : γ 3 10 (ρ 17 + 9 * ρ 1 + 1) 11 = ρ 35 := zAllA hm 38
  have m39 : γ 3 10 (ρ 17 + 9 * ρ 1 + 1) 8 = (-1) := zAllA hm 39
  have m40 : γ 3 10 (9 * ρ 1) 8 = ρ 6 := zAllA hm 40
  have m41 : γ 3 10 (9 * ρ 1) 12 = ρ 7 := zAllA hm 41
  have m42 : γ 3 1 0 7 = ρ 20 := zAllA hm 42
  have m43 : γ 3 2 0 4 = ρ 11 := zAllA hm 43
  have m44 : γ 3 2 0 5 = ρ 36 := zAllA hm 44
  have m45 : γ 3 2 0 9 = ρ 37 := zAllA hm 45
  have m46 : γ 3 2 0 13 = ρ 38 := zAllA hm 46
  have m47 : γ 3 2 0 16 = ρ 24 := zAllA hm 47
  have m48 : γ 3 3 0 1 = ρ 39 := zAllA hm 48
  have m49 : γ 3 10 (ρ 17 + 9 * ρ 1 + 1) 5 = ρ 40 := zAllA hm 49
  have m50 : γ 3 10 (ρ 17 + 9 * ρ 1 + 1) 7 = ρ 41 := zAllA hm 50
  have m51 : γ 3 10 (ρ 17 + 9 * ρ 1 + 1) 9 = (-1) := zAllA hm 51
  have m52 : γ 3 10 (ρ 17 + 9 * ρ 1 + 1) 12 = 0 := zAllA hm 52
  have m53 : γ 5 2 0 6 = ρ 42 := zAllA hm 53
  have m54 : γ 7 2 0 4 = ρ 43 := zAllA hm 54
  have c1 : ∀ (G : Nat) (k j : Int), ¬ rMdP m107_ G j → γ 1 G k j = γ 0 G k j := And.right (zChA hc 6)
  have c2 : ∀ (G : Nat) (k j : Int), ¬ rMdP m0_ G j → γ 2 G k j = γ 1 G k j := And.right (zChA hc 5)
  have c3 : ∀ (G : Nat) (k j : Int), ¬ rMdP m106_ G j → γ 3 G k j = γ 2 G k j := And.right (zChA hc 4)
  have c4 : γ 4 = rUp (γ 3) 9 (ρ 1) 2 (ρ 17 + 1) := And.right (zChA hc 3)
  have c5 : ∀ (G : Nat) (k j : Int), ¬ rMdP m77_ G j → γ 5 G k j = γ 4 G k j := And.right (zChA hc 2)
  have c6 : γ 6 = rUp (γ 5) 2 0 6 (ρ 42 + 1) := And.right (zChA hc 1)
  have c7 : ∀ (G : Nat) (k j : Int), ¬ rMdP m72_ G j → γ 7 G k j = γ 6 G k j := And.right (zChA hc 0)
  have l0 : sn132 [ρ 1, ρ 17] (γ 1) 0 (ρ 17 + 9 * ρ 1 + 1) (γ 2) := hS132 _ _ _ _ _ (zAllA hl 0)
  have l1 : sn157 [ρ 0, ρ 1, ρ 17, ρ 18, ρ 4, ρ 26, ρ 27, ρ 28, ρ 5, ρ 6, ρ 7, ρ 20, ρ 11, ρ 21, ρ 22, ρ 23, ρ 24, ρ 25, ρ 29, ρ 30, ρ 31, ρ 32] (γ 2) 0 1 (γ 3) := hS157 _ _ _ _ _ (zAllA hl 1)
  have l2 : sn114 [ρ 33, ρ 4] (γ 4) 0 (-1) (γ 5) := hS114 _ _ _ _ _ (zAllA hl 2)
  have l3 : sn152 [ρ 11, ρ 24] (γ 6) 0 0 (γ 7) := hS152 _ _ _ _ _ (zAllA hl 3)
  show sn159 [ρ 0, ρ 1, ρ 2, ρ 3, ρ 4, ρ 5, ρ 6, ρ 7, ρ 8, ρ 9, ρ 10, ρ 11, ρ 12, ρ 13, ρ 14, ρ 15, ρ 16] (γ 0) 0 0 (γ 7)
  have hD : en159 (γ 0) (0, [], γ 1) = .inr (0, 0, γ 7) := by
    unfold en159
    refine zIP (show (0 : Nat) = 0 by decide) (zLV (γ 1) rfl (zLE m0 (zLE m1 (zLE m17 (zLE m21 (zIN (show ¬ (ρ 17 ≥ 8) by omega) (zLE (show fn132 [ρ 1, ρ 17] (γ 1) = (0, ρ 17 + 9 * ρ 1 + 1, γ 2) from l0.symm) ?_)))))))
    refine zLV (γ 2) rfl (zLE (show fn157 [] (γ 2) = (0, 1, γ 3) from l1.symm) (zLV (γ 3) rfl (zIP (show (1 : Int) ≤ 1 by omega) (zIP (show 3 ≤ γ 3 10 (ρ 17 + 9 * ρ 1 + 1) 4 by omega) (zIP (show 6 ≤ γ 3 10 (ρ 17 + 9 * ρ 1 + 1) 4 by omega) (zLE c4.symm (zLE (show fn114 [] (γ 4) = (0, (-1), γ 5) from l2.symm) ?_)))))))
    refine zLV (γ 5) rfl (zIN (show ¬ ((0 : Int) ≤ (-1)) by omega) (zLE m53 (zLE c6.symm (zLE (show fn152 [] (γ 6) = (0, 0, γ 7) from l3.symm) (zLV (γ 7) rfl (zIN (show ¬ ((1 : Int) ≤ 0) by omega) ?_))))))
    rfl
  exact zGoo_aend hJ hD
theorem vn159a0_8 {S : Nat → zSpc} (hS109 : zIm S 109 sn109) (hS114 : zIm S 114 sn114) (hS132 : zIm S 132 sn132) (hS152 : zIm S 152 sn152) (hS157 : zIm S 157 sn157) {a : List Int} {g : rHp} : ∀ (ρ : Nat → Int) (γ : Nat → rHp), jn159 a g 0 (zAg (zNA a159_ 0) ρ) (γ 1) → zO 17 S a g q159a0_8 ρ γ → zGl (fun i vs g1 => jn159 a g i vs g1) (sn159 a g) q159a0_8 ρ γ := by
  intro ρ γ hJ h
  obtain ⟨ha, hg, hr, hf, hm, hc, hl⟩ := h
  have ha : a = [ρ 0, ρ 1, ρ 2, ρ 3, ρ 4, ρ 5, ρ 6, ρ 7, ρ 8, ρ 9, ρ 10, ρ 11, ρ 12, ρ 13, ρ 14, ρ 15, ρ 16] := ha
  subst ha
  subst hg
  have hJ : jn159 [ρ 0, ρ 1, ρ 2, ρ 3, ρ 4, ρ 5, ρ 6, ρ 7, ρ 8, ρ 9, ρ 10, ρ 11, ρ 12, ρ 13, ρ 14, ρ 15, ρ 16] (γ 0) 0 [ρ 0, ρ 1, ρ 2, ρ 3, ρ 4, ρ 5, ρ 6, ρ 7, ρ 8, ρ 9, ρ 10, ρ 11, ρ 12, ρ 13, ρ 14, ρ 15, ρ 16, ρ 17, ρ 18, ρ 19, ρ 20, ρ 21, ρ 22, ρ 23, ρ 24, ρ 25] (γ 1) := hJ
  have r0 : (0 : Int) ≤ ρ 0 ∧ ρ 0 ≤ 60 := zRnA hr 0
  have r1 : (0 : Int) ≤ ρ 1 ∧ ρ 1 ≤ 60 := zRnA hr 1
  have r2 : (0 : Int) ≤ ρ 2 ∧ ρ 2 ≤ 8 := zRnA hr 2
  have r3 : (0 : Int) ≤ ρ 3 ∧ ρ 3 ≤ 2000 := zRnA hr 3
  have r4 : (0 : Int) ≤ ρ 4 ∧ ρ 4 ≤ 2000 := zRnA hr 4
  have r5 : (2 : Int) ≤ ρ 5 ∧ ρ 5 ≤ 2 := zRnA hr 5
  have r6 : ((-1) : Int) ≤ ρ 6 ∧ ρ 6 ≤ 19 := zRnA hr 6
  have r7 : (0 : Int) ≤ ρ 7 ∧ ρ 7 ≤ 4 := zRnA hr 7
  have r8 : ((-1) : Int) ≤ ρ 8 ∧ ρ 8 ≤ 7 := zRnA hr 8
  have r9 : (0 : Int) ≤ ρ 9 ∧ ρ 9 ≤ 8 := zRnA hr 9
  have r10 : (0 : Int) ≤ ρ 10 ∧ ρ 10 ≤ 20 := zRnA hr 10
  have r11 : ((-2147483648) : Int) ≤ ρ 11 ∧ ρ 11 ≤ 2147483647 := zRnA hr 11
  have r12 : ((-2147483648) : Int) ≤ ρ 12 ∧ ρ 12 ≤ 2147483647 := zRnA hr 12
  have r13 : ((-2147483648) : Int) ≤ ρ 13 ∧ ρ 13 ≤ 2147483647 := zRnA hr 13
  have r14 : (0 : Int) ≤ ρ 14 ∧ ρ 14 ≤ 8 := zRnA hr 14
  have r15 : (0 : Int) ≤ ρ 15 ∧ ρ 15 ≤ 32 := zRnA hr 15
  have r16 : (0 : Int) ≤ ρ 16 ∧ ρ 16 ≤ 5120 := zRnA hr 16
  have r17 : (0 : Int) ≤ ρ 17 ∧ ρ 17 ≤ 7 := zRnA hr 17
  have r18 : (0 : Int) ≤ ρ 18 ∧ ρ 18 ≤ 2000 := zRnA hr 18
  have r19 : (0 : Int) ≤ ρ 19 ∧ ρ 19 ≤ 8 := zRnA hr 19
  have r20 : (0 : Int) ≤ ρ 20 ∧ ρ 20 ≤ 20 := zRnA hr 20
  have r21 : ((-2147483648) : Int) ≤ ρ 21 ∧ ρ 21 ≤ 2147483647 := zRnA hr 21
  have r22 : ((-2147483648) : Int) ≤ ρ 22 ∧ ρ 22 ≤ 2147483647 := zRnA hr 22
  have r23 : (0 : Int) ≤ ρ 23 ∧ ρ 23 ≤ 8 := zRnA hr 23
  have r24 : (0 : Int) ≤ ρ 24 ∧ ρ 24 ≤ 32 := zRnA hr 24
  have r25 : (0 : Int) ≤ ρ 25 ∧ ρ 25 ≤ 5120 := zRnA hr 25
  have r26 : (0 : Int) ≤ ρ 26 ∧ ρ 26 ≤ 8 := zRnA hr 26
  have r27 : ((-1) : Int) ≤ ρ 27 ∧ ρ 27 ≤ 7 := zRnA hr 27
  have r28 : ((-1) : Int) ≤ ρ 28 ∧ ρ 28 ≤ 19 := zRnA hr 28
  have r29 : (0 : Int) ≤ ρ 29 ∧ ρ 29 ≤ 4 := zRnA hr 29
  have r30 : ((-2147483648) : Int) ≤ ρ 30 ∧ ρ 30 ≤ 2147483647 := zRnA hr 30
  have r31 : ((-1) : Int) ≤ ρ 31 ∧ ρ 31 ≤ 3 := zRnA hr 31
  have r32 : (0 : Int) ≤ ρ 32 ∧ ρ 32 ≤ 4 := zRnA hr 32
  have r33 : (4 : Int) ≤ ρ 33 ∧ ρ 33 ≤ 2000 := zRnA hr 33
  have r34 : (6 : Int) ≤ ρ 34 ∧ ρ 34 ≤ 8 := zRnA hr 34
  have r35 : (0 : Int) ≤ ρ 35 ∧ ρ 35 ≤ 7 := zRnA hr 35
  have r36 : ((-2147483648) : Int) ≤ ρ 36 ∧ ρ 36 ≤ 2147483647 := zRnA hr 36
  have r37 : ((-2147483648) : Int) ≤ ρ 37 ∧ ρ 37 ≤ 2147483647 := zRnA hr 37
  have r38 : (1 : Int) ≤ ρ 38 ∧ ρ 38 ≤ 8 := zRnA hr 38
  have r39 : (0 : Int) ≤ ρ 39 ∧ ρ 39 ≤ 5120 := zRnA hr 39
  have r40 : (1 : Int) ≤ ρ 40 ∧ ρ 40 ≤ 2 := zRnA hr 40
  have r41 : (0 : Int) ≤ ρ 41 ∧ ρ 41 ≤ 1999 := zRnA hr 41
  have r42 : (0 : Int) ≤ ρ 42 ∧ ρ 42 ≤ 2000 := zRnA hr 42
  have f0 : (0 : Int) ≤ ρ 42 + -ρ 33 := zAllA hf 0
  have f1 : (0 : Int) ≤ ρ 42 + -ρ 4 := zAllA hf 1
  have f2 : (0 : Int) ≤ -ρ 41 + ρ 33 + (-1) := zAllA hf 2
  have f3 : (0 : Int) ≤ ρ 33 + -ρ 18 + (-1) := zAllA hf 3
  have f4 : (0 : Int) ≤ ρ 38 + -ρ 35 + (-1) := zAllA hf 4
  have f5 : (0 : Int) ≤ ρ 38 + -ρ 23 := zAllA hf 5
  have f6 : (0 : Int) ≤ ρ 39 + -ρ 25 := zAllA hf 6
  have f7 : (0 : Int) ≤ ρ 41 + -ρ 18 := zAllA hf 7
  have f8 : (0 : Int) ≤ -ρ 40 + ρ 4 := zAllA hf 8
  have f9 : (0 : Int) ≤ -ρ 41 + ρ 4 + (-1) := zAllA hf 9
  have f10 : (0 : Int) ≤ -ρ 18 + ρ 4 + (-1) := zAllA hf 10
  have f11 : (0 : Int) ≤ -ρ 5 + ρ 4 := zAllA hf 11
  have f12 : (0 : Int) ≤ -ρ 31 + ρ 4 := zAllA hf 12
  have f13 : (0 : Int) ≤ -ρ 35 + ρ 23 := zAllA hf 13
  have f14 : (0 : Int) ≤ -ρ 17 + ρ 4 := zAllA hf 14
  have f15 : (0 : Int) ≤ ρ 25 + -ρ 16 := zAllA hf 15
  have f16 : (0 : Int) ≤ ρ 24 + -ρ 15 := zAllA hf 16
  have f17 : (0 : Int) ≤ ρ 23 + -ρ 14 := zAllA hf 17
  have f18 : (0 : Int) ≤ ρ 20 + -ρ 10 := zAllA hf 18
  have f19 : (0 : Int) ≤ ρ 18 + -ρ 3 := zAllA hf 19
  have f20 : (0 : Int) ≤ ρ 18 + -ρ 17 := zAllA hf 20
  have f21 : (0 : Int) ≤ -ρ 19 + ρ 17 := zAllA hf 21
  have m0 : γ 0 1 0 10 = ρ 0 := zAllA hm 0
  have m1 : γ 0 40 0 (ρ 0) = ρ 1 := zAllA hm 1
  have m2 : γ 0 9 (ρ 1) 2 = ρ 2 := zAllA hm 2
  have m3 : γ 0 2 0 6 = ρ 3 := zAllA hm 3
  have m4 : γ 0 2 0 3 = ρ 4 := zAllA hm 4
  have m5 : γ 0 2 0 7 = ρ 5 := zAllA hm 5
  have m6 : γ 0 10 (9 * ρ 1) 8 = ρ 6 := zAllA hm 6
  have m7 : γ 0 10 (9 * ρ 1) 12 = ρ 7 := zAllA hm 7
  have m8 : γ 0 10 (9 * ρ 1) 14 = ρ 8 := zAllA hm 8
  have m9 : γ 0 9 (ρ 1) 3 = ρ 9 := zAllA hm 9
  have m10 : γ 0 1 0 7 = ρ 10 := zAllA hm 10
  have m11 : γ 0 2 0 4 = ρ 11 := zAllA hm 11
  have m12 : γ 0 2 0 5 = ρ 12 := zAllA hm 12
  have m13 : γ 0 2 0 9 = ρ 13 := zAllA hm 13
  have m14 : γ 0 2 0 13 = ρ 14 := zAllA hm 14
  have m15 : γ 0 2 0 16 = ρ 15 := zAllA hm 15
  have m16 : γ 0 3 0 1 = ρ 16 := zAllA hm 16
  have m17 : γ 1 9 (ρ 1) 2 = ρ 17 := zAllA hm 17
  have m18 : γ 1 2 0 6 = ρ 18 := zAllA hm 18
  have m19 : γ 1 10 (9 * ρ 1) 8 = ρ 6 := zAllA hm 19
  have m20 : γ 1 10 (9 * ρ 1) 12 = ρ 7 := zAllA hm 20
  have m21 : γ 1 9 (ρ 1) 3 = ρ 19 := zAllA hm 21
  have m22 : γ 1 1 0 7 = ρ 20 := zAllA hm 22
  have m23 : γ 1 2 0 4 = ρ 11 := zAllA hm 23
  have m24 : γ 1 2 0 5 = ρ 21 := zAllA hm 24
  have m25 : γ 1 2 0 9 = ρ 22 := zAllA hm 25
  have m26 : γ 1 2 0 13 = ρ 23 := zAllA hm 26
  have m27 : γ 1 2 0 16 = ρ 24 := zAllA hm 27
  have m28 : γ 1 3 0 1 = ρ 25 := zAllA hm 28
  have m29 : γ 1 10 (ρ 17 + 9 * ρ 1 + 1) 4 = ρ 26 := zAllA hm 29
  have m30 : γ 1 10 (ρ 17 + 9 * ρ 1 + 1) 11 = ρ 27 := zAllA hm 30
  have m31 : γ 1 10 (ρ 17 + 9 * ρ 1 + 1) 8 = ρ 28 := zAllA hm 31
  have m32 : γ 1 10 (ρ 17 + 9 * ρ 1 + 1) 5 = ρ 29 := zAllA hm 32
  have m33 : γ 1 10 (ρ 17 + 9 * ρ 1 + 1) 7 = ρ 30 := zAllA hm 33
  have m34 : γ 1 10 (ρ 17 + 9 * ρ 1 + 1) 9 = ρ 31 := zAllA hm 34
  have m35 : γ 1 10 (ρ 17 + 9 * ρ 1 + 1) 12 = ρ 32 := zAllA hm 35
  have m36 : γ 3 2 0 6 = ρ 33 := zAllA hm 36
  have m37 : γ 3 10 (ρ 17 + 9 * ρ 1 + 1) 4 = ρ 34 := zAllA hm 37
  have m38 : γ 3 10 (ρ 17 + 9 * ρ 1 + 1) 11 = ρ 35 := zAllA hm 38
  have m39 : γ 3 10 (ρ 17 + 9 * ρ 1 + 1) 8 = (-1) := zAllA hm 39
  have m40 : γ 3 10 (9 * ρ 1) 8 = ρ 6 := zAllA hm 40
  have m41 : γ 3 10 (9 * ρ 1) 12 = ρ 7 := zAllA hm 41
  have m42 : γ 3 1 0 7 = ρ 20 := zAllA hm 42
  have m43 : γ 3 2 0 4 = ρ 11 := zAllA hm 43
  have m44 : γ 3 2 0 5 = ρ 36 := zAllA hm 44
  have m45 : γ 3 2 0 9 = ρ 37 := zAllA hm 45
  have m46 : γ 3 2 0 13 = ρ 38 := zAllA hm 46
  have m47 : γ 3 2 0 16 = ρ 24 := zAllA hm 47
  have m48 : γ 3 3 0 1 = ρ 39 := zAllA hm 48
  have m49 : γ 3 10 (ρ 17 + 9 * ρ 1 + 1) 5 = ρ 40 := zAllA hm 49
  have m50 : γ 3 10 (ρ 17 + 9 * ρ 1 + 1) 7 = ρ 41 := zAllA hm 50
  have m51 : γ 3 10 (ρ 17 + 9 * ρ 1 + 1) 9 = (-1) := zAllA hm 51
  have m52 : γ 3 10 (ρ 17 + 9 * ρ 1 + 1) 12 = 0 := zAllA hm 52
  have m53 : γ 5 2 0 6 = ρ 42 := zAllA hm 53
  have m54 : γ 7 2 0 4 = ρ 11 := zAllA hm 54
  have c1 : ∀ (G : Nat) (k j : Int), ¬ rMdP m107_ G j → γ 1 G k j = γ 0 G k j := And.right (zChA hc 6)
  have c2 : ∀ (G : Nat) (k j : Int), ¬ rMdP m0_ G j → γ 2 G k j = γ 1 G k j := And.right (zChA hc 5)
  have c3 : ∀ (G : Nat) (k j : Int), ¬ rMdP m106_ G j → γ 3 G k j = γ 2 G k j := And.right (zChA hc 4)
  have c4 : γ 4 = rUp (γ 3) 9 (ρ 1) 2 (ρ 17 + 1) := And.right (zChA hc 3)
  have c5 : ∀ (G : Nat) (k j : Int), ¬ rMdP m77_ G j → γ 5 G k j = γ 4 G k j := And.right (zChA hc 2)
  have c6 : γ 6 = rUp (γ 5) 2 0 6 (ρ 42 + 1) := And.right (zChA hc 1)
  have c7 : ∀ (G : Nat) (k j : Int), ¬ rMdP m72_ G j → γ 7 G k j = γ 6 G k j := And.right (zChA hc 0)
  have l0 : sn132 [ρ 1, ρ 17] (γ 1) 0 (ρ 17 + 9 * ρ 1 + 1) (γ 2) := hS132 _ _ _ _ _ (zAllA hl 0)
  have l1 : sn157 [ρ 0, ρ 1, ρ 17, ρ 18, ρ 4, ρ 26, ρ 27, ρ 28, ρ 5, ρ 6, ρ 7, ρ 20, ρ 11, ρ 21, ρ 22, ρ 23, ρ 24, ρ 25, ρ 29, ρ 30, ρ 31, ρ 32] (γ 2) 0 1 (γ 3) := hS157 _ _ _ _ _ (zAllA hl 1)
  have l2 : sn114 [ρ 33, ρ 4] (γ 4) 0 (-1) (γ 5) := hS114 _ _ _ _ _ (zAllA hl 2)
  have l3 : sn152 [ρ 11, ρ 24] (γ 6) 0 1 (γ 7) := hS152 _ _ _ _ _ (zAllA hl 3)
  show sn159 [ρ 0, ρ 1, ρ 2, ρ 3, ρ 4, ρ 5, ρ 6, ρ 7, ρ 8, ρ 9, ρ 10, ρ 11, ρ 12, ρ 13, ρ 14, ρ 15, ρ 16] (γ 0) 0 1 (γ 7)
  have hD : en159 (γ 0) (0, [], γ 1) = .inr (0, 1, γ 7) := by
    unfold en159
    refine zIP (show (0 : Nat) = 0 by decide) (zLV (γ 1) rfl (zLE m0 (zLE m1 (zLE m17 (zLE m21 (zIN (show ¬ (ρ 17 ≥ 8) by omega) (zLE (show fn132 [ρ 1, ρ 17] (γ 1) = (0, ρ 17 + 9 * ρ 1 + 1, γ 2) from l0.symm) ?_)))))))
    refine zLV (γ 2) rfl (zLE (show fn157 [] (γ 2) = (0, 1, γ 3) from l1.symm) (zLV (γ 3) rfl (zIP (show (1 : Int) ≤ 1 by omega) (zIP (show 3 ≤ γ 3 10 (ρ 17 + 9 * ρ 1 + 1) 4 by omega) (zIP (show 6 ≤ γ 3 10 (ρ 17 + 9 * ρ 1 + 1) 4 by omega) (zLE c4.symm (zLE (show fn114 [] (γ 4) = (0, (-1), γ 5) from l2.symm) ?_)))))))
    refine zLV (γ 5) rfl (zIN (show ¬ ((0 : Int) ≤ (-1)) by omega) (zLE m53 (zLE c6.symm (zLE (show fn152 [] (γ 6) = (0, 1, γ 7) from l3.symm) (zLV (γ 7) rfl (zIP (show (1 : Int) ≤ 1 by omega) ?_))))))
    rfl
  exact zGoo_aend hJ hD
theorem vn159a0_9 {S : Nat → zSpc} (hS109 : zIm S 109 sn109) (hS114 : zIm S 114 sn114) (hS132 : zIm S 132 sn132) (hS152 : zIm S 152 sn152) (hS157 : zIm S 157 sn157) {a : List Int} {g : rHp} : ∀ (ρ : Nat → Int) (γ : Nat → rHp), jn159 a g 0 (zAg (zNA a159_ 0) ρ) (γ 1) → zO 17 S a g q159a0_9 ρ γ → zGl (fun i vs g1 => jn159 a g i vs g1) (sn159 a g) q159a0_9 ρ γ := by
  intro ρ γ hJ h
  obtain ⟨ha, hg, hr, hf, hm, hc, hl⟩ := h
  have ha : a = [ρ 0, ρ 1, ρ 2, ρ 3, ρ 4, ρ 5, ρ 6, ρ 7, ρ 8, ρ 9, ρ 10, ρ 11, ρ 12, ρ 13, ρ 14, ρ 15, ρ 16] := ha
  subst ha
  subst hg
  have hJ : jn159 [ρ 0, ρ 1, ρ 2, ρ 3, ρ 4, ρ 5, ρ 6, ρ 7, ρ 8, ρ 9, ρ 10, ρ 11, ρ 12, ρ 13, ρ 14, ρ 15, ρ 16] (γ 0) 0 [ρ 0, ρ 1, ρ 2, ρ 3, ρ 4, ρ 5, ρ 6, ρ 7, ρ 8, ρ 9, ρ 10, ρ 11, ρ 12, ρ 13, ρ 14, ρ 15, ρ 16, ρ 17, ρ 18, ρ 19, ρ 20, ρ 21, ρ 22, ρ 23, ρ 24, ρ 25] (γ 1) := hJ
  have r0 : (0 : Int) ≤ ρ 0 ∧ ρ 0 ≤ 60 := zRnA hr 0
  have r1 : (0 : Int) ≤ ρ 1 ∧ ρ 1 ≤ 60 := zRnA hr 1
  have r2 : (0 : Int) ≤ ρ 2 ∧ ρ 2 ≤ 8 := zRnA hr 2
  have r3 : (0 : Int) ≤ ρ 3 ∧ ρ 3 ≤ 2000 := zRnA hr 3
  have r4 : (0 : Int) ≤ ρ 4 ∧ ρ 4 ≤ 2000 := zRnA hr 4
  have r5 : (2 : Int) ≤ ρ 5 ∧ ρ 5 ≤ 2 := zRnA hr 5
  have r6 : ((-1) : Int) ≤ ρ 6 ∧ ρ 6 ≤ 19 := zRnA hr 6
  have r7 : (0 : Int) ≤ ρ 7 ∧ ρ 7 ≤ 4 := zRnA hr 7
  have r8 : ((-1) : Int) ≤ ρ 8 ∧ ρ 8 ≤ 7 := zRnA hr 8
  have r9 : (0 : Int) ≤ ρ 9 ∧ ρ 9 ≤ 8 := zRnA hr 9
  have r10 : (0 : Int) ≤ ρ 10 ∧ ρ 10 ≤ 20 := zRnA hr 10
  have r11 : ((-2147483648) : Int) ≤ ρ 11 ∧ ρ 11 ≤ 2147483647 := zRnA hr 11
  have r12 : ((-2147483648) : Int) ≤ ρ 12 ∧ ρ 12 ≤ 2147483647 := zRnA hr 12
  have r13 : ((-2147483648) : Int) ≤ ρ 13 ∧ ρ 13 ≤ 2147483647 := zRnA hr 13
  have r14 : (0 : Int) ≤ ρ 14 ∧ ρ 14 ≤ 8 := zRnA hr 14
  have r15 : (0 : Int) ≤ ρ 15 ∧ ρ 15 ≤ 32 := zRnA hr 15
  have r16 : (0 : Int) ≤ ρ 16 ∧ ρ 16 ≤ 5120 := zRnA hr 16
  have r17 : (0 : Int) ≤ ρ 17 ∧ ρ 17 ≤ 7 := zRnA hr 17
  have r18 : (0 : Int) ≤ ρ 18 ∧ ρ 18 ≤ 2000 := zRnA hr 18
  have r19 : (0 : Int) ≤ ρ 19 ∧ ρ 19 ≤ 8 := zRnA hr 19
  have r20 : (0 : Int) ≤ ρ 20 ∧ ρ 20 ≤ 20 := zRnA hr 20
  have r21 : ((-2147483648) : Int) ≤ ρ 21 ∧ ρ 21 ≤ 2147483647 := zRnA hr 21
  have r22 : ((-2147483648) : Int) ≤ ρ 22 ∧ ρ 22 ≤ 2147483647 := zRnA hr 22
  have r23 : (0 : Int) ≤ ρ 23 ∧ ρ 23 ≤ 8 := zRnA hr 23
  have r24 : (0 : Int) ≤ ρ 24 ∧ ρ 24 ≤ 32 := zRnA hr 24
  have r25 : (0 : Int) ≤ ρ 25 ∧ ρ 25 ≤ 5120 := zRnA hr 25
  have r26 : (0 : Int) ≤ ρ 26 ∧ ρ 26 ≤ 8 := zRnA hr 26
  have r27 : ((-1) : Int) ≤ ρ 27 ∧ ρ 27 ≤ 7 := zRnA hr 27
  have r28 : ((-1) : Int) ≤ ρ 28 ∧ ρ 28 ≤ 19 := zRnA hr 28
  have r29 : (0 : Int) ≤ ρ 29 ∧ ρ 29 ≤ 4 := zRnA hr 29
  have r30 : ((-2147483648) : Int) ≤ ρ 30 ∧ ρ 30 ≤ 2147483647 := zRnA hr 30
  have r31 : ((-1) : Int) ≤ ρ 31 ∧ ρ 31 ≤ 3 := zRnA hr 31
  have r32 : (0 : Int) ≤ ρ 32 ∧ ρ 32 ≤ 4 := zRnA hr 32
  have r33 : (4 : Int) ≤ ρ 33 ∧ ρ 33 ≤ 2000 := zRnA hr 33
  have r34 : (6 : Int) ≤ ρ 34 ∧ ρ 34 ≤ 8 := zRnA hr 34
  have r35 : (0 : Int) ≤ ρ 35 ∧ ρ 35 ≤ 7 := zRnA hr 35
  have r36 : ((-2147483648) : Int) ≤ ρ 36 ∧ ρ 36 ≤ 2147483647 := zRnA hr 36
  have r37 : ((-2147483648) : Int) ≤ ρ 37 ∧ ρ 37 ≤ 2147483647 := zRnA hr 37
  have r38 : (1 : Int) ≤ ρ 38 ∧ ρ 38 ≤ 8 := zRnA hr 38
  have r39 : (0 : Int) ≤ ρ 39 ∧ ρ 39 ≤ 5120 := zRnA hr 39
  have r40 : (1 : Int) ≤ ρ 40 ∧ ρ 40 ≤ 2 := zRnA hr 40
  have r41 : (0 : Int) ≤ ρ 41 ∧ ρ 41 ≤ 1999 := zRnA hr 41
  have r42 : (44 : Int) ≤ ρ 42 ∧ ρ 42 ≤ 44 := zRnA hr 42
  have r43 : (0 : Int) ≤ ρ 43 ∧ ρ 43 ≤ 2000 := zRnA hr 43
  have f0 : (0 : Int) ≤ ρ 43 + -ρ 33 := zAllA hf 0
  have f1 : (0 : Int) ≤ -ρ 43 + ρ 4 + (-1) := zAllA hf 1
  have f2 : (0 : Int) ≤ -ρ 33 + ρ 4 + (-1) := zAllA hf 2
  have f3 : (0 : Int) ≤ -ρ 41 + ρ 33 + (-1) := zAllA hf 3
  have f4 : (0 : Int) ≤ ρ 33 + -ρ 18 + (-1) := zAllA hf 4
  have f5 : (0 : Int) ≤ ρ 38 + -ρ 35 + (-1) := zAllA hf 5
  have f6 : (0 : Int) ≤ ρ 38 + -ρ 23 := zAllA hf 6
  have f7 : (0 : Int) ≤ ρ 39 + -ρ 25 := zAllA hf 7
  have f8 : (0 : Int) ≤ ρ 41 + -ρ 18 := zAllA hf 8
  have f9 : (0 : Int) ≤ -ρ 40 + ρ 4 := zAllA hf 9
  have f10 : (0 : Int) ≤ -ρ 41 + ρ 4 + (-1) := zAllA hf 10
  have f11 : (0 : Int) ≤ -ρ 18 + ρ 4 + (-1) := zAllA hf 11
  have f12 : (0 : Int) ≤ -ρ 5 + ρ 4 := zAllA hf 12
  have f13 : (0 : Int) ≤ -ρ 31 + ρ 4 := zAllA hf 13
  have f14 : (0 : Int) ≤ -ρ 35 + ρ 23 := zAllA hf 14
  have f15 : (0 : Int) ≤ -ρ 17 + ρ 4 := zAllA hf 15
  have f16 : (0 : Int) ≤ ρ 25 + -ρ 16 := zAllA hf 16
  have f17 : (0 : Int) ≤ ρ 24 + -ρ 15 := zAllA hf 17
  have f18 : (0 : Int) ≤ ρ 23 + -ρ 14 := zAllA hf 18
  have f19 : (0 : Int) ≤ ρ 20 + -ρ 10 := zAllA hf 19
  have f20 : (0 : Int) ≤ ρ 18 + -ρ 3 := zAllA hf 20
  have f21 : (0 : Int) ≤ ρ 18 + -ρ 17 := zAllA hf 21
  have f22 : (0 : Int) ≤ -ρ 19 + ρ 17 := zAllA hf 22
  have m0 : γ 0 1 0 10 = ρ 0 := zAllA hm 0
  have m1 : γ 0 40 0 (ρ 0) = ρ 1 := zAllA hm 1
  have m2 : γ 0 9 (ρ 1) 2 = ρ 2 := zAllA hm 2
  have m3 : γ 0 2 0 6 = ρ 3 := zAllA hm 3
  have m4 : γ 0 2 0 3 = ρ 4 := zAllA hm 4
  have m5 : γ 0 2 0 7 = ρ 5 := zAllA hm 5
  have m6 : γ 0 10 (9 * ρ 1) 8 = ρ 6 := zAllA hm 6
  have m7 : γ 0 10 (9 * ρ 1) 12 = ρ 7 := zAllA hm 7
  have m8 : γ 0 10 (9 * ρ 1) 14 = ρ 8 := zAllA hm 8
  have m9 : γ 0 9 (ρ 1) 3 = ρ 9 := zAllA hm 9
  have m10 : γ 0 1 0 7 = ρ 10 := zAllA hm 10
  have m11 : γ 0 2 0 4 = ρ 11 := zAllA hm 11
  have m12 : γ 0 2 0 5 = ρ 12 := zAllA hm 12
  have m13 : γ 0 2 0 9 = ρ 13 := zAllA hm 13
  have m14 : γ 0 2 0 13 = ρ 14 := zAllA hm 14
  have m15 : γ 0 2 0 16 = ρ 15 := zAllA hm 15
  have m16 : γ 0 3 0 1 = ρ 16 := zAllA hm 16
  have m17 : γ 1 9 (ρ 1) 2 = ρ 17 := zAllA hm 17
  have m18 : γ 1 2 0 6 = ρ 18 := zAllA hm 18
  have m19 : γ 1 10 (9 * ρ 1) 8 = ρ 6 := zAllA hm 19
  have m20 : γ 1 10 (9 * ρ 1) 12 = ρ 7 := zAllA hm 20
  have m21 : γ 1 9 (ρ 1) 3 = ρ 19 := zAllA hm 21
  have m22 : γ 1 1 0 7 = ρ 20 := zAllA hm 22
  have m23 : γ 1 2 0 4 = ρ 11 := zAllA hm 23
  have m24 : γ 1 2 0 5 = ρ 21 := zAllA hm 24
  have m25 : γ 1 2 0 9 = ρ 22 := zAllA hm 25
  have m26 : γ 1 2 0 13 = ρ 23 := zAllA hm 26
  have m27 : γ 1 2 0 16 = ρ 24 := zAllA hm 27
  have m28 : γ 1 3 0 1 = ρ 25 := zAllA hm 28
  have m29 : γ 1 10 (ρ 17 + 9 * ρ 1 + 1) 4 = ρ 26 := zAllA hm 29
  have m30 : γ 1 10 (ρ 17 + 9 * ρ 1 + 1) 11 = ρ 27 := zAllA hm 30
  have m31 : γ 1 10 (ρ 17 + 9 * ρ 1 + 1) 8 = ρ 28 := zAllA hm 31
  have m32 : γ 1 10 (ρ 17 + 9 * ρ 1 + 1) 5 = ρ 29 := zAllA hm 32
  have m33 : γ 1 10 (ρ 17 + 9 * ρ 1 + 1) 7 = ρ 30 := zAllA hm 33
  have m34 : γ 1 10 (ρ 17 + 9 * ρ 1 + 1) 9 = ρ 31 := zAllA hm 34
  have m35 : γ 1 10 (ρ 17 + 9 * ρ 1 + 1) 12 = ρ 32 := zAllA hm 35
  have m36 : γ 3 2 0 6 = ρ 33 := zAllA hm 36
  have m37 : γ 3 10 (ρ 17 + 9 * ρ 1 + 1) 4 = ρ 34 := zAllA hm 37
  have m38 : γ 3 10 (ρ 17 + 9 * ρ 1 + 1) 11 = ρ 35 := zAllA hm 38
  have m39 : γ 3 10 (ρ 17 + 9 * ρ 1 + 1) 8 = (-1) := zAllA hm 39
  have m40 : γ 3 10 (9 * ρ 1) 8 = ρ 6 := zAllA hm 40
  have m41 : γ 3 10 (9 * ρ 1) 12 = ρ 7 := zAllA hm 41
  have m42 : γ 3 1 0 7 = ρ 20 := zAllA hm 42
  have m43 : γ 3 2 0 4 = ρ 11 := zAllA hm 43
  have m44 : γ 3 2 0 5 = ρ 36 := zAllA hm 44
  have m45 : γ 3 2 0 9 = ρ 37 := zAllA hm 45
  have m46 : γ 3 2 0 13 = ρ 38 := zAllA hm 46
  have m47 : γ 3 2 0 16 = ρ 24 := zAllA hm 47
  have m48 : γ 3 3 0 1 = ρ 39 := zAllA hm 48
  have m49 : γ 3 10 (ρ 17 + 9 * ρ 1 + 1) 5 = ρ 40 := zAllA hm 49
  have m50 : γ 3 10 (ρ 17 + 9 * ρ 1 + 1) 7 = ρ 41 := zAllA hm 50
  have m51 : γ 3 10 (ρ 17 + 9 * ρ 1 + 1) 9 = (-1) := zAllA hm 51
  have m52 : γ 3 10 (ρ 17 + 9 * ρ 1 + 1) 12 = 0 := zAllA hm 52
  have m53 : γ 5 2 0 6 = ρ 43 := zAllA hm 53
  have c1 : ∀ (G : Nat) (k j : Int), ¬ rMdP m107_ G j → γ 1 G k j = γ 0 G k j := And.right (zChA hc 5)
  have c2 : ∀ (G : Nat) (k j : Int), ¬ rMdP m0_ G j → γ 2 G k j = γ 1 G k j := And.right (zChA hc 4)
  have c3 : ∀ (G : Nat) (k j : Int), ¬ rMdP m106_ G j → γ 3 G k j = γ 2 G k j := And.right (zChA hc 3)
  have c4 : γ 4 = rUp (γ 3) 9 (ρ 1) 2 (ρ 17 + 1) := And.right (zChA hc 2)
  have c5 : ∀ (G : Nat) (k j : Int), ¬ rMdP m77_ G j → γ 5 G k j = γ 4 G k j := And.right (zChA hc 1)
  have c6 : γ 6 = rUp (γ 5) 2 0 6 (ρ 43 + 1) := And.right (zChA hc 0)
  have l0 : sn132 [ρ 1, ρ 17] (γ 1) 0 (ρ 17 + 9 * ρ 1 + 1) (γ 2) := hS132 _ _ _ _ _ (zAllA hl 0)
  have l1 : sn157 [ρ 0, ρ 1, ρ 17, ρ 18, ρ 4, ρ 26, ρ 27, ρ 28, ρ 5, ρ 6, ρ 7, ρ 20, ρ 11, ρ 21, ρ 22, ρ 23, ρ 24, ρ 25, ρ 29, ρ 30, ρ 31, ρ 32] (γ 2) 0 1 (γ 3) := hS157 _ _ _ _ _ (zAllA hl 1)
  have l2 : sn114 [ρ 33, ρ 4] (γ 4) 0 (ρ 42) (γ 5) := hS114 _ _ _ _ _ (zAllA hl 2)
  show jn159 [ρ 0, ρ 1, ρ 2, ρ 3, ρ 4, ρ 5, ρ 6, ρ 7, ρ 8, ρ 9, ρ 10, ρ 11, ρ 12, ρ 13, ρ 14, ρ 15, ρ 16] (γ 0) 0 [ρ 0, ρ 1, ρ 2, ρ 3, ρ 4, ρ 5, ρ 6, ρ 7, ρ 8, ρ 9, ρ 10, ρ 11, ρ 12, ρ 13, ρ 14, ρ 15, ρ 16, ρ 17 + 1, ρ 43 + 1, ρ 19, ρ 20, ρ 36, ρ 37, ρ 38, ρ 24, ρ 39] (γ 6)
  have hD : en159 (γ 0) (0, [], γ 1) = .inl (0, [], γ 6) := by
    unfold en159
    refine zIP (show (0 : Nat) = 0 by decide) (zLV (γ 1) rfl (zLE m0 (zLE m1 (zLE m17 (zLE m21 (zIN (show ¬ (ρ 17 ≥ 8) by omega) (zLE (show fn132 [ρ 1, ρ 17] (γ 1) = (0, ρ 17 + 9 * ρ 1 + 1, γ 2) from l0.symm) ?_)))))))
    refine zLV (γ 2) rfl (zLE (show fn157 [] (γ 2) = (0, 1, γ 3) from l1.symm) (zLV (γ 3) rfl (zIP (show (1 : Int) ≤ 1 by omega) (zIP (show 3 ≤ γ 3 10 (ρ 17 + 9 * ρ 1 + 1) 4 by omega) (zIP (show 6 ≤ γ 3 10 (ρ 17 + 9 * ρ 1 + 1) 4 by omega) (zLE c4.symm (zLE (show fn114 [] (γ 4) = (0, ρ 42, γ 5) from l2.symm) ?_)))))))
    refine zLV (γ 5) rfl (zIP (show (0 : Int) ≤ ρ 42 by omega) (zLV (ρ 42) rfl (zLE m53 (zIP (show ρ 42 = 44 by omega) (zLE c6.symm ?_)))))
    rfl
  exact zGoo_ato hJ hD
theorem vn159a0_10 {S : Nat → zSpc} (hS109 : zIm S 109 sn109) (hS114 : zIm S 114 sn114) (hS132 : zIm S 132 sn132) (hS152 : zIm S 152 sn152) (hS157 : zIm S 157 sn157) {a : List Int} {g : rHp} : ∀ (ρ : Nat → Int) (γ : Nat → rHp), jn159 a g 0 (zAg (zNA a159_ 0) ρ) (γ 1) → zO 17 S a g q159a0_10 ρ γ → zGl (fun i vs g1 => jn159 a g i vs g1) (sn159 a g) q159a0_10 ρ γ := by
  intro ρ γ hJ h
  obtain ⟨ha, hg, hr, hf, hm, hc, hl⟩ := h
  have ha : a = [ρ 0, ρ 1, ρ 2, ρ 3, ρ 4, ρ 5, ρ 6, ρ 7, ρ 8, ρ 9, ρ 10, ρ 11, ρ 12, ρ 13, ρ 14, ρ 15, ρ 16] := ha
  subst ha
  subst hg
  have hJ : jn159 [ρ 0, ρ 1, ρ 2, ρ 3, ρ 4, ρ 5, ρ 6, ρ 7, ρ 8, ρ 9, ρ 10, ρ 11, ρ 12, ρ 13, ρ 14, ρ 15, ρ 16] (γ 0) 0 [ρ 0, ρ 1, ρ 2, ρ 3, ρ 4, ρ 5, ρ 6, ρ 7, ρ 8, ρ 9, ρ 10, ρ 11, ρ 12, ρ 13, ρ 14, ρ 15, ρ 16, ρ 17, ρ 18, ρ 19, ρ 20, ρ 21, ρ 22, ρ 23, ρ 24, ρ 25] (γ 1) := hJ
  have r0 : (0 : Int) ≤ ρ 0 ∧ ρ 0 ≤ 60 := zRnA hr 0
  have r1 : (0 : Int) ≤ ρ 1 ∧ ρ 1 ≤ 60 := zRnA hr 1
  have r2 : (0 : Int) ≤ ρ 2 ∧ ρ 2 ≤ 8 := zRnA hr 2
  have r3 : (0 : Int) ≤ ρ 3 ∧ ρ 3 ≤ 2000 := zRnA hr 3
  have r4 : (0 : Int) ≤ ρ 4 ∧ ρ 4 ≤ 2000 := zRnA hr 4
  have r5 : (2 : Int) ≤ ρ 5 ∧ ρ 5 ≤ 2 := zRnA hr 5
  have r6 : ((-1) : Int) ≤ ρ 6 ∧ ρ 6 ≤ 19 := zRnA hr 6
  have r7 : (0 : Int) ≤ ρ 7 ∧ ρ 7 ≤ 4 := zRnA hr 7
  have r8 : ((-1) : Int) ≤ ρ 8 ∧ ρ 8 ≤ 7 := zRnA hr 8
  have r9 : (0 : Int) ≤ ρ 9 ∧ ρ 9 ≤ 8 := zRnA hr 9
  have r10 : (0 : Int) ≤ ρ 10 ∧ ρ 10 ≤ 20 := zRnA hr 10
  have r11 : ((-2147483648) : Int) ≤ ρ 11 ∧ ρ 11 ≤ 2147483647 := zRnA hr 11
  have r12 : ((-2147483648) : Int) ≤ ρ 12 ∧ ρ 12 ≤ 2147483647 := zRnA hr 12
  have r13 : ((-2147483648) : Int) ≤ ρ 13 ∧ ρ 13 ≤ 2147483647 := zRnA hr 13
  have r14 : (0 : Int) ≤ ρ 14 ∧ ρ 14 ≤ 8 := zRnA hr 14
  have r15 : (0 : Int) ≤ ρ 15 ∧ ρ 15 ≤ 32 := zRnA hr 15
  have r16 : (0 : Int) ≤ ρ 16 ∧ ρ 16 ≤ 5120 := zRnA hr 16
  have r17 : (0 : Int) ≤ ρ 17 ∧ ρ 17 ≤ 7 := zRnA hr 17
  have r18 : (0 : Int) ≤ ρ 18 ∧ ρ 18 ≤ 2000 := zRnA hr 18
  have r19 : (0 : Int) ≤ ρ 19 ∧ ρ 19 ≤ 8 := zRnA hr 19
  have r20 : (0 : Int) ≤ ρ 20 ∧ ρ 20 ≤ 20 := zRnA hr 20
  have r21 : ((-2147483648) : Int) ≤ ρ 21 ∧ ρ 21 ≤ 2147483647 := zRnA hr 21
  have r22 : ((-2147483648) : Int) ≤ ρ 22 ∧ ρ 22 ≤ 2147483647 := zRnA hr 22
  have r23 : (0 : Int) ≤ ρ 23 ∧ ρ 23 ≤ 8 := zRnA hr 23
  have r24 : (0 : Int) ≤ ρ 24 ∧ ρ 24 ≤ 32 := zRnA hr 24
  have r25 : (0 : Int) ≤ ρ 25 ∧ ρ 25 ≤ 5120 := zRnA hr 25
  have r26 : (0 : Int) ≤ ρ 26 ∧ ρ 26 ≤ 8 := zRnA hr 26
  have r27 : ((-1) : Int) ≤ ρ 27 ∧ ρ 27 ≤ 7 := zRnA hr 27
  have r28 : ((-1) : Int) ≤ ρ 28 ∧ ρ 28 ≤ 19 := zRnA hr 28
  have r29 : (0 : Int) ≤ ρ 29 ∧ ρ 29 ≤ 4 := zRnA hr 29
  have r30 : ((-2147483648) : Int) ≤ ρ 30 ∧ ρ 30 ≤ 2147483647 := zRnA hr 30
  have r31 : ((-1) : Int) ≤ ρ 31 ∧ ρ 31 ≤ 3 := zRnA hr 31
  have r32 : (0 : Int) ≤ ρ 32 ∧ ρ 32 ≤ 4 := zRnA hr 32
  have r33 : (4 : Int) ≤ ρ 33 ∧ ρ 33 ≤ 2000 := zRnA hr 33
  have r34 : (6 : Int) ≤ ρ 34 ∧ ρ 34 ≤ 8 := zRnA hr 34
  have r35 : (0 : Int) ≤ ρ 35 ∧ ρ 35 ≤ 7 := zRnA hr 35
  have r36 : ((-2147483648) : Int) ≤ ρ 36 ∧ ρ 36 ≤ 2147483647 := zRnA hr 36
  have r37 : ((-2147483648) : Int) ≤ ρ 37 ∧ ρ 37 ≤ 2147483647 := zRnA hr 37
  have r38 : (1 : Int) ≤ ρ 38 ∧ ρ 38 ≤ 8 := zRnA hr 38
  have r39 : (0 : Int) ≤ ρ 39 ∧ ρ 39 ≤ 5120 := zRnA hr 39
  have r40 : (1 : Int) ≤ ρ 40 ∧ ρ 40 ≤ 2 := zRnA hr 40
  have r41 : (0 : Int) ≤ ρ 41 ∧ ρ 41 ≤ 1999 := zRnA hr 41
  have r42 : (0 : Int) ≤ ρ 42 ∧ ρ 42 ≤ 255 := zRnA hr 42
  have r43 : (0 : Int) ≤ ρ 43 ∧ ρ 43 ≤ 2000 := zRnA hr 43
  have f0 : (0 : Int) ≤ ρ 43 + -ρ 33 := zAllA hf 0
  have f1 : (0 : Int) ≤ -ρ 43 + ρ 4 + (-1) := zAllA hf 1
  have f2 : (0 : Int) ≤ -ρ 33 + ρ 4 + (-1) := zAllA hf 2
  have f3 : (0 : Int) ≤ -ρ 41 + ρ 33 + (-1) := zAllA hf 3
  have f4 : (0 : Int) ≤ ρ 33 + -ρ 18 + (-1) := zAllA hf 4
  have f5 : (0 : Int) ≤ ρ 38 + -ρ 35 + (-1) := zAllA hf 5
  have f6 : (0 : Int) ≤ ρ 38 + -ρ 23 := zAllA hf 6
  have f7 : (0 : Int) ≤ ρ 39 + -ρ 25 := zAllA hf 7
  have f8 : (0 : Int) ≤ ρ 41 + -ρ 18 := zAllA hf 8
  have f9 : (0 : Int) ≤ -ρ 40 + ρ 4 := zAllA hf 9
  have f10 : (0 : Int) ≤ -ρ 41 + ρ 4 + (-1) := zAllA hf 10
  have f11 : (0 : Int) ≤ -ρ 18 + ρ 4 + (-1) := zAllA hf 11
  have f12 : (0 : Int) ≤ -ρ 5 + ρ 4 := zAllA hf 12
  have f13 : (0 : Int) ≤ -ρ 31 + ρ 4 := zAllA hf 13
  have f14 : (0 : Int) ≤ -ρ 35 + ρ 23 := zAllA hf 14
  have f15 : (0 : Int) ≤ -ρ 17 + ρ 4 := zAllA hf 15
  have f16 : (0 : Int) ≤ ρ 25 + -ρ 16 := zAllA hf 16
  have f17 : (0 : Int) ≤ ρ 24 + -ρ 15 := zAllA hf 17
  have f18 : (0 : Int) ≤ ρ 23 + -ρ 14 := zAllA hf 18
  have f19 : (0 : Int) ≤ ρ 20 + -ρ 10 := zAllA hf 19
  have f20 : (0 : Int) ≤ ρ 18 + -ρ 3 := zAllA hf 20
  have f21 : (0 : Int) ≤ ρ 18 + -ρ 17 := zAllA hf 21
  have f22 : (0 : Int) ≤ -ρ 19 + ρ 17 := zAllA hf 22
  have m0 : γ 0 1 0 10 = ρ 0 := zAllA hm 0
  have m1 : γ 0 40 0 (ρ 0) = ρ 1 := zAllA hm 1
  have m2 : γ 0 9 (ρ 1) 2 = ρ 2 := zAllA hm 2
  have m3 : γ 0 2 0 6 = ρ 3 := zAllA hm 3
  have m4 : γ 0 2 0 3 = ρ 4 := zAllA hm 4
  have m5 : γ 0 2 0 7 = ρ 5 := zAllA hm 5
  have m6 : γ 0 10 (9 * ρ 1) 8 = ρ 6 := zAllA hm 6
  have m7 : γ 0 10 (9 * ρ 1) 12 = ρ 7 := zAllA hm 7
  have m8 : γ 0 10 (9 * ρ 1) 14 = ρ 8 := zAllA hm 8
  have m9 : γ 0 9 (ρ 1) 3 = ρ 9 := zAllA hm 9
  have m10 : γ 0 1 0 7 = ρ 10 := zAllA hm 10
  have m11 : γ 0 2 0 4 = ρ 11 := zAllA hm 11
  have m12 : γ 0 2 0 5 = ρ 12 := zAllA hm 12
  have m13 : γ 0 2 0 9 = ρ 13 := zAllA hm 13
  have m14 : γ 0 2 0 13 = ρ 14 := zAllA hm 14
  have m15 : γ 0 2 0 16 = ρ 15 := zAllA hm 15
  have m16 : γ 0 3 0 1 = ρ 16 := zAllA hm 16
  have m17 : γ 1 9 (ρ 1) 2 = ρ 17 := zAllA hm 17
  have m18 : γ 1 2 0 6 = ρ 18 := zAllA hm 18
  have m19 : γ 1 10 (9 * ρ 1) 8 = ρ 6 := zAllA hm 19
  have m20 : γ 1 10 (9 * ρ 1) 12 = ρ 7 := zAllA hm 20
  have m21 : γ 1 9 (ρ 1) 3 = ρ 19 := zAllA hm 21
  have m22 : γ 1 1 0 7 = ρ 20 := zAllA hm 22
  have m23 : γ 1 2 0 4 = ρ 11 := zAllA hm 23
  have m24 : γ 1 2 0 5 = ρ 21 := zAllA hm 24
  have m25 : γ 1 2 0 9 = ρ 22 := zAllA hm 25
  have m26 : γ 1 2 0 13 = ρ 23 := zAllA hm 26
  have m27 : γ 1 2 0 16 = ρ 24 := zAllA hm 27
  have m28 : γ 1 3 0 1 = ρ 25 := zAllA hm 28
  have m29 : γ 1 10 (ρ 17 + 9 * ρ 1 + 1) 4 = ρ 26 := zAllA hm 29
  have m30 : γ 1 10 (ρ 17 + 9 * ρ 1 + 1) 11 = ρ 27 := zAllA hm 30
  have m31 : γ 1 10 (ρ 17 + 9 * ρ 1 + 1) 8 = ρ 28 := zAllA hm 31
  have m32 : γ 1 10 (ρ 17 + 9 * ρ 1 + 1) 5 = ρ 29 := zAllA hm 32
  have m33 : γ 1 10 (ρ 17 + 9 * ρ 1 + 1) 7 = ρ 30 := zAllA hm 33
  have m34 : γ 1 10 (ρ 17 + 9 * ρ 1 + 1) 9 = ρ 31 := zAllA hm 34
  have m35 : γ 1 10 (ρ 17 + 9 * ρ 1 + 1) 12 = ρ 32 := zAllA hm 35
  have m36 : γ 3 2 0 6 = ρ 33 := zAllA hm 36
  have m37 : γ 3 10 (ρ 17 + 9 * ρ 1 + 1) 4 = ρ 34 := zAllA hm 37
  have m38 : γ 3 10 (ρ 17 + 9 * ρ 1 + 1) 11 = ρ 35 := zAllA hm 38
  have m39 : γ 3 10 (ρ 17 + 9 * ρ 1 + 1) 8 = (-1) := zAllA hm 39
  have m40 : γ 3 10 (9 * ρ 1) 8 = ρ 6 := zAllA hm 40
  have m41 : γ 3 10 (9 * ρ 1) 12 = ρ 7 := zAllA hm 41
  have m42 : γ 3 1 0 7 = ρ 20 := zAllA hm 42
  have m43 : γ 3 2 0 4 = ρ 11 := zAllA hm 43
  have m44 : γ 3 2 0 5 = ρ 36 := zAllA hm 44
  have m45 : γ 3 2 0 9 = ρ 37 := zAllA hm 45
  have m46 : γ 3 2 0 13 = ρ 38 := zAllA hm 46
  have m47 : γ 3 2 0 16 = ρ 24 := zAllA hm 47
  have m48 : γ 3 3 0 1 = ρ 39 := zAllA hm 48
  have m49 : γ 3 10 (ρ 17 + 9 * ρ 1 + 1) 5 = ρ 40 := zAllA hm 49
  have m50 : γ 3 10 (ρ 17 + 9 * ρ 1 + 1) 7 = ρ 41 := zAllA hm 50
  have m51 : γ 3 10 (ρ 17 + 9 * ρ 1 + 1) 9 = (-1) := zAllA hm 51
  have m52 : γ 3 10 (ρ 17 + 9 * ρ 1 + 1) 12 = 0 := zAllA hm 52
  have m53 : γ 5 2 0 6 = ρ 43 := zAllA hm 53
  have m54 : γ 6 2 0 4 = ρ 43 := zAllA hm 54
  have c1 : ∀ (G : Nat) (k j : Int), ¬ rMdP m107_ G j → γ 1 G k j = γ 0 G k j := And.right (zChA hc 5)
  have c2 : ∀ (G : Nat) (k j : Int), ¬ rMdP m0_ G j → γ 2 G k j = γ 1 G k j := And.right (zChA hc 4)
  have c3 : ∀ (G : Nat) (k j : Int), ¬ rMdP m106_ G j → γ 3 G k j = γ 2 G k j := And.right (zChA hc 3)
  have c4 : γ 4 = rUp (γ 3) 9 (ρ 1) 2 (ρ 17 + 1) := And.right (zChA hc 2)
  have c5 : ∀ (G : Nat) (k j : Int), ¬ rMdP m77_ G j → γ 5 G k j = γ 4 G k j := And.right (zChA hc 1)
  have c6 : ∀ (G : Nat) (k j : Int), ¬ rMdP m72_ G j → γ 6 G k j = γ 5 G k j := And.right (zChA hc 0)
  have l0 : sn132 [ρ 1, ρ 17] (γ 1) 0 (ρ 17 + 9 * ρ 1 + 1) (γ 2) := hS132 _ _ _ _ _ (zAllA hl 0)
  have l1 : sn157 [ρ 0, ρ 1, ρ 17, ρ 18, ρ 4, ρ 26, ρ 27, ρ 28, ρ 5, ρ 6, ρ 7, ρ 20, ρ 11, ρ 21, ρ 22, ρ 23, ρ 24, ρ 25, ρ 29, ρ 30, ρ 31, ρ 32] (γ 2) 0 1 (γ 3) := hS157 _ _ _ _ _ (zAllA hl 1)
  have l2 : sn114 [ρ 33, ρ 4] (γ 4) 0 (ρ 42) (γ 5) := hS114 _ _ _ _ _ (zAllA hl 2)
  have l3 : ρ 42 ≠ 44 := zAllA hl 3
  have l4 : sn109 [ρ 43, ρ 11] (γ 5) 0 0 (γ 6) := hS109 _ _ _ _ _ (zAllA hl 4)
  show sn159 [ρ 0, ρ 1, ρ 2, ρ 3, ρ 4, ρ 5, ρ 6, ρ 7, ρ 8, ρ 9, ρ 10, ρ 11, ρ 12, ρ 13, ρ 14, ρ 15, ρ 16] (γ 0) 0 0 (γ 6)
  have hD : en159 (γ 0) (0, [], γ 1) = .inr (0, 0, γ 6) := by
    unfold en159
    refine zIP (show (0 : Nat) = 0 by decide) (zLV (γ 1) rfl (zLE m0 (zLE m1 (zLE m17 (zLE m21 (zIN (show ¬ (ρ 17 ≥ 8) by omega) (zLE (show fn132 [ρ 1, ρ 17] (γ 1) = (0, ρ 17 + 9 * ρ 1 + 1, γ 2) from l0.symm) ?_)))))))
    refine zLV (γ 2) rfl (zLE (show fn157 [] (γ 2) = (0, 1, γ 3) from l1.symm) (zLV (γ 3) rfl (zIP (show (1 : Int) ≤ 1 by omega) (zIP (show 3 ≤ γ 3 10 (ρ 17 + 9 * ρ 1 + 1) 4 by omega) (zIP (show 6 ≤ γ 3 10 (ρ 17 + 9 * ρ 1 + 1) 4 by omega) (zLE c4.symm (zLE (show fn114 [] (γ 4) = (0, ρ 42, γ 5) from l2.symm) ?_)))))))
    refine zLV (γ 5) rfl (zIP (show (0 : Int) ≤ ρ 42 by omega) (zLV (ρ 42) rfl (zLE m53 (zIN (show ¬ (ρ 42 = 44) by omega) (zLE (show fn109 [ρ 43] (γ 5) = (0, 0, γ 6) from l4.symm) (zLV (γ 6) rfl ?_))))))
    rfl
  exact zGoo_aend hJ hD
theorem vn159a0_11 {S : Nat → zSpc} (hS109 : zIm S 109 sn109) (hS114 : zIm S 114 sn114) (hS132 : zIm S 132 sn132) (hS152 : zIm S 152 sn152) (hS157 : zIm S 157 sn157) {a : List Int} {g : rHp} : ∀ (ρ : Nat → Int) (γ : Nat → rHp), jn159 a g 0 (zAg (zNA a159_ 0) ρ) (γ 1) → zO 17 S a g q159a0_11 ρ γ → zGl (fun i vs g1 => jn159 a g i vs g1) (sn159 a g) q159a0_11 ρ γ := by
  intro ρ γ hJ h
  obtain ⟨ha, hg, hr, hf, hm, hc, hl⟩ := h
  have ha : a = [ρ 0, ρ 1, ρ 2, ρ 3, ρ 4, ρ 5, ρ 6, ρ 7, ρ 8, ρ 9, ρ 10, ρ 11, ρ 12, ρ 13, ρ 14, ρ 15, ρ 16] := ha
  subst ha
  subst hg
  have hJ : jn159 [ρ 0, ρ 1, ρ 2, ρ 3, ρ 4, ρ 5, ρ 6, ρ 7, ρ 8, ρ 9, ρ 10, ρ 11, ρ 12, ρ 13, ρ 14, ρ 15, ρ 16] (γ 0) 0 [ρ 0, ρ 1, ρ 2, ρ 3, ρ 4, ρ 5, ρ 6, ρ 7, ρ 8, ρ 9, ρ 10, ρ 11, ρ 12, ρ 13, ρ 14, ρ 15, ρ 16, ρ 17, ρ 18, ρ 19, ρ 20, ρ 21, ρ 22, ρ 23, ρ 24, ρ 25] (γ 1) := hJ
  have r0 : (0 : Int) ≤ ρ 0 ∧ ρ 0 ≤ 60 := zRnA hr 0
  have r1 : (0 : Int) ≤ ρ 1 ∧ ρ 1 ≤ 60 := zRnA hr 1
  have r2 : (0 : Int) ≤ ρ 2 ∧ ρ 2 ≤ 8 := zRnA hr 2
  have r3 : (0 : Int) ≤ ρ 3 ∧ ρ 3 ≤ 2000 := zRnA hr 3
  have r4 : (2 : Int) ≤ ρ 4 ∧ ρ 4 ≤ 2000 := zRnA hr 4
  have r5 : (2 : Int) ≤ ρ 5 ∧ ρ 5 ≤ 2 := zRnA hr 5
  have r6 : ((-1) : Int) ≤ ρ 6 ∧ ρ 6 ≤ 19 := zRnA hr 6
  have r7 : (0 : Int) ≤ ρ 7 ∧ ρ 7 ≤ 4 := zRnA hr 7
  have r8 : ((-1) : Int) ≤ ρ 8 ∧ ρ 8 ≤ 7 := zRnA hr 8
  have r9 : (0 : Int) ≤ ρ 9 ∧ ρ 9 ≤ 8 := zRnA hr 9
  have r10 : (0 : Int) ≤ ρ 10 ∧ ρ 10 ≤ 20 := zRnA hr 10
  have r11 : ((-2147483648) : Int) ≤ ρ 11 ∧ ρ 11 ≤ 2147483647 := zRnA hr 11
  have r12 : ((-2147483648) : Int) ≤ ρ 12 ∧ ρ 12 ≤ 2147483647 := zRnA hr 12
  have r13 : ((-2147483648) : Int) ≤ ρ 13 ∧ ρ 13 ≤ 2147483647 := zRnA hr 13
  have r14 : (0 : Int) ≤ ρ 14 ∧ ρ 14 ≤ 8 := zRnA hr 14
  have r15 : (0 : Int) ≤ ρ 15 ∧ ρ 15 ≤ 32 := zRnA hr 15
  have r16 : (0 : Int) ≤ ρ 16 ∧ ρ 16 ≤ 5120 := zRnA hr 16
  have r17 : (0 : Int) ≤ ρ 17 ∧ ρ 17 ≤ 7 := zRnA hr 17
  have r18 : (0 : Int) ≤ ρ 18 ∧ ρ 18 ≤ 2000 := zRnA hr 18
  have r19 : (0 : Int) ≤ ρ 19 ∧ ρ 19 ≤ 8 := zRnA hr 19
  have r20 : (0 : Int) ≤ ρ 20 ∧ ρ 20 ≤ 20 := zRnA hr 20
  have r21 : ((-2147483648) : Int) ≤ ρ 21 ∧ ρ 21 ≤ 2147483647 := zRnA hr 21
  have r22 : ((-2147483648) : Int) ≤ ρ 22 ∧ ρ 22 ≤ 2147483647 := zRnA hr 22
  have r23 : (0 : Int) ≤ ρ 23 ∧ ρ 23 ≤ 8 := zRnA hr 23
  have r24 : (0 : Int) ≤ ρ 24 ∧ ρ 24 ≤ 32 := zRnA hr 24
  have r25 : (0 : Int) ≤ ρ 25 ∧ ρ 25 ≤ 5120 := zRnA hr 25
  have r26 : (0 : Int) ≤ ρ 26 ∧ ρ 26 ≤ 8 := zRnA hr 26
  have r27 : ((-1) : Int) ≤ ρ 27 ∧ ρ 27 ≤ 7 := zRnA hr 27
  have r28 : ((-1) : Int) ≤ ρ 28 ∧ ρ 28 ≤ 19 := zRnA hr 28
  have r29 : (0 : Int) ≤ ρ 29 ∧ ρ 29 ≤ 4 := zRnA hr 29
  have r30 : ((-2147483648) : Int) ≤ ρ 30 ∧ ρ 30 ≤ 2147483647 := zRnA hr 30
  have r31 : ((-1) : Int) ≤ ρ 31 ∧ ρ 31 ≤ 3 := zRnA hr 31
  have r32 : (0 : Int) ≤ ρ 32 ∧ ρ 32 ≤ 4 := zRnA hr 32
  have r33 : (3 : Int) ≤ ρ 33 ∧ ρ 33 ≤ 2000 := zRnA hr 33
  have r34 : (2 : Int) ≤ ρ 34 ∧ ρ 34 ≤ 2 := zRnA hr 34
  have r35 : (0 : Int) ≤ ρ 35 ∧ ρ 35 ≤ 19 := zRnA hr 35
  have r36 : (1 : Int) ≤ ρ 36 ∧ ρ 36 ≤ 20 := zRnA hr 36
  have r37 : ((-2147483648) : Int) ≤ ρ 37 ∧ ρ 37 ≤ 2147483647 := zRnA hr 37
  have r38 : ((-2147483648) : Int) ≤ ρ 38 ∧ ρ 38 ≤ 2147483647 := zRnA hr 38
  have r39 : (0 : Int) ≤ ρ 39 ∧ ρ 39 ≤ 8 := zRnA hr 39
  have r40 : (0 : Int) ≤ ρ 40 ∧ ρ 40 ≤ 32 := zRnA hr 40
  have r41 : (0 : Int) ≤ ρ 41 ∧ ρ 41 ≤ 5120 := zRnA hr 41
  have r42 : (1 : Int) ≤ ρ 42 ∧ ρ 42 ≤ 4 := zRnA hr 42
  have r43 : (0 : Int) ≤ ρ 43 ∧ ρ 43 ≤ 1999 := zRnA hr 43
  have r44 : ((-1) : Int) ≤ ρ 44 ∧ ρ 44 ≤ 3 := zRnA hr 44
  have r45 : (0 : Int) ≤ ρ 45 ∧ ρ 45 ≤ 0 := zRnA hr 45
  have r46 : (0 : Int) ≤ ρ 46 ∧ ρ 46 ≤ 2000 := zRnA hr 46
  have r47 : ((-2147483648) : Int) ≤ ρ 47 ∧ ρ 47 ≤ 2147483647 := zRnA hr 47
  have f0 : (0 : Int) ≤ ρ 46 + -ρ 33 := zAllA hf 0
  have f1 : (0 : Int) ≤ ρ 46 + -ρ 4 := zAllA hf 1
  have f2 : (0 : Int) ≤ -ρ 42 + ρ 33 + (-1) := zAllA hf 2
  have f3 : (0 : Int) ≤ -ρ 43 + ρ 33 + (-1) := zAllA hf 3
  have f4 : (0 : Int) ≤ -ρ 44 + ρ 33 + (-1) := zAllA hf 4
  have f5 : (0 : Int) ≤ ρ 33 + -ρ 18 + (-1) := zAllA hf 5
  have f6 : (0 : Int) ≤ ρ 36 + -ρ 35 + (-1) := zAllA hf 6
  have f7 : (0 : Int) ≤ ρ 36 + -ρ 20 := zAllA hf 7
  have f8 : (0 : Int) ≤ ρ 39 + -ρ 23 := zAllA hf 8
  have f9 : (0 : Int) ≤ ρ 40 + -ρ 24 := zAllA hf 9
  have f10 : (0 : Int) ≤ ρ 41 + -ρ 25 := zAllA hf 10
  have f11 : (0 : Int) ≤ ρ 43 + -ρ 18 := zAllA hf 11
  have f12 : (0 : Int) ≤ -ρ 33 + ρ 4 := zAllA hf 12
  have f13 : (0 : Int) ≤ -ρ 34 + ρ 4 + (-1) := zAllA hf 13
  have f14 : (0 : Int) ≤ -ρ 18 + ρ 4 + (-1) := zAllA hf 14
  have f15 : (0 : Int) ≤ -ρ 5 + ρ 4 + (-1) := zAllA hf 15
  have f16 : (0 : Int) ≤ -ρ 31 + ρ 4 := zAllA hf 16
  have f17 : (0 : Int) ≤ -ρ 35 + ρ 20 := zAllA hf 17
  have f18 : (0 : Int) ≤ -ρ 17 + ρ 4 := zAllA hf 18
  have f19 : (0 : Int) ≤ ρ 25 + -ρ 16 := zAllA hf 19
  have f20 : (0 : Int) ≤ ρ 24 + -ρ 15 := zAllA hf 20
  have f21 : (0 : Int) ≤ ρ 23 + -ρ 14 := zAllA hf 21
  have f22 : (0 : Int) ≤ ρ 20 + -ρ 10 := zAllA hf 22
  have f23 : (0 : Int) ≤ ρ 18 + -ρ 3 := zAllA hf 23
  have f24 : (0 : Int) ≤ ρ 18 + -ρ 17 := zAllA hf 24
  have f25 : (0 : Int) ≤ -ρ 19 + ρ 17 := zAllA hf 25
  have m0 : γ 0 1 0 10 = ρ 0 := zAllA hm 0
  have m1 : γ 0 40 0 (ρ 0) = ρ 1 := zAllA hm 1
  have m2 : γ 0 9 (ρ 1) 2 = ρ 2 := zAllA hm 2
  have m3 : γ 0 2 0 6 = ρ 3 := zAllA hm 3
  have m4 : γ 0 2 0 3 = ρ 4 := zAllA hm 4
  have m5 : γ 0 2 0 7 = ρ 5 := zAllA hm 5
  have m6 : γ 0 10 (9 * ρ 1) 8 = ρ 6 := zAllA hm 6
  have m7 : γ 0 10 (9 * ρ 1) 12 = ρ 7 := zAllA hm 7
  have m8 : γ 0 10 (9 * ρ 1) 14 = ρ 8 := zAllA hm 8
  have m9 : γ 0 9 (ρ 1) 3 = ρ 9 := zAllA hm 9
  have m10 : γ 0 1 0 7 = ρ 10 := zAllA hm 10
  have m11 : γ 0 2 0 4 = ρ 11 := zAllA hm 11
  have m12 : γ 0 2 0 5 = ρ 12 := zAllA hm 12
  have m13 : γ 0 2 0 9 = ρ 13 := zAllA hm 13
  have m14 : γ 0 2 0 13 = ρ 14 := zAllA hm 14
  have m15 : γ 0 2 0 16 = ρ 15 := zAllA hm 15
  have m16 : γ 0 3 0 1 = ρ 16 := zAllA hm 16
  have m17 : γ 1 9 (ρ 1) 2 = ρ 17 := zAllA hm 17
  have m18 : γ 1 2 0 6 = ρ 18 := zAllA hm 18
  have m19 : γ 1 10 (9 * ρ 1) 8 = ρ 6 := zAllA hm 19
  have m20 : γ 1 10 (9 * ρ 1) 12 = ρ 7 := zAllA hm 20
  have m21 : γ 1 9 (ρ 1) 3 = ρ 19 := zAllA hm 21
  have m22 : γ 1 1 0 7 = ρ 20 := zAllA hm 22
  have m23 : γ 1 2 0 4 = ρ 11 := zAllA hm 23
  have m24 : γ 1 2 0 5 = ρ 21 := zAllA hm 24
  have m25 : γ 1 2 0 9 = ρ 22 := zAllA hm 25
  have m26 : γ 1 2 0 13 = ρ 23 := zAllA hm 26
  have m27 : γ 1 2 0 16 = ρ 24 := zAllA hm 27
  have m28 : γ 1 3 0 1 = ρ 25 := zAllA hm 28
  have m29 : γ 1 10 (ρ 17 + 9 * ρ 1 + 1) 4 = ρ 26 := zAllA hm 29
  have m30 : γ 1 10 (ρ 17 + 9 * ρ 1 + 1) 11 = ρ 27 := zAllA hm 30
  have m31 : γ 1 10 (ρ 17 + 9 * ρ 1 + 1) 8 = ρ 28 := zAllA hm 31
  have m32 : γ 1 10 (ρ 17 + 9 * ρ 1 + 1) 5 = ρ 29 := zAllA hm 32
  have m33 : γ 1 10 (ρ 17 + 9 * ρ 1 + 1) 7 = ρ 30 := zAllA hm 33
  have m34 : γ 1 10 (ρ 17 + 9 * ρ 1 + 1) 9 = ρ 31 := zAllA hm 34
  have m35 : γ 1 10 (ρ 17 + 9 * ρ 1 + 1) 12 = ρ 32 := zAllA hm 35
  have m36 : γ 3 2 0 6 = ρ 33 := zAllA hm 36
  have m37 : γ 3 10 (ρ 17 + 9 * ρ 1 + 1) 4 = ρ 34 := zAllA hm 37
  have m38 : γ 3 10 (ρ 17 + 9 * ρ 1 + 1) 11 = ρ 27 := zAllA hm 38
  have m39 : γ 3 10 (ρ 17 + 9 * ρ 1 + 1) 8 = ρ 35 := zAllA hm 39
  have m40 : γ 3 10 (9 * ρ 1) 8 = ρ 6 := zAllA hm 40
  have m41 : γ 3 10 (9 * ρ 1) 12 = ρ 7 := zAllA hm 41
  have m42 : γ 3 1 0 7 = ρ 36 := zAllA hm 42
  have m43 : γ 3 2 0 4 = ρ 11 := zAllA hm 43
  have m44 : γ 3 2 0 5 = ρ 37 := zAllA hm 44
  have m45 : γ 3 2 0 9 = ρ 38 := zAllA hm 45
  have m46 : γ 3 2 0 13 = ρ 39 := zAllA hm 46
  have m47 : γ 3 2 0 16 = ρ 40 := zAllA hm 47
  have m48 : γ 3 3 0 1 = ρ 41 := zAllA hm 48
  have m49 : γ 3 10 (ρ 17 + 9 * ρ 1 + 1) 5 = ρ 42 := zAllA hm 49
  have m50 : γ 3 10 (ρ 17 + 9 * ρ 1 + 1) 7 = ρ 43 := zAllA hm 50
  have m51 : γ 3 10 (ρ 17 + 9 * ρ 1 + 1) 9 = ρ 44 := zAllA hm 51
  have m52 : γ 3 10 (ρ 17 + 9 * ρ 1 + 1) 12 = ρ 45 := zAllA hm 52
  have m53 : γ 5 2 0 6 = ρ 46 := zAllA hm 53
  have m54 : γ 7 2 0 4 = ρ 47 := zAllA hm 54
  have c1 : ∀ (G : Nat) (k j : Int), ¬ rMdP m107_ G j → γ 1 G k j = γ 0 G k j := And.right (zChA hc 6)
  have c2 : ∀ (G : Nat) (k j : Int), ¬ rMdP m0_ G j → γ 2 G k j = γ 1 G k j := And.right (zChA hc 5)
  have c3 : ∀ (G : Nat) (k j : Int), ¬ rMdP m106_ G j → γ 3 G k j = γ 2 G k j := And.right (zChA hc 4)
  have c4 : γ 4 = rUp (γ 3) 9 (ρ 1) 2 (ρ 17 + 1) := And.right (zChA hc 3)
  have c5 : ∀ (G : Nat) (k j : Int), ¬ rMdP m77_ G j → γ 5 G k j = γ 4 G k j := And.right (zChA hc 2)
  have c6 : γ 6 = rUp (γ 5) 2 0 6 (ρ 46 + 1) := And.right (zChA hc 1)
  have c7 : ∀ (G : Nat) (k j : Int), ¬ rMdP m72_ G j → γ 7 G k j = γ 6 G k j := And.right (zChA hc 0)
  have l0 : sn132 [ρ 1, ρ 17] (γ 1) 0 (ρ 17 + 9 * ρ 1 + 1) (γ 2) := hS132 _ _ _ _ _ (zAllA hl 0)
  have l1 : sn157 [ρ 0, ρ 1, ρ 17, ρ 18, ρ 4, ρ 26, ρ 27, ρ 28, ρ 5, ρ 6, ρ 7, ρ 20, ρ 11, ρ 21, ρ 22, ρ 23, ρ 24, ρ 25, ρ 29, ρ 30, ρ 31, ρ 32] (γ 2) 0 1 (γ 3) := hS157 _ _ _ _ _ (zAllA hl 1)
  have l2 : sn114 [ρ 33, ρ 4] (γ 4) 0 (-1) (γ 5) := hS114 _ _ _ _ _ (zAllA hl 2)
  have l3 : sn152 [ρ 11, ρ 40] (γ 6) 0 0 (γ 7) := hS152 _ _ _ _ _ (zAllA hl 3)
  show sn159 [ρ 0, ρ 1, ρ 2, ρ 3, ρ 4, ρ 5, ρ 6, ρ 7, ρ 8, ρ 9, ρ 10, ρ 11, ρ 12, ρ 13, ρ 14, ρ 15, ρ 16] (γ 0) 0 0 (γ 7)
  have hD : en159 (γ 0) (0, [], γ 1) = .inr (0, 0, γ 7) := by
    unfold en159
    refine zIP (show (0 : Nat) = 0 by decide) (zLV (γ 1) rfl (zLE m0 (zLE m1 (zLE m17 (zLE m21 (zIN (show ¬ (ρ 17 ≥ 8) by omega) (zLE (show fn132 [ρ 1, ρ 17] (γ 1) = (0, ρ 17 + 9 * ρ 1 + 1, γ 2) from l0.symm) ?_)))))))
    refine zLV (γ 2) rfl (zLE (show fn157 [] (γ 2) = (0, 1, γ 3) from l1.symm) (zLV (γ 3) rfl (zIP (show (1 : Int) ≤ 1 by omega) (zIN (show ¬ (3 ≤ γ 3 10 (ρ 17 + 9 * ρ 1 + 1) 4) by omega) (zLE m37 (zLE c4.symm (zIP (show ρ 34 ≠ 1 by omega) ?_)))))))
    refine zLE (show fn114 [] (γ 4) = (0, (-1), γ 5) from l2.symm) (zLV (γ 5) rfl (zIN (show ¬ ((0 : Int) ≤ (-1)) by omega) (zLE m53 (zLE c6.symm (zLE (show fn152 [] (γ 6) = (0, 0, γ 7) from l3.symm) (zLV (γ 7) rfl (zIN (show ¬ ((1 : Int) ≤ 0) by omega) ?_)))))))
    rfl
  exact zGoo_aend hJ hD
theorem vn159a0_12 {S : Nat → zSpc} (hS109 : zIm S 109 sn109) (hS114 : zIm S 114 sn114) (hS132 : zIm S 132 sn132) (hS152 : zIm S 152 sn152) (hS157 : zIm S 157 sn157) {a : List Int} {g : rHp} : ∀ (ρ : Nat → Int) (γ : Nat → rHp), jn159 a g 0 (zAg (zNA a159_ 0) ρ) (γ 1) → zO 17 S a g q159a0_12 ρ γ → zGl (fun i vs g1 => jn159 a g i vs g1) (sn159 a g) q159a0_12 ρ γ := by
  intro ρ γ hJ h
  obtain ⟨ha, hg, hr, hf, hm, hc, hl⟩ := h
  have ha : a = [ρ 0, ρ 1, ρ 2, ρ 3, ρ 4, ρ 5, ρ 6, ρ 7, ρ 8, ρ 9, ρ 10, ρ 11, ρ 12, ρ 13, ρ 14, ρ 15, ρ 16] := ha
  subst ha
  subst hg
  have hJ : jn159 [ρ 0, ρ 1, ρ 2, ρ 3, ρ 4, ρ 5, ρ 6, ρ 7, ρ 8, ρ 9, ρ 10, ρ 11, ρ 12, ρ 13, ρ 14, ρ 15, ρ 16] (γ 0) 0 [ρ 0, ρ 1, ρ 2, ρ 3, ρ 4, ρ 5, ρ 6, ρ 7, ρ 8, ρ 9, ρ 10, ρ 11, ρ 12, ρ 13, ρ 14, ρ 15, ρ 16, ρ 17, ρ 18, ρ 19, ρ 20, ρ 21, ρ 22, ρ 23, ρ 24, ρ 25] (γ 1) := hJ
  have r0 : (0 : Int) ≤ ρ 0 ∧ ρ 0 ≤ 60 := zRnA hr 0
  have r1 : (0 : Int) ≤ ρ 1 ∧ ρ 1 ≤ 60 := zRnA hr 1
  have r2 : (0 : Int) ≤ ρ 2 ∧ ρ 2 ≤ 8 := zRnA hr 2
  have r3 : (0 : Int) ≤ ρ 3 ∧ ρ 3 ≤ 2000 := zRnA hr 3
  have r4 : (2 : Int) ≤ ρ 4 ∧ ρ 4 ≤ 2000 := zRnA hr 4
  have r5 : (2 : Int) ≤ ρ 5 ∧ ρ 5 ≤ 2 := zRnA hr 5
  have r6 : ((-1) : Int) ≤ ρ 6 ∧ ρ 6 ≤ 19 := zRnA hr 6
  have r7 : (0 : Int) ≤ ρ 7 ∧ ρ 7 ≤ 4 := zRnA hr 7
  have r8 : ((-1) : Int) ≤ ρ 8 ∧ ρ 8 ≤ 7 := zRnA hr 8
  have r9 : (0 : Int) ≤ ρ 9 ∧ ρ 9 ≤ 8 := zRnA hr 9
  have r10 : (0 : Int) ≤ ρ 10 ∧ ρ 10 ≤ 20 := zRnA hr 10
  have r11 : ((-2147483648) : Int) ≤ ρ 11 ∧ ρ 11 ≤ 2147483647 := zRnA hr 11
  have r12 : ((-2147483648) : Int) ≤ ρ 12 ∧ ρ 12 ≤ 2147483647 := zRnA hr 12
  have r13 : ((-2147483648) : Int) ≤ ρ 13 ∧ ρ 13 ≤ 2147483647 := zRnA hr 13
  have r14 : (0 : Int) ≤ ρ 14 ∧ ρ 14 ≤ 8 := zRnA hr 14
  have r15 : (0 : Int) ≤ ρ 15 ∧ ρ 15 ≤ 32 := zRnA hr 15
  have r16 : (0 : Int) ≤ ρ 16 ∧ ρ 16 ≤ 5120 := zRnA hr 16
  have r17 : (0 : Int) ≤ ρ 17 ∧ ρ 17 ≤ 7 := zRnA hr 17
  have r18 : (0 : Int) ≤ ρ 18 ∧ ρ 18 ≤ 2000 := zRnA hr 18
  have r19 : (0 : Int) ≤ ρ 19 ∧ ρ 19 ≤ 8 := zRnA hr 19
  have r20 : (0 : Int) ≤ ρ 20 ∧ ρ 20 ≤ 20 := zRnA hr 20
  have r21 : ((-2147483648) : Int) ≤ ρ 21 ∧ ρ 21 ≤ 2147483647 := zRnA hr 21
  have r22 : ((-2147483648) : Int) ≤ ρ 22 ∧ ρ 22 ≤ 2147483647 := zRnA hr 22
  have r23 : (0 : Int) ≤ ρ 23 ∧ ρ 23 ≤ 8 := zRnA hr 23
  have r24 : (0 : Int) ≤ ρ 24 ∧ ρ 24 ≤ 32 := zRnA hr 24
  have r25 : (0 : Int) ≤ ρ 25 ∧ ρ 25 ≤ 5120 := zRnA hr 25
  have r26 : (0 : Int) ≤ ρ 26 ∧ ρ 26 ≤ 8 := zRnA hr 26
  have r27 : ((-1) : Int) ≤ ρ 27 ∧ ρ 27 ≤ 7 := zRnA hr 27
  have r28 : ((-1) : Int) ≤ ρ 28 ∧ ρ 28 ≤ 19 := zRnA hr 28
  have r29 : (0 : Int) ≤ ρ 29 ∧ ρ 29 ≤ 4 := zRnA hr 29
  have r30 : ((-2147483648) : Int) ≤ ρ 30 ∧ ρ 30 ≤ 2147483647 := zRnA hr 30
  have r31 : ((-1) : Int) ≤ ρ 31 ∧ ρ 31 ≤ 3 := zRnA hr 31
  have r32 : (0 : Int) ≤ ρ 32 ∧ ρ 32 ≤ 4 := zRnA hr 32
  have r33 : (3 : Int) ≤ ρ 33 ∧ ρ 33 ≤ 2000 := zRnA hr 33
  have r34 : (2 : Int) ≤ ρ 34 ∧ ρ 34 ≤ 2 := zRnA hr 34
  have r35 : (0 : Int) ≤ ρ 35 ∧ ρ 35 ≤ 19 := zRnA hr 35
  have r36 : (1 : Int) ≤ ρ 36 ∧ ρ 36 ≤ 20 := zRnA hr 36
  have r37 : ((-2147483648) : Int) ≤ ρ 37 ∧ ρ 37 ≤ 2147483647 := zRnA hr 37
  have r38 : ((-2147483648) : Int) ≤ ρ 38 ∧ ρ 38 ≤ 2147483647 := zRnA hr 38
  have r39 : (0 : Int) ≤ ρ 39 ∧ ρ 39 ≤ 8 := zRnA hr 39
  have r40 : (0 : Int) ≤ ρ 40 ∧ ρ 40 ≤ 32 := zRnA hr 40
  have r41 : (0 : Int) ≤ ρ 41 ∧ ρ 41 ≤ 5120 := zRnA hr 41
  have r42 : (1 : Int) ≤ ρ 42 ∧ ρ 42 ≤ 4 := zRnA hr 42
  have r43 : (0 : Int) ≤ ρ 43 ∧ ρ 43 ≤ 1999 := zRnA hr 43
  have r44 : ((-1) : Int) ≤ ρ 44 ∧ ρ 44 ≤ 3 := zRnA hr 44
  have r45 : (0 : Int) ≤ ρ 45 ∧ ρ 45 ≤ 0 := zRnA hr 45
  have r46 : (0 : Int) ≤ ρ 46 ∧ ρ 46 ≤ 2000 := zRnA hr 46
  have f0 : (0 : Int) ≤ ρ 46 + -ρ 33 := zAllA hf 0
  have f1 : (0 : Int) ≤ ρ 46 + -ρ 4 := zAllA hf 1
  have f2 : (0 : Int) ≤ -ρ 42 + ρ 33 + (-1) := zAllA hf 2
  have f3 : (0 : Int) ≤ -ρ 43 + ρ 33 + (-1) := zAllA hf 3
  have f4 : (0 : Int) ≤ -ρ 44 + ρ 33 + (-1) := zAllA hf 4
  have f5 : (0 : Int) ≤ ρ 33 + -ρ 18 + (-1) := zAllA hf 5
  have f6 : (0 : Int) ≤ ρ 36 + -ρ 35 + (-1) := zAllA hf 6
  have f7 : (0 : Int) ≤ ρ 36 + -ρ 20 := zAllA hf 7
  have f8 : (0 : Int) ≤ ρ 39 + -ρ 23 := zAllA hf 8
  have f9 : (0 : Int) ≤ ρ 40 + -ρ 24 := zAllA hf 9
  have f10 : (0 : Int) ≤ ρ 41 + -ρ 25 := zAllA hf 10
  have f11 : (0 : Int) ≤ ρ 43 + -ρ 18 := zAllA hf 11
  have f12 : (0 : Int) ≤ -ρ 33 + ρ 4 := zAllA hf 12
  have f13 : (0 : Int) ≤ -ρ 34 + ρ 4 + (-1) := zAllA hf 13
  have f14 : (0 : Int) ≤ -ρ 18 + ρ 4 + (-1) := zAllA hf 14
  have f15 : (0 : Int) ≤ -ρ 5 + ρ 4 + (-1) := zAllA hf 15
  have f16 : (0 : Int) ≤ -ρ 31 + ρ 4 := zAllA hf 16
  have f17 : (0 : Int) ≤ -ρ 35 + ρ 20 := zAllA hf 17
  have f18 : (0 : Int) ≤ -ρ 17 + ρ 4 := zAllA hf 18
  have f19 : (0 : Int) ≤ ρ 25 + -ρ 16 := zAllA hf 19
  have f20 : (0 : Int) ≤ ρ 24 + -ρ 15 := zAllA hf 20
  have f21 : (0 : Int) ≤ ρ 23 + -ρ 14 := zAllA hf 21
  have f22 : (0 : Int) ≤ ρ 20 + -ρ 10 := zAllA hf 22
  have f23 : (0 : Int) ≤ ρ 18 + -ρ 3 := zAllA hf 23
  have f24 : (0 : Int) ≤ ρ 18 + -ρ 17 := zAllA hf 24
  have f25 : (0 : Int) ≤ -ρ 19 + ρ 17 := zAllA hf 25
  have m0 : γ 0 1 0 10 = ρ 0 := zAllA hm 0
  have m1 : γ 0 40 0 (ρ 0) = ρ 1 := zAllA hm 1
  have m2 : γ 0 9 (ρ 1) 2 = ρ 2 := zAllA hm 2
  have m3 : γ 0 2 0 6 = ρ 3 := zAllA hm 3
  have m4 : γ 0 2 0 3 = ρ 4 := zAllA hm 4
  have m5 : γ 0 2 0 7 = ρ 5 := zAllA hm 5
  have m6 : γ 0 10 (9 * ρ 1) 8 = ρ 6 := zAllA hm 6
  have m7 : γ 0 10 (9 * ρ 1) 12 = ρ 7 := zAllA hm 7
  have m8 : γ 0 10 (9 * ρ 1) 14 = ρ 8 := zAllA hm 8
  have m9 : γ 0 9 (ρ 1) 3 = ρ 9 := zAllA hm 9
  have m10 : γ 0 1 0 7 = ρ 10 := zAllA hm 10
  have m11 : γ 0 2 0 4 = ρ 11 := zAllA hm 11
  have m12 : γ 0 2 0 5 = ρ 12 := zAllA hm 12
  have m13 : γ 0 2 0 9 = ρ 13 := zAllA hm 13
  have m14 : γ 0 2 0 13 = ρ 14 := zAllA hm 14
  have m15 : γ 0 2 0 16 = ρ 15 := zAllA hm 15
  have m16 : γ 0 3 0 1 = ρ 16 := zAllA hm 16
  have m17 : γ 1 9 (ρ 1) 2 = ρ 17 := zAllA hm 17
  have m18 : γ 1 2 0 6 = ρ 18 := zAllA hm 18
  have m19 : γ 1 10 (9 * ρ 1) 8 = ρ 6 := zAllA hm 19
  have m20 : γ 1 10 (9 * ρ 1) 12 = ρ 7 := zAllA hm 20
  have m21 : γ 1 9 (ρ 1) 3 = ρ 19 := zAllA hm 21
  have m22 : γ 1 1 0 7 = ρ 20 := zAllA hm 22
  have m23 : γ 1 2 0 4 = ρ 11 := zAllA hm 23
  have m24 : γ 1 2 0 5 = ρ 21 := zAllA hm 24
  have m25 : γ 1 2 0 9 = ρ 22 := zAllA hm 25
  have m26 : γ 1 2 0 13 = ρ 23 := zAllA hm 26
  have m27 : γ 1 2 0 16 = ρ 24 := zAllA hm 27
  have m28 : γ 1 3 0 1 = ρ 25 := zAllA hm 28
  have m29 : γ 1 10 (ρ 17 + 9 * ρ 1 + 1) 4 = ρ 26 := zAllA hm 29
  have m30 : γ 1 10 (ρ 17 + 9 * ρ 1 + 1) 11 = ρ 27 := zAllA hm 30
  have m31 : γ 1 10 (ρ 17 + 9 * ρ 1 + 1) 8 = ρ 28 := zAllA hm 31
  have m32 : γ 1 10 (ρ 17 + 9 * ρ 1 + 1) 5 = ρ 29 := zAllA hm 32
  have m33 : γ 1 10 (ρ 17 + 9 * ρ 1 + 1) 7 = ρ 30 := zAllA hm 33
  have m34 : γ 1 10 (ρ 17 + 9 * ρ 1 + 1) 9 = ρ 31 := zAllA hm 34
  have m35 : γ 1 10 (ρ 17 + 9 * ρ 1 + 1) 12 = ρ 32 := zAllA hm 35
  have m36 : γ 3 2 0 6 = ρ 33 := zAllA hm 36
  have m37 : γ 3 10 (ρ 17 + 9 * ρ 1 + 1) 4 = ρ 34 := zAllA hm 37
  have m38 : γ 3 10 (ρ 17 + 9 * ρ 1 + 1) 11 = ρ 27 := zAllA hm 38
  have m39 : γ 3 10 (ρ 17 + 9 * ρ 1 + 1) 8 = ρ 35 := zAllA hm 39
  have m40 : γ 3 10 (9 * ρ 1) 8 = ρ 6 := zAllA hm 40
  have m41 : γ 3 10 (9 * ρ 1) 12 = ρ 7 := zAllA hm 41
  have m42 : γ 3 1 0 7 = ρ 36 := zAllA hm 42
  have m43 : γ 3 2 0 4 = ρ 11 := zAllA hm 43
  have m44 : γ 3 2 0 5 = ρ 37 := zAllA hm 44
  have m45 : γ 3 2 0 9 = ρ 38 := zAllA hm 45
  have m46 : γ 3 2 0 13 = ρ 39 := zAllA hm 46
  have m47 : γ 3 2 0 16 = ρ 40 := zAllA hm 47
  have m48 : γ 3 3 0 1 = ρ 41 := zAllA hm 48
  have m49 : γ 3 10 (ρ 17 + 9 * ρ 1 + 1) 5 = ρ 42 := zAllA hm 49
  have m50 : γ 3 10 (ρ 17 + 9 * ρ 1 + 1) 7 = ρ 43 := zAllA hm 50
  have m51 : γ 3 10 (ρ 17 + 9 * ρ 1 + 1) 9 = ρ 44 := zAllA hm 51
  have m52 : γ 3 10 (ρ 17 + 9 * ρ 1 + 1) 12 = ρ 45 := zAllA hm 52
  have m53 : γ 5 2 0 6 = ρ 46 := zAllA hm 53
  have m54 : γ 7 2 0 4 = ρ 11 := zAllA hm 54
  have c1 : ∀ (G : Nat) (k j : Int), ¬ rMdP m107_ G j → γ 1 G k j = γ 0 G k j := And.right (zChA hc 6)
  have c2 : ∀ (G : Nat) (k j : Int), ¬ rMdP m0_ G j → γ 2 G k j = γ 1 G k j := And.right (zChA hc 5)
  have c3 : ∀ (G : Nat) (k j : Int), ¬ rMdP m106_ G j → γ 3 G k j = γ 2 G k j := And.right (zChA hc 4)
  have c4 : γ 4 = rUp (γ 3) 9 (ρ 1) 2 (ρ 17 + 1) := And.right (zChA hc 3)
  have c5 : ∀ (G : Nat) (k j : Int), ¬ rMdP m77_ G j → γ 5 G k j = γ 4 G k j := And.right (zChA hc 2)
  have c6 : γ 6 = rUp (γ 5) 2 0 6 (ρ 46 + 1) := And.right (zChA hc 1)
  have c7 : ∀ (G : Nat) (k j : Int), ¬ rMdP m72_ G j → γ 7 G k j = γ 6 G k j := And.right (zChA hc 0)
  have l0 : sn132 [ρ 1, ρ 17] (γ 1) 0 (ρ 17 + 9 * ρ 1 + 1) (γ 2) := hS132 _ _ _ _ _ (zAllA hl 0)
  have l1 : sn157 [ρ 0, ρ 1, ρ 17, ρ 18, ρ 4, ρ 26, ρ 27, ρ 28, ρ 5, ρ 6, ρ 7, ρ 20, ρ 11, ρ 21, ρ 22, ρ 23, ρ 24, ρ 25, ρ 29, ρ 30, ρ 31, ρ 32] (γ 2) 0 1 (γ 3) := hS157 _ _ _ _ _ (zAllA hl 1)
  have l2 : sn114 [ρ 33, ρ 4] (γ 4) 0 (-1) (γ 5) := hS114 _ _ _ _ _ (zAllA hl 2)
  have l3 : sn152 [ρ 11, ρ 40] (γ 6) 0 1 (γ 7) := hS152 _ _ _ _ _ (zAllA hl 3)
  show sn159 [ρ 0, ρ 1, ρ 2, ρ 3, ρ 4, ρ 5, ρ 6, ρ 7, ρ 8, ρ 9, ρ 10, ρ 11, ρ 12, ρ 13, ρ 14, ρ 15, ρ 16] (γ 0) 0 1 (γ 7)
  have hD : en159 (γ 0) (0, [], γ 1) = .inr (0, 1, γ 7) := by
    unfold en159
    refine zIP (show (0 : Nat) = 0 by decide) (zLV (γ 1) rfl (zLE m0 (zLE m1 (zLE m17 (zLE m21 (zIN (show ¬ (ρ 17 ≥ 8) by omega) (zLE (show fn132 [ρ 1, ρ 17] (γ 1) = (0, ρ 17 + 9 * ρ 1 + 1, γ 2) from l0.symm) ?_)))))))
    refine zLV (γ 2) rfl (zLE (show fn157 [] (γ 2) = (0, 1, γ 3) from l1.symm) (zLV (γ 3) rfl (zIP (show (1 : Int) ≤ 1 by omega) (zIN (show ¬ (3 ≤ γ 3 10 (ρ 17 + 9 * ρ 1 + 1) 4) by omega) (zLE m37 (zLE c4.symm (zIP (show ρ 34 ≠ 1 by omega) ?_)))))))
    refine zLE (show fn114 [] (γ 4) = (0, (-1), γ 5) from l2.symm) (zLV (γ 5) rfl (zIN (show ¬ ((0 : Int) ≤ (-1)) by omega) (zLE m53 (zLE c6.symm (zLE (show fn152 [] (γ 6) = (0, 1, γ 7) from l3.symm) (zLV (γ 7) rfl (zIP (show (1 : Int) ≤ 1 by omega) ?_)))))))
    rfl
  exact zGoo_aend hJ hD
theorem vn159a0_13 {S : Nat → zSpc} (hS109 : zIm S 109 sn109) (hS114 : zIm S 114 sn114) (hS132 : zIm S 132 sn132) (hS152 : zIm S 152 sn152) (hS157 : zIm S 157 sn157) {a : List Int} {g : rHp} : ∀ (ρ : Nat → Int) (γ : Nat → rHp), jn159 a g 0 (zAg (zNA a159_ 0) ρ) (γ 1) → zO 17 S a g q159a0_13 ρ γ → zGl (fun i vs g1 => jn159 a g i vs g1) (sn159 a g) q159a0_13 ρ γ := by
  intro ρ γ hJ h
  obtain ⟨ha, hg, hr, hf, hm, hc, hl⟩ := h
  have ha : a = [ρ 0, ρ 1, ρ 2, ρ 3, ρ 4, ρ 5, ρ 6, ρ 7, ρ 8, ρ 9, ρ 10, ρ 11, ρ 12, ρ 13, ρ 14, ρ 15, ρ 16] := ha
  subst ha
  subst hg
  have hJ : jn159 [ρ 0, ρ 1, ρ 2, ρ 3, ρ 4, ρ 5, ρ 6, ρ 7, ρ 8, ρ 9, ρ 10, ρ 11, ρ 12, ρ 13, ρ 14, ρ 15, ρ 16] (γ 0) 0 [ρ 0, ρ 1, ρ 2, ρ 3, ρ 4, ρ 5, ρ 6, ρ 7, ρ 8, ρ 9, ρ 10, ρ 11, ρ 12, ρ 13, ρ 14, ρ 15, ρ 16, ρ 17, ρ 18, ρ 19, ρ 20, ρ 21, ρ 22, ρ 23, ρ 24, ρ 25] (γ 1) := hJ
  have r0 : (0 : Int) ≤ ρ 0 ∧ ρ 0 ≤ 60 := zRnA hr 0
  have r1 : (0 : Int) ≤ ρ 1 ∧ ρ 1 ≤ 60 := zRnA hr 1
  have r2 : (0 : Int) ≤ ρ 2 ∧ ρ 2 ≤ 8 := zRnA hr 2
  have r3 : (0 : Int) ≤ ρ 3 ∧ ρ 3 ≤ 2000 := zRnA hr 3
  have r4 : (2 : Int) ≤ ρ 4 ∧ ρ 4 ≤ 2000 := zRnA hr 4
  have r5 : (2 : Int) ≤ ρ 5 ∧ ρ 5 ≤ 2 := zRnA hr 5
  have r6 : ((-1) : Int) ≤ ρ 6 ∧ ρ 6 ≤ 19 := zRnA hr 6
  have r7 : (0 : Int) ≤ ρ 7 ∧ ρ 7 ≤ 4 := zRnA hr 7
  have r8 : ((-1) : Int) ≤ ρ 8 ∧ ρ 8 ≤ 7 := zRnA hr 8
  have r9 : (0 : Int) ≤ ρ 9 ∧ ρ 9 ≤ 8 := zRnA hr 9
  have r10 : (0 : Int) ≤ ρ 10 ∧ ρ 10 ≤ 20 := zRnA hr 10
  have r11 : ((-2147483648) : Int) ≤ ρ 11 ∧ ρ 11 ≤ 2147483647 := zRnA hr 11
  have r12 : ((-2147483648) : Int) ≤ ρ 12 ∧ ρ 12 ≤ 2147483647 := zRnA hr 12
  have r13 : ((-2147483648) : Int) ≤ ρ 13 ∧ ρ 13 ≤ 2147483647 := zRnA hr 13
  have r14 : (0 : Int) ≤ ρ 14 ∧ ρ 14 ≤ 8 := zRnA hr 14
  have r15 : (0 : Int) ≤ ρ 15 ∧ ρ 15 ≤ 32 := zRnA hr 15
  have r16 : (0 : Int) ≤ ρ 16 ∧ ρ 16 ≤ 5120 := zRnA hr 16
  have r17 : (0 : Int) ≤ ρ 17 ∧ ρ 17 ≤ 7 := zRnA hr 17
  have r18 : (0 : Int) ≤ ρ 18 ∧ ρ 18 ≤ 2000 := zRnA hr 18
  have r19 : (0 : Int) ≤ ρ 19 ∧ ρ 19 ≤ 8 := zRnA hr 19
  have r20 : (0 : Int) ≤ ρ 20 ∧ ρ 20 ≤ 20 := zRnA hr 20
  have r21 : ((-2147483648) : Int) ≤ ρ 21 ∧ ρ 21 ≤ 2147483647 := zRnA hr 21
  have r22 : ((-2147483648) : Int) ≤ ρ 22 ∧ ρ 22 ≤ 2147483647 := zRnA hr 22
  have r23 : (0 : Int) ≤ ρ 23 ∧ ρ 23 ≤ 8 := zRnA hr 23
  have r24 : (0 : Int) ≤ ρ 24 ∧ ρ 24 ≤ 32 := zRnA hr 24
  have r25 : (0 : Int) ≤ ρ 25 ∧ ρ 25 ≤ 5120 := zRnA hr 25
  have r26 : (0 : Int) ≤ ρ 26 ∧ ρ 26 ≤ 8 := zRnA hr 26
  have r27 : ((-1) : Int) ≤ ρ 27 ∧ ρ 27 ≤ 7 := zRnA hr 27
  have r28 : ((-1) : Int) ≤ ρ 28 ∧ ρ 28 ≤ 19 := zRnA hr 28
  have r29 : (0 : Int) ≤ ρ 29 ∧ ρ 29 ≤ 4 := zRnA hr 29
  have r30 : ((-2147483648) : Int) ≤ ρ 30 ∧ ρ 30 ≤ 2147483647 := zRnA hr 30
  have r31 : ((-1) : Int) ≤ ρ 31 ∧ ρ 31 ≤ 3 := zRnA hr 31
  have r32 : (0 : Int) ≤ ρ 32 ∧ ρ 32 ≤ 4 := zRnA hr 32
  have r33 : (3 : Int) ≤ ρ 33 ∧ ρ 33 ≤ 2000 := zRnA hr 33
  have r34 : (2 : Int) ≤ ρ 34 ∧ ρ 34 ≤ 2 := zRnA hr 34
  have r35 : (0 : Int) ≤ ρ 35 ∧ ρ 35 ≤ 19 := zRnA hr 35
  have r36 : (1 : Int) ≤ ρ 36 ∧ ρ 36 ≤ 20 := zRnA hr 36
  have r37 : ((-2147483648) : Int) ≤ ρ 37 ∧ ρ 37 ≤ 2147483647 := zRnA hr 37
  have r38 : ((-2147483648) : Int) ≤ ρ 38 ∧ ρ 38 ≤ 2147483647 := zRnA hr 38
  have r39 : (0 : Int) ≤ ρ 39 ∧ ρ 39 ≤ 8 := zRnA hr 39
  have r40 : (0 : Int) ≤ ρ 40 ∧ ρ 40 ≤ 32 := zRnA hr 40
  have r41 : (0 : Int) ≤ ρ 41 ∧ ρ 41 ≤ 5120 := zRnA hr 41
  have r42 : (1 : Int) ≤ ρ 42 ∧ ρ 42 ≤ 4 := zRnA hr 42
  have r43 : (0 : Int) ≤ ρ 43 ∧ ρ 43 ≤ 1999 := zRnA hr 43
  have r44 : ((-1) : Int) ≤ ρ 44 ∧ ρ 44 ≤ 3 := zRnA hr 44
  have r45 : (0 : Int) ≤ ρ 45 ∧ ρ 45 ≤ 0 := zRnA hr 45
  have r46 : (44 : Int) ≤ ρ 46 ∧ ρ 46 ≤ 44 := zRnA hr 46
  have r47 : (0 : Int) ≤ ρ 47 ∧ ρ 47 ≤ 2000 := zRnA hr 47
  have f0 : (0 : Int) ≤ ρ 47 + -ρ 33 := zAllA hf 0
  have f1 : (0 : Int) ≤ -ρ 47 + ρ 4 + (-1) := zAllA hf 1
  have f2 : (0 : Int) ≤ -ρ 33 + ρ 4 + (-1) := zAllA hf 2
  have f3 : (0 : Int) ≤ -ρ 42 + ρ 33 + (-1) := zAllA hf 3
  have f4 : (0 : Int) ≤ -ρ 43 + ρ 33 + (-1) := zAllA hf 4
  have f5 : (0 : Int) ≤ -ρ 44 + ρ 33 + (-1) := zAllA hf 5
  have f6 : (0 : Int) ≤ ρ 33 + -ρ 18 + (-1) := zAllA hf 6
  have f7 : (0 : Int) ≤ ρ 36 + -ρ 35 + (-1) := zAllA hf 7
  have f8 : (0 : Int) ≤ ρ 36 + -ρ 20 := zAllA hf 8
  have f9 : (0 : Int) ≤ ρ 39 + -ρ 23 := zAllA hf 9
  have f10 : (0 : Int) ≤ ρ 40 + -ρ 24 := zAllA hf 10
  have f11 : (0 : Int) ≤ ρ 41 + -ρ 25 := zAllA hf 11
  have f12 : (0 : Int) ≤ ρ 43 + -ρ 18 := zAllA hf 12
  have f13 : (0 : Int) ≤ -ρ 33 + ρ 4 := zAllA hf 13
  have f14 : (0 : Int) ≤ -ρ 34 + ρ 4 + (-1) := zAllA hf 14
  have f15 : (0 : Int) ≤ -ρ 18 + ρ 4 + (-1) := zAllA hf 15
  have f16 : (0 : Int) ≤ -ρ 5 + ρ 4 + (-1) := zAllA hf 16
  have f17 : (0 : Int) ≤ -ρ 31 + ρ 4 := zAllA hf 17
  have f18 : (0 : Int) ≤ -ρ 35 + ρ 20 := zAllA hf 18
  have f19 : (0 : Int) ≤ -ρ 17 + ρ 4 := zAllA hf 19
  have f20 : (0 : Int) ≤ ρ 25 + -ρ 16 := zAllA hf 20
  have f21 : (0 : Int) ≤ ρ 24 + -ρ 15 := zAllA hf 21
  have f22 : (0 : Int) ≤ ρ 23 + -ρ 14 := zAllA hf 22
  have f23 : (0 : Int) ≤ ρ 20 + -ρ 10 := zAllA hf 23
  have f24 : (0 : Int) ≤ ρ 18 + -ρ 3 := zAllA hf 24
  have f25 : (0 : Int) ≤ ρ 18 + -ρ 17 := zAllA hf 25
  have f26 : (0 : Int) ≤ -ρ 19 + ρ 17 := zAllA hf 26
  have m0 : γ 0 1 0 10 = ρ 0 := zAllA hm 0
  have m1 : γ 0 40 0 (ρ 0) = ρ 1 := zAllA hm 1
  have m2 : γ 0 9 (ρ 1) 2 = ρ 2 := zAllA hm 2
  have m3 : γ 0 2 0 6 = ρ 3 := zAllA hm 3
  have m4 : γ 0 2 0 3 = ρ 4 := zAllA hm 4
  have m5 : γ 0 2 0 7 = ρ 5 := zAllA hm 5
  have m6 : γ 0 10 (9 * ρ 1) 8 = ρ 6 := zAllA hm 6
  have m7 : γ 0 10 (9 * ρ 1) 12 = ρ 7 := zAllA hm 7
  have m8 : γ 0 10 (9 * ρ 1) 14 = ρ 8 := zAllA hm 8
  have m9 : γ 0 9 (ρ 1) 3 = ρ 9 := zAllA hm 9
  have m10 : γ 0 1 0 7 = ρ 10 := zAllA hm 10
  have m11 : γ 0 2 0 4 = ρ 11 := zAllA hm 11
  have m12 : γ 0 2 0 5 = ρ 12 := zAllA hm 12
  have m13 : γ 0 2 0 9 = ρ 13 := zAllA hm 13
  have m14 : γ 0 2 0 13 = ρ 14 := zAllA hm 14
  have m15 : γ 0 2 0 16 = ρ 15 := zAllA hm 15
  have m16 : γ 0 3 0 1 = ρ 16 := zAllA hm 16
  have m17 : γ 1 9 (ρ 1) 2 = ρ 17 := zAllA hm 17
  have m18 : γ 1 2 0 6 = ρ 18 := zAllA hm 18
  have m19 : γ 1 10 (9 * ρ 1) 8 = ρ 6 := zAllA hm 19
  have m20 : γ 1 10 (9 * ρ 1) 12 = ρ 7 := zAllA hm 20
  have m21 : γ 1 9 (ρ 1) 3 = ρ 19 := zAllA hm 21
  have m22 : γ 1 1 0 7 = ρ 20 := zAllA hm 22
  have m23 : γ 1 2 0 4 = ρ 11 := zAllA hm 23
  have m24 : γ 1 2 0 5 = ρ 21 := zAllA hm 24
  have m25 : γ 1 2 0 9 = ρ 22 := zAllA hm 25
  have m26 : γ 1 2 0 13 = ρ 23 := zAllA hm 26
  have m27 : γ 1 2 0 16 = ρ 24 := zAllA hm 27
  have m28 : γ 1 3 0 1 = ρ 25 := zAllA hm 28
  have m29 : γ 1 10 (ρ 17 + 9 * ρ 1 + 1) 4 = ρ 26 := zAllA hm 29
  have m30 : γ 1 10 (ρ 17 + 9 * ρ 1 + 1) 11 = ρ 27 := zAllA hm 30
  have m31 : γ 1 10 (ρ 17 + 9 * ρ 1 + 1) 8 = ρ 28 := zAllA hm 31
  have m32 : γ 1 10 (ρ 17 + 9 * ρ 1 + 1) 5 = ρ 29 := zAllA hm 32
  have m33 : γ 1 10 (ρ 17 + 9 * ρ 1 + 1) 7 = ρ 30 := zAllA hm 33
  have m34 : γ 1 10 (ρ 17 + 9 * ρ 1 + 1) 9 = ρ 31 := zAllA hm 34
  have m35 : γ 1 10 (ρ 17 + 9 * ρ 1 + 1) 12 = ρ 32 := zAllA hm 35
  have m36 : γ 3 2 0 6 = ρ 33 := zAllA hm 36
  have m37 : γ 3 10 (ρ 17 + 9 * ρ 1 + 1) 4 = ρ 34 := zAllA hm 37
  have m38 : γ 3 10 (ρ 17 + 9 * ρ 1 + 1) 11 = ρ 27 := zAllA hm 38
  have m39 : γ 3 10 (ρ 17 + 9 * ρ 1 + 1) 8 = ρ 35 := zAllA hm 39
  have m40 : γ 3 10 (9 * ρ 1) 8 = ρ 6 := zAllA hm 40
  have m41 : γ 3 10 (9 * ρ 1) 12 = ρ 7 := zAllA hm 41
  have m42 : γ 3 1 0 7 = ρ 36 := zAllA hm 42
  have m43 : γ 3 2 0 4 = ρ 11 := zAllA hm 43
  have m44 : γ 3 2 0 5 = ρ 37 := zAllA hm 44
  have m45 : γ 3 2 0 9 = ρ 38 := zAllA hm 45
  have m46 : γ 3 2 0 13 = ρ 39 := zAllA hm 46
  have m47 : γ 3 2 0 16 = ρ 40 := zAllA hm 47
  have m48 : γ 3 3 0 1 = ρ 41 := zAllA hm 48
  have m49 : γ 3 10 (ρ 17 + 9 * ρ 1 + 1) 5 = ρ 42 := zAllA hm 49
  have m50 : γ 3 10 (ρ 17 + 9 * ρ 1 + 1) 7 = ρ 43 := zAllA hm 50
  have m51 : γ 3 10 (ρ 17 + 9 * ρ 1 + 1) 9 = ρ 44 := zAllA hm 51
  have m52 : γ 3 10 (ρ 17 + 9 * ρ 1 + 1) 12 = ρ 45 := zAllA hm 52
  have m53 : γ 5 2 0 6 = ρ 47 := zAllA hm 53
  have c1 : ∀ (G : Nat) (k j : Int), ¬ rMdP m107_ G j → γ 1 G k j = γ 0 G k j := And.right (zChA hc 5)
  have c2 : ∀ (G : Nat) (k j : Int), ¬ rMdP m0_ G j → γ 2 G k j = γ 1 G k j := And.right (zChA hc 4)
  have c3 : ∀ (G : Nat) (k j : Int), ¬ rMdP m106_ G j → γ 3 G k j = γ 2 G k j := And.right (zChA hc 3)
  have c4 : γ 4 = rUp (γ 3) 9 (ρ 1) 2 (ρ 17 + 1) := And.right (zChA hc 2)
  have c5 : ∀ (G : Nat) (k j : Int), ¬ rMdP m77_ G j → γ 5 G k j = γ 4 G k j := And.right (zChA hc 1)
  have c6 : γ 6 = rUp (γ 5) 2 0 6 (ρ 47 + 1) := And.right (zChA hc 0)
  have l0 : sn132 [ρ 1, ρ 17] (γ 1) 0 (ρ 17 + 9 * ρ 1 + 1) (γ 2) := hS132 _ _ _ _ _ (zAllA hl 0)
  have l1 : sn157 [ρ 0, ρ 1, ρ 17, ρ 18, ρ 4, ρ 26, ρ 27, ρ 28, ρ 5, ρ 6, ρ 7, ρ 20, ρ 11, ρ 21, ρ 22, ρ 23, ρ 24, ρ 25, ρ 29, ρ 30, ρ 31, ρ 32] (γ 2) 0 1 (γ 3) := hS157 _ _ _ _ _ (zAllA hl 1)
  have l2 : sn114 [ρ 33, ρ 4] (γ 4) 0 (ρ 46) (γ 5) := hS114 _ _ _ _ _ (zAllA hl 2)
  show jn159 [ρ 0, ρ 1, ρ 2, ρ 3, ρ 4, ρ 5, ρ 6, ρ 7, ρ 8, ρ 9, ρ 10, ρ 11, ρ 12, ρ 13, ρ 14, ρ 15, ρ 16] (γ 0) 0 [ρ 0, ρ 1, ρ 2, ρ 3, ρ 4, ρ 5, ρ 6, ρ 7, ρ 8, ρ 9, ρ 10, ρ 11, ρ 12, ρ 13, ρ 14, ρ 15, ρ 16, ρ 17 + 1, ρ 47 + 1, ρ 19, ρ 36, ρ 37, ρ 38, ρ 39, ρ 40, ρ 41] (γ 6)
  have hD : en159 (γ 0) (0, [], γ 1) = .inl (0, [], γ 6) := by
    unfold en159
    refine zIP (show (0 : Nat) = 0 by decide) (zLV (γ 1) rfl (zLE m0 (zLE m1 (zLE m17 (zLE m21 (zIN (show ¬ (ρ 17 ≥ 8) by omega) (zLE (show fn132 [ρ 1, ρ 17] (γ 1) = (0, ρ 17 + 9 * ρ 1 + 1, γ 2) from l0.symm) ?_)))))))
    refine zLV (γ 2) rfl (zLE (show fn157 [] (γ 2) = (0, 1, γ 3) from l1.symm) (zLV (γ 3) rfl (zIP (show (1 : Int) ≤ 1 by omega) (zIN (show ¬ (3 ≤ γ 3 10 (ρ 17 + 9 * ρ 1 + 1) 4) by omega) (zLE m37 (zLE c4.symm (zIP (show ρ 34 ≠ 1 by omega) ?_)))))))
    refine zLE (show fn114 [] (γ 4) = (0, ρ 46, γ 5) from l2.symm) (zLV (γ 5) rfl (zIP (show (0 : Int) ≤ ρ 46 by omega) (zLV (ρ 46) rfl (zLE m53 (zIP (show ρ 46 = 44 by omega) (zLE c6.symm ?_))))))
    rfl
  exact zGoo_ato hJ hD
theorem vn159a0_14 {S : Nat → zSpc} (hS109 : zIm S 109 sn109) (hS114 : zIm S 114 sn114) (hS132 : zIm S 132 sn132) (hS152 : zIm S 152 sn152) (hS157 : zIm S 157 sn157) {a : List Int} {g : rHp} : ∀ (ρ : Nat → Int) (γ : Nat → rHp), jn159 a g 0 (zAg (zNA a159_ 0) ρ) (γ 1) → zO 17 S a g q159a0_14 ρ γ → zGl (fun i vs g1 => jn159 a g i vs g1) (sn159 a g) q159a0_14 ρ γ := by
  intro ρ γ hJ h
  obtain ⟨ha, hg, hr, hf, hm, hc, hl⟩ := h
  have ha : a = [ρ 0, ρ 1, ρ 2, ρ 3, ρ 4, ρ 5, ρ 6, ρ 7, ρ 8, ρ 9, ρ 10, ρ 11, ρ 12, ρ 13, ρ 14, ρ 15, ρ 16] := ha
  subst ha
  subst hg
  have hJ : jn159 [ρ 0, ρ 1, ρ 2, ρ 3, ρ 4, ρ 5, ρ 6, ρ 7, ρ 8, ρ 9, ρ 10, ρ 11, ρ 12, ρ 13, ρ 14, ρ 15, ρ 16] (γ 0) 0 [ρ 0, ρ 1, ρ 2, ρ 3, ρ 4, ρ 5, ρ 6, ρ 7, ρ 8, ρ 9, ρ 10, ρ 11, ρ 12, ρ 13, ρ 14, ρ 15, ρ 16, ρ 17, ρ 18, ρ 19, ρ 20, ρ 21, ρ 22, ρ 23, ρ 24, ρ 25] (γ 1) := hJ
  have r0 : (0 : Int) ≤ ρ 0 ∧ ρ 0 ≤ 60 := zRnA hr 0
  have r1 : (0 : Int) ≤ ρ 1 ∧ ρ 1 ≤ 60 := zRnA hr 1
  have r2 : (0 : Int) ≤ ρ 2 ∧ ρ 2 ≤ 8 := zRnA hr 2
  have r3 : (0 : Int) ≤ ρ 3 ∧ ρ 3 ≤ 2000 := zRnA hr 3
  have r4 : (2 : Int) ≤ ρ 4 ∧ ρ 4 ≤ 2000 := zRnA hr 4
  have r5 : (2 : Int) ≤ ρ 5 ∧ ρ 5 ≤ 2 := zRnA hr 5
  have r6 : ((-1) : Int) ≤ ρ 6 ∧ ρ 6 ≤ 19 := zRnA hr 6
  have r7 : (0 : Int) ≤ ρ 7 ∧ ρ 7 ≤ 4 := zRnA hr 7
  have r8 : ((-1) : Int) ≤ ρ 8 ∧ ρ 8 ≤ 7 := zRnA hr 8
  have r9 : (0 : Int) ≤ ρ 9 ∧ ρ 9 ≤ 8 := zRnA hr 9
  have r10 : (0 : Int) ≤ ρ 10 ∧ ρ 10 ≤ 20 := zRnA hr 10
  have r11 : ((-2147483648) : Int) ≤ ρ 11 ∧ ρ 11 ≤ 2147483647 := zRnA hr 11
  have r12 : ((-2147483648) : Int) ≤ ρ 12 ∧ ρ 12 ≤ 2147483647 := zRnA hr 12
  have r13 : ((-2147483648) : Int) ≤ ρ 13 ∧ ρ 13 ≤ 2147483647 := zRnA hr 13
  have r14 : (0 : Int) ≤ ρ 14 ∧ ρ 14 ≤ 8 := zRnA hr 14
  have r15 : (0 : Int) ≤ ρ 15 ∧ ρ 15 ≤ 32 := zRnA hr 15
  have r16 : (0 : Int) ≤ ρ 16 ∧ ρ 16 ≤ 5120 := zRnA hr 16
  have r17 : (0 : Int) ≤ ρ 17 ∧ ρ 17 ≤ 7 := zRnA hr 17
  have r18 : (0 : Int) ≤ ρ 18 ∧ ρ 18 ≤ 2000 := zRnA hr 18
  have r19 : (0 : Int) ≤ ρ 19 ∧ ρ 19 ≤ 8 := zRnA hr 19
  have r20 : (0 : Int) ≤ ρ 20 ∧ ρ 20 ≤ 20 := zRnA hr 20
  have r21 : ((-2147483648) : Int) ≤ ρ 21 ∧ ρ 21 ≤ 2147483647 := zRnA hr 21
  have r22 : ((-2147483648) : Int) ≤ ρ 22 ∧ ρ 22 ≤ 2147483647 := zRnA hr 22
  have r23 : (0 : Int) ≤ ρ 23 ∧ ρ 23 ≤ 8 := zRnA hr 23
  have r24 : (0 : Int) ≤ ρ 24 ∧ ρ 24 ≤ 32 := zRnA hr 24
  have r25 : (0 : Int) ≤ ρ 25 ∧ ρ 25 ≤ 5120 := zRnA hr 25
  have r26 : (0 : Int) ≤ ρ 26 ∧ ρ 26 ≤ 8 := zRnA hr 26
  have r27 : ((-1) : Int) ≤ ρ 27 ∧ ρ 27 ≤ 7 := zRnA hr 27
  have r28 : ((-1) : Int) ≤ ρ 28 ∧ ρ 28 ≤ 19 := zRnA hr 28
  have r29 : (0 : Int) ≤ ρ 29 ∧ ρ 29 ≤ 4 := zRnA hr 29
  have r30 : ((-2147483648) : Int) ≤ ρ 30 ∧ ρ 30 ≤ 2147483647 := zRnA hr 30
  have r31 : ((-1) : Int) ≤ ρ 31 ∧ ρ 31 ≤ 3 := zRnA hr 31
  have r32 : (0 : Int) ≤ ρ 32 ∧ ρ 32 ≤ 4 := zRnA hr 32
  have r33 : (3 : Int) ≤ ρ 33 ∧ ρ 33 ≤ 2000 := zRnA hr 33
  have r34 : (2 : Int) ≤ ρ 34 ∧ ρ 34 ≤ 2 := zRnA hr 34
  have r35 : (0 : Int) ≤ ρ 35 ∧ ρ 35 ≤ 19 := zRnA hr 35
  have r36 : (1 : Int) ≤ ρ 36 ∧ ρ 36 ≤ 20 := zRnA hr 36
  have r37 : ((-2147483648) : Int) ≤ ρ 37 ∧ ρ 37 ≤ 2147483647 := zRnA hr 37
  have r38 : ((-2147483648) : Int) ≤ ρ 38 ∧ ρ 38 ≤ 2147483647 := zRnA hr 38
  have r39 : (0 : Int) ≤ ρ 39 ∧ ρ 39 ≤ 8 := zRnA hr 39
  have r40 : (0 : Int) ≤ ρ 40 ∧ ρ 40 ≤ 32 := zRnA hr 40
  have r41 : (0 : Int) ≤ ρ 41 ∧ ρ 41 ≤ 5120 := zRnA hr 41
  have r42 : (1 : Int) ≤ ρ 42 ∧ ρ 42 ≤ 4 := zRnA hr 42
  have r43 : (0 : Int) ≤ ρ 43 ∧ ρ 43 ≤ 1999 := zRnA hr 43
  have r44 : ((-1) : Int) ≤ ρ 44 ∧ ρ 44 ≤ 3 := zRnA hr 44
  have r45 : (0 : Int) ≤ ρ 45 ∧ ρ 45 ≤ 0 := zRnA hr 45
  have r46 : (0 : Int) ≤ ρ 46 ∧ ρ 46 ≤ 255 := zRnA hr 46
  have r47 : (0 : Int) ≤ ρ 47 ∧ ρ 47 ≤ 2000 := zRnA hr 47
  have f0 : (0 : Int) ≤ ρ 47 + -ρ 33 := zAllA hf 0
  have f1 : (0 : Int) ≤ -ρ 47 + ρ 4 + (-1) := zAllA hf 1
  have f2 : (0 : Int) ≤ -ρ 33 + ρ 4 + (-1) := zAllA hf 2
  have f3 : (0 : Int) ≤ -ρ 42 + ρ 33 + (-1) := zAllA hf 3
  have f4 : (0 : Int) ≤ -ρ 43 + ρ 33 + (-1) := zAllA hf 4
  have f5 : (0 : Int) ≤ -ρ 44 + ρ 33 + (-1) := zAllA hf 5
  have f6 : (0 : Int) ≤ ρ 33 + -ρ 18 + (-1) := zAllA hf 6
  have f7 : (0 : Int) ≤ ρ 36 + -ρ 35 + (-1) := zAllA hf 7
  have f8 : (0 : Int) ≤ ρ 36 + -ρ 20 := zAllA hf 8
  have f9 : (0 : Int) ≤ ρ 39 + -ρ 23 := zAllA hf 9
  have f10 : (0 : Int) ≤ ρ 40 + -ρ 24 := zAllA hf 10
  have f11 : (0 : Int) ≤ ρ 41 + -ρ 25 := zAllA hf 11
  have f12 : (0 : Int) ≤ ρ 43 + -ρ 18 := zAllA hf 12
  have f13 : (0 : Int) ≤ -ρ 33 + ρ 4 := zAllA hf 13
  have f14 : (0 : Int) ≤ -ρ 34 + ρ 4 + (-1) := zAllA hf 14
  have f15 : (0 : Int) ≤ -ρ 18 + ρ 4 + (-1) := zAllA hf 15
  have f16 : (0 : Int) ≤ -ρ 5 + ρ 4 + (-1) := zAllA hf 16
  have f17 : (0 : Int) ≤ -ρ 31 + ρ 4 := zAllA hf 17
  have f18 : (0 : Int) ≤ -ρ 35 + ρ 20 := zAllA hf 18
  have f19 : (0 : Int) ≤ -ρ 17 + ρ 4 := zAllA hf 19
  have f20 : (0 : Int) ≤ ρ 25 + -ρ 16 := zAllA hf 20
  have f21 : (0 : Int) ≤ ρ 24 + -ρ 15 := zAllA hf 21
  have f22 : (0 : Int) ≤ ρ 23 + -ρ 14 := zAllA hf 22
  have f23 : (0 : Int) ≤ ρ 20 + -ρ 10 := zAllA hf 23
  have f24 : (0 : Int) ≤ ρ 18 + -ρ 3 := zAllA hf 24
  have f25 : (0 : Int) ≤ ρ 18 + -ρ 17 := zAllA hf 25
  have f26 : (0 : Int) ≤ -ρ 19 + ρ 17 := zAllA hf 26
  have m0 : γ 0 1 0 10 = ρ 0 := zAllA hm 0
  have m1 : γ 0 40 0 (ρ 0) = ρ 1 := zAllA hm 1
  have m2 : γ 0 9 (ρ 1) 2 = ρ 2 := zAllA hm 2
  have m3 : γ 0 2 0 6 = ρ 3 := zAllA hm 3
  have m4 : γ 0 2 0 3 = ρ 4 := zAllA hm 4
  have m5 : γ 0 2 0 7 = ρ 5 := zAllA hm 5
  have m6 : γ 0 10 (9 * ρ 1) 8 = ρ 6 := zAllA hm 6
  have m7 : γ 0 10 (9 * ρ 1) 12 = ρ 7 := zAllA hm 7
  have m8 : γ 0 10 (9 * ρ 1) 14 = ρ 8 := zAllA hm 8
  have m9 : γ 0 9 (ρ 1) 3 = ρ 9 := zAllA hm 9
  have m10 : γ 0 1 0 7 = ρ 10 := zAllA hm 10
  have m11 : γ 0 2 0 4 = ρ 11 := zAllA hm 11
  have m12 : γ 0 2 0 5 = ρ 12 := zAllA hm 12
  have m13 : γ 0 2 0 9 = ρ 13 := zAllA hm 13
  have m14 : γ 0 2 0 13 = ρ 14 := zAllA hm 14
  have m15 : γ 0 2 0 16 = ρ 15 := zAllA hm 15
  have m16 : γ 0 3 0 1 = ρ 16 := zAllA hm 16
  have m17 : γ 1 9 (ρ 1) 2 = ρ 17 := zAllA hm 17
  have m18 : γ 1 2 0 6 = ρ 18 := zAllA hm 18
  have m19 : γ 1 10 (9 * ρ 1) 8 = ρ 6 := zAllA hm 19
  have m20 : γ 1 10 (9 * ρ 1) 12 = ρ 7 := zAllA hm 20
  have m21 : γ 1 9 (ρ 1) 3 = ρ 19 := zAllA hm 21
  have m22 : γ 1 1 0 7 = ρ 20 := zAllA hm 22
  have m23 : γ 1 2 0 4 = ρ 11 := zAllA hm 23
  have m24 : γ 1 2 0 5 = ρ 21 := zAllA hm 24
  have m25 : γ 1 2 0 9 = ρ 22 := zAllA hm 25
  have m26 : γ 1 2 0 13 = ρ 23 := zAllA hm 26
  have m27 : γ 1 2 0 16 = ρ 24 := zAllA hm 27
  have m28 : γ 1 3 0 1 = ρ 25 := zAllA hm 28
  have m29 : γ 1 10 (ρ 17 + 9 * ρ 1 + 1) 4 = ρ 26 := zAllA hm 29
  have m30 : γ 1 10 (ρ 17 + 9 * ρ 1 + 1) 11 = ρ 27 := zAllA hm 30
  have m31 : γ 1 10 (ρ 17 + 9 * ρ 1 + 1) 8 = ρ 28 := zAllA hm 31
  have m32 : γ 1 10 (ρ 17 + 9 * ρ 1 + 1) 5 = ρ 29 := zAllA hm 32
  have m33 : γ 1 10 (ρ 17 + 9 * ρ 1 + 1) 7 = ρ 30 := zAllA hm 33
  have m34 : γ 1 10 (ρ 17 + 9 * ρ 1 + 1) 9 = ρ 31 := zAllA hm 34
  have m35 : γ 1 10 (ρ 17 + 9 * ρ 1 + 1) 12 = ρ 32 := zAllA hm 35
  have m36 : γ 3 2 0 6 = ρ 33 := zAllA hm 36
  have m37 : γ 3 10 (ρ 17 + 9 * ρ 1 + 1) 4 = ρ 34 := zAllA hm 37
  have m38 : γ 3 10 (ρ 17 + 9 * ρ 1 + 1) 11 = ρ 27 := zAllA hm 38
  have m39 : γ 3 10 (ρ 17 + 9 * ρ 1 + 1) 8 = ρ 35 := zAllA hm 39
  have m40 : γ 3 10 (9 * ρ 1) 8 = ρ 6 := zAllA hm 40
  have m41 : γ 3 10 (9 * ρ 1) 12 = ρ 7 := zAllA hm 41
  have m42 : γ 3 1 0 7 = ρ 36 := zAllA hm 42
  have m43 : γ 3 2 0 4 = ρ 11 := zAllA hm 43
  have m44 : γ 3 2 0 5 = ρ 37 := zAllA hm 44
  have m45 : γ 3 2 0 9 = ρ 38 := zAllA hm 45
  have m46 : γ 3 2 0 13 = ρ 39 := zAllA hm 46
  have m47 : γ 3 2 0 16 = ρ 40 := zAllA hm 47
  have m48 : γ 3 3 0 1 = ρ 41 := zAllA hm 48
  have m49 : γ 3 10 (ρ 17 + 9 * ρ 1 + 1) 5 = ρ 42 := zAllA hm 49
  have m50 : γ 3 10 (ρ 17 + 9 * ρ 1 + 1) 7 = ρ 43 := zAllA hm 50
  have m51 : γ 3 10 (ρ 17 + 9 * ρ 1 + 1) 9 = ρ 44 := zAllA hm 51
  have m52 : γ 3 10 (ρ 17 + 9 * ρ 1 + 1) 12 = ρ 45 := zAllA hm 52
  have m53 : γ 5 2 0 6 = ρ 47 := zAllA hm 53
  have m54 : γ 6 2 0 4 = ρ 47 := zAllA hm 54
  have c1 : ∀ (G : Nat) (k j : Int), ¬ rMdP m107_ G j → γ 1 G k j = γ 0 G k j := And.right (zChA hc 5)
  have c2 : ∀ (G : Nat) (k j : Int), ¬ rMdP m0_ G j → γ 2 G k j = γ 1 G k j := And.right (zChA hc 4)
  have c3 : ∀ (G : Nat) (k j : Int), ¬ rMdP m106_ G j → γ 3 G k j = γ 2 G k j := And.right (zChA hc 3)
  have c4 : γ 4 = rUp (γ 3) 9 (ρ 1) 2 (ρ 17 + 1) := And.right (zChA hc 2)
  have c5 : ∀ (G : Nat) (k j : Int), ¬ rMdP m77_ G j → γ 5 G k j = γ 4 G k j := And.right (zChA hc 1)
  have c6 : ∀ (G : Nat) (k j : Int), ¬ rMdP m72_ G j → γ 6 G k j = γ 5 G k j := And.right (zChA hc 0)
  have l0 : sn132 [ρ 1, ρ 17] (γ 1) 0 (ρ 17 + 9 * ρ 1 + 1) (γ 2) := hS132 _ _ _ _ _ (zAllA hl 0)
  have l1 : sn157 [ρ 0, ρ 1, ρ 17, ρ 18, ρ 4, ρ 26, ρ 27, ρ 28, ρ 5, ρ 6, ρ 7, ρ 20, ρ 11, ρ 21, ρ 22, ρ 23, ρ 24, ρ 25, ρ 29, ρ 30, ρ 31, ρ 32] (γ 2) 0 1 (γ 3) := hS157 _ _ _ _ _ (zAllA hl 1)
  have l2 : sn114 [ρ 33, ρ 4] (γ 4) 0 (ρ 46) (γ 5) := hS114 _ _ _ _ _ (zAllA hl 2)
  have l3 : ρ 46 ≠ 44 := zAllA hl 3
  have l4 : sn109 [ρ 47, ρ 11] (γ 5) 0 0 (γ 6) := hS109 _ _ _ _ _ (zAllA hl 4)
  show sn159 [ρ 0, ρ 1, ρ 2, ρ 3, ρ 4, ρ 5, ρ 6, ρ 7, ρ 8, ρ 9, ρ 10, ρ 11, ρ 12, ρ 13, ρ 14, ρ 15, ρ 16] (γ 0) 0 0 (γ 6)
  have hD : en159 (γ 0) (0, [], γ 1) = .inr (0, 0, γ 6) := by
    unfold en159
    refine zIP (show (0 : Nat) = 0 by decide) (zLV (γ 1) rfl (zLE m0 (zLE m1 (zLE m17 (zLE m21 (zIN (show ¬ (ρ 17 ≥ 8) by omega) (zLE (show fn132 [ρ 1, ρ 17] (γ 1) = (0, ρ 17 + 9 * ρ 1 + 1, γ 2) from l0.symm) ?_)))))))
    refine zLV (γ 2) rfl (zLE (show fn157 [] (γ 2) = (0, 1, γ 3) from l1.symm) (zLV (γ 3) rfl (zIP (show (1 : Int) ≤ 1 by omega) (zIN (show ¬ (3 ≤ γ 3 10 (ρ 17 + 9 * ρ 1 + 1) 4) by omega) (zLE m37 (zLE c4.symm (zIP (show ρ 34 ≠ 1 by omega) ?_)))))))
    refine zLE (show fn114 [] (γ 4) = (0, ρ 46, γ 5) from l2.symm) (zLV (γ 5) rfl (zIP (show (0 : Int) ≤ ρ 46 by omega) (zLV (ρ 46) rfl (zLE m53 (zIN (show ¬ (ρ 46 = 44) by omega) (zLE (show fn109 [ρ 47] (γ 5) = (0, 0, γ 6) from l4.symm) (zLV (γ 6) rfl ?_)))))))
    rfl
  exact zGoo_aend hJ hD
theorem vn159a0_15 {S : Nat → zSpc} (hS109 : zIm S 109 sn109) (hS114 : zIm S 114 sn114) (hS132 : zIm S 132 sn132) (hS152 : zIm S 152 sn152) (hS157 : zIm S 157 sn157) {a : List Int} {g : rHp} : ∀ (ρ : Nat → Int) (γ : Nat → rHp), jn159 a g 0 (zAg (zNA a159_ 0) ρ) (γ 1) → zO 17 S a g q159a0_15 ρ γ → zGl (fun i vs g1 => jn159 a g i vs g1) (sn159 a g) q159a0_15 ρ γ := by
  intro ρ γ hJ h
  obtain ⟨ha, hg, hr, hf, hm, hc, hl⟩ := h
  have ha : a = [ρ 0, ρ 1, ρ 2, ρ 3, ρ 4, ρ 5, ρ 6, ρ 7, ρ 8, ρ 9, ρ 10, ρ 11, ρ 12, ρ 13, ρ 14, ρ 15, ρ 16] := ha
  subst ha
  subst hg
  have hJ : jn159 [ρ 0, ρ 1, ρ 2, ρ 3, ρ 4, ρ 5, ρ 6, ρ 7, ρ 8, ρ 9, ρ 10, ρ 11, ρ 12, ρ 13, ρ 14, ρ 15, ρ 16] (γ 0) 0 [ρ 0, ρ 1, ρ 2, ρ 3, ρ 4, ρ 5, ρ 6, ρ 7, ρ 8, ρ 9, ρ 10, ρ 11, ρ 12, ρ 13, ρ 14, ρ 15, ρ 16, ρ 17, ρ 18, ρ 19, ρ 20, ρ 21, ρ 22, ρ 23, ρ 24, ρ 25] (γ 1) := hJ
  have r0 : (0 : Int) ≤ ρ 0 ∧ ρ 0 ≤ 60 := zRnA hr 0
  have r1 : (0 : Int) ≤ ρ 1 ∧ ρ 1 ≤ 60 := zRnA hr 1
  have r2 : (0 : Int) ≤ ρ 2 ∧ ρ 2 ≤ 8 := zRnA hr 2
  have r3 : (0 : Int) ≤ ρ 3 ∧ ρ 3 ≤ 2000 := zRnA hr 3
  have r4 : (2 : Int) ≤ ρ 4 ∧ ρ 4 ≤ 2000 := zRnA hr 4
  have r5 : (2 : Int) ≤ ρ 5 ∧ ρ 5 ≤ 2 := zRnA hr 5
  have r6 : ((-1) : Int) ≤ ρ 6 ∧ ρ 6 ≤ 19 := zRnA hr 6
  have r7 : (0 : Int) ≤ ρ 7 ∧ ρ 7 ≤ 4 := zRnA hr 7
  have r8 : ((-1) : Int) ≤ ρ 8 ∧ ρ 8 ≤ 7 := zRnA hr 8
  have r9 : (0 : Int) ≤ ρ 9 ∧ ρ 9 ≤ 8 := zRnA hr 9
  have r10 : (0 : Int) ≤ ρ 10 ∧ ρ 10 ≤ 20 := zRnA hr 10
  have r11 : ((-2147483648) : Int) ≤ ρ 11 ∧ ρ 11 ≤ 2147483647 := zRnA hr 11
  have r12 : ((-2147483648) : Int) ≤ ρ 12 ∧ ρ 12 ≤ 2147483647 := zRnA hr 12
  have r13 : ((-2147483648) : Int) ≤ ρ 13 ∧ ρ 13 ≤ 2147483647 := zRnA hr 13
  have r14 : (0 : Int) ≤ ρ 14 ∧ ρ 14 ≤ 8 := zRnA hr 14
  have r15 : (0 : Int) ≤ ρ 15 ∧ ρ 15 ≤ 32 := zRnA hr 15
  have r16 : (0 : Int) ≤ ρ 16 ∧ ρ 16 ≤ 5120 := zRnA hr 16
  have r17 : (0 : Int) ≤ ρ 17 ∧ ρ 17 ≤ 7 := zRnA hr 17
  have r18 : (0 : Int) ≤ ρ 18 ∧ ρ 18 ≤ 2000 := zRnA hr 18
  have r19 : (0 : Int) ≤ ρ 19 ∧ ρ 19 ≤ 8 := zRnA hr 19
  have r20 : (0 : Int) ≤ ρ 20 ∧ ρ 20 ≤ 20 := zRnA hr 20
  have r21 : ((-2147483648) : Int) ≤ ρ 21 ∧ ρ 21 ≤ 2147483647 := zRnA hr 21
  have r22 : ((-2147483648) : Int) ≤ ρ 22 ∧ ρ 22 ≤ 2147483647 := zRnA hr 22
  have r23 : (0 : Int) ≤ ρ 23 ∧ ρ 23 ≤ 8 := zRnA hr 23
  have r24 : (0 : Int) ≤ ρ 24 ∧ ρ 24 ≤ 32 := zRnA hr 24
  have r25 : (0 : Int) ≤ ρ 25 ∧ ρ 25 ≤ 5120 := zRnA hr 25
  have r26 : (0 : Int) ≤ ρ 26 ∧ ρ 26 ≤ 8 := zRnA hr 26
  have r27 : ((-1) : Int) ≤ ρ 27 ∧ ρ 27 ≤ 7 := zRnA hr 27
  have r28 : ((-1) : Int) ≤ ρ 28 ∧ ρ 28 ≤ 19 := zRnA hr 28
  have r29 : (0 : Int) ≤ ρ 29 ∧ ρ 29 ≤ 4 := zRnA hr 29
  have r30 : ((-2147483648) : Int) ≤ ρ 30 ∧ ρ 30 ≤ 2147483647 := zRnA hr 30
  have r31 : ((-1) : Int) ≤ ρ 31 ∧ ρ 31 ≤ 3 := zRnA hr 31
  have r32 : (0 : Int) ≤ ρ 32 ∧ ρ 32 ≤ 4 := zRnA hr 32
  have r33 : (3 : Int) ≤ ρ 33 ∧ ρ 33 ≤ 2000 := zRnA hr 33
  have r34 : (1 : Int) ≤ ρ 34 ∧ ρ 34 ≤ 1 := zRnA hr 34
  have r35 : (0 : Int) ≤ ρ 35 ∧ ρ 35 ≤ 19 := zRnA hr 35
  have r36 : (1 : Int) ≤ ρ 36 ∧ ρ 36 ≤ 20 := zRnA hr 36
  have r37 : ((-2147483648) : Int) ≤ ρ 37 ∧ ρ 37 ≤ 2147483647 := zRnA hr 37
  have r38 : ((-2147483648) : Int) ≤ ρ 38 ∧ ρ 38 ≤ 2147483647 := zRnA hr 38
  have r39 : (0 : Int) ≤ ρ 39 ∧ ρ 39 ≤ 8 := zRnA hr 39
  have r40 : (0 : Int) ≤ ρ 40 ∧ ρ 40 ≤ 32 := zRnA hr 40
  have r41 : (0 : Int) ≤ ρ 41 ∧ ρ 41 ≤ 5120 := zRnA hr 41
  have r42 : (1 : Int) ≤ ρ 42 ∧ ρ 42 ≤ 4 := zRnA hr 42
  have r43 : (0 : Int) ≤ ρ 43 ∧ ρ 43 ≤ 1999 := zRnA hr 43
  have r44 : ((-1) : Int) ≤ ρ 44 ∧ ρ 44 ≤ 3 := zRnA hr 44
  have r45 : (0 : Int) ≤ ρ 45 ∧ ρ 45 ≤ 0 := zRnA hr 45
  have r46 : (0 : Int) ≤ ρ 46 ∧ ρ 46 ≤ 2000 := zRnA hr 46
  have r47 : ((-2147483648) : Int) ≤ ρ 47 ∧ ρ 47 ≤ 2147483647 := zRnA hr 47
  have f0 : (0 : Int) ≤ ρ 46 + -ρ 33 := zAllA hf 0
  have f1 : (0 : Int) ≤ ρ 46 + -ρ 4 := zAllA hf 1
  have f2 : (0 : Int) ≤ -ρ 42 + ρ 33 + (-1) := zAllA hf 2
  have f3 : (0 : Int) ≤ -ρ 43 + ρ 33 + (-1) := zAllA hf 3
  have f4 : (0 : Int) ≤ -ρ 44 + ρ 33 + (-1) := zAllA hf 4
  have f5 : (0 : Int) ≤ ρ 33 + -ρ 18 + (-1) := zAllA hf 5
  have f6 : (0 : Int) ≤ ρ 36 + -ρ 35 + (-1) := zAllA hf 6
  have f7 : (0 : Int) ≤ ρ 36 + -ρ 20 := zAllA hf 7
  have f8 : (0 : Int) ≤ ρ 39 + -ρ 23 := zAllA hf 8
  have f9 : (0 : Int) ≤ ρ 40 + -ρ 24 := zAllA hf 9
  have f10 : (0 : Int) ≤ ρ 41 + -ρ 25 := zAllA hf 10
  have f11 : (0 : Int) ≤ ρ 43 + -ρ 18 := zAllA hf 11
  have f12 : (0 : Int) ≤ -ρ 33 + ρ 4 := zAllA hf 12
  have f13 : (0 : Int) ≤ -ρ 34 + ρ 4 + (-1) := zAllA hf 13
  have f14 : (0 : Int) ≤ -ρ 18 + ρ 4 + (-1) := zAllA hf 14
  have f15 : (0 : Int) ≤ -ρ 5 + ρ 4 + (-1) := zAllA hf 15
  have f16 : (0 : Int) ≤ -ρ 31 + ρ 4 := zAllA hf 16
  have f17 : (0 : Int) ≤ -ρ 35 + ρ 20 := zAllA hf 17
  have f18 : (0 : Int) ≤ -ρ 17 + ρ 4 := zAllA hf 18
  have f19 : (0 : Int) ≤ ρ 25 + -ρ 16 := zAllA hf 19
  have f20 : (0 : Int) ≤ ρ 24 + -ρ 15 := zAllA hf 20
  have f21 : (0 : Int) ≤ ρ 23 + -ρ 14 := zAllA hf 21
  have f22 : (0 : Int) ≤ ρ 20 + -ρ 10 := zAllA hf 22
  have f23 : (0 : Int) ≤ ρ 18 + -ρ 3 := zAllA hf 23
  have f24 : (0 : Int) ≤ ρ 18 + -ρ 17 := zAllA hf 24
  have f25 : (0 : Int) ≤ -ρ 19 + ρ 17 := zAllA hf 25
  have m0 : γ 0 1 0 10 = ρ 0 := zAllA hm 0
  have m1 : γ 0 40 0 (ρ 0) = ρ 1 := zAllA hm 1
  have m2 : γ 0 9 (ρ 1) 2 = ρ 2 := zAllA hm 2
  have m3 : γ 0 2 0 6 = ρ 3 := zAllA hm 3
  have m4 : γ 0 2 0 3 = ρ 4 := zAllA hm 4
  have m5 : γ 0 2 0 7 = ρ 5 := zAllA hm 5
  have m6 : γ 0 10 (9 * ρ 1) 8 = ρ 6 := zAllA hm 6
  have m7 : γ 0 10 (9 * ρ 1) 12 = ρ 7 := zAllA hm 7
  have m8 : γ 0 10 (9 * ρ 1) 14 = ρ 8 := zAllA hm 8
  have m9 : γ 0 9 (ρ 1) 3 = ρ 9 := zAllA hm 9
  have m10 : γ 0 1 0 7 = ρ 10 := zAllA hm 10
  have m11 : γ 0 2 0 4 = ρ 11 := zAllA hm 11
  have m12 : γ 0 2 0 5 = ρ 12 := zAllA hm 12
  have m13 : γ 0 2 0 9 = ρ 13 := zAllA hm 13
  have m14 : γ 0 2 0 13 = ρ 14 := zAllA hm 14
  have m15 : γ 0 2 0 16 = ρ 15 := zAllA hm 15
  have m16 : γ 0 3 0 1 = ρ 16 := zAllA hm 16
  have m17 : γ 1 9 (ρ 1) 2 = ρ 17 := zAllA hm 17
  have m18 : γ 1 2 0 6 = ρ 18 := zAllA hm 18
  have m19 : γ 1 10 (9 * ρ 1) 8 = ρ 6 := zAllA hm 19
  have m20 : γ 1 10 (9 * ρ 1) 12 = ρ 7 := zAllA hm 20
  have m21 : γ 1 9 (ρ 1) 3 = ρ 19 := zAllA hm 21
  have m22 : γ 1 1 0 7 = ρ 20 := zAllA hm 22
  have m23 : γ 1 2 0 4 = ρ 11 := zAllA hm 23
  have m24 : γ 1 2 0 5 = ρ 21 := zAllA hm 24
  have m25 : γ 1 2 0 9 = ρ 22 := zAllA hm 25
  have m26 : γ 1 2 0 13 = ρ 23 := zAllA hm 26
  have m27 : γ 1 2 0 16 = ρ 24 := zAllA hm 27
  have m28 : γ 1 3 0 1 = ρ 25 := zAllA hm 28
  have m29 : γ 1 10 (ρ 17 + 9 * ρ 1 + 1) 4 = ρ 26 := zAllA hm 29
  have m30 : γ 1 10 (ρ 17 + 9 * ρ 1 + 1) 11 = ρ 27 := zAllA hm 30
  have m31 : γ 1 10 (ρ 17 + 9 * ρ 1 + 1) 8 = ρ 28 := zAllA hm 31
  have m32 : γ 1 10 (ρ 17 + 9 * ρ 1 + 1) 5 = ρ 29 := zAllA hm 32
  have m33 : γ 1 10 (ρ 17 + 9 * ρ 1 + 1) 7 = ρ 30 := zAllA hm 33
  have m34 : γ 1 10 (ρ 17 + 9 * ρ 1 + 1) 9 = ρ 31 := zAllA hm 34
  have m35 : γ 1 10 (ρ 17 + 9 * ρ 1 + 1) 12 = ρ 32 := zAllA hm 35
  have m36 : γ 3 2 0 6 = ρ 33 := zAllA hm 36
  have m37 : γ 3 10 (ρ 17 + 9 * ρ 1 + 1) 4 = ρ 34 := zAllA hm 37
  have m38 : γ 3 10 (ρ 17 + 9 * ρ 1 + 1) 11 = ρ 27 := zAllA hm 38
  have m39 : γ 3 10 (ρ 17 + 9 * ρ 1 + 1) 8 = ρ 35 := zAllA hm 39
  have m40 : γ 3 10 (9 * ρ 1) 8 = ρ 6 := zAllA hm 40
  have m41 : γ 3 10 (9 * ρ 1) 12 = ρ 7 := zAllA hm 41
  have m42 : γ 3 1 0 7 = ρ 36 := zAllA hm 42
  have m43 : γ 3 2 0 4 = ρ 11 := zAllA hm 43
  have m44 : γ 3 2 0 5 = ρ 37 := zAllA hm 44
  have m45 : γ 3 2 0 9 = ρ 38 := zAllA hm 45
  have m46 : γ 3 2 0 13 = ρ 39 := zAllA hm 46
  have m47 : γ 3 2 0 16 = ρ 40 := zAllA hm 47
  have m48 : γ 3 3 0 1 = ρ 41 := zAllA hm 48
  have m49 : γ 3 10 (ρ 17 + 9 * ρ 1 + 1) 5 = ρ 42 := zAllA hm 49
  have m50 : γ 3 10 (ρ 17 + 9 * ρ 1 + 1) 7 = ρ 43 := zAllA hm 50
  have m51 : γ 3 10 (ρ 17 + 9 * ρ 1 + 1) 9 = ρ 44 := zAllA hm 51
  have m52 : γ 3 10 (ρ 17 + 9 * ρ 1 + 1) 12 = ρ 45 := zAllA hm 52
  have m53 : γ 7 2 0 6 = ρ 46 := zAllA hm 53
  have m54 : γ 9 2 0 4 = ρ 47 := zAllA hm 54
  have c1 : ∀ (G : Nat) (k j : Int), ¬ rMdP m107_ G j → γ 1 G k j = γ 0 G k j := And.right (zChA hc 8)
  have c2 : ∀ (G : Nat) (k j : Int), ¬ rMdP m0_ G j → γ 2 G k j = γ 1 G k j := And.right (zChA hc 7)
  have c3 : ∀ (G : Nat) (k j : Int), ¬ rMdP m106_ G j → γ 3 G k j = γ 2 G k j := And.right (zChA hc 6)
  have c4 : γ 4 = rUp (γ 3) 9 (ρ 1) 2 (ρ 17 + 1) := And.right (zChA hc 5)
  have c5 : γ 5 = rUp (γ 4) 10 (ρ 17 + 9 * ρ 1 + 1) 10 (ρ 19) := And.right (zChA hc 4)
  have c6 : γ 6 = rUp (γ 5) 9 (ρ 1) 3 (ρ 19 + 1) := And.right (zChA hc 3)
  have c7 : ∀ (G : Nat) (k j : Int), ¬ rMdP m77_ G j → γ 7 G k j = γ 6 G k j := And.right (zChA hc 2)
  have c8 : γ 8 = rUp (γ 7) 2 0 6 (ρ 46 + 1) := And.right (zChA hc 1)
  have c9 : ∀ (G : Nat) (k j : Int), ¬ rMdP m72_ G j → γ 9 G k j = γ 8 G k j := And.right (zChA hc 0)
  have l0 : sn132 [ρ 1, ρ 17] (γ 1) 0 (ρ 17 + 9 * ρ 1 + 1) (γ 2) := hS132 _ _ _ _ _ (zAllA hl 0)
  have l1 : sn157 [ρ 0, ρ 1, ρ 17, ρ 18, ρ 4, ρ 26, ρ 27, ρ 28, ρ 5, ρ 6, ρ 7, ρ 20, ρ 11, ρ 21, ρ 22, ρ 23, ρ 24, ρ 25, ρ 29, ρ 30, ρ 31, ρ 32] (γ 2) 0 1 (γ 3) := hS157 _ _ _ _ _ (zAllA hl 1)
  have l2 : sn114 [ρ 33, ρ 4] (γ 6) 0 (-1) (γ 7) := hS114 _ _ _ _ _ (zAllA hl 2)
  have l3 : sn152 [ρ 11, ρ 40] (γ 8) 0 0 (γ 9) := hS152 _ _ _ _ _ (zAllA hl 3)
  show sn159 [ρ 0, ρ 1, ρ 2, ρ 3, ρ 4, ρ 5, ρ 6, ρ 7, ρ 8, ρ 9, ρ 10, ρ 11, ρ 12, ρ 13, ρ 14, ρ 15, ρ 16] (γ 0) 0 0 (γ 9)
  have hD : en159 (γ 0) (0, [], γ 1) = .inr (0, 0, γ 9) := by
    unfold en159
    refine zIP (show (0 : Nat) = 0 by decide) (zLV (γ 1) rfl (zLE m0 (zLE m1 (zLE m17 (zLE m21 (zIN (show ¬ (ρ 17 ≥ 8) by omega) (zLE (show fn132 [ρ 1, ρ 17] (γ 1) = (0, ρ 17 + 9 * ρ 1 + 1, γ 2) from l0.symm) ?_)))))))
    refine zLV (γ 2) rfl (zLE (show fn157 [] (γ 2) = (0, 1, γ 3) from l1.symm) (zLV (γ 3) rfl (zIP (show (1 : Int) ≤ 1 by omega) (zIN (show ¬ (3 ≤ γ 3 10 (ρ 17 + 9 * ρ 1 + 1) 4) by omega) (zLE m37 (zLE c4.symm (zIN (show ¬ (ρ 34 ≠ 1) by omega) ?_)))))))
    refine zLE c5.symm (zLE c6.symm (zLE (show fn114 [] (γ 6) = (0, (-1), γ 7) from l2.symm) (zLV (γ 7) rfl (zIN (show ¬ ((0 : Int) ≤ (-1)) by omega) (zLE m53 (zLE c8.symm (zLE (show fn152 [] (γ 8) = (0, 0, γ 9) from l3.symm) ?_)))))))
    refine zLV (γ 9) rfl (zIN (show ¬ ((1 : Int) ≤ 0) by omega) ?_)
    rfl
  exact zGoo_aend hJ hD
theorem vn159a0_16 {S : Nat → zSpc} (hS109 : zIm S 109 sn109) (hS114 : zIm S 114 sn114) (hS132 : zIm S 132 sn132) (hS152 : zIm S 152 sn152) (hS157 : zIm S 157 sn157) {a : List Int} {g : rHp} : ∀ (ρ : Nat → Int) (γ : Nat → rHp), jn159 a g 0 (zAg (zNA a159_ 0) ρ) (γ 1) → zO 17 S a g q159a0_16 ρ γ → zGl (fun i vs g1 => jn159 a g i vs g1) (sn159 a g) q159a0_16 ρ γ := by
  intro ρ γ hJ h
  obtain ⟨ha, hg, hr, hf, hm, hc, hl⟩ := h
  have ha : a = [ρ 0, ρ 1, ρ 2, ρ 3, ρ 4, ρ 5, ρ 6, ρ 7, ρ 8, ρ 9, ρ 10, ρ 11, ρ 12, ρ 13, ρ 14, ρ 15, ρ 16] := ha
  subst ha
  subst hg
  have hJ : jn159 [ρ 0, ρ 1, ρ 2, ρ 3, ρ 4, ρ 5, ρ 6, ρ 7, ρ 8, ρ 9, ρ 10, ρ 11, ρ 12, ρ 13, ρ 14, ρ 15, ρ 16] (γ 0) 0 [ρ 0, ρ 1, ρ 2, ρ 3, ρ 4, ρ 5, ρ 6, ρ 7, ρ 8, ρ 9, ρ 10, ρ 11, ρ 12, ρ 13, ρ 14, ρ 15, ρ 16, ρ 17, ρ 18, ρ 19, ρ 20, ρ 21, ρ 22, ρ 23, ρ 24, ρ 25] (γ 1) := hJ
  have r0 : (0 : Int) ≤ ρ 0 ∧ ρ 0 ≤ 60 := zRnA hr 0
  have r1 : (0 : Int) ≤ ρ 1 ∧ ρ 1 ≤ 60 := zRnA hr 1
  have r2 : (0 : Int) ≤ ρ 2 ∧ ρ 2 ≤ 8 := zRnA hr 2
  have r3 : (0 : Int) ≤ ρ 3 ∧ ρ 3 ≤ 2000 := zRnA hr 3
  have r4 : (2 : Int) ≤ ρ 4 ∧ ρ 4 ≤ 2000 := zRnA hr 4
  have r5 : (2 : Int) ≤ ρ 5 ∧ ρ 5 ≤ 2 := zRnA hr 5
  have r6 : ((-1) : Int) ≤ ρ 6 ∧ ρ 6 ≤ 19 := zRnA hr 6
  have r7 : (0 : Int) ≤ ρ 7 ∧ ρ 7 ≤ 4 := zRnA hr 7
  have r8 : ((-1) : Int) ≤ ρ 8 ∧ ρ 8 ≤ 7 := zRnA hr 8
  have r9 : (0 : Int) ≤ ρ 9 ∧ ρ 9 ≤ 8 := zRnA hr 9
  have r10 : (0 : Int) ≤ ρ 10 ∧ ρ 10 ≤ 20 := zRnA hr 10
  have r11 : ((-2147483648) : Int) ≤ ρ 11 ∧ ρ 11 ≤ 2147483647 := zRnA hr 11
  have r12 : ((-2147483648) : Int) ≤ ρ 12 ∧ ρ 12 ≤ 2147483647 := zRnA hr 12
  have r13 : ((-2147483648) : Int) ≤ ρ 13 ∧ ρ 13 ≤ 2147483647 := zRnA hr 13
  have r14 : (0 : Int) ≤ ρ 14 ∧ ρ 14 ≤ 8 := zRnA hr 14
  have r15 : (0 : Int) ≤ ρ 15 ∧ ρ 15 ≤ 32 := zRnA hr 15
  have r16 : (0 : Int) ≤ ρ 16 ∧ ρ 16 ≤ 5120 := zRnA hr 16
  have r17 : (0 : Int) ≤ ρ 17 ∧ ρ 17 ≤ 7 := zRnA hr 17
  have r18 : (0 : Int) ≤ ρ 18 ∧ ρ 18 ≤ 2000 := zRnA hr 18
  have r19 : (0 : Int) ≤ ρ 19 ∧ ρ 19 ≤ 8 := zRnA hr 19
  have r20 : (0 : Int) ≤ ρ 20 ∧ ρ 20 ≤ 20 := zRnA hr 20
  have r21 : ((-2147483648) : Int) ≤ ρ 21 ∧ ρ 21 ≤ 2147483647 := zRnA hr 21
  have r22 : ((-2147483648) : Int) ≤ ρ 22 ∧ ρ 22 ≤ 2147483647 := zRnA hr 22
  have r23 : (0 : Int) ≤ ρ 23 ∧ ρ 23 ≤ 8 := zRnA hr 23
  have r24 : (0 : Int) ≤ ρ 24 ∧ ρ 24 ≤ 32 := zRnA hr 24
  have r25 : (0 : Int) ≤ ρ 25 ∧ ρ 25 ≤ 5120 := zRnA hr 25
  have r26 : (0 : Int) ≤ ρ 26 ∧ ρ 26 ≤ 8 := zRnA hr 26
  have r27 : ((-1) : Int) ≤ ρ 27 ∧ ρ 27 ≤ 7 := zRnA hr 27
  have r28 : ((-1) : Int) ≤ ρ 28 ∧ ρ 28 ≤ 19 := zRnA hr 28
  have r29 : (0 : Int) ≤ ρ 29 ∧ ρ 29 ≤ 4 := zRnA hr 29
  have r30 : ((-2147483648) : Int) ≤ ρ 30 ∧ ρ 30 ≤ 2147483647 := zRnA hr 30
  have r31 : ((-1) : Int) ≤ ρ 31 ∧ ρ 31 ≤ 3 := zRnA hr 31
  have r32 : (0 : Int) ≤ ρ 32 ∧ ρ 32 ≤ 4 := zRnA hr 32
  have r33 : (3 : Int) ≤ ρ 33 ∧ ρ 33 ≤ 2000 := zRnA hr 33
  have r34 : (1 : Int) ≤ ρ 34 ∧ ρ 34 ≤ 1 := zRnA hr 34
  have r35 : (0 : Int) ≤ ρ 35 ∧ ρ 35 ≤ 19 := zRnA hr 35
  have r36 : (1 : Int) ≤ ρ 36 ∧ ρ 36 ≤ 20 := zRnA hr 36
  have r37 : ((-2147483648) : Int) ≤ ρ 37 ∧ ρ 37 ≤ 2147483647 := zRnA hr 37
  have r38 : ((-2147483648) : Int) ≤ ρ 38 ∧ ρ 38 ≤ 2147483647 := zRnA hr 38
  have r39 : (0 : Int) ≤ ρ 39 ∧ ρ 39 ≤ 8 := zRnA hr 39
  have r40 : (0 : Int) ≤ ρ 40 ∧ ρ 40 ≤ 32 := zRnA hr 40
  have r41 : (0 : Int) ≤ ρ 41 ∧ ρ 41 ≤ 5120 := zRnA hr 41
  have r42 : (1 : Int) ≤ ρ 42 ∧ ρ 42 ≤ 4 := zRnA hr 42
  have r43 : (0 : Int) ≤ ρ 43 ∧ ρ 43 ≤ 1999 := zRnA hr 43
  have r44 : ((-1) : Int) ≤ ρ 44 ∧ ρ 44 ≤ 3 := zRnA hr 44
  have r45 : (0 : Int) ≤ ρ 45 ∧ ρ 45 ≤ 0 := zRnA hr 45
  have r46 : (0 : Int) ≤ ρ 46 ∧ ρ 46 ≤ 2000 := zRnA hr 46
  have f0 : (0 : Int) ≤ ρ 46 + -ρ 33 := zAllA hf 0
  have f1 : (0 : Int) ≤ ρ 46 + -ρ 4 := zAllA hf 1
  have f2 : (0 : Int) ≤ -ρ 42 + ρ 33 + (-1) := zAllA hf 2
  have f3 : (0 : Int) ≤ -ρ 43 + ρ 33 + (-1) := zAllA hf 3
  have f4 : (0 : Int) ≤ -ρ 44 + ρ 33 + (-1) := zAllA hf 4
  have f5 : (0 : Int) ≤ ρ 33 + -ρ 18 + (-1) := zAllA hf 5
  have f6 : (0 : Int) ≤ ρ 36 + -ρ 35 + (-1) := zAllA hf 6
  have f7 : (0 : Int) ≤ ρ 36 + -ρ 20 := zAllA hf 7
  have f8 : (0 : Int) ≤ ρ 39 + -ρ 23 := zAllA hf 8
  have f9 : (0 : Int) ≤ ρ 40 + -ρ 24 := zAllA hf 9
  have f10 : (0 : Int) ≤ ρ 41 + -ρ 25 := zAllA hf 10
  have f11 : (0 : Int) ≤ ρ 43 + -ρ 18 := zAllA hf 11
  have f12 : (0 : Int) ≤ -ρ 33 + ρ 4 := zAllA hf 12
  have f13 : (0 : Int) ≤ -ρ 34 + ρ 4 + (-1) := zAllA hf 13
  have f14 : (0 : Int) ≤ -ρ 18 + ρ 4 + (-1) := zAllA hf 14
  have f15 : (0 : Int) ≤ -ρ 5 + ρ 4 + (-1) := zAllA hf 15
  have f16 : (0 : Int) ≤ -ρ 31 + ρ 4 := zAllA hf 16
  have f17 : (0 : Int) ≤ -ρ 35 + ρ 20 := zAllA hf 17
  have f18 : (0 : Int) ≤ -ρ 17 + ρ 4 := zAllA hf 18
  have f19 : (0 : Int) ≤ ρ 25 + -ρ 16 := zAllA hf 19
  have f20 : (0 : Int) ≤ ρ 24 + -ρ 15 := zAllA hf 20
  have f21 : (0 : Int) ≤ ρ 23 + -ρ 14 := zAllA hf 21
  have f22 : (0 : Int) ≤ ρ 20 + -ρ 10 := zAllA hf 22
  have f23 : (0 : Int) ≤ ρ 18 + -ρ 3 := zAllA hf 23
  have f24 : (0 : Int) ≤ ρ 18 + -ρ 17 := zAllA hf 24
  have f25 : (0 : Int) ≤ -ρ 19 + ρ 17 := zAllA hf 25
  have m0 : γ 0 1 0 10 = ρ 0 := zAllA hm 0
  have m1 : γ 0 40 0 (ρ 0) = ρ 1 := zAllA hm 1
  have m2 : γ 0 9 (ρ 1) 2 = ρ 2 := zAllA hm 2
  have m3 : γ 0 2 0 6 = ρ 3 := zAllA hm 3
  have m4 : γ 0 2 0 3 = ρ 4 := zAllA hm 4
  have m5 : γ 0 2 0 7 = ρ 5 := zAllA hm 5
  have m6 : γ 0 10 (9 * ρ 1) 8 = ρ 6 := zAllA hm 6
  have m7 : γ 0 10 (9 * ρ 1) 12 = ρ 7 := zAllA hm 7
  have m8 : γ 0 10 (9 * ρ 1) 14 = ρ 8 := zAllA hm 8
  have m9 : γ 0 9 (ρ 1) 3 = ρ 9 := zAllA hm 9
  have m10 : γ 0 1 0 7 = ρ 10 := zAllA hm 10
  have m11 : γ 0 2 0 4 = ρ 11 := zAllA hm 11
  have m12 : γ 0 2 0 5 = ρ 12 := zAllA hm 12
  have m13 : γ 0 2 0 9 = ρ 13 := zAllA hm 13
  have m14 : γ 0 2 0 13 = ρ 14 := zAllA hm 14
  have m15 : γ 0 2 0 16 = ρ 15 := zAllA hm 15
  have m16 : γ 0 3 0 1 = ρ 16 := zAllA hm 16
  have m17 : γ 1 9 (ρ 1) 2 = ρ 17 := zAllA hm 17
  have m18 : γ 1 2 0 6 = ρ 18 := zAllA hm 18
  have m19 : γ 1 10 (9 * ρ 1) 8 = ρ 6 := zAllA hm 19
  have m20 : γ 1 10 (9 * ρ 1) 12 = ρ 7 := zAllA hm 20
  have m21 : γ 1 9 (ρ 1) 3 = ρ 19 := zAllA hm 21
  have m22 : γ 1 1 0 7 = ρ 20 := zAllA hm 22
  have m23 : γ 1 2 0 4 = ρ 11 := zAllA hm 23
  have m24 : γ 1 2 0 5 = ρ 21 := zAllA hm 24
  have m25 : γ 1 2 0 9 = ρ 22 := zAllA hm 25
  have m26 : γ 1 2 0 13 = ρ 23 := zAllA hm 26
  have m27 : γ 1 2 0 16 = ρ 24 := zAllA hm 27
  have m28 : γ 1 3 0 1 = ρ 25 := zAllA hm 28
  have m29 : γ 1 10 (ρ 17 + 9 * ρ 1 + 1) 4 = ρ 26 := zAllA hm 29
  have m30 : γ 1 10 (ρ 17 + 9 * ρ 1 + 1) 11 = ρ 27 := zAllA hm 30
  have m31 : γ 1 10 (ρ 17 + 9 * ρ 1 + 1) 8 = ρ 28 := zAllA hm 31
  have m32 : γ 1 10 (ρ 17 + 9 * ρ 1 + 1) 5 = ρ 29 := zAllA hm 32
  have m33 : γ 1 10 (ρ 17 + 9 * ρ 1 + 1) 7 = ρ 30 := zAllA hm 33
  have m34 : γ 1 10 (ρ 17 + 9 * ρ 1 + 1) 9 = ρ 31 := zAllA hm 34
  have m35 : γ 1 10 (ρ 17 + 9 * ρ 1 + 1) 12 = ρ 32 := zAllA hm 35
  have m36 : γ 3 2 0 6 = ρ 33 := zAllA hm 36
  have m37 : γ 3 10 (ρ 17 + 9 * ρ 1 + 1) 4 = ρ 34 := zAllA hm 37
  have m38 : γ 3 10 (ρ 17 + 9 * ρ 1 + 1) 11 = ρ 27 := zAllA hm 38
  have m39 : γ 3 10 (ρ 17 + 9 * ρ 1 + 1) 8 = ρ 35 := zAllA hm 39
  have m40 : γ 3 10 (9 * ρ 1) 8 = ρ 6 := zAllA hm 40
  have m41 : γ 3 10 (9 * ρ 1) 12 = ρ 7 := zAllA hm 41
  have m42 : γ 3 1 0 7 = ρ 36 := zAllA hm 42
  have m43 : γ 3 2 0 4 = ρ 11 := zAllA hm 43
  have m44 : γ 3 2 0 5 = ρ 37 := zAllA hm 44
  have m45 : γ 3 2 0 9 = ρ 38 := zAllA hm 45
  have m46 : γ 3 2 0 13 = ρ 39 := zAllA hm 46
  have m47 : γ 3 2 0 16 = ρ 40 := zAllA hm 47
  have m48 : γ 3 3 0 1 = ρ 41 := zAllA hm 48
  have m49 : γ 3 10 (ρ 17 + 9 * ρ 1 + 1) 5 = ρ 42 := zAllA hm 49
  have m50 : γ 3 10 (ρ 17 + 9 * ρ 1 + 1) 7 = ρ 43 := zAllA hm 50
  have m51 : γ 3 10 (ρ 17 + 9 * ρ 1 + 1) 9 = ρ 44 := zAllA hm 51
  have m52 : γ 3 10 (ρ 17 + 9 * ρ 1 + 1) 12 = ρ 45 := zAllA hm 52
  have m53 : γ 7 2 0 6 = ρ 46 := zAllA hm 53
  have m54 : γ 9 2 0 4 = ρ 11 := zAllA hm 54
  have c1 : ∀ (G : Nat) (k j : Int), ¬ rMdP m107_ G j → γ 1 G k j = γ 0 G k j := And.right (zChA hc 8)
  have c2 : ∀ (G : Nat) (k j : Int), ¬ rMdP m0_ G j → γ 2 G k j = γ 1 G k j := And.right (zChA hc 7)
  have c3 : ∀ (G : Nat) (k j : Int), ¬ rMdP m106_ G j → γ 3 G k j = γ 2 G k j := And.right (zChA hc 6)
  have c4 : γ 4 = rUp (γ 3) 9 (ρ 1) 2 (ρ 17 + 1) := And.right (zChA hc 5)
  have c5 : γ 5 = rUp (γ 4) 10 (ρ 17 + 9 * ρ 1 + 1) 10 (ρ 19) := And.right (zChA hc 4)
  have c6 : γ 6 = rUp (γ 5) 9 (ρ 1) 3 (ρ 19 + 1) := And.right (zChA hc 3)
  have c7 : ∀ (G : Nat) (k j : Int), ¬ rMdP m77_ G j → γ 7 G k j = γ 6 G k j := And.right (zChA hc 2)
  have c8 : γ 8 = rUp (γ 7) 2 0 6 (ρ 46 + 1) := And.right (zChA hc 1)
  have c9 : ∀ (G : Nat) (k j : Int), ¬ rMdP m72_ G j → γ 9 G k j = γ 8 G k j := And.right (zChA hc 0)
  have l0 : sn132 [ρ 1, ρ 17] (γ 1) 0 (ρ 17 + 9 * ρ 1 + 1) (γ 2) := hS132 _ _ _ _ _ (zAllA hl 0)
  have l1 : sn157 [ρ 0, ρ 1, ρ 17, ρ 18, ρ 4, ρ 26, ρ 27, ρ 28, ρ 5, ρ 6, ρ 7, ρ 20, ρ 11, ρ 21, ρ 22, ρ 23, ρ 24, ρ 25, ρ 29, ρ 30, ρ 31, ρ 32] (γ 2) 0 1 (γ 3) := hS157 _ _ _ _ _ (zAllA hl 1)
  have l2 : sn114 [ρ 33, ρ 4] (γ 6) 0 (-1) (γ 7) := hS114 _ _ _ _ _ (zAllA hl 2)
  have l3 : sn152 [ρ 11, ρ 40] (γ 8) 0 1 (γ 9) := hS152 _ _ _ _ _ (zAllA hl 3)
  show sn159 [ρ 0, ρ 1, ρ 2, ρ 3, ρ 4, ρ 5, ρ 6, ρ 7, ρ 8, ρ 9, ρ 10, ρ 11, ρ 12, ρ 13, ρ 14, ρ 15, ρ 16] (γ 0) 0 1 (γ 9)
  have hD : en159 (γ 0) (0, [], γ 1) = .inr (0, 1, γ 9) := by
    unfold en159
    refine zIP (show (0 : Nat) = 0 by decide) (zLV (γ 1) rfl (zLE m0 (zLE m1 (zLE m17 (zLE m21 (zIN (show ¬ (ρ 17 ≥ 8) by omega) (zLE (show fn132 [ρ 1, ρ 17] (γ 1) = (0, ρ 17 + 9 * ρ 1 + 1, γ 2) from l0.symm) ?_)))))))
    refine zLV (γ 2) rfl (zLE (show fn157 [] (γ 2) = (0, 1, γ 3) from l1.symm) (zLV (γ 3) rfl (zIP (show (1 : Int) ≤ 1 by omega) (zIN (show ¬ (3 ≤ γ 3 10 (ρ 17 + 9 * ρ 1 + 1) 4) by omega) (zLE m37 (zLE c4.symm (zIN (show ¬ (ρ 34 ≠ 1) by omega) ?_)))))))
    refine zLE c5.symm (zLE c6.symm (zLE (show fn114 [] (γ 6) = (0, (-1), γ 7) from l2.symm) (zLV (γ 7) rfl (zIN (show ¬ ((0 : Int) ≤ (-1)) by omega) (zLE m53 (zLE c8.symm (zLE (show fn152 [] (γ 8) = (0, 1, γ 9) from l3.symm) ?_)))))))
    refine zLV (γ 9) rfl (zIP (show (1 : Int) ≤ 1 by omega) ?_)
    rfl
  exact zGoo_aend hJ hD
theorem vn159a0_17 {S : Nat → zSpc} (hS109 : zIm S 109 sn109) (hS114 : zIm S 114 sn114) (hS132 : zIm S 132 sn132) (hS152 : zIm S 152 sn152) (hS157 : zIm S 157 sn157) {a : List Int} {g : rHp} : ∀ (ρ : Nat → Int) (γ : Nat → rHp), jn159 a g 0 (zAg (zNA a159_ 0) ρ) (γ 1) → zO 17 S a g q159a0_17 ρ γ → zGl (fun i vs g1 => jn159 a g i vs g1) (sn159 a g) q159a0_17 ρ γ := by
  intro ρ γ hJ h
  obtain ⟨ha, hg, hr, hf, hm, hc, hl⟩ := h
  have ha : a = [ρ 0, ρ 1, ρ 2, ρ 3, ρ 4, ρ 5, ρ 6, ρ 7, ρ 8, ρ 9, ρ 10, ρ 11, ρ 12, ρ 13, ρ 14, ρ 15, ρ 16] := ha
  subst ha
  subst hg
  have hJ : jn159 [ρ 0, ρ 1, ρ 2, ρ 3, ρ 4, ρ 5, ρ 6, ρ 7, ρ 8, ρ 9, ρ 10, ρ 11, ρ 12, ρ 13, ρ 14, ρ 15, ρ 16] (γ 0) 0 [ρ 0, ρ 1, ρ 2, ρ 3, ρ 4, ρ 5, ρ 6, ρ 7, ρ 8, ρ 9, ρ 10, ρ 11, ρ 12, ρ 13, ρ 14, ρ 15, ρ 16, ρ 17, ρ 18, ρ 19, ρ 20, ρ 21, ρ 22, ρ 23, ρ 24, ρ 25] (γ 1) := hJ
  have r0 : (0 : Int) ≤ ρ 0 ∧ ρ 0 ≤ 60 := zRnA hr 0
  have r1 : (0 : Int) ≤ ρ 1 ∧ ρ 1 ≤ 60 := zRnA hr 1
  have r2 : (0 : Int) ≤ ρ 2 ∧ ρ 2 ≤ 8 := zRnA hr 2
  have r3 : (0 : Int) ≤ ρ 3 ∧ ρ 3 ≤ 2000 := zRnA hr 3
  have r4 : (2 : Int) ≤ ρ 4 ∧ ρ 4 ≤ 2000 := zRnA hr 4
  have r5 : (2 : Int) ≤ ρ 5 ∧ ρ 5 ≤ 2 := zRnA hr 5
  have r6 : ((-1) : Int) ≤ ρ 6 ∧ ρ 6 ≤ 19 := zRnA hr 6
  have r7 : (0 : Int) ≤ ρ 7 ∧ ρ 7 ≤ 4 := zRnA hr 7
  have r8 : ((-1) : Int) ≤ ρ 8 ∧ ρ 8 ≤ 7 := zRnA hr 8
  have r9 : (0 : Int) ≤ ρ 9 ∧ ρ 9 ≤ 8 := zRnA hr 9
  have r10 : (0 : Int) ≤ ρ 10 ∧ ρ 10 ≤ 20 := zRnA hr 10
  have r11 : ((-2147483648) : Int) ≤ ρ 11 ∧ ρ 11 ≤ 2147483647 := zRnA hr 11
  have r12 : ((-2147483648) : Int) ≤ ρ 12 ∧ ρ 12 ≤ 2147483647 := zRnA hr 12
  have r13 : ((-2147483648) : Int) ≤ ρ 13 ∧ ρ 13 ≤ 2147483647 := zRnA hr 13
  have r14 : (0 : Int) ≤ ρ 14 ∧ ρ 14 ≤ 8 := zRnA hr 14
  have r15 : (0 : Int) ≤ ρ 15 ∧ ρ 15 ≤ 32 := zRnA hr 15
  have r16 : (0 : Int) ≤ ρ 16 ∧ ρ 16 ≤ 5120 := zRnA hr 16
  have r17 : (0 : Int) ≤ ρ 17 ∧ ρ 17 ≤ 7 := zRnA hr 17
  have r18 : (0 : Int) ≤ ρ 18 ∧ ρ 18 ≤ 2000 := zRnA hr 18
  have r19 : (0 : Int) ≤ ρ 19 ∧ ρ 19 ≤ 8 := zRnA hr 19
  have r20 : (0 : Int) ≤ ρ 20 ∧ ρ 20 ≤ 20 := zRnA hr 20
  have r21 : ((-2147483648) : Int) ≤ ρ 21 ∧ ρ 21 ≤ 2147483647 := zRnA hr 21
  have r22 : ((-2147483648) : Int) ≤ ρ 22 ∧ ρ 22 ≤ 2147483647 := zRnA hr 22
  have r23 : (0 : Int) ≤ ρ 23 ∧ ρ 23 ≤ 8 := zRnA hr 23
  have r24 : (0 : Int) ≤ ρ 24 ∧ ρ 24 ≤ 32 := zRnA hr 24
  have r25 : (0 : Int) ≤ ρ 25 ∧ ρ 25 ≤ 5120 := zRnA hr 25
  have r26 : (0 : Int) ≤ ρ 26 ∧ ρ 26 ≤ 8 := zRnA hr 26
  have r27 : ((-1) : Int) ≤ ρ 27 ∧ ρ 27 ≤ 7 := zRnA hr 27
  have r28 : ((-1) : Int) ≤ ρ 28 ∧ ρ 28 ≤ 19 := zRnA hr 28
  have r29 : (0 : Int) ≤ ρ 29 ∧ ρ 29 ≤ 4 := zRnA hr 29
  have r30 : ((-2147483648) : Int) ≤ ρ 30 ∧ ρ 30 ≤ 2147483647 := zRnA hr 30
  have r31 : ((-1) : Int) ≤ ρ 31 ∧ ρ 31 ≤ 3 := zRnA hr 31
  have r32 : (0 : Int) ≤ ρ 32 ∧ ρ 32 ≤ 4 := zRnA hr 32
  have r33 : (3 : Int) ≤ ρ 33 ∧ ρ 33 ≤ 2000 := zRnA hr 33
  have r34 : (1 : Int) ≤ ρ 34 ∧ ρ 34 ≤ 1 := zRnA hr 34
  have r35 : (0 : Int) ≤ ρ 35 ∧ ρ 35 ≤ 19 := zRnA hr 35
  have r36 : (1 : Int) ≤ ρ 36 ∧ ρ 36 ≤ 20 := zRnA hr 36
  have r37 : ((-2147483648) : Int) ≤ ρ 37 ∧ ρ 37 ≤ 2147483647 := zRnA hr 37
  have r38 : ((-2147483648) : Int) ≤ ρ 38 ∧ ρ 38 ≤ 2147483647 := zRnA hr 38
  have r39 : (0 : Int) ≤ ρ 39 ∧ ρ 39 ≤ 8 := zRnA hr 39
  have r40 : (0 : Int) ≤ ρ 40 ∧ ρ 40 ≤ 32 := zRnA hr 40
  have r41 : (0 : Int) ≤ ρ 41 ∧ ρ 41 ≤ 5120 := zRnA hr 41
  have r42 : (1 : Int) ≤ ρ 42 ∧ ρ 42 ≤ 4 := zRnA hr 42
  have r43 : (0 : Int) ≤ ρ 43 ∧ ρ 43 ≤ 1999 := zRnA hr 43
  have r44 : ((-1) : Int) ≤ ρ 44 ∧ ρ 44 ≤ 3 := zRnA hr 44
  have r45 : (0 : Int) ≤ ρ 45 ∧ ρ 45 ≤ 0 := zRnA hr 45
  have r46 : (44 : Int) ≤ ρ 46 ∧ ρ 46 ≤ 44 := zRnA hr 46
  have r47 : (0 : Int) ≤ ρ 47 ∧ ρ 47 ≤ 2000 := zRnA hr 47
  have f0 : (0 : Int) ≤ ρ 47 + -ρ 33 := zAllA hf 0
  have f1 : (0 : Int) ≤ -ρ 47 + ρ 4 + (-1) := zAllA hf 1
  have f2 : (0 : Int) ≤ -ρ 33 + ρ 4 + (-1) := zAllA hf 2
  have f3 : (0 : Int) ≤ -ρ 42 + ρ 33 + (-1) := zAllA hf 3
  have f4 : (0 : Int) ≤ -ρ 43 + ρ 33 + (-1) := zAllA hf 4
  have f5 : (0 : Int) ≤ -ρ 44 + ρ 33 + (-1) := zAllA hf 5
  have f6 : (0 : Int) ≤ ρ 33 + -ρ 18 + (-1) := zAllA hf 6
  have f7 : (0 : Int) ≤ ρ 36 + -ρ 35 + (-1) := zAllA hf 7
  have f8 : (0 : Int) ≤ ρ 36 + -ρ 20 := zAllA hf 8
  have f9 : (0 : Int) ≤ ρ 39 + -ρ 23 := zAllA hf 9
  have f10 : (0 : Int) ≤ ρ 40 + -ρ 24 := zAllA hf 10
  have f11 : (0 : Int) ≤ ρ 41 + -ρ 25 := zAllA hf 11
  have f12 : (0 : Int) ≤ ρ 43 + -ρ 18 := zAllA hf 12
  have f13 : (0 : Int) ≤ -ρ 33 + ρ 4 := zAllA hf 13
  have f14 : (0 : Int) ≤ -ρ 34 + ρ 4 + (-1) := zAllA hf 14
  have f15 : (0 : Int) ≤ -ρ 18 + ρ 4 + (-1) := zAllA hf 15
  have f16 : (0 : Int) ≤ -ρ 5 + ρ 4 + (-1) := zAllA hf 16
  have f17 : (0 : Int) ≤ -ρ 31 + ρ 4 := zAllA hf 17
  have f18 : (0 : Int) ≤ -ρ 35 + ρ 20 := zAllA hf 18
  have f19 : (0 : Int) ≤ -ρ 17 + ρ 4 := zAllA hf 19
  have f20 : (0 : Int) ≤ ρ 25 + -ρ 16 := zAllA hf 20
  have f21 : (0 : Int) ≤ ρ 24 + -ρ 15 := zAllA hf 21
  have f22 : (0 : Int) ≤ ρ 23 + -ρ 14 := zAllA hf 22
  have f23 : (0 : Int) ≤ ρ 20 + -ρ 10 := zAllA hf 23
  have f24 : (0 : Int) ≤ ρ 18 + -ρ 3 := zAllA hf 24
  have f25 : (0 : Int) ≤ ρ 18 + -ρ 17 := zAllA hf 25
  have f26 : (0 : Int) ≤ -ρ 19 + ρ 17 := zAllA hf 26
  have m0 : γ 0 1 0 10 = ρ 0 := zAllA hm 0
  have m1 : γ 0 40 0 (ρ 0) = ρ 1 := zAllA hm 1
  have m2 : γ 0 9 (ρ 1) 2 = ρ 2 := zAllA hm 2
  have m3 : γ 0 2 0 6 = ρ 3 := zAllA hm 3
  have m4 : γ 0 2 0 3 = ρ 4 := zAllA hm 4
  have m5 : γ 0 2 0 7 = ρ 5 := zAllA hm 5
  have m6 : γ 0 10 (9 * ρ 1) 8 = ρ 6 := zAllA hm 6
  have m7 : γ 0 10 (9 * ρ 1) 12 = ρ 7 := zAllA hm 7
  have m8 : γ 0 10 (9 * ρ 1) 14 = ρ 8 := zAllA hm 8
  have m9 : γ 0 9 (ρ 1) 3 = ρ 9 := zAllA hm 9
  have m10 : γ 0 1 0 7 = ρ 10 := zAllA hm 10
  have m11 : γ 0 2 0 4 = ρ 11 := zAllA hm 11
  have m12 : γ 0 2 0 5 = ρ 12 := zAllA hm 12
  have m13 : γ 0 2 0 9 = ρ 13 := zAllA hm 13
  have m14 : γ 0 2 0 13 = ρ 14 := zAllA hm 14
  have m15 : γ 0 2 0 16 = ρ 15 := zAllA hm 15
  have m16 : γ 0 3 0 1 = ρ 16 := zAllA hm 16
  have m17 : γ 1 9 (ρ 1) 2 = ρ 17 := zAllA hm 17
  have m18 : γ 1 2 0 6 = ρ 18 := zAllA hm 18
  have m19 : γ 1 10 (9 * ρ 1) 8 = ρ 6 := zAllA hm 19
  have m20 : γ 1 10 (9 * ρ 1) 12 = ρ 7 := zAllA hm 20
  have m21 : γ 1 9 (ρ 1) 3 = ρ 19 := zAllA hm 21
  have m22 : γ 1 1 0 7 = ρ 20 := zAllA hm 22
  have m23 : γ 1 2 0 4 = ρ 11 := zAllA hm 23
  have m24 : γ 1 2 0 5 = ρ 21 := zAllA hm 24
  have m25 : γ 1 2 0 9 = ρ 22 := zAllA hm 25
  have m26 : γ 1 2 0 13 = ρ 23 := zAllA hm 26
  have m27 : γ 1 2 0 16 = ρ 24 := zAllA hm 27
  have m28 : γ 1 3 0 1 = ρ 25 := zAllA hm 28
  have m29 : γ 1 10 (ρ 17 + 9 * ρ 1 + 1) 4 = ρ 26 := zAllA hm 29
  have m30 : γ 1 10 (ρ 17 + 9 * ρ 1 + 1) 11 = ρ 27 := zAllA hm 30
  have m31 : γ 1 10 (ρ 17 + 9 * ρ 1 + 1) 8 = ρ 28 := zAllA hm 31
  have m32 : γ 1 10 (ρ 17 + 9 * ρ 1 + 1) 5 = ρ 29 := zAllA hm 32
  have m33 : γ 1 10 (ρ 17 + 9 * ρ 1 + 1) 7 = ρ 30 := zAllA hm 33
  have m34 : γ 1 10 (ρ 17 + 9 * ρ 1 + 1) 9 = ρ 31 := zAllA hm 34
  have m35 : γ 1 10 (ρ 17 + 9 * ρ 1 + 1) 12 = ρ 32 := zAllA hm 35
  have m36 : γ 3 2 0 6 = ρ 33 := zAllA hm 36
  have m37 : γ 3 10 (ρ 17 + 9 * ρ 1 + 1) 4 = ρ 34 := zAllA hm 37
  have m38 : γ 3 10 (ρ 17 + 9 * ρ 1 + 1) 11 = ρ 27 := zAllA hm 38
  have m39 : γ 3 10 (ρ 17 + 9 * ρ 1 + 1) 8 = ρ 35 := zAllA hm 39
  have m40 : γ 3 10 (9 * ρ 1) 8 = ρ 6 := zAllA hm 40
  have m41 : γ 3 10 (9 * ρ 1) 12 = ρ 7 := zAllA hm 41
  have m42 : γ 3 1 0 7 = ρ 36 := zAllA hm 42
  have m43 : γ 3 2 0 4 = ρ 11 := zAllA hm 43
  have m44 : γ 3 2 0 5 = ρ 37 := zAllA hm 44
  have m45 : γ 3 2 0 9 = ρ 38 := zAllA hm 45
  have m46 : γ 3 2 0 13 = ρ 39 := zAllA hm 46
  have m47 : γ 3 2 0 16 = ρ 40 := zAllA hm 47
  have m48 : γ 3 3 0 1 = ρ 41 := zAllA hm 48
  have m49 : γ 3 10 (ρ 17 + 9 * ρ 1 + 1) 5 = ρ 42 := zAllA hm 49
  have m50 : γ 3 10 (ρ 17 + 9 * ρ 1 + 1) 7 = ρ 43 := zAllA hm 50
  have m51 : γ 3 10 (ρ 17 + 9 * ρ 1 + 1) 9 = ρ 44 := zAllA hm 51
  have m52 : γ 3 10 (ρ 17 + 9 * ρ 1 + 1) 12 = ρ 45 := zAllA hm 52
  have m53 : γ 7 2 0 6 = ρ 47 := zAllA hm 53
  have c1 : ∀ (G : Nat) (k j : Int), ¬ rMdP m107_ G j → γ 1 G k j = γ 0 G k j := And.right (zChA hc 7)
  have c2 : ∀ (G : Nat) (k j : Int), ¬ rMdP m0_ G j → γ 2 G k j = γ 1 G k j := And.right (zChA hc 6)
  have c3 : ∀ (G : Nat) (k j : Int), ¬ rMdP m106_ G j → γ 3 G k j = γ 2 G k j := And.right (zChA hc 5)
  have c4 : γ 4 = rUp (γ 3) 9 (ρ 1) 2 (ρ 17 + 1) := And.right (zChA hc 4)
  have c5 : γ 5 = rUp (γ 4) 10 (ρ 17 + 9 * ρ 1 + 1) 10 (ρ 19) := And.right (zChA hc 3)
  have c6 : γ 6 = rUp (γ 5) 9 (ρ 1) 3 (ρ 19 + 1) := And.right (zChA hc 2)
  have c7 : ∀ (G : Nat) (k j : Int), ¬ rMdP m77_ G j → γ 7 G k j = γ 6 G k j := And.right (zChA hc 1)
  have c8 : γ 8 = rUp (γ 7) 2 0 6 (ρ 47 + 1) := And.right (zChA hc 0)
  have l0 : sn132 [ρ 1, ρ 17] (γ 1) 0 (ρ 17 + 9 * ρ 1 + 1) (γ 2) := hS132 _ _ _ _ _ (zAllA hl 0)
  have l1 : sn157 [ρ 0, ρ 1, ρ 17, ρ 18, ρ 4, ρ 26, ρ 27, ρ 28, ρ 5, ρ 6, ρ 7, ρ 20, ρ 11, ρ 21, ρ 22, ρ 23, ρ 24, ρ 25, ρ 29, ρ 30, ρ 31, ρ 32] (γ 2) 0 1 (γ 3) := hS157 _ _ _ _ _ (zAllA hl 1)
  have l2 : sn114 [ρ 33, ρ 4] (γ 6) 0 (ρ 46) (γ 7) := hS114 _ _ _ _ _ (zAllA hl 2)
  show jn159 [ρ 0, ρ 1, ρ 2, ρ 3, ρ 4, ρ 5, ρ 6, ρ 7, ρ 8, ρ 9, ρ 10, ρ 11, ρ 12, ρ 13, ρ 14, ρ 15, ρ 16] (γ 0) 0 [ρ 0, ρ 1, ρ 2, ρ 3, ρ 4, ρ 5, ρ 6, ρ 7, ρ 8, ρ 9, ρ 10, ρ 11, ρ 12, ρ 13, ρ 14, ρ 15, ρ 16, ρ 17 + 1, ρ 47 + 1, ρ 19 + 1, ρ 36, ρ 37, ρ 38, ρ 39, ρ 40, ρ 41] (γ 8)
  have hD : en159 (γ 0) (0, [], γ 1) = .inl (0, [], γ 8) := by
    unfold en159
    refine zIP (show (0 : Nat) = 0 by decide) (zLV (γ 1) rfl (zLE m0 (zLE m1 (zLE m17 (zLE m21 (zIN (show ¬ (ρ 17 ≥ 8) by omega) (zLE (show fn132 [ρ 1, ρ 17] (γ 1) = (0, ρ 17 + 9 * ρ 1 + 1, γ 2) from l0.symm) ?_)))))))
    refine zLV (γ 2) rfl (zLE (show fn157 [] (γ 2) = (0, 1, γ 3) from l1.symm) (zLV (γ 3) rfl (zIP (show (1 : Int) ≤ 1 by omega) (zIN (show ¬ (3 ≤ γ 3 10 (ρ 17 + 9 * ρ 1 + 1) 4) by omega) (zLE m37 (zLE c4.symm (zIN (show ¬ (ρ 34 ≠ 1) by omega) ?_)))))))
    refine zLE c5.symm (zLE c6.symm (zLE (show fn114 [] (γ 6) = (0, ρ 46, γ 7) from l2.symm) (zLV (γ 7) rfl (zIP (show (0 : Int) ≤ ρ 46 by omega) (zLV (ρ 46) rfl (zLE m53 (zIP (show ρ 46 = 44 by omega) ?_)))))))
    refine zLE c8.symm ?_
    rfl
  exact zGoo_ato hJ hD
theorem vn159a0_18 {S : Nat → zSpc} (hS109 : zIm S 109 sn109) (hS114 : zIm S 114 sn114) (hS132 : zIm S 132 sn132) (hS152 : zIm S 152 sn152) (hS157 : zIm S 157 sn157) {a : List Int} {g : rHp} : ∀ (ρ : Nat → Int) (γ : Nat → rHp), jn159 a g 0 (zAg (zNA a159_ 0) ρ) (γ 1) → zO 17 S a g q159a0_18 ρ γ → zGl (fun i vs g1 => jn159 a g i vs g1) (sn159 a g) q159a0_18 ρ γ := by
  intro ρ γ hJ h
  obtain ⟨ha, hg, hr, hf, hm, hc, hl⟩ := h
  have ha : a = [ρ 0, ρ 1, ρ 2, ρ 3, ρ 4, ρ 5, ρ 6, ρ 7, ρ 8, ρ 9, ρ 10, ρ 11, ρ 12, ρ 13, ρ 14, ρ 15, ρ 16] := ha
  subst ha
  subst hg
  have hJ : jn159 [ρ 0, ρ 1, ρ 2, ρ 3, ρ 4, ρ 5, ρ 6, ρ 7, ρ 8, ρ 9, ρ 10, ρ 11, ρ 12, ρ 13, ρ 14, ρ 15, ρ 16] (γ 0) 0 [ρ 0, ρ 1, ρ 2, ρ 3, ρ 4, ρ 5, ρ 6, ρ 7, ρ 8, ρ 9, ρ 10, ρ 11, ρ 12, ρ 13, ρ 14, ρ 15, ρ 16, ρ 17, ρ 18, ρ 19, ρ 20, ρ 21, ρ 22, ρ 23, ρ 24, ρ 25] (γ 1) := hJ
  have r0 : (0 : Int) ≤ ρ 0 ∧ ρ 0 ≤ 60 := zRnA hr 0
  have r1 : (0 : Int) ≤ ρ 1 ∧ ρ 1 ≤ 60 := zRnA hr 1
  have r2 : (0 : Int) ≤ ρ 2 ∧ ρ 2 ≤ 8 := zRnA hr 2
  have r3 : (0 : Int) ≤ ρ 3 ∧ ρ 3 ≤ 2000 := zRnA hr 3
  have r4 : (2 : Int) ≤ ρ 4 ∧ ρ 4 ≤ 2000 := zRnA hr 4
  have r5 : (2 : Int) ≤ ρ 5 ∧ ρ 5 ≤ 2 := zRnA hr 5
  have r6 : ((-1) : Int) ≤ ρ 6 ∧ ρ 6 ≤ 19 := zRnA hr 6
  have r7 : (0 : Int) ≤ ρ 7 ∧ ρ 7 ≤ 4 := zRnA hr 7
  have r8 : ((-1) : Int) ≤ ρ 8 ∧ ρ 8 ≤ 7 := zRnA hr 8
  have r9 : (0 : Int) ≤ ρ 9 ∧ ρ 9 ≤ 8 := zRnA hr 9
  have r10 : (0 : Int) ≤ ρ 10 ∧ ρ 10 ≤ 20 := zRnA hr 10
  have r11 : ((-2147483648) : Int) ≤ ρ 11 ∧ ρ 11 ≤ 2147483647 := zRnA hr 11
  have r12 : ((-2147483648) : Int) ≤ ρ 12 ∧ ρ 12 ≤ 2147483647 := zRnA hr 12
  have r13 : ((-2147483648) : Int) ≤ ρ 13 ∧ ρ 13 ≤ 2147483647 := zRnA hr 13
  have r14 : (0 : Int) ≤ ρ 14 ∧ ρ 14 ≤ 8 := zRnA hr 14
  have r15 : (0 : Int) ≤ ρ 15 ∧ ρ 15 ≤ 32 := zRnA hr 15
  have r16 : (0 : Int) ≤ ρ 16 ∧ ρ 16 ≤ 5120 := zRnA hr 16
  have r17 : (0 : Int) ≤ ρ 17 ∧ ρ 17 ≤ 7 := zRnA hr 17
  have r18 : (0 : Int) ≤ ρ 18 ∧ ρ 18 ≤ 2000 := zRnA hr 18
  have r19 : (0 : Int) ≤ ρ 19 ∧ ρ 19 ≤ 8 := zRnA hr 19
  have r20 : (0 : Int) ≤ ρ 20 ∧ ρ 20 ≤ 20 := zRnA hr 20
  have r21 : ((-2147483648) : Int) ≤ ρ 21 ∧ ρ 21 ≤ 2147483647 := zRnA hr 21
  have r22 : ((-2147483648) : Int) ≤ ρ 22 ∧ ρ 22 ≤ 2147483647 := zRnA hr 22
  have r23 : (0 : Int) ≤ ρ 23 ∧ ρ 23 ≤ 8 := zRnA hr 23
  have r24 : (0 : Int) ≤ ρ 24 ∧ ρ 24 ≤ 32 := zRnA hr 24
  have r25 : (0 : Int) ≤ ρ 25 ∧ ρ 25 ≤ 5120 := zRnA hr 25
  have r26 : (0 : Int) ≤ ρ 26 ∧ ρ 26 ≤ 8 := zRnA hr 26
  have r27 : ((-1) : Int) ≤ ρ 27 ∧ ρ 27 ≤ 7 := zRnA hr 27
  have r28 : ((-1) : Int) ≤ ρ 28 ∧ ρ 28 ≤ 19 := zRnA hr 28
  have r29 : (0 : Int) ≤ ρ 29 ∧ ρ 29 ≤ 4 := zRnA hr 29
  have r30 : ((-2147483648) : Int) ≤ ρ 30 ∧ ρ 30 ≤ 2147483647 := zRnA hr 30
  have r31 : ((-1) : Int) ≤ ρ 31 ∧ ρ 31 ≤ 3 := zRnA hr 31
  have r32 : (0 : Int) ≤ ρ 32 ∧ ρ 32 ≤ 4 := zRnA hr 32
  have r33 : (3 : Int) ≤ ρ 33 ∧ ρ 33 ≤ 2000 := zRnA hr 33
  have r34 : (1 : Int) ≤ ρ 34 ∧ ρ 34 ≤ 1 := zRnA hr 34
  have r35 : (0 : Int) ≤ ρ 35 ∧ ρ 35 ≤ 19 := zRnA hr 35
  have r36 : (1 : Int) ≤ ρ 36 ∧ ρ 36 ≤ 20 := zRnA hr 36
  have r37 : ((-2147483648) : Int) ≤ ρ 37 ∧ ρ 37 ≤ 2147483647 := zRnA hr 37
  have r38 : ((-2147483648) : Int) ≤ ρ 38 ∧ ρ 38 ≤ 2147483647 := zRnA hr 38
  have r39 : (0 : Int) ≤ ρ 39 ∧ ρ 39 ≤ 8 := zRnA hr 39
  have r40 : (0 : Int) ≤ ρ 40 ∧ ρ 40 ≤ 32 := zRnA hr 40
  have r41 : (0 : Int) ≤ ρ 41 ∧ ρ 41 ≤ 5120 := zRnA hr 41
  have r42 : (1 : Int) ≤ ρ 42 ∧ ρ 42 ≤ 4 := zRnA hr 42
  have r43 : (0 : Int) ≤ ρ 43 ∧ ρ 43 ≤ 1999 := zRnA hr 43
  have r44 : ((-1) : Int) ≤ ρ 44 ∧ ρ 44 ≤ 3 := zRnA hr 44
  have r45 : (0 : Int) ≤ ρ 45 ∧ ρ 45 ≤ 0 := zRnA hr 45
  have r46 : (0 : Int) ≤ ρ 46 ∧ ρ 46 ≤ 255 := zRnA hr 46
  have r47 : (0 : Int) ≤ ρ 47 ∧ ρ 47 ≤ 2000 := zRnA hr 47
  have f0 : (0 : Int) ≤ ρ 47 + -ρ 33 := zAllA hf 0
  have f1 : (0 : Int) ≤ -ρ 47 + ρ 4 + (-1) := zAllA hf 1
  have f2 : (0 : Int) ≤ -ρ 33 + ρ 4 + (-1) := zAllA hf 2
  have f3 : (0 : Int) ≤ -ρ 42 + ρ 33 + (-1) := zAllA hf 3
  have f4 : (0 : Int) ≤ -ρ 43 + ρ 33 + (-1) := zAllA hf 4
  have f5 : (0 : Int) ≤ -ρ 44 + ρ 33 + (-1) := zAllA hf 5
  have f6 : (0 : Int) ≤ ρ 33 + -ρ 18 + (-1) := zAllA hf 6
  have f7 : (0 : Int) ≤ ρ 36 + -ρ 35 + (-1) := zAllA hf 7
  have f8 : (0 : Int) ≤ ρ 36 + -ρ 20 := zAllA hf 8
  have f9 : (0 : Int) ≤ ρ 39 + -ρ 23 := zAllA hf 9
  have f10 : (0 : Int) ≤ ρ 40 + -ρ 24 := zAllA hf 10
  have f11 : (0 : Int) ≤ ρ 41 + -ρ 25 := zAllA hf 11
  have f12 : (0 : Int) ≤ ρ 43 + -ρ 18 := zAllA hf 12
  have f13 : (0 : Int) ≤ -ρ 33 + ρ 4 := zAllA hf 13
  have f14 : (0 : Int) ≤ -ρ 34 + ρ 4 + (-1) := zAllA hf 14
  have f15 : (0 : Int) ≤ -ρ 18 + ρ 4 + (-1) := zAllA hf 15
  have f16 : (0 : Int) ≤ -ρ 5 + ρ 4 + (-1) := zAllA hf 16
  have f17 : (0 : Int) ≤ -ρ 31 + ρ 4 := zAllA hf 17
  have f18 : (0 : Int) ≤ -ρ 35 + ρ 20 := zAllA hf 18
  have f19 : (0 : Int) ≤ -ρ 17 + ρ 4 := zAllA hf 19
  have f20 : (0 : Int) ≤ ρ 25 + -ρ 16 := zAllA hf 20
  have f21 : (0 : Int) ≤ ρ 24 + -ρ 15 := zAllA hf 21
  have f22 : (0 : Int) ≤ ρ 23 + -ρ 14 := zAllA hf 22
  have f23 : (0 : Int) ≤ ρ 20 + -ρ 10 := zAllA hf 23
  have f24 : (0 : Int) ≤ ρ 18 + -ρ 3 := zAllA hf 24
  have f25 : (0 : Int) ≤ ρ 18 + -ρ 17 := zAllA hf 25
  have f26 : (0 : Int) ≤ -ρ 19 + ρ 17 := zAllA hf 26
  have m0 : γ 0 1 0 10 = ρ 0 := zAllA hm 0
  have m1 : γ 0 40 0 (ρ 0) = ρ 1 := zAllA hm 1
  have m2 : γ 0 9 (ρ 1) 2 = ρ 2 := zAllA hm 2
  have m3 : γ 0 2 0 6 = ρ 3 := zAllA hm 3
  have m4 : γ 0 2 0 3 = ρ 4 := zAllA hm 4
  have m5 : γ 0 2 0 7 = ρ 5 := zAllA hm 5
  have m6 : γ 0 10 (9 * ρ 1) 8 = ρ 6 := zAllA hm 6
  have m7 : γ 0 10 (9 * ρ 1) 12 = ρ 7 := zAllA hm 7
  have m8 : γ 0 10 (9 * ρ 1) 14 = ρ 8 := zAllA hm 8
  have m9 : γ 0 9 (ρ 1) 3 = ρ 9 := zAllA hm 9
  have m10 : γ 0 1 0 7 = ρ 10 := zAllA hm 10
  have m11 : γ 0 2 0 4 = ρ 11 := zAllA hm 11
  have m12 : γ 0 2 0 5 = ρ 12 := zAllA hm 12
  have m13 : γ 0 2 0 9 = ρ 13 := zAllA hm 13
  have m14 : γ 0 2 0 13 = ρ 14 := zAllA hm 14
  have m15 : γ 0 2 0 16 = ρ 15 := zAllA hm 15
  have m16 : γ 0 3 0 1 = ρ 16 := zAllA hm 16
  have m17 : γ 1 9 (ρ 1) 2 = ρ 17 := zAllA hm 17
  have m18 : γ 1 2 0 6 = ρ 18 := zAllA hm 18
  have m19 : γ 1 10 (9 * ρ 1) 8 = ρ 6 := zAllA hm 19
  have m20 : γ 1 10 (9 * ρ 1) 12 = ρ 7 := zAllA hm 20
  have m21 : γ 1 9 (ρ 1) 3 = ρ 19 := zAllA hm 21
  have m22 : γ 1 1 0 7 = ρ 20 := zAllA hm 22
  have m23 : γ 1 2 0 4 = ρ 11 := zAllA hm 23
  have m24 : γ 1 2 0 5 = ρ 21 := zAllA hm 24
  have m25 : γ 1 2 0 9 = ρ 22 := zAllA hm 25
  have m26 : γ 1 2 0 13 = ρ 23 := zAllA hm 26
  have m27 : γ 1 2 0 16 = ρ 24 := zAllA hm 27
  have m28 : γ 1 3 0 1 = ρ 25 := zAllA hm 28
  have m29 : γ 1 10 (ρ 17 + 9 * ρ 1 + 1) 4 = ρ 26 := zAllA hm 29
  have m30 : γ 1 10 (ρ 17 + 9 * ρ 1 + 1) 11 = ρ 27 := zAllA hm 30
  have m31 : γ 1 10 (ρ 17 + 9 * ρ 1 + 1) 8 = ρ 28 := zAllA hm 31
  have m32 : γ 1 10 (ρ 17 + 9 * ρ 1 + 1) 5 = ρ 29 := zAllA hm 32
  have m33 : γ 1 10 (ρ 17 + 9 * ρ 1 + 1) 7 = ρ 30 := zAllA hm 33
  have m34 : γ 1 10 (ρ 17 + 9 * ρ 1 + 1) 9 = ρ 31 := zAllA hm 34
  have m35 : γ 1 10 (ρ 17 + 9 * ρ 1 + 1) 12 = ρ 32 := zAllA hm 35
  have m36 : γ 3 2 0 6 = ρ 33 := zAllA hm 36
  have m37 : γ 3 10 (ρ 17 + 9 * ρ 1 + 1) 4 = ρ 34 := zAllA hm 37
  have m38 : γ 3 10 (ρ 17 + 9 * ρ 1 + 1) 11 = ρ 27 := zAllA hm 38
  have m39 : γ 3 10 (ρ 17 + 9 * ρ 1 + 1) 8 = ρ 35 := zAllA hm 39
  have m40 : γ 3 10 (9 * ρ 1) 8 = ρ 6 := zAllA hm 40
  have m41 : γ 3 10 (9 * ρ 1) 12 = ρ 7 := zAllA hm 41
  have m42 : γ 3 1 0 7 = ρ 36 := zAllA hm 42
  have m43 : γ 3 2 0 4 = ρ 11 := zAllA hm 43
  have m44 : γ 3 2 0 5 = ρ 37 := zAllA hm 44
  have m45 : γ 3 2 0 9 = ρ 38 := zAllA hm 45
  have m46 : γ 3 2 0 13 = ρ 39 := zAllA hm 46
  have m47 : γ 3 2 0 16 = ρ 40 := zAllA hm 47
  have m48 : γ 3 3 0 1 = ρ 41 := zAllA hm 48
  have m49 : γ 3 10 (ρ 17 + 9 * ρ 1 + 1) 5 = ρ 42 := zAllA hm 49
  have m50 : γ 3 10 (ρ 17 + 9 * ρ 1 + 1) 7 = ρ 43 := zAllA hm 50
  have m51 : γ 3 10 (ρ 17 + 9 * ρ 1 + 1) 9 = ρ 44 := zAllA hm 51
  have m52 : γ 3 10 (ρ 17 + 9 * ρ 1 + 1) 12 = ρ 45 := zAllA hm 52
  have m53 : γ 7 2 0 6 = ρ 47 := zAllA hm 53
  have m54 : γ 8 2 0 4 = ρ 47 := zAllA hm 54
  have c1 : ∀ (G : Nat) (k j : Int), ¬ rMdP m107_ G j → γ 1 G k j = γ 0 G k j := And.right (zChA hc 7)
  have c2 : ∀ (G : Nat) (k j : Int), ¬ rMdP m0_ G j → γ 2 G k j = γ 1 G k j := And.right (zChA hc 6)
  have c3 : ∀ (G : Nat) (k j : Int), ¬ rMdP m106_ G j → γ 3 G k j = γ 2 G k j := And.right (zChA hc 5)
  have c4 : γ 4 = rUp (γ 3) 9 (ρ 1) 2 (ρ 17 + 1) := And.right (zChA hc 4)
  have c5 : γ 5 = rUp (γ 4) 10 (ρ 17 + 9 * ρ 1 + 1) 10 (ρ 19) := And.right (zChA hc 3)
  have c6 : γ 6 = rUp (γ 5) 9 (ρ 1) 3 (ρ 19 + 1) := And.right (zChA hc 2)
  have c7 : ∀ (G : Nat) (k j : Int), ¬ rMdP m77_ G j → γ 7 G k j = γ 6 G k j := And.right (zChA hc 1)
  have c8 : ∀ (G : Nat) (k j : Int), ¬ rMdP m72_ G j → γ 8 G k j = γ 7 G k j := And.right (zChA hc 0)
  have l0 : sn132 [ρ 1, ρ 17] (γ 1) 0 (ρ 17 + 9 * ρ 1 + 1) (γ 2) := hS132 _ _ _ _ _ (zAllA hl 0)
  have l1 : sn157 [ρ 0, ρ 1, ρ 17, ρ 18, ρ 4, ρ 26, ρ 27, ρ 28, ρ 5, ρ 6, ρ 7, ρ 20, ρ 11, ρ 21, ρ 22, ρ 23, ρ 24, ρ 25, ρ 29, ρ 30, ρ 31, ρ 32] (γ 2) 0 1 (γ 3) := hS157 _ _ _ _ _ (zAllA hl 1)
  have l2 : sn114 [ρ 33, ρ 4] (γ 6) 0 (ρ 46) (γ 7) := hS114 _ _ _ _ _ (zAllA hl 2)
  have l3 : ρ 46 ≠ 44 := zAllA hl 3
  have l4 : sn109 [ρ 47, ρ 11] (γ 7) 0 0 (γ 8) := hS109 _ _ _ _ _ (zAllA hl 4)
  show sn159 [ρ 0, ρ 1, ρ 2, ρ 3, ρ 4, ρ 5, ρ 6, ρ 7, ρ 8, ρ 9, ρ 10, ρ 11, ρ 12, ρ 13, ρ 14, ρ 15, ρ 16] (γ 0) 0 0 (γ 8)
  have hD : en159 (γ 0) (0, [], γ 1) = .inr (0, 0, γ 8) := by
    unfold en159
    refine zIP (show (0 : Nat) = 0 by decide) (zLV (γ 1) rfl (zLE m0 (zLE m1 (zLE m17 (zLE m21 (zIN (show ¬ (ρ 17 ≥ 8) by omega) (zLE (show fn132 [ρ 1, ρ 17] (γ 1) = (0, ρ 17 + 9 * ρ 1 + 1, γ 2) from l0.symm) ?_)))))))
    refine zLV (γ 2) rfl (zLE (show fn157 [] (γ 2) = (0, 1, γ 3) from l1.symm) (zLV (γ 3) rfl (zIP (show (1 : Int) ≤ 1 by omega) (zIN (show ¬ (3 ≤ γ 3 10 (ρ 17 + 9 * ρ 1 + 1) 4) by omega) (zLE m37 (zLE c4.symm (zIN (show ¬ (ρ 34 ≠ 1) by omega) ?_)))))))
    refine zLE c5.symm (zLE c6.symm (zLE (show fn114 [] (γ 6) = (0, ρ 46, γ 7) from l2.symm) (zLV (γ 7) rfl (zIP (show (0 : Int) ≤ ρ 46 by omega) (zLV (ρ 46) rfl (zLE m53 (zIN (show ¬ (ρ 46 = 44) by omega) ?_)))))))
    refine zLE (show fn109 [ρ 47] (γ 7) = (0, 0, γ 8) from l4.symm) (zLV (γ 8) rfl ?_)
    rfl
  exact zGoo_aend hJ hD
theorem yn159 {S : Nat → zSpc} (hS109 : zIm S 109 sn109) (hS114 : zIm S 114 sn114) (hS132 : zIm S 132 sn132) (hS152 : zIm S 152 sn152) (hS157 : zIm S 157 sn157) : ∀ x g o v gz, zSem uW uT w159_.2.2.2.1 w159_.2.2.1.1.length S q159 (fun i => q159a.getD i []) (zNA a159_) x g o v gz → sn159 x g o v gz := by
  intro a g o v gz h
  exact zSem_all (l0 := q159) (las := q159a) (S := S) (J := (fun i vs g1 => jn159 a g i vs g1)) (P := sn159 a g) (fun _ => (show zAll _ [q159_0] from (zAll_c (vn159_0 hS109 hS114 hS132 hS152 hS157) zAll_n))) (fun _ => (show zAllI _ 0 [q159a0] from ⟨(show zAll _ [q159a0_0, q159a0_1, q159a0_2, q159a0_3, q159a0_4, q159a0_5, q159a0_6, q159a0_7, q159a0_8, q159a0_9, q159a0_10, q159a0_11, q159a0_12, q159a0_13, q159a0_14, q159a0_15, q159a0_16, q159a0_17, q159a0_18] from (zAll_c (vn159a0_0 hS109 hS114 hS132 hS152 hS157) (zAll_c (vn159a0_1 hS109 hS114 hS132 hS152 hS157) (zAll_c (vn159a0_2 hS109 hS114 hS132 hS152 hS157) (zAll_c (vn159a0_3 hS109 hS114 hS132 hS152 hS157) (zAll_c (vn159a0_4 hS109 hS114 hS132 hS152 hS157) (zAll_c (vn159a0_5 hS109 hS114 hS132 hS152 hS157) (zAll_c (vn159a0_6 hS109 hS114 hS132 hS152 hS157) (zAll_c (vn159a0_7 hS109 hS114 hS132 hS152 hS157) (zAll_c (vn159a0_8 hS109 hS114 hS132 hS152 hS157) (zAll_c (vn159a0_9 hS109 hS114 hS132 hS152 hS157) (zAll_c (vn159a0_10 hS109 hS114 hS132 hS152 hS157) (zAll_c (vn159a0_11 hS109 hS114 hS132 hS152 hS157) (zAll_c (vn159a0_12 hS109 hS114 hS132 hS152 hS157) (zAll_c (vn159a0_13 hS109 hS114 hS132 hS152 hS157) (zAll_c (vn159a0_14 hS109 hS114 hS132 hS152 hS157) (zAll_c (vn159a0_15 hS109 hS114 hS132 hS152 hS157) (zAll_c (vn159a0_16 hS109 hS114 hS132 hS152 hS157) (zAll_c (vn159a0_17 hS109 hS114 hS132 hS152 hS157) (zAll_c (vn159a0_18 hS109 hS114 hS132 hS152 hS157) zAll_n)))))))))))))))))))), trivial⟩)) h
theorem vn160_0 {S : Nat → zSpc}  {a : List Int} {g : rHp} : ∀ (ρ : Nat → Int) (γ : Nat → rHp), zO 6 S a g q160_0 ρ γ → zGl (fun _ _ _ => True) (sn160 a g) q160_0 ρ γ := by
  intro ρ γ h
  obtain ⟨ha, hg, hr, hf, hm, hc, hl⟩ := h
  have ha : a = [ρ 0, ρ 1, ρ 2, ρ 3, ρ 4, ρ 5] := ha
  subst ha
  subst hg
  have r0 : (0 : Int) ≤ ρ 0 ∧ ρ 0 ≤ 59 := zRnA hr 0
  have w_0 : ρ 0 < 60 := by omega
  have m0 : γ 0 1 0 10 = ρ 0 := zAllA hm 0
  have c1 : γ 1 = rUp (γ 0) 1 0 10 (ρ 0 + 1) := And.right (zChA hc 0)
  show sn160 [ρ 0, ρ 1, ρ 2, ρ 3, ρ 4, ρ 5] (γ 0) 0 1 (γ 1)
  refine Eq.symm ?_
  show fn160 [] (γ 0) = _
  unfold fn160
  refine zLE m0 (zIP w_0 (zLE c1.symm ?_))
  rfl
theorem vn160_1 {S : Nat → zSpc}  {a : List Int} {g : rHp} : ∀ (ρ : Nat → Int) (γ : Nat → rHp), zO 6 S a g q160_1 ρ γ → zGl (fun _ _ _ => True) (sn160 a g) q160_1 ρ γ := by
  intro ρ γ h
  obtain ⟨ha, hg, hr, hf, hm, hc, hl⟩ := h
  have ha : a = [ρ 0, ρ 1, ρ 2, ρ 3, ρ 4, ρ 5] := ha
  subst ha
  subst hg
  have r0 : (60 : Int) ≤ ρ 0 ∧ ρ 0 ≤ 60 := zRnA hr 0
  have w_0 : ¬ (ρ 0 < 60) := by omega
  have m0 : γ 0 1 0 10 = ρ 0 := zAllA hm 0
  show sn160 [ρ 0, ρ 1, ρ 2, ρ 3, ρ 4, ρ 5] (γ 0) 0 0 (γ 0)
  refine Eq.symm ?_
  show fn160 [] (γ 0) = _
  unfold fn160
  refine zLE m0 (zIN w_0 ?_)
  rfl
theorem yn160 {S : Nat → zSpc}  : ∀ x g o v gz, zSem uW uT w160_.2.2.2.1 w160_.2.2.1.1.length S q160 (fun i => q160a.getD i []) (zNA a160_) x g o v gz → sn160 x g o v gz := by
  intro a g o v gz h
  exact zSem_all (l0 := q160) (las := q160a) (S := S) (J := (fun _ _ _ => True)) (P := sn160 a g) (fun _ => (show zAll _ [q160_0, q160_1] from (zAll_c (vn160_0 ) (zAll_c (vn160_1 ) zAll_n)))) (fun _ => (show zAllI _ 0 [] from trivial)) h
theorem vn161_0 {S : Nat → zSpc}  {a : List Int} {g : rHp} : ∀ (ρ : Nat → Int) (γ : Nat → rHp), zO 6 S a g q161_0 ρ γ → zGl (fun _ _ _ => True) (sn161 a g) q161_0 ρ γ := by
  intro ρ γ h
  obtain ⟨ha, hg, hr, hf, hm, hc, hl⟩ := h
  have ha : a = [ρ 0, ρ 1, ρ 2, ρ 3, ρ 4, ρ 5] := ha
  subst ha
  subst hg
  have m1 : γ 0 1 0 13 = ρ 1 := zAllA hm 1
  have m4 : γ 0 1 0 11 = ρ 4 := zAllA hm 4
  have m5 : γ 0 1 0 12 = ρ 5 := zAllA hm 5
  have c1 : γ 1 = rUp (γ 0) 1 0 7 (ρ 4) := And.right (zChA hc 2)
  have c2 : γ 2 = rUp (γ 1) 1 0 9 (ρ 5) := And.right (zChA hc 1)
  have c3 : γ 3 = rUp (γ 2) 1 0 10 (ρ 1) := And.right (zChA hc 0)
  show sn161 [ρ 0, ρ 1, ρ 2, ρ 3, ρ 4, ρ 5] (γ 0) 0 0 (γ 3)
  refine Eq.symm ?_
  show fn161 [] (γ 0) = _
  unfold fn161
  refine zLE m1 (zLE m4 (zLE m5 (zLE c1.symm (zLE c2.symm (zLE c3.symm ?_)))))
  rfl
theorem yn161 {S : Nat → zSpc}  : ∀ x g o v gz, zSem uW uT w161_.2.2.2.1 w161_.2.2.1.1.length S q161 (fun i => q161a.getD i []) (zNA a161_) x g o v gz → sn161 x g o v gz := by
  intro a g o v gz h
  exact zSem_all (l0 := q161) (las := q161a) (S := S) (J := (fun _ _ _ => True)) (P := sn161 a g) (fun _ => (show zAll _ [q161_0] from (zAll_c (vn161_0 ) zAll_n))) (fun _ => (show zAllI _ 0 [] from trivial)) h
theorem vn162_0 {S : Nat → zSpc}  {a : List Int} {g : rHp} : ∀ (ρ : Nat → Int) (γ : Nat → rHp), zO 3 S a g q162_0 ρ γ → zGl (fun _ _ _ => True) (sn162 a g) q162_0 ρ γ := by
  intro ρ γ h
  obtain ⟨ha, hg, hr, hf, hm, hc, hl⟩ := h
  have ha : a = [ρ 0, ρ 1, ρ 2] := ha
  subst ha
  subst hg
  have c1 : γ 1 = rUp (γ 0) 8 (ρ 0) 1 0 := And.right (zChA hc 1)
  have c2 : γ 2 = rUp (γ 1) 8 (ρ 0) 2 0 := And.right (zChA hc 0)
  show sn162 [ρ 0, ρ 1, ρ 2] (γ 0) 0 0 (γ 2)
  refine Eq.symm ?_
  show fn162 [ρ 0] (γ 0) = _
  unfold fn162
  refine zLV (ρ 0) rfl (zLE c1.symm (zLE c2.symm ?_))
  rfl
theorem yn162 {S : Nat → zSpc}  : ∀ x g o v gz, zSem uW uT w162_.2.2.2.1 w162_.2.2.1.1.length S q162 (fun i => q162a.getD i []) (zNA a162_) x g o v gz → sn162 x g o v gz := by
  intro a g o v gz h
  exact zSem_all (l0 := q162) (las := q162a) (S := S) (J := (fun _ _ _ => True)) (P := sn162 a g) (fun _ => (show zAll _ [q162_0] from (zAll_c (vn162_0 ) zAll_n))) (fun _ => (show zAllI _ 0 [] from trivial)) h
theorem vn163_0 {S : Nat → zSpc} (hS162 : zIm S 162 sn162) {a : List Int} {g : rHp} : ∀ (ρ : Nat → Int) (γ : Nat → rHp), zO 0 S a g q163_0 ρ γ → zGl (fun _ _ _ => True) (sn163 a g) q163_0 ρ γ := by
  intro ρ γ h
  obtain ⟨ha, hg, hr, hf, hm, hc, hl⟩ := h
  have ha : a = [] := ha
  subst ha
  subst hg
  have m0 : γ 0 0 0 5 = ρ 0 := zAllA hm 0
  have c1 : γ 1 = rUp (γ 0) 0 0 7 0 := And.right (zChA hc 1)
  have l0 : sn162 [ρ 0, ρ 1, ρ 2] (γ 1) 0 0 (γ 2) := hS162 _ _ _ _ _ (zAllA hl 0)
  show sn163 [] (γ 0) 0 0 (γ 2)
  refine Eq.symm ?_
  show fn163 [] (γ 0) = _
  unfold fn163
  refine zLE c1.symm (zLE m0 (zLE (show fn162 [ρ 0] (γ 1) = (0, 0, γ 2) from l0.symm) (zLV (γ 2) rfl ?_)))
  rfl
theorem yn163 {S : Nat → zSpc} (hS162 : zIm S 162 sn162) : ∀ x g o v gz, zSem uW uT w163_.2.2.2.1 w163_.2.2.1.1.length S q163 (fun i => q163a.getD i []) (zNA a163_) x g o v gz → sn163 x g o v gz := by
  intro a g o v gz h
  exact zSem_all (l0 := q163) (las := q163a) (S := S) (J := (fun _ _ _ => True)) (P := sn163 a g) (fun _ => (show zAll _ [q163_0] from (zAll_c (vn163_0 hS162) zAll_n))) (fun _ => (show zAllI _ 0 [] from trivial)) h
theorem vn164_0 {S : Nat → zSpc} (hS113 : zIm S 113 sn113) {a : List Int} {g : rHp} : ∀ (ρ : Nat → Int) (γ : Nat → rHp), zO 6 S a g q164_0 ρ γ → zGl (fun _ _ _ => True) (sn164 a g) q164_0 ρ γ := by
  intro ρ γ h
  obtain ⟨ha, hg, hr, hf, hm, hc, hl⟩ := h
  have ha : a = [ρ 0, ρ 1, ρ 2, ρ 3, ρ 4, ρ 5] := ha
  subst ha
  subst hg
  have r5 : (0 : Int) ≤ ρ 5 ∧ ρ 5 ≤ 1980 := zRnA hr 5
  have w_0 : ρ 5 + 20 ≤ 2000 := by omega
  have m0 : γ 0 2 0 3 = ρ 5 := zAllA hm 0
  have l0 : sn113 [ρ 0, ρ 5] (γ 0) 0 0 (γ 1) := hS113 _ _ _ _ _ (zAllA hl 0)
  have l1 : sn113 [ρ 1, ρ 5 + 4] (γ 1) 0 0 (γ 2) := hS113 _ _ _ _ _ (zAllA hl 1)
  have l2 : sn113 [ρ 2, ρ 5 + 8] (γ 2) 0 0 (γ 3) := hS113 _ _ _ _ _ (zAllA hl 2)
  have l3 : sn113 [ρ 3, ρ 5 + 12] (γ 3) 0 0 (γ 4) := hS113 _ _ _ _ _ (zAllA hl 3)
  have l4 : sn113 [ρ 4, ρ 5 + 16] (γ 4) 0 0 (γ 5) := hS113 _ _ _ _ _ (zAllA hl 4)
  show sn164 [ρ 0, ρ 1, ρ 2, ρ 3, ρ 4, ρ 5] (γ 0) 0 (ρ 5 + 20) (γ 5)
  refine Eq.symm ?_
  show fn164 [ρ 0, ρ 1, ρ 2, ρ 3, ρ 4] (γ 0) = _
  unfold fn164
  refine zLV (ρ 0) rfl (zLV (ρ 1) rfl (zLV (ρ 2) rfl (zLV (ρ 3) rfl (zLV (ρ 4) rfl (zLE m0 (zIP w_0 (zLE (show fn113 [ρ 0] (γ 0) = (0, 0, γ 1) from l0.symm) ?_)))))))
  refine zLV (γ 1) rfl (zLE (show fn113 [ρ 1] (γ 1) = (0, 0, γ 2) from l1.symm) (zLV (γ 2) rfl (zLE (show fn113 [ρ 2] (γ 2) = (0, 0, γ 3) from l2.symm) (zLV (γ 3) rfl (zLE (show fn113 [ρ 3] (γ 3) = (0, 0, γ 4) from l3.symm) (zLV (γ 4) rfl (zLE (show fn113 [ρ 4] (γ 4) = (0, 0, γ 5) from l4.symm) ?_)))))))
  refine zLV (γ 5) rfl ?_
  rfl
theorem vn164_1 {S : Nat → zSpc} (hS113 : zIm S 113 sn113) {a : List Int} {g : rHp} : ∀ (ρ : Nat → Int) (γ : Nat → rHp), zO 6 S a g q164_1 ρ γ → zGl (fun _ _ _ => True) (sn164 a g) q164_1 ρ γ := by
  intro ρ γ h
  obtain ⟨ha, hg, hr, hf, hm, hc, hl⟩ := h
  have ha : a = [ρ 0, ρ 1, ρ 2, ρ 3, ρ 4, ρ 5] := ha
  subst ha
  subst hg
  have r5 : (1981 : Int) ≤ ρ 5 ∧ ρ 5 ≤ 2000 := zRnA hr 5
  have w_0 : ¬ (ρ 5 + 20 ≤ 2000) := by omega
  have m0 : γ 0 2 0 3 = ρ 5 := zAllA hm 0
  show sn164 [ρ 0, ρ 1, ρ 2, ρ 3, ρ 4, ρ 5] (γ 0) 1 0 (γ 0)
  refine Eq.symm ?_
  show fn164 [ρ 0, ρ 1, ρ 2, ρ 3, ρ 4] (γ 0) = _
  unfold fn164
  refine zLV (ρ 0) rfl (zLV (ρ 1) rfl (zLV (ρ 2) rfl (zLV (ρ 3) rfl (zLV (ρ 4) rfl (zLE m0 (zIN w_0 ?_))))))
  rfl
theorem yn164 {S : Nat → zSpc} (hS113 : zIm S 113 sn113) : ∀ x g o v gz, zSem uW uT w164_.2.2.2.1 w164_.2.2.1.1.length S q164 (fun i => q164a.getD i []) (zNA a164_) x g o v gz → sn164 x g o v gz := by
  intro a g o v gz h
  exact zSem_all (l0 := q164) (las := q164a) (S := S) (J := (fun _ _ _ => True)) (P := sn164 a g) (fun _ => (show zAll _ [q164_0, q164_1] from (zAll_c (vn164_0 hS113) (zAll_c (vn164_1 hS113) zAll_n)))) (fun _ => (show zAllI _ 0 [] from trivial)) h
theorem vn165_0 {S : Nat → zSpc}  {a : List Int} {g : rHp} : ∀ (ρ : Nat → Int) (γ : Nat → rHp), zO 2 S a g q165_0 ρ γ → zGl (fun _ _ _ => True) (sn165 a g) q165_0 ρ γ := by
  intro ρ γ h
  obtain ⟨ha, hg, hr, hf, hm, hc, hl⟩ := h
  have ha : a = [ρ 0, ρ 1] := ha
  subst ha
  subst hg
  have r0 : ((-2147483648) : Int) ≤ ρ 0 ∧ ρ 0 ≤ (-1) := zRnA hr 0
  have w_0 : ρ 0 < 0 := by omega
  have m0 : γ 0 2 0 3 = ρ 1 := zAllA hm 0
  show sn165 [ρ 0, ρ 1] (γ 0) 2 0 (γ 0)
  refine Eq.symm ?_
  show fn165 [ρ 0] (γ 0) = _
  unfold fn165
  refine zLV (ρ 0) rfl (zLE m0 (zIP w_0 ?_))
  rfl
theorem vn165_1 {S : Nat → zSpc}  {a : List Int} {g : rHp} : ∀ (ρ : Nat → Int) (γ : Nat → rHp), zO 2 S a g q165_1 ρ γ → zGl (fun _ _ _ => True) (sn165 a g) q165_1 ρ γ := by
  intro ρ γ h
  obtain ⟨ha, hg, hr, hf, hm, hc, hl⟩ := h
  have ha : a = [ρ 0, ρ 1] := ha
  subst ha
  subst hg
  have r0 : (0 : Int) ≤ ρ 0 ∧ ρ 0 ≤ 2147483647 := zRnA hr 0
  have f0 : (0 : Int) ≤ ρ 1 + -ρ 0 := zAllA hf 0
  obtain ⟨w_0, w_1⟩ : (¬ (ρ 0 < 0)) ∧ (ρ 0 ≤ ρ 1) := ⟨by omega, by omega⟩
  have m0 : γ 0 2 0 3 = ρ 1 := zAllA hm 0
  have c1 : γ 1 = rUp (γ 0) 2 0 3 (ρ 0) := And.right (zChA hc 0)
  show sn165 [ρ 0, ρ 1] (γ 0) 0 (ρ 0) (γ 1)
  refine Eq.symm ?_
  show fn165 [ρ 0] (γ 0) = _
  unfold fn165
  refine zLV (ρ 0) rfl (zLE m0 (zIN w_0 (zIP w_1 (zLE c1.symm ?_))))
  rfl
theorem vn165_2 {S : Nat → zSpc}  {a : List Int} {g : rHp} : ∀ (ρ : Nat → Int) (γ : Nat → rHp), zO 2 S a g q165_2 ρ γ → zGl (fun _ _ _ => True) (sn165 a g) q165_2 ρ γ := by
  intro ρ γ h
  obtain ⟨ha, hg, hr, hf, hm, hc, hl⟩ := h
  have ha : a = [ρ 0, ρ 1] := ha
  subst ha
  subst hg
  have r0 : (0 : Int) ≤ ρ 0 ∧ ρ 0 ≤ 2147483647 := zRnA hr 0
  have f0 : (0 : Int) ≤ -ρ 1 + ρ 0 + (-1) := zAllA hf 0
  obtain ⟨w_0, w_1⟩ : (¬ (ρ 0 < 0)) ∧ (¬ (ρ 0 ≤ ρ 1)) := ⟨by omega, by omega⟩
  have m0 : γ 0 2 0 3 = ρ 1 := zAllA hm 0
  show sn165 [ρ 0, ρ 1] (γ 0) 2 0 (γ 0)
  refine Eq.symm ?_
  show fn165 [ρ 0] (γ 0) = _
  unfold fn165
  refine zLV (ρ 0) rfl (zLE m0 (zIN w_0 (zIN w_1 ?_)))
  rfl
theorem yn165 {S : Nat → zSpc}  : ∀ x g o v gz, zSem uW uT w165_.2.2.2.1 w165_.2.2.1.1.length S q165 (fun i => q165a.getD i []) (zNA a165_) x g o v gz → sn165 x g o v gz := by
  intro a g o v gz h
  exact zSem_all (l0 := q165) (las := q165a) (S := S) (J := (fun _ _ _ => True)) (P := sn165 a g) (fun _ => (show zAll _ [q165_0, q165_1, q165_2] from (zAll_c (vn165_0 ) (zAll_c (vn165_1 ) (zAll_c (vn165_2 ) zAll_n))))) (fun _ => (show zAllI _ 0 [] from trivial)) h
theorem vn166_0 {S : Nat → zSpc} (hS111 : zIm S 111 sn111) (hS112 : zIm S 112 sn112) (hS114 : zIm S 114 sn114) (hS123 : zIm S 123 sn123) (hS124 : zIm S 124 sn124) (hS131 : zIm S 131 sn131) (hS146 : zIm S 146 sn146) (hS150 : zIm S 150 sn150) (hS151 : zIm S 151 sn151) (hS158 : zIm S 158 sn158) (hS160 : zIm S 160 sn160) (hS161 : zIm S 161 sn161) (hS163 : zIm S 163 sn163) {a : List Int} {g : rHp} : ∀ (ρ : Nat → Int) (γ : Nat → rHp), zO 27 S a g q166_0 ρ γ → zGl (fun i vs g1 => jn166 a g i vs g1) (sn166 a g) q166_0 ρ γ := by
  intro ρ γ h
  obtain ⟨ha, hg, hr, hf, hm, hc, hl⟩ := h
  have ha : a = [ρ 0, ρ 1, ρ 2, ρ 3, ρ 4, ρ 5, ρ 6, ρ 7, ρ 8, ρ 9, ρ 10, ρ 11, ρ 12, ρ 13, ρ 14, ρ 15, ρ 16, ρ 17, ρ 18, ρ 19, ρ 20, ρ 21, ρ 22, ρ 23, ρ 24, ρ 25, ρ 26] := ha
  subst ha
  subst hg
  have l0 : sn123 [ρ 10, ρ 11, ρ 0, ρ 12, ρ 13, ρ 5] (γ 0) 0 0 (γ 1) := hS123 _ _ _ _ _ (zAllA hl 0)
  have l1 : sn111 [0, ρ 15, ρ 3, ρ 6, ρ 17, ρ 18] (γ 1) 0 0 (γ 2) := hS111 _ _ _ _ _ (zAllA hl 1)
  show jn166 [ρ 0, ρ 1, ρ 2, ρ 3, ρ 4, ρ 5, ρ 6, ρ 7, ρ 8, ρ 9, ρ 10, ρ 11, ρ 12, ρ 13, ρ 14, ρ 15, ρ 16, ρ 17, ρ 18, ρ 19, ρ 20, ρ 21, ρ 22, ρ 23, ρ 24, ρ 25, ρ 26] (γ 0) 0 [ρ 0, ρ 1, ρ 2, ρ 3, ρ 4, ρ 5, ρ 6, ρ 7, ρ 8, ρ 9, ρ 10, ρ 11, ρ 12, ρ 13, ρ 14, ρ 15, ρ 16, ρ 17, ρ 18, ρ 19, ρ 20, ρ 21, ρ 22, ρ 23, ρ 24, ρ 25, ρ 26, 1, 0, ρ 0, ρ 2, 0, 0, ρ 7, ρ 8, ρ 9, ρ 10, ρ 11, ρ 14, 0, ρ 16, 0, 0, ρ 19, ρ 20, ρ 21, ρ 22, ρ 23, ρ 24, ρ 25, ρ 26] (γ 2)
  have hD : dn166 [] (γ 0) = .inl (0, [1, 0], γ 2) := by
    unfold dn166
    refine zLE (show fn123 [] (γ 0) = (0, 0, γ 1) from l0.symm) (zLV (γ 1) rfl (zLE (show fn111 [0] (γ 1) = (0, 0, γ 2) from l1.symm) (zLV (γ 2) rfl ?_)))
    rfl
  exact zGoo_to hD
theorem vn166a0_0 {S : Nat → zSpc} (hS111 : zIm S 111 sn111) (hS112 : zIm S 112 sn112) (hS114 : zIm S 114 sn114) (hS123 : zIm S 123 sn123) (hS124 : zIm S 124 sn124) (hS131 : zIm S 131 sn131) (hS146 : zIm S 146 sn146) (hS150 : zIm S 150 sn150) (hS151 : zIm S 151 sn151) (hS158 : zIm S 158 sn158) (hS160 : zIm S 160 sn160) (hS161 : zIm S 161 sn161) (hS163 : zIm S 163 sn163) {a : List Int} {g : rHp} : ∀ (ρ : Nat → Int) (γ : Nat → rHp), jn166 a g 0 (zAg (zNA a166_ 0) ρ) (γ 1) → zO 27 S a g q166a0_0 ρ γ → zGl (fun i vs g1 => jn166 a g i vs g1) (sn166 a g) q166a0_0 ρ γ := by
  intro ρ γ hJ h
  obtain ⟨ha, hg, hr, hf, hm, hc, hl⟩ := h
  have ha : a = [ρ 0, ρ 1, ρ 2, ρ 3, ρ 4, ρ 5, ρ 6, ρ 7, ρ 8, ρ 9, ρ 10, ρ 11, ρ 12, ρ 13, ρ 14, ρ 15, ρ 16, ρ 17, ρ 18, ρ 19, ρ 20, ρ 21, ρ 22, ρ 23, ρ 24, ρ 25, ρ 26] := ha
  subst ha
  subst hg
  have hJ : jn166 [ρ 0, ρ 1, ρ 2, ρ 3, ρ 4, ρ 5, ρ 6, ρ 7, ρ 8, ρ 9, ρ 10, ρ 11, ρ 12, ρ 13, ρ 14, ρ 15, ρ 16, ρ 17, ρ 18, ρ 19, ρ 20, ρ 21, ρ 22, ρ 23, ρ 24, ρ 25, ρ 26] (γ 0) 0 [ρ 0, ρ 1, ρ 2, ρ 3, ρ 4, ρ 5, ρ 6, ρ 7, ρ 8, ρ 9, ρ 10, ρ 11, ρ 12, ρ 13, ρ 14, ρ 15, ρ 16, ρ 17, ρ 18, ρ 19, ρ 20, ρ 21, ρ 22, ρ 23, ρ 24, ρ 25, ρ 26, ρ 27, ρ 28, ρ 29, ρ 30, ρ 31, ρ 32, ρ 33, ρ 34, ρ 35, ρ 36, ρ 37, ρ 38, ρ 39, ρ 40, ρ 41, ρ 42, ρ 43, ρ 44, ρ 45, ρ 46, ρ 47, ρ 48, ρ 49, ρ 50] (γ 1) := hJ
  have r27 : (0 : Int) ≤ ρ 27 ∧ ρ 27 ≤ 0 := zRnA hr 27
  have w_0 : ρ 27 = 0 := by omega
  have m27 : γ 1 1 0 10 = ρ 29 := zAllA hm 27
  have m39 : γ 1 2 0 4 = ρ 38 := zAllA hm 39
  have l0 : sn112 [ρ 4] (γ 1) 0 0 (γ 2) := hS112 _ _ _ _ _ (zAllA hl 0)
  have l1 : sn161 [ρ 29, ρ 0, ρ 36, ρ 37, ρ 10, ρ 11] (γ 2) 0 0 (γ 3) := hS161 _ _ _ _ _ (zAllA hl 1)
  show sn166 [ρ 0, ρ 1, ρ 2, ρ 3, ρ 4, ρ 5, ρ 6, ρ 7, ρ 8, ρ 9, ρ 10, ρ 11, ρ 12, ρ 13, ρ 14, ρ 15, ρ 16, ρ 17, ρ 18, ρ 19, ρ 20, ρ 21, ρ 22, ρ 23, ρ 24, ρ 25, ρ 26] (γ 0) 0 (-ρ 38 + (-1)) (γ 3)
  have hD : en166 (γ 0) (0, [ρ 27, ρ 28], γ 1) = .inr (0, -ρ 38 + (-1), γ 3) := by
    unfold en166
    refine zIP (show (0 : Nat) = 0 by decide) (zLV (γ 1) rfl (zLV (ρ 27) rfl (zLV (ρ 28) rfl (zLE m27 (zLE m39 (zIP w_0 (zLE (show fn112 [] (γ 1) = (0, 0, γ 2) from l0.symm) ?_)))))))
    refine zLV (γ 2) rfl (zLE (show fn161 [] (γ 2) = (0, 0, γ 3) from l1.symm) (zLV (γ 3) rfl ?_))
    rfl
  exact zGoo_aend hJ hD
theorem vn166a0_1 {S : Nat → zSpc} (hS111 : zIm S 111 sn111) (hS112 : zIm S 112 sn112) (hS114 : zIm S 114 sn114) (hS123 : zIm S 123 sn123) (hS124 : zIm S 124 sn124) (hS131 : zIm S 131 sn131) (hS146 : zIm S 146 sn146) (hS150 : zIm S 150 sn150) (hS151 : zIm S 151 sn151) (hS158 : zIm S 158 sn158) (hS160 : zIm S 160 sn160) (hS161 : zIm S 161 sn161) (hS163 : zIm S 163 sn163) {a : List Int} {g : rHp} : ∀ (ρ : Nat → Int) (γ : Nat → rHp), jn166 a g 0 (zAg (zNA a166_ 0) ρ) (γ 1) → zO 27 S a g q166a0_1 ρ γ → zGl (fun i vs g1 => jn166 a g i vs g1) (sn166 a g) q166a0_1 ρ γ := by
  intro ρ γ hJ h
  obtain ⟨ha, hg, hr, hf, hm, hc, hl⟩ := h
  have ha : a = [ρ 0, ρ 1, ρ 2, ρ 3, ρ 4, ρ 5, ρ 6, ρ 7, ρ 8, ρ 9, ρ 10, ρ 11, ρ 12, ρ 13, ρ 14, ρ 15, ρ 16, ρ 17, ρ 18, ρ 19, ρ 20, ρ 21, ρ 22, ρ 23, ρ 24, ρ 25, ρ 26] := ha
  subst ha
  subst hg
  have hJ : jn166 [ρ 0, ρ 1, ρ 2, ρ 3, ρ 4, ρ 5, ρ 6, ρ 7, ρ 8, ρ 9, ρ 10, ρ 11, ρ 12, ρ 13, ρ 14, ρ 15, ρ 16, ρ 17, ρ 18, ρ 19, ρ 20, ρ 21, ρ 22, ρ 23, ρ 24, ρ 25, ρ 26] (γ 0) 0 [ρ 0, ρ 1, ρ 2, ρ 3, ρ 4, ρ 5, ρ 6, ρ 7, ρ 8, ρ 9, ρ 10, ρ 11, ρ 12, ρ 13, ρ 14, ρ 15, ρ 16, ρ 17, ρ 18, ρ 19, ρ 20, ρ 21, ρ 22, ρ 23, ρ 24, ρ 25, ρ 26, ρ 27, ρ 28, ρ 29, ρ 30, ρ 31, ρ 32, ρ 33, ρ 34, ρ 35, ρ 36, ρ 37, ρ 38, ρ 39, ρ 40, ρ 41, ρ 42, ρ 43, ρ 44, ρ 45, ρ 46, ρ 47, ρ 48, ρ 49, ρ 50] (γ 1) := hJ
  have r27 : (1 : Int) ≤ ρ 27 ∧ ρ 27 ≤ 1 := zRnA hr 27
  have r28 : (2000 : Int) ≤ ρ 28 ∧ ρ 28 ≤ 2000 := zRnA hr 28
  obtain ⟨w_0, w_1⟩ : (¬ (ρ 27 = 0)) ∧ (ρ 28 ≥ 2000) := ⟨by omega, by omega⟩
  have m27 : γ 1 1 0 10 = ρ 29 := zAllA hm 27
  have m39 : γ 1 2 0 4 = ρ 38 := zAllA hm 39
  have l0 : sn112 [ρ 4] (γ 1) 0 0 (γ 2) := hS112 _ _ _ _ _ (zAllA hl 0)
  have l1 : sn124 [ρ 37, ρ 29, ρ 11, ρ 0] (γ 2) 0 0 (γ 3) := hS124 _ _ _ _ _ (zAllA hl 1)
  show sn166 [ρ 0, ρ 1, ρ 2, ρ 3, ρ 4, ρ 5, ρ 6, ρ 7, ρ 8, ρ 9, ρ 10, ρ 11, ρ 12, ρ 13, ρ 14, ρ 15, ρ 16, ρ 17, ρ 18, ρ 19, ρ 20, ρ 21, ρ 22, ρ 23, ρ 24, ρ 25, ρ 26] (γ 0) 0 (ρ 28) (γ 3)
  have hD : en166 (γ 0) (0, [ρ 27, ρ 28], γ 1) = .inr (0, ρ 28, γ 3) := by
    unfold en166
    refine zIP (show (0 : Nat) = 0 by decide) (zLV (γ 1) rfl (zLV (ρ 27) rfl (zLV (ρ 28) rfl (zLE m27 (zLE m39 (zIN w_0 (zIP w_1 ?_)))))))
    refine zLE (show fn112 [] (γ 1) = (0, 0, γ 2) from l0.symm) (zLV (γ 2) rfl (zLE (show fn124 [] (γ 2) = (0, 0, γ 3) from l1.symm) (zLV (γ 3) rfl (zIN zQ0_ ?_))))
    rfl
  exact zGoo_aend hJ hD
theorem vn166a0_2 {S : Nat → zSpc} (hS111 : zIm S 111 sn111) (hS112 : zIm S 112 sn112) (hS114 : zIm S 114 sn114) (hS123 : zIm S 123 sn123) (hS124 : zIm S 124 sn124) (hS131 : zIm S 131 sn131) (hS146 : zIm S 146 sn146) (hS150 : zIm S 150 sn150) (hS151 : zIm S 151 sn151) (hS158 : zIm S 158 sn158) (hS160 : zIm S 160 sn160) (hS161 : zIm S 161 sn161) (hS163 : zIm S 163 sn163) {a : List Int} {g : rHp} : ∀ (ρ : Nat → Int) (γ : Nat → rHp), jn166 a g 0 (zAg (zNA a166_ 0) ρ) (γ 1) → zO 27 S a g q166a0_2 ρ γ → zGl (fun i vs g1 => jn166 a g i vs g1) (sn166 a g) q166a0_2 ρ γ := by
  intro ρ γ hJ h
  obtain ⟨ha, hg, hr, hf, hm, hc, hl⟩ := h
  have ha : a = [ρ 0, ρ 1, ρ 2, ρ 3, ρ 4, ρ 5, ρ 6, ρ 7, ρ 8, ρ 9, ρ 10, ρ 11, ρ 12, ρ 13, ρ 14, ρ 15, ρ 16, ρ 17, ρ 18, ρ 19, ρ 20, ρ 21, ρ 22, ρ 23, ρ 24, ρ 25, ρ 26] := ha
  subst ha
  subst hg
  have hJ : jn166 [ρ 0, ρ 1, ρ 2, ρ 3, ρ 4, ρ 5, ρ 6, ρ 7, ρ 8, ρ 9, ρ 10, ρ 11, ρ 12, ρ 13, ρ 14, ρ 15, ρ 16, ρ 17, ρ 18, ρ 19, ρ 20, ρ 21, ρ 22, ρ 23, ρ 24, ρ 25, ρ 26] (γ 0) 0 [ρ 0, ρ 1, ρ 2, ρ 3, ρ 4, ρ 5, ρ 6, ρ 7, ρ 8, ρ 9, ρ 10, ρ 11, ρ 12, ρ 13, ρ 14, ρ 15, ρ 16, ρ 17, ρ 18, ρ 19, ρ 20, ρ 21, ρ 22, ρ 23, ρ 24, ρ 25, ρ 26, ρ 27, ρ 28, ρ 29, ρ 30, ρ 31, ρ 32, ρ 33, ρ 34, ρ 35, ρ 36, ρ 37, ρ 38, ρ 39, ρ 40, ρ 41, ρ 42, ρ 43, ρ 44, ρ 45, ρ 46, ρ 47, ρ 48, ρ 49, ρ 50] (γ 1) := hJ
  have r27 : (1 : Int) ≤ ρ 27 ∧ ρ 27 ≤ 1 := zRnA hr 27
  have r28 : (2000 : Int) ≤ ρ 28 ∧ ρ 28 ≤ 2000 := zRnA hr 28
  obtain ⟨w_0, w_1⟩ : (¬ (ρ 27 = 0)) ∧ (ρ 28 ≥ 2000) := ⟨by omega, by omega⟩
  have m27 : γ 1 1 0 10 = ρ 29 := zAllA hm 27
  have m39 : γ 1 2 0 4 = ρ 38 := zAllA hm 39
  have l0 : sn112 [ρ 4] (γ 1) 0 0 (γ 2) := hS112 _ _ _ _ _ (zAllA hl 0)
  have l1 : sn124 [ρ 37, ρ 29, ρ 11, ρ 0] (γ 2) 0 1 (γ 3) := hS124 _ _ _ _ _ (zAllA hl 1)
  have l2 : sn163 [] (γ 3) 0 0 (γ 4) := hS163 _ _ _ _ _ (zAllA hl 2)
  show sn166 [ρ 0, ρ 1, ρ 2, ρ 3, ρ 4, ρ 5, ρ 6, ρ 7, ρ 8, ρ 9, ρ 10, ρ 11, ρ 12, ρ 13, ρ 14, ρ 15, ρ 16, ρ 17, ρ 18, ρ 19, ρ 20, ρ 21, ρ 22, ρ 23, ρ 24, ρ 25, ρ 26] (γ 0) 0 (ρ 28) (γ 4)
  have hD : en166 (γ 0) (0, [ρ 27, ρ 28], γ 1) = .inr (0, ρ 28, γ 4) := by
    unfold en166
    refine zIP (show (0 : Nat) = 0 by decide) (zLV (γ 1) rfl (zLV (ρ 27) rfl (zLV (ρ 28) rfl (zLE m27 (zLE m39 (zIN w_0 (zIP w_1 ?_)))))))
    refine zLE (show fn112 [] (γ 1) = (0, 0, γ 2) from l0.symm) (zLV (γ 2) rfl (zLE (show fn124 [] (γ 2) = (0, 1, γ 3) from l1.symm) (zLV (γ 3) rfl (zIP zQ1_ (zLE (show fn163 [] (γ 3) = (0, 0, γ 4) from l2.symm) (zLV (γ 4) rfl ?_))))))
    rfl
  exact zGoo_aend hJ hD
theorem vn166a0_3 {S : Nat → zSpc} (hS111 : zIm S 111 sn111) (hS112 : zIm S 112 sn112) (hS114 : zIm S 114 sn114) (hS123 : zIm S 123 sn123) (hS124 : zIm S 124 sn124) (hS131 : zIm S 131 sn131) (hS146 : zIm S 146 sn146) (hS150 : zIm S 150 sn150) (hS151 : zIm S 151 sn151) (hS158 : zIm S 158 sn158) (hS160 : zIm S 160 sn160) (hS161 : zIm S 161 sn161) (hS163 : zIm S 163 sn163) {a : List Int} {g : rHp} : ∀ (ρ : Nat → Int) (γ : Nat → rHp), jn166 a g 0 (zAg (zNA a166_ 0) ρ) (γ 1) → zO 27 S a g q166a0_3 ρ γ → zGl (fun i vs g1 => jn166 a g i vs g1) (sn166 a g) q166a0_3 ρ γ := by
  intro ρ γ hJ h
  obtain ⟨ha, hg, hr, hf, hm, hc, hl⟩ := h
  have ha : a = [ρ 0, ρ 1, ρ 2, ρ 3, ρ 4, ρ 5, ρ 6, ρ 7, ρ 8, ρ 9, ρ 10, ρ 11, ρ 12, ρ 13, ρ 14, ρ 15, ρ 16, ρ 17, ρ 18, ρ 19, ρ 20, ρ 21, ρ 22, ρ 23, ρ 24, ρ 25, ρ 26] := ha
  subst ha
  subst hg
  have hJ : jn166 [ρ 0, ρ 1, ρ 2, ρ 3, ρ 4, ρ 5, ρ 6, ρ 7, ρ 8, ρ 9, ρ 10, ρ 11, ρ 12, ρ 13, ρ 14, ρ 15, ρ 16, ρ 17, ρ 18, ρ 19, ρ 20, ρ 21, ρ 22, ρ 23, ρ 24, ρ 25, ρ 26] (γ 0) 0 [ρ 0, ρ 1, ρ 2, ρ 3, ρ 4, ρ 5, ρ 6, ρ 7, ρ 8, ρ 9, ρ 10, ρ 11, ρ 12, ρ 13, ρ 14, ρ 15, ρ 16, ρ 17, ρ 18, ρ 19, ρ 20, ρ 21, ρ 22, ρ 23, ρ 24, ρ 25, ρ 26, ρ 27, ρ 28, ρ 29, ρ 30, ρ 31, ρ 32, ρ 33, ρ 34, ρ 35, ρ 36, ρ 37, ρ 38, ρ 39, ρ 40, ρ 41, ρ 42, ρ 43, ρ 44, ρ 45, ρ 46, ρ 47, ρ 48, ρ 49, ρ 50] (γ 1) := hJ
  have r27 : (1 : Int) ≤ ρ 27 ∧ ρ 27 ≤ 1 := zRnA hr 27
  have r28 : (0 : Int) ≤ ρ 28 ∧ ρ 28 ≤ 1999 := zRnA hr 28
  obtain ⟨w_0, w_1⟩ : (¬ (ρ 27 = 0)) ∧ (¬ (ρ 28 ≥ 2000)) := ⟨by omega, by omega⟩
  have m27 : γ 1 1 0 10 = ρ 29 := zAllA hm 27
  have m39 : γ 1 2 0 4 = ρ 38 := zAllA hm 39
  have l0 : sn114 [ρ 31, ρ 4] (γ 1) 0 (-1) (γ 2) := hS114 _ _ _ _ _ (zAllA hl 0)
  have l1 : sn112 [ρ 4] (γ 2) 0 0 (γ 3) := hS112 _ _ _ _ _ (zAllA hl 1)
  have l2 : sn124 [ρ 37, ρ 29, ρ 11, ρ 0] (γ 3) 0 0 (γ 4) := hS124 _ _ _ _ _ (zAllA hl 2)
  show sn166 [ρ 0, ρ 1, ρ 2, ρ 3, ρ 4, ρ 5, ρ 6, ρ 7, ρ 8, ρ 9, ρ 10, ρ 11, ρ 12, ρ 13, ρ 14, ρ 15, ρ 16, ρ 17, ρ 18, ρ 19, ρ 20, ρ 21, ρ 22, ρ 23, ρ 24, ρ 25, ρ 26] (γ 0) 0 (ρ 28) (γ 4)
  have hD : en166 (γ 0) (0, [ρ 27, ρ 28], γ 1) = .inr (0, ρ 28, γ 4) := by
    unfold en166
    refine zIP (show (0 : Nat) = 0 by decide) (zLV (γ 1) rfl (zLV (ρ 27) rfl (zLV (ρ 28) rfl (zLE m27 (zLE m39 (zIN w_0 (zIN w_1 ?_)))))))
    refine zLE (show fn114 [] (γ 1) = (0, (-1), γ 2) from l0.symm) (zLV (γ 2) rfl (zIN zQ2_ (zLE (show fn112 [] (γ 2) = (0, 0, γ 3) from l1.symm) (zLV (γ 3) rfl (zLE (show fn124 [] (γ 3) = (0, 0, γ 4) from l2.symm) (zLV (γ 4) rfl (zIN zQ0_ ?_)))))))
    rfl
  exact zGoo_aend hJ hD
theorem vn166a0_4 {S : Nat → zSpc} (hS111 : zIm S 111 sn111) (hS112 : zIm S 112 sn112) (hS114 : zIm S 114 sn114) (hS123 : zIm S 123 sn123) (hS124 : zIm S 124 sn124) (hS131 : zIm S 131 sn131) (hS146 : zIm S 146 sn146) (hS150 : zIm S 150 sn150) (hS151 : zIm S 151 sn151) (hS158 : zIm S 158 sn158) (hS160 : zIm S 160 sn160) (hS161 : zIm S 161 sn161) (hS163 : zIm S 163 sn163) {a : List Int} {g : rHp} : ∀ (ρ : Nat → Int) (γ : Nat → rHp), jn166 a g 0 (zAg (zNA a166_ 0) ρ) (γ 1) → zO 27 S a g q166a0_4 ρ γ → zGl (fun i vs g1 => jn166 a g i vs g1) (sn166 a g) q166a0_4 ρ γ := by
  intro ρ γ hJ h
  obtain ⟨ha, hg, hr, hf, hm, hc, hl⟩ := h
  have ha : a = [ρ 0, ρ 1, ρ 2, ρ 3, ρ 4, ρ 5, ρ 6, ρ 7, ρ 8, ρ 9, ρ 10, ρ 11, ρ 12, ρ 13, ρ 14, ρ 15, ρ 16, ρ 17, ρ 18, ρ 19, ρ 20, ρ 21, ρ 22, ρ 23, ρ 24, ρ 25, ρ 26] := ha
  subst ha
  subst hg
  have hJ : jn166 [ρ 0, ρ 1, ρ 2, ρ 3, ρ 4, ρ 5, ρ 6, ρ 7, ρ 8, ρ 9, ρ 10, ρ 11, ρ 12, ρ 13, ρ 14, ρ 15, ρ 16, ρ 17, ρ 18, ρ 19, ρ 20, ρ 21, ρ 22, ρ 23, ρ 24, ρ 25, ρ 26] (γ 0) 0 [ρ 0, ρ 1, ρ 2, ρ 3, ρ 4, ρ 5, ρ 6, ρ 7, ρ 8, ρ 9, ρ 10, ρ 11, ρ 12, ρ 13, ρ 14, ρ 15, ρ 16, ρ 17, ρ 18, ρ 19, ρ 20, ρ 21, ρ 22, ρ 23, ρ 24, ρ 25, ρ 26, ρ 27, ρ 28, ρ 29, ρ 30, ρ 31, ρ 32, ρ 33, ρ 34, ρ 35, ρ 36, ρ 37, ρ 38, ρ 39, ρ 40, ρ 41, ρ 42, ρ 43, ρ 44, ρ 45, ρ 46, ρ 47, ρ 48, ρ 49, ρ 50] (γ 1) := hJ
  have r27 : (1 : Int) ≤ ρ 27 ∧ ρ 27 ≤ 1 := zRnA hr 27
  have r28 : (0 : Int) ≤ ρ 28 ∧ ρ 28 ≤ 1999 := zRnA hr 28
  obtain ⟨w_0, w_1⟩ : (¬ (ρ 27 = 0)) ∧ (¬ (ρ 28 ≥ 2000)) := ⟨by omega, by omega⟩
  have m27 : γ 1 1 0 10 = ρ 29 := zAllA hm 27
  have m39 : γ 1 2 0 4 = ρ 38 := zAllA hm 39
  have l0 : sn114 [ρ 31, ρ 4] (γ 1) 0 (-1) (γ 2) := hS114 _ _ _ _ _ (zAllA hl 0)
  have l1 : sn112 [ρ 4] (γ 2) 0 0 (γ 3) := hS112 _ _ _ _ _ (zAllA hl 1)
  have l2 : sn124 [ρ 37, ρ 29, ρ 11, ρ 0] (γ 3) 0 1 (γ 4) := hS124 _ _ _ _ _ (zAllA hl 2)
  have l3 : sn163 [] (γ 4) 0 0 (γ 5) := hS163 _ _ _ _ _ (zAllA hl 3)
  show sn166 [ρ 0, ρ 1, ρ 2, ρ 3, ρ 4, ρ 5, ρ 6, ρ 7, ρ 8, ρ 9, ρ 10, ρ 11, ρ 12, ρ 13, ρ 14, ρ 15, ρ 16, ρ 17, ρ 18, ρ 19, ρ 20, ρ 21, ρ 22, ρ 23, ρ 24, ρ 25, ρ 26] (γ 0) 0 (ρ 28) (γ 5)
  have hD : en166 (γ 0) (0, [ρ 27, ρ 28], γ 1) = .inr (0, ρ 28, γ 5) := by
    unfold en166
    refine zIP (show (0 : Nat) = 0 by decide) (zLV (γ 1) rfl (zLV (ρ 27) rfl (zLV (ρ 28) rfl (zLE m27 (zLE m39 (zIN w_0 (zIN w_1 ?_)))))))
    refine zLE (show fn114 [] (γ 1) = (0, (-1), γ 2) from l0.symm) (zLV (γ 2) rfl (zIN zQ2_ (zLE (show fn112 [] (γ 2) = (0, 0, γ 3) from l1.symm) (zLV (γ 3) rfl (zLE (show fn124 [] (γ 3) = (0, 1, γ 4) from l2.symm) (zLV (γ 4) rfl (zIP zQ1_ ?_)))))))
    refine zLE (show fn163 [] (γ 4) = (0, 0, γ 5) from l3.symm) (zLV (γ 5) rfl ?_)
    rfl
  exact zGoo_aend hJ hD
theorem vn166a0_5 {S : Nat → zSpc} (hS111 : zIm S 111 sn111) (hS112 : zIm S 112 sn112) (hS114 : zIm S 114 sn114) (hS123 : zIm S 123 sn123) (hS124 : zIm S 124 sn124) (hS131 : zIm S 131 sn131) (hS146 : zIm S 146 sn146) (hS150 : zIm S 150 sn150) (hS151 : zIm S 151 sn151) (hS158 : zIm S 158 sn158) (hS160 : zIm S 160 sn160) (hS161 : zIm S 161 sn161) (hS163 : zIm S 163 sn163) {a : List Int} {g : rHp} : ∀ (ρ : Nat → Int) (γ : Nat → rHp), jn166 a g 0 (zAg (zNA a166_ 0) ρ) (γ 1) → zO 27 S a g q166a0_5 ρ γ → zGl (fun i vs g1 => jn166 a g i vs g1) (sn166 a g) q166a0_5 ρ γ := by
  intro ρ γ hJ h
  obtain ⟨ha, hg, hr, hf, hm, hc, hl⟩ := h
  have ha : a = [ρ 0, ρ 1, ρ 2, ρ 3, ρ 4, ρ 5, ρ 6, ρ 7, ρ 8, ρ 9, ρ 10, ρ 11, ρ 12, ρ 13, ρ 14, ρ 15, ρ 16, ρ 17, ρ 18, ρ 19, ρ 20, ρ 21, ρ 22, ρ 23, ρ 24, ρ 25, ρ 26] := ha
  subst ha
  subst hg
  have hJ : jn166 [ρ 0, ρ 1, ρ 2, ρ 3, ρ 4, ρ 5, ρ 6, ρ 7, ρ 8, ρ 9, ρ 10, ρ 11, ρ 12, ρ 13, ρ 14, ρ 15, ρ 16, ρ 17, ρ 18, ρ 19, ρ 20, ρ 21, ρ 22, ρ 23, ρ 24, ρ 25, ρ 26] (γ 0) 0 [ρ 0, ρ 1, ρ 2, ρ 3, ρ 4, ρ 5, ρ 6, ρ 7, ρ 8, ρ 9, ρ 10, ρ 11, ρ 12, ρ 13, ρ 14, ρ 15, ρ 16, ρ 17, ρ 18, ρ 19, ρ 20, ρ 21, ρ 22, ρ 23, ρ 24, ρ 25, ρ 26, ρ 27, ρ 28, ρ 29, ρ 30, ρ 31, ρ 32, ρ 33, ρ 34, ρ 35, ρ 36, ρ 37, ρ 38, ρ 39, ρ 40, ρ 41, ρ 42, ρ 43, ρ 44, ρ 45, ρ 46, ρ 47, ρ 48, ρ 49, ρ 50] (γ 1) := hJ
  have r27 : (1 : Int) ≤ ρ 27 ∧ ρ 27 ≤ 1 := zRnA hr 27
  have r28 : (0 : Int) ≤ ρ 28 ∧ ρ 28 ≤ 1999 := zRnA hr 28
  have r51 : (0 : Int) ≤ ρ 51 ∧ ρ 51 ≤ 255 := zRnA hr 51
  obtain ⟨w_0, w_1, w_2⟩ : (¬ (ρ 27 = 0)) ∧ (¬ (ρ 28 ≥ 2000)) ∧ ((0 : Int) ≤ ρ 51) := ⟨by omega, by omega, by omega⟩
  have m27 : γ 1 1 0 10 = ρ 29 := zAllA hm 27
  have m39 : γ 1 2 0 4 = ρ 38 := zAllA hm 39
  have m53 : γ 0 40 0 (ρ 29) = ρ 53 := zAllA hm 53
  have l0 : sn114 [ρ 31, ρ 4] (γ 1) 0 (ρ 51) (γ 2) := hS114 _ _ _ _ _ (zAllA hl 0)
  have l1 : sn131 [ρ 29, ρ 53] (γ 2) 0 (ρ 53) (γ 3) := hS131 _ _ _ _ _ (zAllA hl 1)
  have l2 : sn146 [ρ 29, ρ 53, ρ 54, ρ 52, ρ 4, ρ 55, ρ 56, ρ 57, ρ 32, ρ 36, ρ 38, ρ 39, ρ 40, ρ 41, ρ 42, ρ 43, ρ 58, ρ 59, ρ 60, ρ 61, ρ 62, ρ 63, ρ 64] (γ 3) 0 0 (γ 4) := hS146 _ _ _ _ _ (zAllA hl 2)
  show jn166 [ρ 0, ρ 1, ρ 2, ρ 3, ρ 4, ρ 5, ρ 6, ρ 7, ρ 8, ρ 9, ρ 10, ρ 11, ρ 12, ρ 13, ρ 14, ρ 15, ρ 16, ρ 17, ρ 18, ρ 19, ρ 20, ρ 21, ρ 22, ρ 23, ρ 24, ρ 25, ρ 26] (γ 0) 0 [ρ 0, ρ 1, ρ 2, ρ 3, ρ 4, ρ 5, ρ 6, ρ 7, ρ 8, ρ 9, ρ 10, ρ 11, ρ 12, ρ 13, ρ 14, ρ 15, ρ 16, ρ 17, ρ 18, ρ 19, ρ 20, ρ 21, ρ 22, ρ 23, ρ 24, ρ 25, ρ 26, 0, ρ 28 + 1, ρ 29, ρ 82, ρ 65, ρ 32, ρ 83, ρ 84, ρ 85, ρ 69, ρ 37, ρ 70, ρ 71, ρ 72, ρ 73, ρ 74, ρ 75, ρ 86, ρ 87, ρ 88, ρ 89, ρ 90, ρ 91, ρ 92] (γ 4)
  have hD : en166 (γ 0) (0, [ρ 27, ρ 28], γ 1) = .inl (0, [0, ρ 28 + 1], γ 4) := by
    unfold en166
    refine zIP (show (0 : Nat) = 0 by decide) (zLV (γ 1) rfl (zLV (ρ 27) rfl (zLV (ρ 28) rfl (zLE m27 (zLE m39 (zIN w_0 (zIN w_1 ?_)))))))
    refine zLE (show fn114 [] (γ 1) = (0, ρ 51, γ 2) from l0.symm) (zLV (γ 2) rfl (zIP w_2 (zLE m53 (zLE (show fn131 [ρ 29] (γ 2) = (0, ρ 53, γ 3) from l1.symm) (zLV (γ 3) rfl (zLE (show fn146 [] (γ 3) = (0, 0, γ 4) from l2.symm) (zLV (γ 4) rfl ?_)))))))
    refine zIN zQ0_ ?_
    rfl
  exact zGoo_ato hJ hD
theorem vn166a0_6 {S : Nat → zSpc} (hS111 : zIm S 111 sn111) (hS112 : zIm S 112 sn112) (hS114 : zIm S 114 sn114) (hS123 : zIm S 123 sn123) (hS124 : zIm S 124 sn124) (hS131 : zIm S 131 sn131) (hS146 : zIm S 146 sn146) (hS150 : zIm S 150 sn150) (hS151 : zIm S 151 sn151) (hS158 : zIm S 158 sn158) (hS160 : zIm S 160 sn160) (hS161 : zIm S 161 sn161) (hS163 : zIm S 163 sn163) {a : List Int} {g : rHp} : ∀ (ρ : Nat → Int) (γ : Nat → rHp), jn166 a g 0 (zAg (zNA a166_ 0) ρ) (γ 1) → zO 27 S a g q166a0_6 ρ γ → zGl (fun i vs g1 => jn166 a g i vs g1) (sn166 a g) q166a0_6 ρ γ := by
  intro ρ γ hJ h
  obtain ⟨ha, hg, hr, hf, hm, hc, hl⟩ := h
  have ha : a = [ρ 0, ρ 1, ρ 2, ρ 3, ρ 4, ρ 5, ρ 6, ρ 7, ρ 8, ρ 9, ρ 10, ρ 11, ρ 12, ρ 13, ρ 14, ρ 15, ρ 16, ρ 17, ρ 18, ρ 19, ρ 20, ρ 21, ρ 22, ρ 23, ρ 24, ρ 25, ρ 26] := ha
  subst ha
  subst hg
  have hJ : jn166 [ρ 0, ρ 1, ρ 2, ρ 3, ρ 4, ρ 5, ρ 6, ρ 7, ρ 8, ρ 9, ρ 10, ρ 11, ρ 12, ρ 13, ρ 14, ρ 15, ρ 16, ρ 17, ρ 18, ρ 19, ρ 20, ρ 21, ρ 22, ρ 23, ρ 24, ρ 25, ρ 26] (γ 0) 0 [ρ 0, ρ 1, ρ 2, ρ 3, ρ 4, ρ 5, ρ 6, ρ 7, ρ 8, ρ 9, ρ 10, ρ 11, ρ 12, ρ 13, ρ 14, ρ 15, ρ 16, ρ 17, ρ 18, ρ 19, ρ 20, ρ 21, ρ 22, ρ 23, ρ 24, ρ 25, ρ 26, ρ 27, ρ 28, ρ 29, ρ 30, ρ 31, ρ 32, ρ 33, ρ 34, ρ 35, ρ 36, ρ 37, ρ 38, ρ 39, ρ 40, ρ 41, ρ 42, ρ 43, ρ 44, ρ 45, ρ 46, ρ 47, ρ 48, ρ 49, ρ 50] (γ 1) := hJ
  have r27 : (1 : Int) ≤ ρ 27 ∧ ρ 27 ≤ 1 := zRnA hr 27
  have r28 : (0 : Int) ≤ ρ 28 ∧ ρ 28 ≤ 1999 := zRnA hr 28
  have r51 : (0 : Int) ≤ ρ 51 ∧ ρ 51 ≤ 255 := zRnA hr 51
  obtain ⟨w_0, w_1, w_2⟩ : (¬ (ρ 27 = 0)) ∧ (¬ (ρ 28 ≥ 2000)) ∧ ((0 : Int) ≤ ρ 51) := ⟨by omega, by omega, by omega⟩
  have m27 : γ 1 1 0 10 = ρ 29 := zAllA hm 27
  have m39 : γ 1 2 0 4 = ρ 38 := zAllA hm 39
  have m53 : γ 0 40 0 (ρ 29) = ρ 53 := zAllA hm 53
  have l0 : sn114 [ρ 31, ρ 4] (γ 1) 0 (ρ 51) (γ 2) := hS114 _ _ _ _ _ (zAllA hl 0)
  have l1 : sn131 [ρ 29, ρ 53] (γ 2) 0 (ρ 53) (γ 3) := hS131 _ _ _ _ _ (zAllA hl 1)
  have l2 : sn146 [ρ 29, ρ 53, ρ 54, ρ 52, ρ 4, ρ 55, ρ 56, ρ 57, ρ 32, ρ 36, ρ 38, ρ 39, ρ 40, ρ 41, ρ 42, ρ 43, ρ 58, ρ 59, ρ 60, ρ 61, ρ 62, ρ 63, ρ 64] (γ 3) 0 1 (γ 4) := hS146 _ _ _ _ _ (zAllA hl 2)
  have l3 : sn114 [ρ 65, ρ 4] (γ 4) 0 (-1) (γ 5) := hS114 _ _ _ _ _ (zAllA hl 3)
  have l4 : sn151 [9 * ρ 53, ρ 81, ρ 4, ρ 29, ρ 38, ρ 77] (γ 5) 0 0 (γ 6) := hS151 _ _ _ _ _ (zAllA hl 4)
  show jn166 [ρ 0, ρ 1, ρ 2, ρ 3, ρ 4, ρ 5, ρ 6, ρ 7, ρ 8, ρ 9, ρ 10, ρ 11, ρ 12, ρ 13, ρ 14, ρ 15, ρ 16, ρ 17, ρ 18, ρ 19, ρ 20, ρ 21, ρ 22, ρ 23, ρ 24, ρ 25, ρ 26] (γ 0) 0 [ρ 0, ρ 1, ρ 2, ρ 3, ρ 4, ρ 5, ρ 6, ρ 7, ρ 8, ρ 9, ρ 10, ρ 11, ρ 12, ρ 13, ρ 14, ρ 15, ρ 16, ρ 17, ρ 18, ρ 19, ρ 20, ρ 21, ρ 22, ρ 23, ρ 24, ρ 25, ρ 26, 0, ρ 28 + 1, ρ 29, ρ 84, ρ 82, ρ 32, ρ 85, ρ 86, ρ 87, ρ 69, ρ 37, ρ 83, ρ 70, ρ 71, ρ 72, ρ 73, ρ 74, ρ 88, ρ 89, ρ 90, ρ 91, ρ 92, ρ 93, ρ 94] (γ 6)
  have hD : en166 (γ 0) (0, [ρ 27, ρ 28], γ 1) = .inl (0, [0, ρ 28 + 1], γ 6) := by
    unfold en166
    refine zIP (show (0 : Nat) = 0 by decide) (zLV (γ 1) rfl (zLV (ρ 27) rfl (zLV (ρ 28) rfl (zLE m27 (zLE m39 (zIN w_0 (zIN w_1 ?_)))))))
    refine zLE (show fn114 [] (γ 1) = (0, ρ 51, γ 2) from l0.symm) (zLV (γ 2) rfl (zIP w_2 (zLE m53 (zLE (show fn131 [ρ 29] (γ 2) = (0, ρ 53, γ 3) from l1.symm) (zLV (γ 3) rfl (zLE (show fn146 [] (γ 3) = (0, 1, γ 4) from l2.symm) (zLV (γ 4) rfl ?_)))))))
    refine zIP zQ1_ (zLE (show fn114 [] (γ 4) = (0, (-1), γ 5) from l3.symm) (zLV (γ 5) rfl (zIN zQ2_ (zLE (show fn151 [9 * ρ 53] (γ 5) = (0, 0, γ 6) from l4.symm) (zLV (γ 6) rfl ?_)))))
    rfl
  exact zGoo_ato hJ hD
theorem vn166a0_7 {S : Nat → zSpc} (hS111 : zIm S 111 sn111) (hS112 : zIm S 112 sn112) (hS114 : zIm S 114 sn114) (hS123 : zIm S 123 sn123) (hS124 : zIm S 124 sn124) (hS131 : zIm S 131 sn131) (hS146 : zIm S 146 sn146) (hS150 : zIm S 150 sn150) (hS151 : zIm S 151 sn151) (hS158 : zIm S 158 sn158) (hS160 : zIm S 160 sn160) (hS161 : zIm S 161 sn161) (hS163 : zIm S 163 sn163) {a : List Int} {g : rHp} : ∀ (ρ : Nat → Int) (γ : Nat → rHp), jn166 a g 0 (zAg (zNA a166_ 0) ρ) (γ 1) → zO 27 S a g q166a0_7 ρ γ → zGl (fun i vs g1 => jn166 a g i vs g1) (sn166 a g) q166a0_7 ρ γ := by
  intro ρ γ hJ h
  obtain ⟨ha, hg, hr, hf, hm, hc, hl⟩ := h
  have ha : a = [ρ 0, ρ 1, ρ 2, ρ 3, ρ 4, ρ 5, ρ 6, ρ 7, ρ 8, ρ 9, ρ 10, ρ 11, ρ 12, ρ 13, ρ 14, ρ 15, ρ 16, ρ 17, ρ 18, ρ 19, ρ 20, ρ 21, ρ 22, ρ 23, ρ 24, ρ 25, ρ 26] := ha
  subst ha
  subst hg
  have hJ : jn166 [ρ 0, ρ 1, ρ 2, ρ 3, ρ 4, ρ 5, ρ 6, ρ 7, ρ 8, ρ 9, ρ 10, ρ 11, ρ 12, ρ 13, ρ 14, ρ 15, ρ 16, ρ 17, ρ 18, ρ 19, ρ 20, ρ 21, ρ 22, ρ 23, ρ 24, ρ 25, ρ 26] (γ 0) 0 [ρ 0, ρ 1, ρ 2, ρ 3, ρ 4, ρ 5, ρ 6, ρ 7, ρ 8, ρ 9, ρ 10, ρ 11, ρ 12, ρ 13, ρ 14, ρ 15, ρ 16, ρ 17, ρ 18, ρ 19, ρ 20, ρ 21, ρ 22, ρ 23, ρ 24, ρ 25, ρ 26, ρ 27, ρ 28, ρ 29, ρ 30, ρ 31, ρ 32, ρ 33, ρ 34, ρ 35, ρ 36, ρ 37, ρ 38, ρ 39, ρ 40, ρ 41, ρ 42, ρ 43, ρ 44, ρ 45, ρ 46, ρ 47, ρ 48, ρ 49, ρ 50] (γ 1) := hJ
  have r27 : (1 : Int) ≤ ρ 27 ∧ ρ 27 ≤ 1 := zRnA hr 27
  have r28 : (0 : Int) ≤ ρ 28 ∧ ρ 28 ≤ 1999 := zRnA hr 28
  have r51 : (0 : Int) ≤ ρ 51 ∧ ρ 51 ≤ 255 := zRnA hr 51
  have r81 : (0 : Int) ≤ ρ 81 ∧ ρ 81 ≤ 255 := zRnA hr 81
  obtain ⟨w_0, w_1, w_2, w_3⟩ : (¬ (ρ 27 = 0)) ∧ (¬ (ρ 28 ≥ 2000)) ∧ ((0 : Int) ≤ ρ 51) ∧ ((0 : Int) ≤ ρ 81) := ⟨by omega, by omega, by omega, by omega⟩
  have m27 : γ 1 1 0 10 = ρ 29 := zAllA hm 27
  have m39 : γ 1 2 0 4 = ρ 38 := zAllA hm 39
  have m53 : γ 0 40 0 (ρ 29) = ρ 53 := zAllA hm 53
  have l0 : sn114 [ρ 31, ρ 4] (γ 1) 0 (ρ 51) (γ 2) := hS114 _ _ _ _ _ (zAllA hl 0)
  have l1 : sn131 [ρ 29, ρ 53] (γ 2) 0 (ρ 53) (γ 3) := hS131 _ _ _ _ _ (zAllA hl 1)
  have l2 : sn146 [ρ 29, ρ 53, ρ 54, ρ 52, ρ 4, ρ 55, ρ 56, ρ 57, ρ 32, ρ 36, ρ 38, ρ 39, ρ 40, ρ 41, ρ 42, ρ 43, ρ 58, ρ 59, ρ 60, ρ 61, ρ 62, ρ 63, ρ 64] (γ 3) 0 1 (γ 4) := hS146 _ _ _ _ _ (zAllA hl 2)
  have l3 : sn114 [ρ 65, ρ 4] (γ 4) 0 (ρ 81) (γ 5) := hS114 _ _ _ _ _ (zAllA hl 3)
  have l4 : ρ 81 ≠ 46 := zAllA hl 4
  have l5 : sn151 [9 * ρ 53, ρ 82, ρ 4, ρ 29, ρ 38, ρ 77] (γ 5) 0 0 (γ 6) := hS151 _ _ _ _ _ (zAllA hl 5)
  have wl_0 : ρ 81 ≠ 46 := by omega
  show jn166 [ρ 0, ρ 1, ρ 2, ρ 3, ρ 4, ρ 5, ρ 6, ρ 7, ρ 8, ρ 9, ρ 10, ρ 11, ρ 12, ρ 13, ρ 14, ρ 15, ρ 16, ρ 17, ρ 18, ρ 19, ρ 20, ρ 21, ρ 22, ρ 23, ρ 24, ρ 25, ρ 26] (γ 0) 0 [ρ 0, ρ 1, ρ 2, ρ 3, ρ 4, ρ 5, ρ 6, ρ 7, ρ 8, ρ 9, ρ 10, ρ 11, ρ 12, ρ 13, ρ 14, ρ 15, ρ 16, ρ 17, ρ 18, ρ 19, ρ 20, ρ 21, ρ 22, ρ 23, ρ 24, ρ 25, ρ 26, 0, ρ 28 + 1, ρ 29, ρ 85, ρ 83, ρ 32, ρ 86, ρ 87, ρ 88, ρ 69, ρ 37, ρ 84, ρ 70, ρ 71, ρ 72, ρ 73, ρ 74, ρ 89, ρ 90, ρ 91, ρ 92, ρ 93, ρ 94, ρ 95] (γ 6)
  have hD : en166 (γ 0) (0, [ρ 27, ρ 28], γ 1) = .inl (0, [0, ρ 28 + 1], γ 6) := by
    unfold en166
    refine zIP (show (0 : Nat) = 0 by decide) (zLV (γ 1) rfl (zLV (ρ 27) rfl (zLV (ρ 28) rfl (zLE m27 (zLE m39 (zIN w_0 (zIN w_1 ?_)))))))
    refine zLE (show fn114 [] (γ 1) = (0, ρ 51, γ 2) from l0.symm) (zLV (γ 2) rfl (zIP w_2 (zLE m53 (zLE (show fn131 [ρ 29] (γ 2) = (0, ρ 53, γ 3) from l1.symm) (zLV (γ 3) rfl (zLE (show fn146 [] (γ 3) = (0, 1, γ 4) from l2.symm) (zLV (γ 4) rfl ?_)))))))
    refine zIP zQ1_ (zLE (show fn114 [] (γ 4) = (0, ρ 81, γ 5) from l3.symm) (zLV (γ 5) rfl (zIP w_3 (zLV (ρ 81) rfl (zIP wl_0 (zLE (show fn151 [9 * ρ 53] (γ 5) = (0, 0, γ 6) from l5.symm) (zLV (γ 6) rfl ?_)))))))
    refine zIN zQ0_ ?_
    rfl
  exact zGoo_ato hJ hD
theorem vn166a0_8 {S : Nat → zSpc} (hS111 : zIm S 111 sn111) (hS112 : zIm S 112 sn112) (hS114 : zIm S 114 sn114) (hS123 : zIm S 123 sn123) (hS124 : zIm S 124 sn124) (hS131 : zIm S 131 sn131) (hS146 : zIm S 146 sn146) (hS150 : zIm S 150 sn150) (hS151 : zIm S 151 sn151) (hS158 : zIm S 158 sn158) (hS160 : zIm S 160 sn160) (hS161 : zIm S 161 sn161) (hS163 : zIm S 163 sn163) {a : List Int} {g : rHp} : ∀ (ρ : Nat → Int) (γ : Nat → rHp), jn166 a g 0 (zAg (zNA a166_ 0) ρ) (γ 1) → zO 27 S a g q166a0_8 ρ γ → zGl (fun i vs g1 => jn166 a g i vs g1) (sn166 a g) q166a0_8 ρ γ := by
  intro ρ γ hJ h
  obtain ⟨ha, hg, hr, hf, hm, hc, hl⟩ := h
  have ha : a = [ρ 0, ρ 1, ρ 2, ρ 3, ρ 4, ρ 5, ρ 6, ρ 7, ρ 8, ρ 9, ρ 10, ρ 11, ρ 12, ρ 13, ρ 14, ρ 15, ρ 16, ρ 17, ρ 18, ρ 19, ρ 20, ρ 21, ρ 22, ρ 23, ρ 24, ρ 25, ρ 26] := ha
  subst ha
  subst hg
  have hJ : jn166 [ρ 0, ρ 1, ρ 2, ρ 3, ρ 4, ρ 5, ρ 6, ρ 7, ρ 8, ρ 9, ρ 10, ρ 11, ρ 12, ρ 13, ρ 14, ρ 15, ρ 16, ρ 17, ρ 18, ρ 19, ρ 20, ρ 21, ρ 22, ρ 23, ρ 24, ρ 25, ρ 26] (γ 0) 0 [ρ 0, ρ 1, ρ 2, ρ 3, ρ 4, ρ 5, ρ 6, ρ 7, ρ 8, ρ 9, ρ 10, ρ 11, ρ 12, ρ 13, ρ 14, ρ 15, ρ 16, ρ 17, ρ 18, ρ 19, ρ 20, ρ 21, ρ 22, ρ 23, ρ 24, ρ 25, ρ 26, ρ 27, ρ 28, ρ 29, ρ 30, ρ 31, ρ 32, ρ 33, ρ 34, ρ 35, ρ 36, ρ 37, ρ 38, ρ 39, ρ 40, ρ 41, ρ 42, ρ 43, ρ 44, ρ 45, ρ 46, ρ 47, ρ 48, ρ 49, ρ 50] (γ 1) := hJ
  have r27 : (1 : Int) ≤ ρ 27 ∧ ρ 27 ≤ 1 := zRnA hr 27
  have r28 : (0 : Int) ≤ ρ 28 ∧ ρ 28 ≤ 1999 := zRnA hr 28
  have r51 : (0 : Int) ≤ ρ 51 ∧ ρ 51 ≤ 255 := zRnA hr 51
  have r81 : (0 : Int) ≤ ρ 81 ∧ ρ 81 ≤ 255 := zRnA hr 81
  obtain ⟨w_0, w_1, w_2, w_3⟩ : (¬ (ρ 27 = 0)) ∧ (¬ (ρ 28 ≥ 2000)) ∧ ((0 : Int) ≤ ρ 51) ∧ ((0 : Int) ≤ ρ 81) := ⟨by omega, by omega, by omega, by omega⟩
  have m27 : γ 1 1 0 10 = ρ 29 := zAllA hm 27
  have m39 : γ 1 2 0 4 = ρ 38 := zAllA hm 39
  have m53 : γ 0 40 0 (ρ 29) = ρ 53 := zAllA hm 53
  have l0 : sn114 [ρ 31, ρ 4] (γ 1) 0 (ρ 51) (γ 2) := hS114 _ _ _ _ _ (zAllA hl 0)
  have l1 : sn131 [ρ 29, ρ 53] (γ 2) 0 (ρ 53) (γ 3) := hS131 _ _ _ _ _ (zAllA hl 1)
  have l2 : sn146 [ρ 29, ρ 53, ρ 54, ρ 52, ρ 4, ρ 55, ρ 56, ρ 57, ρ 32, ρ 36, ρ 38, ρ 39, ρ 40, ρ 41, ρ 42, ρ 43, ρ 58, ρ 59, ρ 60, ρ 61, ρ 62, ρ 63, ρ 64] (γ 3) 0 1 (γ 4) := hS146 _ _ _ _ _ (zAllA hl 2)
  have l3 : sn114 [ρ 65, ρ 4] (γ 4) 0 (ρ 81) (γ 5) := hS114 _ _ _ _ _ (zAllA hl 3)
  have l4 : ρ 81 ≠ 46 := zAllA hl 4
  have l5 : sn151 [9 * ρ 53, ρ 82, ρ 4, ρ 29, ρ 38, ρ 77] (γ 5) 0 1 (γ 6) := hS151 _ _ _ _ _ (zAllA hl 5)
  have l6 : sn158 [ρ 29, ρ 53, 0, ρ 83, ρ 4, ρ 32, ρ 68, ρ 66, ρ 67, 0, ρ 69, ρ 38, ρ 70, ρ 71, ρ 72, ρ 73, ρ 74, ρ 80] (γ 6) 0 0 (γ 7) := hS158 _ _ _ _ _ (zAllA hl 6)
  have wl_0 : ρ 81 ≠ 46 := by omega
  show jn166 [ρ 0, ρ 1, ρ 2, ρ 3, ρ 4, ρ 5, ρ 6, ρ 7, ρ 8, ρ 9, ρ 10, ρ 11, ρ 12, ρ 13, ρ 14, ρ 15, ρ 16, ρ 17, ρ 18, ρ 19, ρ 20, ρ 21, ρ 22, ρ 23, ρ 24, ρ 25, ρ 26] (γ 0) 0 [ρ 0, ρ 1, ρ 2, ρ 3, ρ 4, ρ 5, ρ 6, ρ 7, ρ 8, ρ 9, ρ 10, ρ 11, ρ 12, ρ 13, ρ 14, ρ 15, ρ 16, ρ 17, ρ 18, ρ 19, ρ 20, ρ 21, ρ 22, ρ 23, ρ 24, ρ 25, ρ 26, 0, ρ 28 + 1, ρ 29, ρ 94, ρ 85, ρ 32, ρ 95, ρ 96, ρ 97, ρ 87, ρ 37, ρ 88, ρ 89, ρ 90, ρ 91, ρ 92, ρ 93, ρ 98, ρ 99, ρ 100, ρ 101, ρ 102, ρ 103, ρ 104] (γ 7)
  have hD : en166 (γ 0) (0, [ρ 27, ρ 28], γ 1) = .inl (0, [0, ρ 28 + 1], γ 7) := by
    unfold en166
    refine zIP (show (0 : Nat) = 0 by decide) (zLV (γ 1) rfl (zLV (ρ 27) rfl (zLV (ρ 28) rfl (zLE m27 (zLE m39 (zIN w_0 (zIN w_1 ?_)))))))
    refine zLE (show fn114 [] (γ 1) = (0, ρ 51, γ 2) from l0.symm) (zLV (γ 2) rfl (zIP w_2 (zLE m53 (zLE (show fn131 [ρ 29] (γ 2) = (0, ρ 53, γ 3) from l1.symm) (zLV (γ 3) rfl (zLE (show fn146 [] (γ 3) = (0, 1, γ 4) from l2.symm) (zLV (γ 4) rfl ?_)))))))
    refine zIP zQ1_ (zLE (show fn114 [] (γ 4) = (0, ρ 81, γ 5) from l3.symm) (zLV (γ 5) rfl (zIP w_3 (zLV (ρ 81) rfl (zIP wl_0 (zLE (show fn151 [9 * ρ 53] (γ 5) = (0, 1, γ 6) from l5.symm) (zLV (γ 6) rfl ?_)))))))
    refine zIP zQ1_ (zLE (show fn158 [] (γ 6) = (0, 0, γ 7) from l6.symm) (zLV (γ 7) rfl (zIN zQ0_ ?_)))
    rfl
  exact zGoo_ato hJ hD
theorem vn166a0_9 {S : Nat → zSpc} (hS111 : zIm S 111 sn111) (hS112 : zIm S 112 sn112) (hS114 : zIm S 114 sn114) (hS123 : zIm S 123 sn123) (hS124 : zIm S 124 sn124) (hS131 : zIm S 131 sn131) (hS146 : zIm S 146 sn146) (hS150 : zIm S 150 sn150) (hS151 : zIm S 151 sn151) (hS158 : zIm S 158 sn158) (hS160 : zIm S 160 sn160) (hS161 : zIm S 161 sn161) (hS163 : zIm S 163 sn163) {a : List Int} {g : rHp} : ∀ (ρ : Nat → Int) (γ : Nat → rHp), jn166 a g 0 (zAg (zNA a166_ 0) ρ) (γ 1) → zO 27 S a g q166a0_9 ρ γ → zGl (fun i vs g1 => jn166 a g i vs g1) (sn166 a g) q166a0_9 ρ γ := by
  intro ρ γ hJ h
  obtain ⟨ha, hg, hr, hf, hm, hc, hl⟩ := h
  have ha : a = [ρ 0, ρ 1, ρ 2, ρ 3, ρ 4, ρ 5, ρ 6, ρ 7, ρ 8, ρ 9, ρ 10, ρ 11, ρ 12, ρ 13, ρ 14, ρ 15, ρ 16, ρ 17, ρ 18, ρ 19, ρ 20, ρ 21, ρ 22, ρ 23, ρ 24, ρ 25, ρ 26] := ha
  subst ha
  subst hg
  have hJ : jn166 [ρ 0, ρ 1, ρ 2, ρ 3, ρ 4, ρ 5, ρ 6, ρ 7, ρ 8, ρ 9, ρ 10, ρ 11, ρ 12, ρ 13, ρ 14, ρ 15, ρ 16, ρ 17, ρ 18, ρ 19, ρ 20, ρ 21, ρ 22, ρ 23, ρ 24, ρ 25, ρ 26] (γ 0) 0 [ρ 0, ρ 1, ρ 2, ρ 3, ρ 4, ρ 5, ρ 6, ρ 7, ρ 8, ρ 9, ρ 10, ρ 11, ρ 12, ρ 13, ρ 14, ρ 15, ρ 16, ρ 17, ρ 18, ρ 19, ρ 20, ρ 21, ρ 22, ρ 23, ρ 24, ρ 25, ρ 26, ρ 27, ρ 28, ρ 29, ρ 30, ρ 31, ρ 32, ρ 33, ρ 34, ρ 35, ρ 36, ρ 37, ρ 38, ρ 39, ρ 40, ρ 41, ρ 42, ρ 43, ρ 44, ρ 45, ρ 46, ρ 47, ρ 48, ρ 49, ρ 50] (γ 1) := hJ
  have r27 : (1 : Int) ≤ ρ 27 ∧ ρ 27 ≤ 1 := zRnA hr 27
  have r28 : (0 : Int) ≤ ρ 28 ∧ ρ 28 ≤ 1999 := zRnA hr 28
  have r51 : (0 : Int) ≤ ρ 51 ∧ ρ 51 ≤ 255 := zRnA hr 51
  have r81 : (0 : Int) ≤ ρ 81 ∧ ρ 81 ≤ 255 := zRnA hr 81
  obtain ⟨w_0, w_1, w_2, w_3⟩ : (¬ (ρ 27 = 0)) ∧ (¬ (ρ 28 ≥ 2000)) ∧ ((0 : Int) ≤ ρ 51) ∧ ((0 : Int) ≤ ρ 81) := ⟨by omega, by omega, by omega, by omega⟩
  have m27 : γ 1 1 0 10 = ρ 29 := zAllA hm 27
  have m39 : γ 1 2 0 4 = ρ 38 := zAllA hm 39
  have m53 : γ 0 40 0 (ρ 29) = ρ 53 := zAllA hm 53
  have l0 : sn114 [ρ 31, ρ 4] (γ 1) 0 (ρ 51) (γ 2) := hS114 _ _ _ _ _ (zAllA hl 0)
  have l1 : sn131 [ρ 29, ρ 53] (γ 2) 0 (ρ 53) (γ 3) := hS131 _ _ _ _ _ (zAllA hl 1)
  have l2 : sn146 [ρ 29, ρ 53, ρ 54, ρ 52, ρ 4, ρ 55, ρ 56, ρ 57, ρ 32, ρ 36, ρ 38, ρ 39, ρ 40, ρ 41, ρ 42, ρ 43, ρ 58, ρ 59, ρ 60, ρ 61, ρ 62, ρ 63, ρ 64] (γ 3) 0 1 (γ 4) := hS146 _ _ _ _ _ (zAllA hl 2)
  have l3 : sn114 [ρ 65, ρ 4] (γ 4) 0 (ρ 81) (γ 5) := hS114 _ _ _ _ _ (zAllA hl 3)
  have l4 : ρ 81 ≠ 46 := zAllA hl 4
  have l5 : sn151 [9 * ρ 53, ρ 82, ρ 4, ρ 29, ρ 38, ρ 77] (γ 5) 0 1 (γ 6) := hS151 _ _ _ _ _ (zAllA hl 5)
  have l6 : sn158 [ρ 29, ρ 53, 0, ρ 83, ρ 4, ρ 32, ρ 68, ρ 66, ρ 67, 0, ρ 69, ρ 38, ρ 70, ρ 71, ρ 72, ρ 73, ρ 74, ρ 80] (γ 6) 0 1 (γ 7) := hS158 _ _ _ _ _ (zAllA hl 6)
  have l7 : sn160 [ρ 29, ρ 53, ρ 84, ρ 68, ρ 66, ρ 67] (γ 7) 0 1 (γ 8) := hS160 _ _ _ _ _ (zAllA hl 7)
  have wl_0 : ρ 81 ≠ 46 := by omega
  show jn166 [ρ 0, ρ 1, ρ 2, ρ 3, ρ 4, ρ 5, ρ 6, ρ 7, ρ 8, ρ 9, ρ 10, ρ 11, ρ 12, ρ 13, ρ 14, ρ 15, ρ 16, ρ 17, ρ 18, ρ 19, ρ 20, ρ 21, ρ 22, ρ 23, ρ 24, ρ 25, ρ 26] (γ 0) 0 [ρ 0, ρ 1, ρ 2, ρ 3, ρ 4, ρ 5, ρ 6, ρ 7, ρ 8, ρ 9, ρ 10, ρ 11, ρ 12, ρ 13, ρ 14, ρ 15, ρ 16, ρ 17, ρ 18, ρ 19, ρ 20, ρ 21, ρ 22, ρ 23, ρ 24, ρ 25, ρ 26, 1, ρ 28 + 1, ρ 29 + 1, ρ 93, ρ 85, ρ 32, ρ 94, ρ 95, ρ 96, ρ 87, ρ 37, ρ 38, ρ 88, ρ 89, ρ 90, ρ 91, ρ 92, ρ 97, ρ 98, ρ 99, ρ 100, ρ 101, ρ 102, ρ 103] (γ 8)
  have hD : en166 (γ 0) (0, [ρ 27, ρ 28], γ 1) = .inl (0, [1, ρ 28 + 1], γ 8) := by
    unfold en166
    refine zIP (show (0 : Nat) = 0 by decide) (zLV (γ 1) rfl (zLV (ρ 27) rfl (zLV (ρ 28) rfl (zLE m27 (zLE m39 (zIN w_0 (zIN w_1 ?_)))))))
    refine zLE (show fn114 [] (γ 1) = (0, ρ 51, γ 2) from l0.symm) (zLV (γ 2) rfl (zIP w_2 (zLE m53 (zLE (show fn131 [ρ 29] (γ 2) = (0, ρ 53, γ 3) from l1.symm) (zLV (γ 3) rfl (zLE (show fn146 [] (γ 3) = (0, 1, γ 4) from l2.symm) (zLV (γ 4) rfl ?_)))))))
    refine zIP zQ1_ (zLE (show fn114 [] (γ 4) = (0, ρ 81, γ 5) from l3.symm) (zLV (γ 5) rfl (zIP w_3 (zLV (ρ 81) rfl (zIP wl_0 (zLE (show fn151 [9 * ρ 53] (γ 5) = (0, 1, γ 6) from l5.symm) (zLV (γ 6) rfl ?_)))))))
    refine zIP zQ1_ (zLE (show fn158 [] (γ 6) = (0, 1, γ 7) from l6.symm) (zLV (γ 7) rfl (zIP zQ1_ (zLE (show fn160 [] (γ 7) = (0, 1, γ 8) from l7.symm) (zLV (γ 8) rfl ?_)))))
    rfl
  exact zGoo_ato hJ hD
theorem vn166a0_10 {S : Nat → zSpc} (hS111 : zIm S 111 sn111) (hS112 : zIm S 112 sn112) (hS114 : zIm S 114 sn114) (hS123 : zIm S 123 sn123) (hS124 : zIm S 124 sn124) (hS131 : zIm S 131 sn131) (hS146 : zIm S 146 sn146) (hS150 : zIm S 150 sn150) (hS151 : zIm S 151 sn151) (hS158 : zIm S 158 sn158) (hS160 : zIm S 160 sn160) (hS161 : zIm S 161 sn161) (hS163 : zIm S 163 sn163) {a : List Int} {g : rHp} : ∀ (ρ : Nat → Int) (γ : Nat → rHp), jn166 a g 0 (zAg (zNA a166_ 0) ρ) (γ 1) → zO 27 S a g q166a0_10 ρ γ → zGl (fun i vs g1 => jn166 a g i vs g1) (sn166 a g) q166a0_10 ρ γ := by
  intro ρ γ hJ h
  obtain ⟨ha, hg, hr, hf, hm, hc, hl⟩ := h
  have ha : a = [ρ 0, ρ 1, ρ 2, ρ 3, ρ 4, ρ 5, ρ 6, ρ 7, ρ 8, ρ 9, ρ 10, ρ 11, ρ 12, ρ 13, ρ 14, ρ 15, ρ 16, ρ 17, ρ 18, ρ 19, ρ 20, ρ 21, ρ 22, ρ 23, ρ 24, ρ 25, ρ 26] := ha
  subst ha
  subst hg
  have hJ : jn166 [ρ 0, ρ 1, ρ 2, ρ 3, ρ 4, ρ 5, ρ 6, ρ 7, ρ 8, ρ 9, ρ 10, ρ 11, ρ 12, ρ 13, ρ 14, ρ 15, ρ 16, ρ 17, ρ 18, ρ 19, ρ 20, ρ 21, ρ 22, ρ 23, ρ 24, ρ 25, ρ 26] (γ 0) 0 [ρ 0, ρ 1, ρ 2, ρ 3, ρ 4, ρ 5, ρ 6, ρ 7, ρ 8, ρ 9, ρ 10, ρ 11, ρ 12, ρ 13, ρ 14, ρ 15, ρ 16, ρ 17, ρ 18, ρ 19, ρ 20, ρ 21, ρ 22, ρ 23, ρ 24, ρ 25, ρ 26, ρ 27, ρ 28, ρ 29, ρ 30, ρ 31, ρ 32, ρ 33, ρ 34, ρ 35, ρ 36, ρ 37, ρ 38, ρ 39, ρ 40, ρ 41, ρ 42, ρ 43, ρ 44, ρ 45, ρ 46, ρ 47, ρ 48, ρ 49, ρ 50] (γ 1) := hJ
  have r27 : (1 : Int) ≤ ρ 27 ∧ ρ 27 ≤ 1 := zRnA hr 27
  have r28 : (0 : Int) ≤ ρ 28 ∧ ρ 28 ≤ 1999 := zRnA hr 28
  have r51 : (0 : Int) ≤ ρ 51 ∧ ρ 51 ≤ 255 := zRnA hr 51
  have r81 : (46 : Int) ≤ ρ 81 ∧ ρ 81 ≤ 46 := zRnA hr 81
  obtain ⟨w_0, w_1, w_2, w_3, w_4⟩ : (¬ (ρ 27 = 0)) ∧ (¬ (ρ 28 ≥ 2000)) ∧ ((0 : Int) ≤ ρ 51) ∧ ((0 : Int) ≤ ρ 81) ∧ (¬ (ρ 81 ≠ 46)) := ⟨by omega, by omega, by omega, by omega, by omega⟩
  have m27 : γ 1 1 0 10 = ρ 29 := zAllA hm 27
  have m39 : γ 1 2 0 4 = ρ 38 := zAllA hm 39
  have m53 : γ 0 40 0 (ρ 29) = ρ 53 := zAllA hm 53
  have l0 : sn114 [ρ 31, ρ 4] (γ 1) 0 (ρ 51) (γ 2) := hS114 _ _ _ _ _ (zAllA hl 0)
  have l1 : sn131 [ρ 29, ρ 53] (γ 2) 0 (ρ 53) (γ 3) := hS131 _ _ _ _ _ (zAllA hl 1)
  have l2 : sn146 [ρ 29, ρ 53, ρ 54, ρ 52, ρ 4, ρ 55, ρ 56, ρ 57, ρ 32, ρ 36, ρ 38, ρ 39, ρ 40, ρ 41, ρ 42, ρ 43, ρ 58, ρ 59, ρ 60, ρ 61, ρ 62, ρ 63, ρ 64] (γ 3) 0 1 (γ 4) := hS146 _ _ _ _ _ (zAllA hl 2)
  have l3 : sn114 [ρ 65, ρ 4] (γ 4) 0 (ρ 81) (γ 5) := hS114 _ _ _ _ _ (zAllA hl 3)
  have l4 : sn150 [9 * ρ 53, ρ 82, ρ 4, ρ 68, ρ 37, ρ 38, ρ 76, ρ 77] (γ 5) 0 0 (γ 6) := hS150 _ _ _ _ _ (zAllA hl 4)
  show jn166 [ρ 0, ρ 1, ρ 2, ρ 3, ρ 4, ρ 5, ρ 6, ρ 7, ρ 8, ρ 9, ρ 10, ρ 11, ρ 12, ρ 13, ρ 14, ρ 15, ρ 16, ρ 17, ρ 18, ρ 19, ρ 20, ρ 21, ρ 22, ρ 23, ρ 24, ρ 25, ρ 26] (γ 0) 0 [ρ 0, ρ 1, ρ 2, ρ 3, ρ 4, ρ 5, ρ 6, ρ 7, ρ 8, ρ 9, ρ 10, ρ 11, ρ 12, ρ 13, ρ 14, ρ 15, ρ 16, ρ 17, ρ 18, ρ 19, ρ 20, ρ 21, ρ 22, ρ 23, ρ 24, ρ 25, ρ 26, 0, ρ 28 + 1, ρ 29, ρ 85, ρ 83, ρ 32, ρ 86, ρ 87, ρ 88, ρ 69, ρ 37, ρ 84, ρ 70, ρ 71, ρ 72, ρ 73, ρ 74, ρ 89, ρ 90, ρ 91, ρ 92, ρ 93, ρ 94, ρ 95] (γ 6)
  have hD : en166 (γ 0) (0, [ρ 27, ρ 28], γ 1) = .inl (0, [0, ρ 28 + 1], γ 6) := by
    unfold en166
    refine zIP (show (0 : Nat) = 0 by decide) (zLV (γ 1) rfl (zLV (ρ 27) rfl (zLV (ρ 28) rfl (zLE m27 (zLE m39 (zIN w_0 (zIN w_1 ?_)))))))
    refine zLE (show fn114 [] (γ 1) = (0, ρ 51, γ 2) from l0.symm) (zLV (γ 2) rfl (zIP w_2 (zLE m53 (zLE (show fn131 [ρ 29] (γ 2) = (0, ρ 53, γ 3) from l1.symm) (zLV (γ 3) rfl (zLE (show fn146 [] (γ 3) = (0, 1, γ 4) from l2.symm) (zLV (γ 4) rfl ?_)))))))
    refine zIP zQ1_ (zLE (show fn114 [] (γ 4) = (0, ρ 81, γ 5) from l3.symm) (zLV (γ 5) rfl (zIP w_3 (zLV (ρ 81) rfl (zIN w_4 (zLE (show fn150 [9 * ρ 53] (γ 5) = (0, 0, γ 6) from l4.symm) (zLV (γ 6) rfl ?_)))))))
    refine zIN zQ0_ ?_
    rfl
  exact zGoo_ato hJ hD
theorem vn166a0_11 {S : Nat → zSpc} (hS111 : zIm S 111 sn111) (hS112 : zIm S 112 sn112) (hS114 : zIm S 114 sn114) (hS123 : zIm S 123 sn123) (hS124 : zIm S 124 sn124) (hS131 : zIm S 131 sn131) (hS146 : zIm S 146 sn146) (hS150 : zIm S 150 sn150) (hS151 : zIm S 151 sn151) (hS158 : zIm S 158 sn158) (hS160 : zIm S 160 sn160) (hS161 : zIm S 161 sn161) (hS163 : zIm S 163 sn163) {a : List Int} {g : rHp} : ∀ (ρ : Nat → Int) (γ : Nat → rHp), jn166 a g 0 (zAg (zNA a166_ 0) ρ) (γ 1) → zO 27 S a g q166a0_11 ρ γ → zGl (fun i vs g1 => jn166 a g i vs g1) (sn166 a g) q166a0_11 ρ γ := by
  intro ρ γ hJ h
  obtain ⟨ha, hg, hr, hf, hm, hc, hl⟩ := h
  have ha : a = [ρ 0, ρ 1, ρ 2, ρ 3, ρ 4, ρ 5, ρ 6, ρ 7, ρ 8, ρ 9, ρ 10, ρ 11, ρ 12, ρ 13, ρ 14, ρ 15, ρ 16, ρ 17, ρ 18, ρ 19, ρ 20, ρ 21, ρ 22, ρ 23, ρ 24, ρ 25, ρ 26] := ha
  subst ha
  subst hg
  have hJ : jn166 [ρ 0, ρ 1, ρ 2, ρ 3, ρ 4, ρ 5, ρ 6, ρ 7, ρ 8, ρ 9, ρ 10, ρ 11, ρ 12, ρ 13, ρ 14, ρ 15, ρ 16, ρ 17, ρ 18, ρ 19, ρ 20, ρ 21, ρ 22, ρ 23, ρ 24, ρ 25, ρ 26] (γ 0) 0 [ρ 0, ρ 1, ρ 2, ρ 3, ρ 4, ρ 5, ρ 6, ρ 7, ρ 8, ρ 9, ρ 10, ρ 11, ρ 12, ρ 13, ρ 14, ρ 15, ρ 16, ρ 17, ρ 18, ρ 19, ρ 20, ρ 21, ρ 22, ρ 23, ρ 24, ρ 25, ρ 26, ρ 27, ρ 28, ρ 29, ρ 30, ρ 31, ρ 32, ρ 33, ρ 34, ρ 35, ρ 36, ρ 37, ρ 38, ρ 39, ρ 40, ρ 41, ρ 42, ρ 43, ρ 44, ρ 45, ρ 46, ρ 47, ρ 48, ρ 49, ρ 50] (γ 1) := hJ
  have r27 : (1 : Int) ≤ ρ 27 ∧ ρ 27 ≤ 1 := zRnA hr 27
  have r28 : (0 : Int) ≤ ρ 28 ∧ ρ 28 ≤ 1999 := zRnA hr 28
  have r51 : (0 : Int) ≤ ρ 51 ∧ ρ 51 ≤ 255 := zRnA hr 51
  have r81 : (46 : Int) ≤ ρ 81 ∧ ρ 81 ≤ 46 := zRnA hr 81
  obtain ⟨w_0, w_1, w_2, w_3, w_4⟩ : (¬ (ρ 27 = 0)) ∧ (¬ (ρ 28 ≥ 2000)) ∧ ((0 : Int) ≤ ρ 51) ∧ ((0 : Int) ≤ ρ 81) ∧ (¬ (ρ 81 ≠ 46)) := ⟨by omega, by omega, by omega, by omega, by omega⟩
  have m27 : γ 1 1 0 10 = ρ 29 := zAllA hm 27
  have m39 : γ 1 2 0 4 = ρ 38 := zAllA hm 39
  have m53 : γ 0 40 0 (ρ 29) = ρ 53 := zAllA hm 53
  have l0 : sn114 [ρ 31, ρ 4] (γ 1) 0 (ρ 51) (γ 2) := hS114 _ _ _ _ _ (zAllA hl 0)
  have l1 : sn131 [ρ 29, ρ 53] (γ 2) 0 (ρ 53) (γ 3) := hS131 _ _ _ _ _ (zAllA hl 1)
  have l2 : sn146 [ρ 29, ρ 53, ρ 54, ρ 52, ρ 4, ρ 55, ρ 56, ρ 57, ρ 32, ρ 36, ρ 38, ρ 39, ρ 40, ρ 41, ρ 42, ρ 43, ρ 58, ρ 59, ρ 60, ρ 61, ρ 62, ρ 63, ρ 64] (γ 3) 0 1 (γ 4) := hS146 _ _ _ _ _ (zAllA hl 2)
  have l3 : sn114 [ρ 65, ρ 4] (γ 4) 0 (ρ 81) (γ 5) := hS114 _ _ _ _ _ (zAllA hl 3)
  have l4 : sn150 [9 * ρ 53, ρ 82, ρ 4, ρ 68, ρ 37, ρ 38, ρ 76, ρ 77] (γ 5) 0 1 (γ 6) := hS150 _ _ _ _ _ (zAllA hl 4)
  show jn166 [ρ 0, ρ 1, ρ 2, ρ 3, ρ 4, ρ 5, ρ 6, ρ 7, ρ 8, ρ 9, ρ 10, ρ 11, ρ 12, ρ 13, ρ 14, ρ 15, ρ 16, ρ 17, ρ 18, ρ 19, ρ 20, ρ 21, ρ 22, ρ 23, ρ 24, ρ 25, ρ 26] (γ 0) 0 [ρ 0, ρ 1, ρ 2, ρ 3, ρ 4, ρ 5, ρ 6, ρ 7, ρ 8, ρ 9, ρ 10, ρ 11, ρ 12, ρ 13, ρ 14, ρ 15, ρ 16, ρ 17, ρ 18, ρ 19, ρ 20, ρ 21, ρ 22, ρ 23, ρ 24, ρ 25, ρ 26, 1, ρ 28 + 1, ρ 29, ρ 85, ρ 83, ρ 32, ρ 86, ρ 87, ρ 88, ρ 69, ρ 84, ρ 38, ρ 70, ρ 71, ρ 72, ρ 73, ρ 74, ρ 89, ρ 90, ρ 91, ρ 92, ρ 93, ρ 94, ρ 95] (γ 6)
  have hD : en166 (γ 0) (0, [ρ 27, ρ 28], γ 1) = .inl (0, [1, ρ 28 + 1], γ 6) := by
    unfold en166
    refine zIP (show (0 : Nat) = 0 by decide) (zLV (γ 1) rfl (zLV (ρ 27) rfl (zLV (ρ 28) rfl (zLE m27 (zLE m39 (zIN w_0 (zIN w_1 ?_)))))))
    refine zLE (show fn114 [] (γ 1) = (0, ρ 51, γ 2) from l0.symm) (zLV (γ 2) rfl (zIP w_2 (zLE m53 (zLE (show fn131 [ρ 29] (γ 2) = (0, ρ 53, γ 3) from l1.symm) (zLV (γ 3) rfl (zLE (show fn146 [] (γ 3) = (0, 1, γ 4) from l2.symm) (zLV (γ 4) rfl ?_)))))))
    refine zIP zQ1_ (zLE (show fn114 [] (γ 4) = (0, ρ 81, γ 5) from l3.symm) (zLV (γ 5) rfl (zIP w_3 (zLV (ρ 81) rfl (zIN w_4 (zLE (show fn150 [9 * ρ 53] (γ 5) = (0, 1, γ 6) from l4.symm) (zLV (γ 6) rfl ?_)))))))
    refine zIP zQ1_ ?_
    rfl
  exact zGoo_ato hJ hD
theorem yn166 {S : Nat → zSpc} (hS111 : zIm S 111 sn111) (hS112 : zIm S 112 sn112) (hS114 : zIm S 114 sn114) (hS123 : zIm S 123 sn123) (hS124 : zIm S 124 sn124) (hS131 : zIm S 131 sn131) (hS146 : zIm S 146 sn146) (hS150 : zIm S 150 sn150) (hS151 : zIm S 151 sn151) (hS158 : zIm S 158 sn158) (hS160 : zIm S 160 sn160) (hS161 : zIm S 161 sn161) (hS163 : zIm S 163 sn163) : ∀ x g o v gz, zSem uW uT w166_.2.2.2.1 w166_.2.2.1.1.length S q166 (fun i => q166a.getD i []) (zNA a166_) x g o v gz → sn166 x g o v gz := by
  intro a g o v gz h
  exact zSem_all (l0 := q166) (las := q166a) (S := S) (J := (fun i vs g1 => jn166 a g i vs g1)) (P := sn166 a g) (fun _ => (show zAll _ [q166_0] from (zAll_c (vn166_0 hS111 hS112 hS114 hS123 hS124 hS131 hS146 hS150 hS151 hS158 hS160 hS161 hS163) zAll_n))) (fun _ => (show zAllI _ 0 [q166a0] from ⟨(show zAll _ [q166a0_0, q166a0_1, q166a0_2, q166a0_3, q166a0_4, q166a0_5, q166a0_6, q166a0_7, q166a0_8, q166a0_9, q166a0_10, q166a0_11] from (zAll_c (vn166a0_0 hS111 hS112 hS114 hS123 hS124 hS131 hS146 hS150 hS151 hS158 hS160 hS161 hS163) (zAll_c (vn166a0_1 hS111 hS112 hS114 hS123 hS124 hS131 hS146 hS150 hS151 hS158 hS160 hS161 hS163) (zAll_c (vn166a0_2 hS111 hS112 hS114 hS123 hS124 hS131 hS146 hS150 hS151 hS158 hS160 hS161 hS163) (zAll_c (vn166a0_3 hS111 hS112 hS114 hS123 hS124 hS131 hS146 hS150 hS151 hS158 hS160 hS161 hS163) (zAll_c (vn166a0_4 hS111 hS112 hS114 hS123 hS124 hS131 hS146 hS150 hS151 hS158 hS160 hS161 hS163) (zAll_c (vn166a0_5 hS111 hS112 hS114 hS123 hS124 hS131 hS146 hS150 hS151 hS158 hS160 hS161 hS163) (zAll_c (vn166a0_6 hS111 hS112 hS114 hS123 hS124 hS131 hS146 hS150 hS151 hS158 hS160 hS161 hS163) (zAll_c (vn166a0_7 hS111 hS112 hS114 hS123 hS124 hS131 hS146 hS150 hS151 hS158 hS160 hS161 hS163) (zAll_c (vn166a0_8 hS111 hS112 hS114 hS123 hS124 hS131 hS146 hS150 hS151 hS158 hS160 hS161 hS163) (zAll_c (vn166a0_9 hS111 hS112 hS114 hS123 hS124 hS131 hS146 hS150 hS151 hS158 hS160 hS161 hS163) (zAll_c (vn166a0_10 hS111 hS112 hS114 hS123 hS124 hS131 hS146 hS150 hS151 hS158 hS160 hS161 hS163) (zAll_c (vn166a0_11 hS111 hS112 hS114 hS123 hS124 hS131 hS146 hS150 hS151 hS158 hS160 hS161 hS163) zAll_n))))))))))))), trivial⟩)) h
