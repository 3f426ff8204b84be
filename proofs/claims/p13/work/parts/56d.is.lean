/-! ===== the runs are the functions ===== -/
theorem vn36_0 {S : Nat → zSpc} (hS6 : zIm S 6 sn6) (hS7 : zIm S 7 sn7) (hS8 : zIm S 8 sn8) (hS20 : zIm S 20 sn20) (hS21 : zIm S 21 sn21) (hS22 : zIm S 22 sn22) (hS24 : zIm S 24 sn24) (hS25 : zIm S 25 sn25) (hS33 : zIm S 33 sn33) {a : List Int} {g : rHp} : ∀ (ρ : Nat → Int) (γ : Nat → rHp), zO 17 S a g q36_0 ρ γ → zGl (fun i vs g1 => jn36 a g i vs g1) (sn36 a g) q36_0 ρ γ := by
  intro ρ γ h
  obtain ⟨ha, hg, hr, hf, hm, hc, hl⟩ := h
  have ha : a = [ρ 0, ρ 1, ρ 2, ρ 3, ρ 4, ρ 5, ρ 6, ρ 7, ρ 8, ρ 9, ρ 10, ρ 11, ρ 12, ρ 13, ρ 14, ρ 15, ρ 16] := ha
  subst ha
  subst hg
  have m0 : γ 0 15 0 35 = ρ 2 := zAllA hm 0
  have c2 : γ 2 = rUp (γ 1) 15 0 35 (ρ 2 + 1) := And.right (zChA hc 0)
  have l0 : sn33 [ρ 9, ρ 10] (γ 0) 0 (ρ 10 + 8 * ρ 9) (γ 1) := hS33 _ _ _ _ _ (zAllA hl 0)
  show jn36 [ρ 0, ρ 1, ρ 2, ρ 3, ρ 4, ρ 5, ρ 6, ρ 7, ρ 8, ρ 9, ρ 10, ρ 11, ρ 12, ρ 13, ρ 14, ρ 15, ρ 16] (γ 0) 0 [ρ 0, ρ 1, ρ 2, ρ 3, ρ 4, ρ 5, ρ 6, ρ 7, ρ 8, ρ 9, ρ 10, ρ 11, ρ 12, ρ 13, ρ 14, ρ 15, ρ 16, 1, 0, 0, ρ 2 + 1, ρ 4, ρ 5, ρ 6, ρ 7, ρ 8, ρ 15, ρ 12] (γ 2)
  have hD : dn36 [ρ 0, ρ 1] (γ 0) = .inl (0, [ρ 0, ρ 1, 1, 0, 0], γ 2) := by
    unfold dn36
    refine zLV (ρ 0) rfl (zLV (ρ 1) rfl (zLE m0 (zLE (show fn33 [] (γ 0) = (0, ρ 10 + 8 * ρ 9, γ 1) from l0.symm) (zLV (γ 1) rfl (zLE c2.symm ?_)))))
    rfl
  exact zGoo_to hD
theorem vn36a0_0 {S : Nat → zSpc} (hS6 : zIm S 6 sn6) (hS7 : zIm S 7 sn7) (hS8 : zIm S 8 sn8) (hS20 : zIm S 20 sn20) (hS21 : zIm S 21 sn21) (hS22 : zIm S 22 sn22) (hS24 : zIm S 24 sn24) (hS25 : zIm S 25 sn25) (hS33 : zIm S 33 sn33) {a : List Int} {g : rHp} : ∀ (ρ : Nat → Int) (γ : Nat → rHp), jn36 a g 0 (zAg (zNA a36_ 0) ρ) (γ 1) → zO 17 S a g q36a0_0 ρ γ → zGl (fun i vs g1 => jn36 a g i vs g1) (sn36 a g) q36a0_0 ρ γ := by
  intro ρ γ hJ h
  obtain ⟨ha, hg, hr, hf, hm, hc, hl⟩ := h
  have ha : a = [ρ 0, ρ 1, ρ 2, ρ 3, ρ 4, ρ 5, ρ 6, ρ 7, ρ 8, ρ 9, ρ 10, ρ 11, ρ 12, ρ 13, ρ 14, ρ 15, ρ 16] := ha
  subst ha
  subst hg
  have hJ : jn36 [ρ 0, ρ 1, ρ 2, ρ 3, ρ 4, ρ 5, ρ 6, ρ 7, ρ 8, ρ 9, ρ 10, ρ 11, ρ 12, ρ 13, ρ 14, ρ 15, ρ 16] (γ 0) 0 [ρ 0, ρ 1, ρ 2, ρ 3, ρ 4, ρ 5, ρ 6, ρ 7, ρ 8, ρ 9, ρ 10, ρ 11, ρ 12, ρ 13, ρ 14, ρ 15, ρ 16, ρ 17, ρ 18, ρ 19, ρ 20, ρ 21, ρ 22, ρ 23, ρ 24, ρ 25, ρ 26, ρ 27] (γ 1) := hJ
  have r17 : (0 : Int) ≤ ρ 17 ∧ ρ 17 ≤ 0 := zRnA hr 17
  have w_0 : ρ 17 = 0 := by omega
  have m1 : γ 0 15 0 34 = ρ 3 := zAllA hm 1
  have m5 : γ 0 15 0 37 = ρ 7 := zAllA hm 5
  have m6 : γ 0 15 0 38 = ρ 8 := zAllA hm 6
  have m7 : γ 0 15 0 44 = ρ 9 := zAllA hm 7
  have m8 : γ 0 73 0 (ρ 9) = ρ 10 := zAllA hm 8
  have m11 : γ 0 15 0 14 = ρ 13 := zAllA hm 11
  have m14 : γ 0 15 0 45 = ρ 16 := zAllA hm 14
  have l0 : sn24 [41, ρ 20, ρ 3, ρ 14] (γ 1) 0 0 (γ 2) := hS24 _ _ _ _ _ (zAllA hl 0)
  show sn36 [ρ 0, ρ 1, ρ 2, ρ 3, ρ 4, ρ 5, ρ 6, ρ 7, ρ 8, ρ 9, ρ 10, ρ 11, ρ 12, ρ 13, ρ 14, ρ 15, ρ 16] (γ 0) 0 0 (γ 2)
  have hD : en36 (γ 0) (0, [ρ 0, ρ 1, ρ 17, ρ 18, ρ 19], γ 1) = .inr (0, 0, γ 2) := by
    unfold en36
    refine zIP (show (0 : Nat) = 0 by decide) (zLV (γ 1) rfl (zLV (ρ 0) rfl (zLV (ρ 1) rfl (zLV (ρ 17) rfl (zLV (ρ 18) rfl (zLV (ρ 19) rfl (zLE m1 ?_)))))))
    refine zLE m5 (zLE m6 (zLE m7 (zLE m8 (zLE m11 (zLE m14 (zIP w_0 (zLE (show fn24 [41] (γ 1) = (0, 0, γ 2) from l0.symm) ?_)))))))
    refine zLV (γ 2) rfl (zIN zQ0_ ?_)
    rfl
  exact zGoo_aend hJ hD
theorem vn36a0_1 {S : Nat → zSpc} (hS6 : zIm S 6 sn6) (hS7 : zIm S 7 sn7) (hS8 : zIm S 8 sn8) (hS20 : zIm S 20 sn20) (hS21 : zIm S 21 sn21) (hS22 : zIm S 22 sn22) (hS24 : zIm S 24 sn24) (hS25 : zIm S 25 sn25) (hS33 : zIm S 33 sn33) {a : List Int} {g : rHp} : ∀ (ρ : Nat → Int) (γ : Nat → rHp), jn36 a g 0 (zAg (zNA a36_ 0) ρ) (γ 1) → zO 17 S a g q36a0_1 ρ γ → zGl (fun i vs g1 => jn36 a g i vs g1) (sn36 a g) q36a0_1 ρ γ := by
  intro ρ γ hJ h
  obtain ⟨ha, hg, hr, hf, hm, hc, hl⟩ := h
  have ha : a = [ρ 0, ρ 1, ρ 2, ρ 3, ρ 4, ρ 5, ρ 6, ρ 7, ρ 8, ρ 9, ρ 10, ρ 11, ρ 12, ρ 13, ρ 14, ρ 15, ρ 16] := ha
  subst ha
  subst hg
  have hJ : jn36 [ρ 0, ρ 1, ρ 2, ρ 3, ρ 4, ρ 5, ρ 6, ρ 7, ρ 8, ρ 9, ρ 10, ρ 11, ρ 12, ρ 13, ρ 14, ρ 15, ρ 16] (γ 0) 0 [ρ 0, ρ 1, ρ 2, ρ 3, ρ 4, ρ 5, ρ 6, ρ 7, ρ 8, ρ 9, ρ 10, ρ 11, ρ 12, ρ 13, ρ 14, ρ 15, ρ 16, ρ 17, ρ 18, ρ 19, ρ 20, ρ 21, ρ 22, ρ 23, ρ 24, ρ 25, ρ 26, ρ 27] (γ 1) := hJ
  have r0 : (0 : Int) ≤ ρ 0 ∧ ρ 0 ≤ 0 := zRnA hr 0
  have r17 : (0 : Int) ≤ ρ 17 ∧ ρ 17 ≤ 0 := zRnA hr 17
  have r29 : (0 : Int) ≤ ρ 29 ∧ ρ 29 ≤ 19 := zRnA hr 29
  obtain ⟨w_0, w_1, w_2⟩ : (ρ 17 = 0) ∧ (ρ 29 ≥ 0) ∧ (ρ 0 = 0) := ⟨by omega, by omega, by omega⟩
  have m1 : γ 0 15 0 34 = ρ 3 := zAllA hm 1
  have m5 : γ 0 15 0 37 = ρ 7 := zAllA hm 5
  have m6 : γ 0 15 0 38 = ρ 8 := zAllA hm 6
  have m7 : γ 0 15 0 44 = ρ 9 := zAllA hm 7
  have m8 : γ 0 73 0 (ρ 9) = ρ 10 := zAllA hm 8
  have m11 : γ 0 15 0 14 = ρ 13 := zAllA hm 11
  have m14 : γ 0 15 0 45 = ρ 16 := zAllA hm 14
  have c4 : γ 4 = rUp (γ 3) 77 0 (ρ 10 + 8 * ρ 9) 0 := And.right (zChA hc 3)
  have c5 : γ 5 = rUp (γ 4) 78 0 (ρ 10 + 8 * ρ 9) (ρ 29) := And.right (zChA hc 2)
  have c6 : γ 6 = rUp (γ 5) 79 0 (ρ 10 + 8 * ρ 9) (ρ 16) := And.right (zChA hc 1)
  have c7 : γ 7 = rUp (γ 6) 15 0 45 (ρ 30) := And.right (zChA hc 0)
  have l0 : sn24 [41, ρ 20, ρ 3, ρ 14] (γ 1) 0 1 (γ 2) := hS24 _ _ _ _ _ (zAllA hl 0)
  have l1 : sn21 [ρ 7, ρ 8, ρ 19, ρ 13] (γ 2) 0 (ρ 29) (γ 3) := hS21 _ _ _ _ _ (zAllA hl 1)
  have l2 : zOpP (.ior) (γ 0) (γ 1) [ρ 16, ρ 18] (ρ 30) := zAllA hl 2
  show sn36 [ρ 0, ρ 1, ρ 2, ρ 3, ρ 4, ρ 5, ρ 6, ρ 7, ρ 8, ρ 9, ρ 10, ρ 11, ρ 12, ρ 13, ρ 14, ρ 15, ρ 16] (γ 0) 0 1 (γ 7)
  have hD : en36 (γ 0) (0, [ρ 0, ρ 1, ρ 17, ρ 18, ρ 19], γ 1) = .inr (0, 1, γ 7) := by
    unfold en36
    refine zIP (show (0 : Nat) = 0 by decide) (zLV (γ 1) rfl (zLV (ρ 0) rfl (zLV (ρ 1) rfl (zLV (ρ 17) rfl (zLV (ρ 18) rfl (zLV (ρ 19) rfl (zLE m1 ?_)))))))
    refine zLE m5 (zLE m6 (zLE m7 (zLE m8 (zLE m11 (zLE m14 (zIP w_0 (zLE (show fn24 [41] (γ 1) = (0, 1, γ 2) from l0.symm) ?_)))))))
    refine zLV (γ 2) rfl (zIP zQ1_ (zLE (show fn21 [ρ 7, ρ 8, ρ 19] (γ 2) = (0, ρ 29, γ 3) from l1.symm) (zLV (γ 3) rfl (zLV (ρ 29) rfl (zIP w_1 (zIP w_2 (zLE c4.symm ?_)))))))
    refine zLE c5.symm (zLE c6.symm (zLE (zF2_ok l2) (zLE c7.symm ?_)))
    rfl
  exact zGoo_aend hJ hD
theorem vn36a0_2 {S : Nat → zSpc} (hS6 : zIm S 6 sn6) (hS7 : zIm S 7 sn7) (hS8 : zIm S 8 sn8) (hS20 : zIm S 20 sn20) (hS21 : zIm S 21 sn21) (hS22 : zIm S 22 sn22) (hS24 : zIm S 24 sn24) (hS25 : zIm S 25 sn25) (hS33 : zIm S 33 sn33) {a : List Int} {g : rHp} : ∀ (ρ : Nat → Int) (γ : Nat → rHp), jn36 a g 0 (zAg (zNA a36_ 0) ρ) (γ 1) → zO 17 S a g q36a0_2 ρ γ → zGl (fun i vs g1 => jn36 a g i vs g1) (sn36 a g) q36a0_2 ρ γ := by
  intro ρ γ hJ h
  obtain ⟨ha, hg, hr, hf, hm, hc, hl⟩ := h
  have ha : a = [ρ 0, ρ 1, ρ 2, ρ 3, ρ 4, ρ 5, ρ 6, ρ 7, ρ 8, ρ 9, ρ 10, ρ 11, ρ 12, ρ 13, ρ 14, ρ 15, ρ 16] := ha
  subst ha
  subst hg
  have hJ : jn36 [ρ 0, ρ 1, ρ 2, ρ 3, ρ 4, ρ 5, ρ 6, ρ 7, ρ 8, ρ 9, ρ 10, ρ 11, ρ 12, ρ 13, ρ 14, ρ 15, ρ 16] (γ 0) 0 [ρ 0, ρ 1, ρ 2, ρ 3, ρ 4, ρ 5, ρ 6, ρ 7, ρ 8, ρ 9, ρ 10, ρ 11, ρ 12, ρ 13, ρ 14, ρ 15, ρ 16, ρ 17, ρ 18, ρ 19, ρ 20, ρ 21, ρ 22, ρ 23, ρ 24, ρ 25, ρ 26, ρ 27] (γ 1) := hJ
  have r0 : (1 : Int) ≤ ρ 0 ∧ ρ 0 ≤ 1 := zRnA hr 0
  have r17 : (0 : Int) ≤ ρ 17 ∧ ρ 17 ≤ 0 := zRnA hr 17
  have r29 : (0 : Int) ≤ ρ 29 ∧ ρ 29 ≤ 19 := zRnA hr 29
  obtain ⟨w_0, w_1, w_2⟩ : (ρ 17 = 0) ∧ (ρ 29 ≥ 0) ∧ (¬ (ρ 0 = 0)) := ⟨by omega, by omega, by omega⟩
  have m1 : γ 0 15 0 34 = ρ 3 := zAllA hm 1
  have m5 : γ 0 15 0 37 = ρ 7 := zAllA hm 5
  have m6 : γ 0 15 0 38 = ρ 8 := zAllA hm 6
  have m7 : γ 0 15 0 44 = ρ 9 := zAllA hm 7
  have m8 : γ 0 73 0 (ρ 9) = ρ 10 := zAllA hm 8
  have m11 : γ 0 15 0 14 = ρ 13 := zAllA hm 11
  have m14 : γ 0 15 0 45 = ρ 16 := zAllA hm 14
  have c4 : γ 4 = rUp (γ 3) 77 0 (ρ 10 + 8 * ρ 9) 1 := And.right (zChA hc 2)
  have c5 : γ 5 = rUp (γ 4) 78 0 (ρ 10 + 8 * ρ 9) (ρ 29) := And.right (zChA hc 1)
  have c6 : γ 6 = rUp (γ 5) 79 0 (ρ 10 + 8 * ρ 9) (ρ 16) := And.right (zChA hc 0)
  have l0 : sn24 [41, ρ 20, ρ 3, ρ 14] (γ 1) 0 1 (γ 2) := hS24 _ _ _ _ _ (zAllA hl 0)
  have l1 : sn21 [ρ 7, ρ 8, ρ 19, ρ 13] (γ 2) 0 (ρ 29) (γ 3) := hS21 _ _ _ _ _ (zAllA hl 1)
  show sn36 [ρ 0, ρ 1, ρ 2, ρ 3, ρ 4, ρ 5, ρ 6, ρ 7, ρ 8, ρ 9, ρ 10, ρ 11, ρ 12, ρ 13, ρ 14, ρ 15, ρ 16] (γ 0) 0 1 (γ 6)
  have hD : en36 (γ 0) (0, [ρ 0, ρ 1, ρ 17, ρ 18, ρ 19], γ 1) = .inr (0, 1, γ 6) := by
    unfold en36
    refine zIP (show (0 : Nat) = 0 by decide) (zLV (γ 1) rfl (zLV (ρ 0) rfl (zLV (ρ 1) rfl (zLV (ρ 17) rfl (zLV (ρ 18) rfl (zLV (ρ 19) rfl (zLE m1 ?_)))))))
    refine zLE m5 (zLE m6 (zLE m7 (zLE m8 (zLE m11 (zLE m14 (zIP w_0 (zLE (show fn24 [41] (γ 1) = (0, 1, γ 2) from l0.symm) ?_)))))))
    refine zLV (γ 2) rfl (zIP zQ1_ (zLE (show fn21 [ρ 7, ρ 8, ρ 19] (γ 2) = (0, ρ 29, γ 3) from l1.symm) (zLV (γ 3) rfl (zLV (ρ 29) rfl (zIP w_1 (zIN w_2 (zLE c4.symm ?_)))))))
    refine zLE c5.symm (zLE c6.symm ?_)
    rfl
  exact zGoo_aend hJ hD
theorem vn36a0_3 {S : Nat → zSpc} (hS6 : zIm S 6 sn6) (hS7 : zIm S 7 sn7) (hS8 : zIm S 8 sn8) (hS20 : zIm S 20 sn20) (hS21 : zIm S 21 sn21) (hS22 : zIm S 22 sn22) (hS24 : zIm S 24 sn24) (hS25 : zIm S 25 sn25) (hS33 : zIm S 33 sn33) {a : List Int} {g : rHp} : ∀ (ρ : Nat → Int) (γ : Nat → rHp), jn36 a g 0 (zAg (zNA a36_ 0) ρ) (γ 1) → zO 17 S a g q36a0_3 ρ γ → zGl (fun i vs g1 => jn36 a g i vs g1) (sn36 a g) q36a0_3 ρ γ := by
  intro ρ γ hJ h
  obtain ⟨ha, hg, hr, hf, hm, hc, hl⟩ := h
  have ha : a = [ρ 0, ρ 1, ρ 2, ρ 3, ρ 4, ρ 5, ρ 6, ρ 7, ρ 8, ρ 9, ρ 10, ρ 11, ρ 12, ρ 13, ρ 14, ρ 15, ρ 16] := ha
  subst ha
  subst hg
  have hJ : jn36 [ρ 0, ρ 1, ρ 2, ρ 3, ρ 4, ρ 5, ρ 6, ρ 7, ρ 8, ρ 9, ρ 10, ρ 11, ρ 12, ρ 13, ρ 14, ρ 15, ρ 16] (γ 0) 0 [ρ 0, ρ 1, ρ 2, ρ 3, ρ 4, ρ 5, ρ 6, ρ 7, ρ 8, ρ 9, ρ 10, ρ 11, ρ 12, ρ 13, ρ 14, ρ 15, ρ 16, ρ 17, ρ 18, ρ 19, ρ 20, ρ 21, ρ 22, ρ 23, ρ 24, ρ 25, ρ 26, ρ 27] (γ 1) := hJ
  have r1 : (0 : Int) ≤ ρ 1 ∧ ρ 1 ≤ 0 := zRnA hr 1
  have r17 : (0 : Int) ≤ ρ 17 ∧ ρ 17 ≤ 0 := zRnA hr 17
  have r29 : ((-1) : Int) ≤ ρ 29 ∧ ρ 29 ≤ (-1) := zRnA hr 29
  obtain ⟨w_0, w_1, w_2⟩ : (ρ 17 = 0) ∧ (¬ (ρ 29 ≥ 0)) ∧ (ρ 1 = 0) := ⟨by omega, by omega, by omega⟩
  have m1 : γ 0 15 0 34 = ρ 3 := zAllA hm 1
  have m5 : γ 0 15 0 37 = ρ 7 := zAllA hm 5
  have m6 : γ 0 15 0 38 = ρ 8 := zAllA hm 6
  have m7 : γ 0 15 0 44 = ρ 9 := zAllA hm 7
  have m8 : γ 0 73 0 (ρ 9) = ρ 10 := zAllA hm 8
  have m11 : γ 0 15 0 14 = ρ 13 := zAllA hm 11
  have m14 : γ 0 15 0 45 = ρ 16 := zAllA hm 14
  have l0 : sn24 [41, ρ 20, ρ 3, ρ 14] (γ 1) 0 1 (γ 2) := hS24 _ _ _ _ _ (zAllA hl 0)
  have l1 : sn21 [ρ 7, ρ 8, ρ 19, ρ 13] (γ 2) 0 (ρ 29) (γ 3) := hS21 _ _ _ _ _ (zAllA hl 1)
  have l2 : sn8 [ρ 7, ρ 3, ρ 14] (γ 3) 0 0 (γ 4) := hS8 _ _ _ _ _ (zAllA hl 2)
  show sn36 [ρ 0, ρ 1, ρ 2, ρ 3, ρ 4, ρ 5, ρ 6, ρ 7, ρ 8, ρ 9, ρ 10, ρ 11, ρ 12, ρ 13, ρ 14, ρ 15, ρ 16] (γ 0) 0 0 (γ 4)
  have hD : en36 (γ 0) (0, [ρ 0, ρ 1, ρ 17, ρ 18, ρ 19], γ 1) = .inr (0, 0, γ 4) := by
    unfold en36
    refine zIP (show (0 : Nat) = 0 by decide) (zLV (γ 1) rfl (zLV (ρ 0) rfl (zLV (ρ 1) rfl (zLV (ρ 17) rfl (zLV (ρ 18) rfl (zLV (ρ 19) rfl (zLE m1 ?_)))))))
    refine zLE m5 (zLE m6 (zLE m7 (zLE m8 (zLE m11 (zLE m14 (zIP w_0 (zLE (show fn24 [41] (γ 1) = (0, 1, γ 2) from l0.symm) ?_)))))))
    refine zLV (γ 2) rfl (zIP zQ1_ (zLE (show fn21 [ρ 7, ρ 8, ρ 19] (γ 2) = (0, ρ 29, γ 3) from l1.symm) (zLV (γ 3) rfl (zLV (ρ 29) rfl (zIN w_1 (zIP w_2 (zLE (show fn8 [ρ 7] (γ 3) = (0, 0, γ 4) from l2.symm) ?_)))))))
    refine zLV (γ 4) rfl ?_
    rfl
  exact zGoo_aend hJ hD
theorem vn36a0_4 {S : Nat → zSpc} (hS6 : zIm S 6 sn6) (hS7 : zIm S 7 sn7) (hS8 : zIm S 8 sn8) (hS20 : zIm S 20 sn20) (hS21 : zIm S 21 sn21) (hS22 : zIm S 22 sn22) (hS24 : zIm S 24 sn24) (hS25 : zIm S 25 sn25) (hS33 : zIm S 33 sn33) {a : List Int} {g : rHp} : ∀ (ρ : Nat → Int) (γ : Nat → rHp), jn36 a g 0 (zAg (zNA a36_ 0) ρ) (γ 1) → zO 17 S a g q36a0_4 ρ γ → zGl (fun i vs g1 => jn36 a g i vs g1) (sn36 a g) q36a0_4 ρ γ := by
  intro ρ γ hJ h
  obtain ⟨ha, hg, hr, hf, hm, hc, hl⟩ := h
  have ha : a = [ρ 0, ρ 1, ρ 2, ρ 3, ρ 4, ρ 5, ρ 6, ρ 7, ρ 8, ρ 9, ρ 10, ρ 11, ρ 12, ρ 13, ρ 14, ρ 15, ρ 16] := ha
  subst ha
  subst hg
  have hJ : jn36 [ρ 0, ρ 1, ρ 2, ρ 3, ρ 4, ρ 5, ρ 6, ρ 7, ρ 8, ρ 9, ρ 10, ρ 11, ρ 12, ρ 13, ρ 14, ρ 15, ρ 16] (γ 0) 0 [ρ 0, ρ 1, ρ 2, ρ 3, ρ 4, ρ 5, ρ 6, ρ 7, ρ 8, ρ 9, ρ 10, ρ 11, ρ 12, ρ 13, ρ 14, ρ 15, ρ 16, ρ 17, ρ 18, ρ 19, ρ 20, ρ 21, ρ 22, ρ 23, ρ 24, ρ 25, ρ 26, ρ 27] (γ 1) := hJ
  have r0 : (0 : Int) ≤ ρ 0 ∧ ρ 0 ≤ 0 := zRnA hr 0
  have r1 : (1 : Int) ≤ ρ 1 ∧ ρ 1 ≤ 1 := zRnA hr 1
  have r13 : (0 : Int) ≤ ρ 13 ∧ ρ 13 ≤ 19 := zRnA hr 13
  have r17 : (0 : Int) ≤ ρ 17 ∧ ρ 17 ≤ 0 := zRnA hr 17
  have r29 : ((-1) : Int) ≤ ρ 29 ∧ ρ 29 ≤ (-1) := zRnA hr 29
  obtain ⟨w_0, w_1, w_2, w_3, w_4⟩ : (ρ 17 = 0) ∧ (¬ (ρ 29 ≥ 0)) ∧ (¬ (ρ 1 = 0)) ∧ (ρ 13 ≠ 20) ∧ (ρ 0 = 0) := ⟨by omega, by omega, by omega, by omega, by omega⟩
  have m1 : γ 0 15 0 34 = ρ 3 := zAllA hm 1
  have m5 : γ 0 15 0 37 = ρ 7 := zAllA hm 5
  have m6 : γ 0 15 0 38 = ρ 8 := zAllA hm 6
  have m7 : γ 0 15 0 44 = ρ 9 := zAllA hm 7
  have m8 : γ 0 73 0 (ρ 9) = ρ 10 := zAllA hm 8
  have m11 : γ 0 15 0 14 = ρ 13 := zAllA hm 11
  have m14 : γ 0 15 0 45 = ρ 16 := zAllA hm 14
  have c5 : γ 5 = rUp (γ 4) 77 0 (ρ 10 + 8 * ρ 9) 0 := And.right (zChA hc 3)
  have c6 : γ 6 = rUp (γ 5) 78 0 (ρ 10 + 8 * ρ 9) (ρ 13) := And.right (zChA hc 2)
  have c7 : γ 7 = rUp (γ 6) 79 0 (ρ 10 + 8 * ρ 9) (ρ 16) := And.right (zChA hc 1)
  have c8 : γ 8 = rUp (γ 7) 15 0 45 (ρ 30) := And.right (zChA hc 0)
  have l0 : sn24 [41, ρ 20, ρ 3, ρ 14] (γ 1) 0 1 (γ 2) := hS24 _ _ _ _ _ (zAllA hl 0)
  have l1 : sn21 [ρ 7, ρ 8, ρ 19, ρ 13] (γ 2) 0 (ρ 29) (γ 3) := hS21 _ _ _ _ _ (zAllA hl 1)
  have l2 : sn22 [ρ 7, ρ 8, ρ 19, ρ 13] (γ 3) 0 (ρ 13) (γ 4) := hS22 _ _ _ _ _ (zAllA hl 2)
  have l3 : zOpP (.ior) (γ 0) (γ 1) [ρ 16, ρ 18] (ρ 30) := zAllA hl 3
  show sn36 [ρ 0, ρ 1, ρ 2, ρ 3, ρ 4, ρ 5, ρ 6, ρ 7, ρ 8, ρ 9, ρ 10, ρ 11, ρ 12, ρ 13, ρ 14, ρ 15, ρ 16] (γ 0) 0 1 (γ 8)
  have hD : en36 (γ 0) (0, [ρ 0, ρ 1, ρ 17, ρ 18, ρ 19], γ 1) = .inr (0, 1, γ 8) := by
    unfold en36
    refine zIP (show (0 : Nat) = 0 by decide) (zLV (γ 1) rfl (zLV (ρ 0) rfl (zLV (ρ 1) rfl (zLV (ρ 17) rfl (zLV (ρ 18) rfl (zLV (ρ 19) rfl (zLE m1 ?_)))))))
    refine zLE m5 (zLE m6 (zLE m7 (zLE m8 (zLE m11 (zLE m14 (zIP w_0 (zLE (show fn24 [41] (γ 1) = (0, 1, γ 2) from l0.symm) ?_)))))))
    refine zLV (γ 2) rfl (zIP zQ1_ (zLE (show fn21 [ρ 7, ρ 8, ρ 19] (γ 2) = (0, ρ 29, γ 3) from l1.symm) (zLV (γ 3) rfl (zLV (ρ 29) rfl (zIN w_1 (zIN w_2 (zIP w_3 ?_)))))))
    refine zLE (show fn22 [ρ 7, ρ 8, ρ 19] (γ 3) = (0, ρ 13, γ 4) from l2.symm) (zLV (γ 4) rfl (zIP w_4 (zLE c5.symm (zLE c6.symm (zLE c7.symm (zLE (zF2_ok l3) (zLE c8.symm ?_)))))))
    rfl
  exact zGoo_aend hJ hD
theorem vn36a0_5 {S : Nat → zSpc} (hS6 : zIm S 6 sn6) (hS7 : zIm S 7 sn7) (hS8 : zIm S 8 sn8) (hS20 : zIm S 20 sn20) (hS21 : zIm S 21 sn21) (hS22 : zIm S 22 sn22) (hS24 : zIm S 24 sn24) (hS25 : zIm S 25 sn25) (hS33 : zIm S 33 sn33) {a : List Int} {g : rHp} : ∀ (ρ : Nat → Int) (γ : Nat → rHp), jn36 a g 0 (zAg (zNA a36_ 0) ρ) (γ 1) → zO 17 S a g q36a0_5 ρ γ → zGl (fun i vs g1 => jn36 a g i vs g1) (sn36 a g) q36a0_5 ρ γ := by
  intro ρ γ hJ h
  obtain ⟨ha, hg, hr, hf, hm, hc, hl⟩ := h
  have ha : a = [ρ 0, ρ 1, ρ 2, ρ 3, ρ 4, ρ 5, ρ 6, ρ 7, ρ 8, ρ 9, ρ 10, ρ 11, ρ 12, ρ 13, ρ 14, ρ 15, ρ 16] := ha
  subst ha
  subst hg
  have hJ : jn36 [ρ 0, ρ 1, ρ 2, ρ 3, ρ 4, ρ 5, ρ 6, ρ 7, ρ 8, ρ 9, ρ 10, ρ 11, ρ 12, ρ 13, ρ 14, ρ 15, ρ 16] (γ 0) 0 [ρ 0, ρ 1, ρ 2, ρ 3, ρ 4, ρ 5, ρ 6, ρ 7, ρ 8, ρ 9, ρ 10, ρ 11, ρ 12, ρ 13, ρ 14, ρ 15, ρ 16, ρ 17, ρ 18, ρ 19, ρ 20, ρ 21, ρ 22, ρ 23, ρ 24, ρ 25, ρ 26, ρ 27] (γ 1) := hJ
  have r0 : (1 : Int) ≤ ρ 0 ∧ ρ 0 ≤ 1 := zRnA hr 0
  have r1 : (1 : Int) ≤ ρ 1 ∧ ρ 1 ≤ 1 := zRnA hr 1
  have r13 : (0 : Int) ≤ ρ 13 ∧ ρ 13 ≤ 19 := zRnA hr 13
  have r17 : (0 : Int) ≤ ρ 17 ∧ ρ 17 ≤ 0 := zRnA hr 17
  have r29 : ((-1) : Int) ≤ ρ 29 ∧ ρ 29 ≤ (-1) := zRnA hr 29
  obtain ⟨w_0, w_1, w_2, w_3, w_4⟩ : (ρ 17 = 0) ∧ (¬ (ρ 29 ≥ 0)) ∧ (¬ (ρ 1 = 0)) ∧ (ρ 13 ≠ 20) ∧ (¬ (ρ 0 = 0)) := ⟨by omega, by omega, by omega, by omega, by omega⟩
  have m1 : γ 0 15 0 34 = ρ 3 := zAllA hm 1
  have m5 : γ 0 15 0 37 = ρ 7 := zAllA hm 5
  have m6 : γ 0 15 0 38 = ρ 8 := zAllA hm 6
  have m7 : γ 0 15 0 44 = ρ 9 := zAllA hm 7
  have m8 : γ 0 73 0 (ρ 9) = ρ 10 := zAllA hm 8
  have m11 : γ 0 15 0 14 = ρ 13 := zAllA hm 11
  have m14 : γ 0 15 0 45 = ρ 16 := zAllA hm 14
  have c5 : γ 5 = rUp (γ 4) 77 0 (ρ 10 + 8 * ρ 9) 1 := And.right (zChA hc 2)
  have c6 : γ 6 = rUp (γ 5) 78 0 (ρ 10 + 8 * ρ 9) (ρ 13) := And.right (zChA hc 1)
  have c7 : γ 7 = rUp (γ 6) 79 0 (ρ 10 + 8 * ρ 9) (ρ 16) := And.right (zChA hc 0)
  have l0 : sn24 [41, ρ 20, ρ 3, ρ 14] (γ 1) 0 1 (γ 2) := hS24 _ _ _ _ _ (zAllA hl 0)
  have l1 : sn21 [ρ 7, ρ 8, ρ 19, ρ 13] (γ 2) 0 (ρ 29) (γ 3) := hS21 _ _ _ _ _ (zAllA hl 1)
  have l2 : sn22 [ρ 7, ρ 8, ρ 19, ρ 13] (γ 3) 0 (ρ 13) (γ 4) := hS22 _ _ _ _ _ (zAllA hl 2)
  show sn36 [ρ 0, ρ 1, ρ 2, ρ 3, ρ 4, ρ 5, ρ 6, ρ 7, ρ 8, ρ 9, ρ 10, ρ 11, ρ 12, ρ 13, ρ 14, ρ 15, ρ 16] (γ 0) 0 1 (γ 7)
  have hD : en36 (γ 0) (0, [ρ 0, ρ 1, ρ 17, ρ 18, ρ 19], γ 1) = .inr (0, 1, γ 7) := by
    unfold en36
    refine zIP (show (0 : Nat) = 0 by decide) (zLV (γ 1) rfl (zLV (ρ 0) rfl (zLV (ρ 1) rfl (zLV (ρ 17) rfl (zLV (ρ 18) rfl (zLV (ρ 19) rfl (zLE m1 ?_)))))))
    refine zLE m5 (zLE m6 (zLE m7 (zLE m8 (zLE m11 (zLE m14 (zIP w_0 (zLE (show fn24 [41] (γ 1) = (0, 1, γ 2) from l0.symm) ?_)))))))
    refine zLV (γ 2) rfl (zIP zQ1_ (zLE (show fn21 [ρ 7, ρ 8, ρ 19] (γ 2) = (0, ρ 29, γ 3) from l1.symm) (zLV (γ 3) rfl (zLV (ρ 29) rfl (zIN w_1 (zIN w_2 (zIP w_3 ?_)))))))
    refine zLE (show fn22 [ρ 7, ρ 8, ρ 19] (γ 3) = (0, ρ 13, γ 4) from l2.symm) (zLV (γ 4) rfl (zIN w_4 (zLE c5.symm (zLE c6.symm (zLE c7.symm ?_)))))
    rfl
  exact zGoo_aend hJ hD
theorem vn36a0_6 {S : Nat → zSpc} (hS6 : zIm S 6 sn6) (hS7 : zIm S 7 sn7) (hS8 : zIm S 8 sn8) (hS20 : zIm S 20 sn20) (hS21 : zIm S 21 sn21) (hS22 : zIm S 22 sn22) (hS24 : zIm S 24 sn24) (hS25 : zIm S 25 sn25) (hS33 : zIm S 33 sn33) {a : List Int} {g : rHp} : ∀ (ρ : Nat → Int) (γ : Nat → rHp), jn36 a g 0 (zAg (zNA a36_ 0) ρ) (γ 1) → zO 17 S a g q36a0_6 ρ γ → zGl (fun i vs g1 => jn36 a g i vs g1) (sn36 a g) q36a0_6 ρ γ := by
  intro ρ γ hJ h
  obtain ⟨ha, hg, hr, hf, hm, hc, hl⟩ := h
  have ha : a = [ρ 0, ρ 1, ρ 2, ρ 3, ρ 4, ρ 5, ρ 6, ρ 7, ρ 8, ρ 9, ρ 10, ρ 11, ρ 12, ρ 13, ρ 14, ρ 15, ρ 16] := ha
  subst ha
  subst hg
  have hJ : jn36 [ρ 0, ρ 1, ρ 2, ρ 3, ρ 4, ρ 5, ρ 6, ρ 7, ρ 8, ρ 9, ρ 10, ρ 11, ρ 12, ρ 13, ρ 14, ρ 15, ρ 16] (γ 0) 0 [ρ 0, ρ 1, ρ 2, ρ 3, ρ 4, ρ 5, ρ 6, ρ 7, ρ 8, ρ 9, ρ 10, ρ 11, ρ 12, ρ 13, ρ 14, ρ 15, ρ 16, ρ 17, ρ 18, ρ 19, ρ 20, ρ 21, ρ 22, ρ 23, ρ 24, ρ 25, ρ 26, ρ 27] (γ 1) := hJ
  have r1 : (1 : Int) ≤ ρ 1 ∧ ρ 1 ≤ 1 := zRnA hr 1
  have r13 : (20 : Int) ≤ ρ 13 ∧ ρ 13 ≤ 20 := zRnA hr 13
  have r17 : (0 : Int) ≤ ρ 17 ∧ ρ 17 ≤ 0 := zRnA hr 17
  have r29 : ((-1) : Int) ≤ ρ 29 ∧ ρ 29 ≤ (-1) := zRnA hr 29
  obtain ⟨w_0, w_1, w_2, w_3⟩ : (ρ 17 = 0) ∧ (¬ (ρ 29 ≥ 0)) ∧ (¬ (ρ 1 = 0)) ∧ (¬ (ρ 13 ≠ 20)) := ⟨by omega, by omega, by omega, by omega⟩
  have m1 : γ 0 15 0 34 = ρ 3 := zAllA hm 1
  have m5 : γ 0 15 0 37 = ρ 7 := zAllA hm 5
  have m6 : γ 0 15 0 38 = ρ 8 := zAllA hm 6
  have m7 : γ 0 15 0 44 = ρ 9 := zAllA hm 7
  have m8 : γ 0 73 0 (ρ 9) = ρ 10 := zAllA hm 8
  have m11 : γ 0 15 0 14 = ρ 13 := zAllA hm 11
  have m14 : γ 0 15 0 45 = ρ 16 := zAllA hm 14
  have l0 : sn24 [41, ρ 20, ρ 3, ρ 14] (γ 1) 0 1 (γ 2) := hS24 _ _ _ _ _ (zAllA hl 0)
  have l1 : sn21 [ρ 7, ρ 8, ρ 19, ρ 13] (γ 2) 0 (ρ 29) (γ 3) := hS21 _ _ _ _ _ (zAllA hl 1)
  have l2 : sn8 [ρ 7, ρ 3, ρ 14] (γ 3) 0 0 (γ 4) := hS8 _ _ _ _ _ (zAllA hl 2)
  show sn36 [ρ 0, ρ 1, ρ 2, ρ 3, ρ 4, ρ 5, ρ 6, ρ 7, ρ 8, ρ 9, ρ 10, ρ 11, ρ 12, ρ 13, ρ 14, ρ 15, ρ 16] (γ 0) 0 0 (γ 4)
  have hD : en36 (γ 0) (0, [ρ 0, ρ 1, ρ 17, ρ 18, ρ 19], γ 1) = .inr (0, 0, γ 4) := by
    unfold en36
    refine zIP (show (0 : Nat) = 0 by decide) (zLV (γ 1) rfl (zLV (ρ 0) rfl (zLV (ρ 1) rfl (zLV (ρ 17) rfl (zLV (ρ 18) rfl (zLV (ρ 19) rfl (zLE m1 ?_)))))))
    refine zLE m5 (zLE m6 (zLE m7 (zLE m8 (zLE m11 (zLE m14 (zIP w_0 (zLE (show fn24 [41] (γ 1) = (0, 1, γ 2) from l0.symm) ?_)))))))
    refine zLV (γ 2) rfl (zIP zQ1_ (zLE (show fn21 [ρ 7, ρ 8, ρ 19] (γ 2) = (0, ρ 29, γ 3) from l1.symm) (zLV (γ 3) rfl (zLV (ρ 29) rfl (zIN w_1 (zIN w_2 (zIN w_3 ?_)))))))
    refine zLE (show fn8 [ρ 7] (γ 3) = (0, 0, γ 4) from l2.symm) (zLV (γ 4) rfl ?_)
    rfl
  exact zGoo_aend hJ hD
theorem vn36a0_7 {S : Nat → zSpc} (hS6 : zIm S 6 sn6) (hS7 : zIm S 7 sn7) (hS8 : zIm S 8 sn8) (hS20 : zIm S 20 sn20) (hS21 : zIm S 21 sn21) (hS22 : zIm S 22 sn22) (hS24 : zIm S 24 sn24) (hS25 : zIm S 25 sn25) (hS33 : zIm S 33 sn33) {a : List Int} {g : rHp} : ∀ (ρ : Nat → Int) (γ : Nat → rHp), jn36 a g 0 (zAg (zNA a36_ 0) ρ) (γ 1) → zO 17 S a g q36a0_7 ρ γ → zGl (fun i vs g1 => jn36 a g i vs g1) (sn36 a g) q36a0_7 ρ γ := by
  intro ρ γ hJ h
  obtain ⟨ha, hg, hr, hf, hm, hc, hl⟩ := h
  have ha : a = [ρ 0, ρ 1, ρ 2, ρ 3, ρ 4, ρ 5, ρ 6, ρ 7, ρ 8, ρ 9, ρ 10, ρ 11, ρ 12, ρ 13, ρ 14, ρ 15, ρ 16] := ha
  subst ha
  subst hg
  have hJ : jn36 [ρ 0, ρ 1, ρ 2, ρ 3, ρ 4, ρ 5, ρ 6, ρ 7, ρ 8, ρ 9, ρ 10, ρ 11, ρ 12, ρ 13, ρ 14, ρ 15, ρ 16] (γ 0) 0 [ρ 0, ρ 1, ρ 2, ρ 3, ρ 4, ρ 5, ρ 6, ρ 7, ρ 8, ρ 9, ρ 10, ρ 11, ρ 12, ρ 13, ρ 14, ρ 15, ρ 16, ρ 17, ρ 18, ρ 19, ρ 20, ρ 21, ρ 22, ρ 23, ρ 24, ρ 25, ρ 26, ρ 27] (γ 1) := hJ
  have r17 : (1 : Int) ≤ ρ 17 ∧ ρ 17 ≤ 1 := zRnA hr 17
  have r19 : (0 : Int) ≤ ρ 19 ∧ ρ 19 ≤ 3 := zRnA hr 19
  obtain ⟨w_0, w_1⟩ : (¬ (ρ 17 = 0)) ∧ (ρ 19 ≠ 4) := ⟨by omega, by omega⟩
  have m1 : γ 0 15 0 34 = ρ 3 := zAllA hm 1
  have m5 : γ 0 15 0 37 = ρ 7 := zAllA hm 5
  have m6 : γ 0 15 0 38 = ρ 8 := zAllA hm 6
  have m7 : γ 0 15 0 44 = ρ 9 := zAllA hm 7
  have m8 : γ 0 73 0 (ρ 9) = ρ 10 := zAllA hm 8
  have m11 : γ 0 15 0 14 = ρ 13 := zAllA hm 11
  have m14 : γ 0 15 0 45 = ρ 16 := zAllA hm 14
  have m24 : γ 2 15 0 35 = ρ 28 := zAllA hm 24
  have l0 : sn7 [ρ 20, ρ 3] (γ 1) 0 0 (γ 2) := hS7 _ _ _ _ _ (zAllA hl 0)
  have l1 : sn20 [1, ρ 28, ρ 3, ρ 21, ρ 22, ρ 29, ρ 26, ρ 14, ρ 24, ρ 25, ρ 9] (γ 2) 0 0 (γ 3) := hS20 _ _ _ _ _ (zAllA hl 1)
  show sn36 [ρ 0, ρ 1, ρ 2, ρ 3, ρ 4, ρ 5, ρ 6, ρ 7, ρ 8, ρ 9, ρ 10, ρ 11, ρ 12, ρ 13, ρ 14, ρ 15, ρ 16] (γ 0) 0 0 (γ 3)
  have hD : en36 (γ 0) (0, [ρ 0, ρ 1, ρ 17, ρ 18, ρ 19], γ 1) = .inr (0, 0, γ 3) := by
    unfold en36
    refine zIP (show (0 : Nat) = 0 by decide) (zLV (γ 1) rfl (zLV (ρ 0) rfl (zLV (ρ 1) rfl (zLV (ρ 17) rfl (zLV (ρ 18) rfl (zLV (ρ 19) rfl (zLE m1 ?_)))))))
    refine zLE m5 (zLE m6 (zLE m7 (zLE m8 (zLE m11 (zLE m14 (zIN w_0 (zLE (show fn7 [] (γ 1) = (0, 0, γ 2) from l0.symm) ?_)))))))
    refine zLV (γ 2) rfl (zLE m24 (zIP w_1 (zLE (show fn20 [1] (γ 2) = (0, 0, γ 3) from l1.symm) (zLV (γ 3) rfl (zIN zQ0_ ?_)))))
    rfl
  exact zGoo_aend hJ hD
theorem vn36a0_8 {S : Nat → zSpc} (hS6 : zIm S 6 sn6) (hS7 : zIm S 7 sn7) (hS8 : zIm S 8 sn8) (hS20 : zIm S 20 sn20) (hS21 : zIm S 21 sn21) (hS22 : zIm S 22 sn22) (hS24 : zIm S 24 sn24) (hS25 : zIm S 25 sn25) (hS33 : zIm S 33 sn33) {a : List Int} {g : rHp} : ∀ (ρ : Nat → Int) (γ : Nat → rHp), jn36 a g 0 (zAg (zNA a36_ 0) ρ) (γ 1) → zO 17 S a g q36a0_8 ρ γ → zGl (fun i vs g1 => jn36 a g i vs g1) (sn36 a g) q36a0_8 ρ γ := by
  intro ρ γ hJ h
  obtain ⟨ha, hg, hr, hf, hm, hc, hl⟩ := h
  have ha : a = [ρ 0, ρ 1, ρ 2, ρ 3, ρ 4, ρ 5, ρ 6, ρ 7, ρ 8, ρ 9, ρ 10, ρ 11, ρ 12, ρ 13, ρ 14, ρ 15, ρ 16] := ha
  subst ha
  subst hg
  have hJ : jn36 [ρ 0, ρ 1, ρ 2, ρ 3, ρ 4, ρ 5, ρ 6, ρ 7, ρ 8, ρ 9, ρ 10, ρ 11, ρ 12, ρ 13, ρ 14, ρ 15, ρ 16] (γ 0) 0 [ρ 0, ρ 1, ρ 2, ρ 3, ρ 4, ρ 5, ρ 6, ρ 7, ρ 8, ρ 9, ρ 10, ρ 11, ρ 12, ρ 13, ρ 14, ρ 15, ρ 16, ρ 17, ρ 18, ρ 19, ρ 20, ρ 21, ρ 22, ρ 23, ρ 24, ρ 25, ρ 26, ρ 27] (γ 1) := hJ
  have r17 : (1 : Int) ≤ ρ 17 ∧ ρ 17 ≤ 1 := zRnA hr 17
  have r19 : (0 : Int) ≤ ρ 19 ∧ ρ 19 ≤ 3 := zRnA hr 19
  have r34 : (0 : Int) ≤ ρ 34 ∧ ρ 34 ≤ 2 := zRnA hr 34
  have r38 : ((-128) : Int) ≤ ρ 38 ∧ ρ 38 ≤ 127 := zRnA hr 38
  have f0 : (0 : Int) ≤ -ρ 37 + ρ 3 + (-1) := zAllA hf 0
  obtain ⟨w_0, w_1, w_2⟩ : (¬ (ρ 17 = 0)) ∧ (ρ 19 ≠ 4) ∧ (0 ≤ -ρ 37 + ρ 3 + (-1)) := ⟨by omega, by omega, by omega⟩
  have m1 : γ 0 15 0 34 = ρ 3 := zAllA hm 1
  have m5 : γ 0 15 0 37 = ρ 7 := zAllA hm 5
  have m6 : γ 0 15 0 38 = ρ 8 := zAllA hm 6
  have m7 : γ 0 15 0 44 = ρ 9 := zAllA hm 7
  have m8 : γ 0 73 0 (ρ 9) = ρ 10 := zAllA hm 8
  have m11 : γ 0 15 0 14 = ρ 13 := zAllA hm 11
  have m14 : γ 0 15 0 45 = ρ 16 := zAllA hm 14
  have m24 : γ 2 15 0 35 = ρ 28 := zAllA hm 24
  have m29 : γ 3 15 0 39 = ρ 33 := zAllA hm 29
  have m30 : γ 3 15 0 40 = ρ 34 := zAllA hm 30
  have m34 : γ 6 15 0 35 = ρ 37 := zAllA hm 34
  have c4 : γ 4 = rUp (γ 3) 80 0 (ρ 19 + (4 * ρ 10 + 32 * ρ 9)) (ρ 34) := And.right (zChA hc 3)
  have c5 : γ 5 = rUp (γ 4) 81 0 (ρ 19 + (4 * ρ 10 + 32 * ρ 9)) (ρ 33) := And.right (zChA hc 2)
  have l0 : sn7 [ρ 20, ρ 3] (γ 1) 0 0 (γ 2) := hS7 _ _ _ _ _ (zAllA hl 0)
  have l1 : sn20 [1, ρ 28, ρ 3, ρ 21, ρ 22, ρ 29, ρ 26, ρ 14, ρ 24, ρ 25, ρ 9] (γ 2) 0 1 (γ 3) := hS20 _ _ _ _ _ (zAllA hl 1)
  have l2 : ρ 34 ≠ 1 := zAllA hl 2
  have l3 : ρ 34 ≠ 1 := zAllA hl 3
  have l4 : sn7 [ρ 30, ρ 3] (γ 5) 0 0 (γ 6) := hS7 _ _ _ _ _ (zAllA hl 4)
  have l5 : sn6 [ρ 37, ρ 3] (γ 6) 0 (ρ 38) (γ 7) := hS6 _ _ _ _ _ (zAllA hl 5)
  have l6 : ρ 38 ≠ 44 := zAllA hl 6
  obtain ⟨wl_0, wl_1⟩ : (ρ 34 ≠ 1) ∧ (ρ 38 ≠ 44) := ⟨by omega, by omega⟩
  show jn36 [ρ 0, ρ 1, ρ 2, ρ 3, ρ 4, ρ 5, ρ 6, ρ 7, ρ 8, ρ 9, ρ 10, ρ 11, ρ 12, ρ 13, ρ 14, ρ 15, ρ 16] (γ 0) 0 [ρ 0, ρ 1, ρ 2, ρ 3, ρ 4, ρ 5, ρ 6, ρ 7, ρ 8, ρ 9, ρ 10, ρ 11, ρ 12, ρ 13, ρ 14, ρ 15, ρ 16, 0, ρ 18, ρ 19 + 1, ρ 37, ρ 31, ρ 32, ρ 23, ρ 35, ρ 36, ρ 34, ρ 39] (γ 7)
  have hD : en36 (γ 0) (0, [ρ 0, ρ 1, ρ 17, ρ 18, ρ 19], γ 1) = .inl (0, [ρ 0, ρ 1, 0, ρ 18, ρ 19 + 1], γ 7) := by
    unfold en36
    refine zIP (show (0 : Nat) = 0 by decide) (zLV (γ 1) rfl (zLV (ρ 0) rfl (zLV (ρ 1) rfl (zLV (ρ 17) rfl (zLV (ρ 18) rfl (zLV (ρ 19) rfl (zLE m1 ?_)))))))
    refine zLE m5 (zLE m6 (zLE m7 (zLE m8 (zLE m11 (zLE m14 (zIN w_0 (zLE (show fn7 [] (γ 1) = (0, 0, γ 2) from l0.symm) ?_)))))))
    refine zLV (γ 2) rfl (zLE m24 (zIP w_1 (zLE (show fn20 [1] (γ 2) = (0, 1, γ 3) from l1.symm) (zLV (γ 3) rfl (zIP zQ1_ (zLE m29 (zLE m30 ?_)))))))
    refine zLE c4.symm (zLE c5.symm (zIP wl_0 (zIP wl_0 (zLE (show fn7 [] (γ 5) = (0, 0, γ 6) from l4.symm) (zLV (γ 6) rfl (zLE m34 (zLE (show fn6 [ρ 37] (γ 6) = (0, ρ 38, γ 7) from l5.symm) ?_)))))))
    refine zLV (γ 7) rfl (zIP w_2 (zLV (ρ 38) rfl (zIP wl_1 ?_)))
    rfl
  exact zGoo_ato hJ hD
theorem vn36a0_9 {S : Nat → zSpc} (hS6 : zIm S 6 sn6) (hS7 : zIm S 7 sn7) (hS8 : zIm S 8 sn8) (hS20 : zIm S 20 sn20) (hS21 : zIm S 21 sn21) (hS22 : zIm S 22 sn22) (hS24 : zIm S 24 sn24) (hS25 : zIm S 25 sn25) (hS33 : zIm S 33 sn33) {a : List Int} {g : rHp} : ∀ (ρ : Nat → Int) (γ : Nat → rHp), jn36 a g 0 (zAg (zNA a36_ 0) ρ) (γ 1) → zO 17 S a g q36a0_9 ρ γ → zGl (fun i vs g1 => jn36 a g i vs g1) (sn36 a g) q36a0_9 ρ γ := by
  intro ρ γ hJ h
  obtain ⟨ha, hg, hr, hf, hm, hc, hl⟩ := h
  have ha : a = [ρ 0, ρ 1, ρ 2, ρ 3, ρ 4, ρ 5, ρ 6, ρ 7, ρ 8, ρ 9, ρ 10, ρ 11, ρ 12, ρ 13, ρ 14, ρ 15, ρ 16] := ha
  subst ha
  subst hg
  have hJ : jn36 [ρ 0, ρ 1, ρ 2, ρ 3, ρ 4, ρ 5, ρ 6, ρ 7, ρ 8, ρ 9, ρ 10, ρ 11, ρ 12, ρ 13, ρ 14, ρ 15, ρ 16] (γ 0) 0 [ρ 0, ρ 1, ρ 2, ρ 3, ρ 4, ρ 5, ρ 6, ρ 7, ρ 8, ρ 9, ρ 10, ρ 11, ρ 12, ρ 13, ρ 14, ρ 15, ρ 16, ρ 17, ρ 18, ρ 19, ρ 20, ρ 21, ρ 22, ρ 23, ρ 24, ρ 25, ρ 26, ρ 27] (γ 1) := hJ
  have r17 : (1 : Int) ≤ ρ 17 ∧ ρ 17 ≤ 1 := zRnA hr 17
  have r19 : (0 : Int) ≤ ρ 19 ∧ ρ 19 ≤ 3 := zRnA hr 19
  have r34 : (0 : Int) ≤ ρ 34 ∧ ρ 34 ≤ 2 := zRnA hr 34
  have r38 : (44 : Int) ≤ ρ 38 ∧ ρ 38 ≤ 44 := zRnA hr 38
  have f0 : (0 : Int) ≤ -ρ 37 + ρ 3 + (-1) := zAllA hf 0
  obtain ⟨w_0, w_1, w_2, w_3⟩ : (¬ (ρ 17 = 0)) ∧ (ρ 19 ≠ 4) ∧ (0 ≤ -ρ 37 + ρ 3 + (-1)) ∧ (¬ (ρ 38 ≠ 44)) := ⟨by omega, by omega, by omega, by omega⟩
  have m1 : γ 0 15 0 34 = ρ 3 := zAllA hm 1
  have m5 : γ 0 15 0 37 = ρ 7 := zAllA hm 5
  have m6 : γ 0 15 0 38 = ρ 8 := zAllA hm 6
  have m7 : γ 0 15 0 44 = ρ 9 := zAllA hm 7
  have m8 : γ 0 73 0 (ρ 9) = ρ 10 := zAllA hm 8
  have m11 : γ 0 15 0 14 = ρ 13 := zAllA hm 11
  have m14 : γ 0 15 0 45 = ρ 16 := zAllA hm 14
  have m24 : γ 2 15 0 35 = ρ 28 := zAllA hm 24
  have m29 : γ 3 15 0 39 = ρ 33 := zAllA hm 29
  have m30 : γ 3 15 0 40 = ρ 34 := zAllA hm 30
  have m34 : γ 6 15 0 35 = ρ 37 := zAllA hm 34
  have c4 : γ 4 = rUp (γ 3) 80 0 (ρ 19 + (4 * ρ 10 + 32 * ρ 9)) (ρ 34) := And.right (zChA hc 4)
  have c5 : γ 5 = rUp (γ 4) 81 0 (ρ 19 + (4 * ρ 10 + 32 * ρ 9)) (ρ 33) := And.right (zChA hc 3)
  have c8 : γ 8 = rUp (γ 7) 15 0 35 (ρ 37 + 1) := And.right (zChA hc 0)
  have l0 : sn7 [ρ 20, ρ 3] (γ 1) 0 0 (γ 2) := hS7 _ _ _ _ _ (zAllA hl 0)
  have l1 : sn20 [1, ρ 28, ρ 3, ρ 21, ρ 22, ρ 29, ρ 26, ρ 14, ρ 24, ρ 25, ρ 9] (γ 2) 0 1 (γ 3) := hS20 _ _ _ _ _ (zAllA hl 1)
  have l2 : ρ 34 ≠ 1 := zAllA hl 2
  have l3 : ρ 34 ≠ 1 := zAllA hl 3
  have l4 : sn7 [ρ 30, ρ 3] (γ 5) 0 0 (γ 6) := hS7 _ _ _ _ _ (zAllA hl 4)
  have l5 : sn6 [ρ 37, ρ 3] (γ 6) 0 (ρ 38) (γ 7) := hS6 _ _ _ _ _ (zAllA hl 5)
  have wl_0 : ρ 34 ≠ 1 := by omega
  show jn36 [ρ 0, ρ 1, ρ 2, ρ 3, ρ 4, ρ 5, ρ 6, ρ 7, ρ 8, ρ 9, ρ 10, ρ 11, ρ 12, ρ 13, ρ 14, ρ 15, ρ 16] (γ 0) 0 [ρ 0, ρ 1, ρ 2, ρ 3, ρ 4, ρ 5, ρ 6, ρ 7, ρ 8, ρ 9, ρ 10, ρ 11, ρ 12, ρ 13, ρ 14, ρ 15, ρ 16, 1, ρ 18, ρ 19 + 1, ρ 37 + 1, ρ 31, ρ 32, ρ 23, ρ 35, ρ 36, ρ 34, ρ 39] (γ 8)
  have hD : en36 (γ 0) (0, [ρ 0, ρ 1, ρ 17, ρ 18, ρ 19], γ 1) = .inl (0, [ρ 0, ρ 1, 1, ρ 18, ρ 19 + 1], γ 8) := by
    unfold en36
    refine zIP (show (0 : Nat) = 0 by decide) (zLV (γ 1) rfl (zLV (ρ 0) rfl (zLV (ρ 1) rfl (zLV (ρ 17) rfl (zLV (ρ 18) rfl (zLV (ρ 19) rfl (zLE m1 ?_)))))))
    refine zLE m5 (zLE m6 (zLE m7 (zLE m8 (zLE m11 (zLE m14 (zIN w_0 (zLE (show fn7 [] (γ 1) = (0, 0, γ 2) from l0.symm) ?_)))))))
    refine zLV (γ 2) rfl (zLE m24 (zIP w_1 (zLE (show fn20 [1] (γ 2) = (0, 1, γ 3) from l1.symm) (zLV (γ 3) rfl (zIP zQ1_ (zLE m29 (zLE m30 ?_)))))))
    refine zLE c4.symm (zLE c5.symm (zIP wl_0 (zIP wl_0 (zLE (show fn7 [] (γ 5) = (0, 0, γ 6) from l4.symm) (zLV (γ 6) rfl (zLE m34 (zLE (show fn6 [ρ 37] (γ 6) = (0, ρ 38, γ 7) from l5.symm) ?_)))))))
    refine zLV (γ 7) rfl (zIP w_2 (zLV (ρ 38) rfl (zIN w_3 (zLE c8.symm ?_))))
    rfl
  exact zGoo_ato hJ hD
theorem vn36a0_10 {S : Nat → zSpc} (hS6 : zIm S 6 sn6) (hS7 : zIm S 7 sn7) (hS8 : zIm S 8 sn8) (hS20 : zIm S 20 sn20) (hS21 : zIm S 21 sn21) (hS22 : zIm S 22 sn22) (hS24 : zIm S 24 sn24) (hS25 : zIm S 25 sn25) (hS33 : zIm S 33 sn33) {a : List Int} {g : rHp} : ∀ (ρ : Nat → Int) (γ : Nat → rHp), jn36 a g 0 (zAg (zNA a36_ 0) ρ) (γ 1) → zO 17 S a g q36a0_10 ρ γ → zGl (fun i vs g1 => jn36 a g i vs g1) (sn36 a g) q36a0_10 ρ γ := by
  intro ρ γ hJ h
  obtain ⟨ha, hg, hr, hf, hm, hc, hl⟩ := h
  have ha : a = [ρ 0, ρ 1, ρ 2, ρ 3, ρ 4, ρ 5, ρ 6, ρ 7, ρ 8, ρ 9, ρ 10, ρ 11, ρ 12, ρ 13, ρ 14, ρ 15, ρ 16] := ha
  subst ha
  subst hg
  have hJ : jn36 [ρ 0, ρ 1, ρ 2, ρ 3, ρ 4, ρ 5, ρ 6, ρ 7, ρ 8, ρ 9, ρ 10, ρ 11, ρ 12, ρ 13, ρ 14, ρ 15, ρ 16] (γ 0) 0 [ρ 0, ρ 1, ρ 2, ρ 3, ρ 4, ρ 5, ρ 6, ρ 7, ρ 8, ρ 9, ρ 10, ρ 11, ρ 12, ρ 13, ρ 14, ρ 15, ρ 16, ρ 17, ρ 18, ρ 19, ρ 20, ρ 21, ρ 22, ρ 23, ρ 24, ρ 25, ρ 26, ρ 27] (γ 1) := hJ
  have r17 : (1 : Int) ≤ ρ 17 ∧ ρ 17 ≤ 1 := zRnA hr 17
  have r19 : (0 : Int) ≤ ρ 19 ∧ ρ 19 ≤ 3 := zRnA hr 19
  have r34 : (0 : Int) ≤ ρ 34 ∧ ρ 34 ≤ 2 := zRnA hr 34
  have f0 : (0 : Int) ≤ ρ 37 + -ρ 3 := zAllA hf 0
  obtain ⟨w_0, w_1, w_2⟩ : (¬ (ρ 17 = 0)) ∧ (ρ 19 ≠ 4) ∧ (¬ (0 ≤ -ρ 37 + ρ 3 + (-1))) := ⟨by omega, by omega, by omega⟩
  have m1 : γ 0 15 0 34 = ρ 3 := zAllA hm 1
  have m5 : γ 0 15 0 37 = ρ 7 := zAllA hm 5
  have m6 : γ 0 15 0 38 = ρ 8 := zAllA hm 6
  have m7 : γ 0 15 0 44 = ρ 9 := zAllA hm 7
  have m8 : γ 0 73 0 (ρ 9) = ρ 10 := zAllA hm 8
  have m11 : γ 0 15 0 14 = ρ 13 := zAllA hm 11
  have m14 : γ 0 15 0 45 = ρ 16 := zAllA hm 14
  have m24 : γ 2 15 0 35 = ρ 28 := zAllA hm 24
  have m29 : γ 3 15 0 39 = ρ 33 := zAllA hm 29
  have m30 : γ 3 15 0 40 = ρ 34 := zAllA hm 30
  have m34 : γ 6 15 0 35 = ρ 37 := zAllA hm 34
  have c4 : γ 4 = rUp (γ 3) 80 0 (ρ 19 + (4 * ρ 10 + 32 * ρ 9)) (ρ 34) := And.right (zChA hc 3)
  have c5 : γ 5 = rUp (γ 4) 81 0 (ρ 19 + (4 * ρ 10 + 32 * ρ 9)) (ρ 33) := And.right (zChA hc 2)
  have l0 : sn7 [ρ 20, ρ 3] (γ 1) 0 0 (γ 2) := hS7 _ _ _ _ _ (zAllA hl 0)
  have l1 : sn20 [1, ρ 28, ρ 3, ρ 21, ρ 22, ρ 29, ρ 26, ρ 14, ρ 24, ρ 25, ρ 9] (γ 2) 0 1 (γ 3) := hS20 _ _ _ _ _ (zAllA hl 1)
  have l2 : ρ 34 ≠ 1 := zAllA hl 2
  have l3 : ρ 34 ≠ 1 := zAllA hl 3
  have l4 : sn7 [ρ 30, ρ 3] (γ 5) 0 0 (γ 6) := hS7 _ _ _ _ _ (zAllA hl 4)
  have l5 : sn6 [ρ 37, ρ 3] (γ 6) 0 (-1) (γ 7) := hS6 _ _ _ _ _ (zAllA hl 5)
  have wl_0 : ρ 34 ≠ 1 := by omega
  show jn36 [ρ 0, ρ 1, ρ 2, ρ 3, ρ 4, ρ 5, ρ 6, ρ 7, ρ 8, ρ 9, ρ 10, ρ 11, ρ 12, ρ 13, ρ 14, ρ 15, ρ 16] (γ 0) 0 [ρ 0, ρ 1, ρ 2, ρ 3, ρ 4, ρ 5, ρ 6, ρ 7, ρ 8, ρ 9, ρ 10, ρ 11, ρ 12, ρ 13, ρ 14, ρ 15, ρ 16, 0, ρ 18, ρ 19 + 1, ρ 37, ρ 31, ρ 32, ρ 23, ρ 35, ρ 36, ρ 34, ρ 38] (γ 7)
  have hD : en36 (γ 0) (0, [ρ 0, ρ 1, ρ 17, ρ 18, ρ 19], γ 1) = .inl (0, [ρ 0, ρ 1, 0, ρ 18, ρ 19 + 1], γ 7) := by
    unfold en36
    refine zIP (show (0 : Nat) = 0 by decide) (zLV (γ 1) rfl (zLV (ρ 0) rfl (zLV (ρ 1) rfl (zLV (ρ 17) rfl (zLV (ρ 18) rfl (zLV (ρ 19) rfl (zLE m1 ?_)))))))
    refine zLE m5 (zLE m6 (zLE m7 (zLE m8 (zLE m11 (zLE m14 (zIN w_0 (zLE (show fn7 [] (γ 1) = (0, 0, γ 2) from l0.symm) ?_)))))))
    refine zLV (γ 2) rfl (zLE m24 (zIP w_1 (zLE (show fn20 [1] (γ 2) = (0, 1, γ 3) from l1.symm) (zLV (γ 3) rfl (zIP zQ1_ (zLE m29 (zLE m30 ?_)))))))
    refine zLE c4.symm (zLE c5.symm (zIP wl_0 (zIP wl_0 (zLE (show fn7 [] (γ 5) = (0, 0, γ 6) from l4.symm) (zLV (γ 6) rfl (zLE m34 (zLE (show fn6 [ρ 37] (γ 6) = (0, (-1), γ 7) from l5.symm) ?_)))))))
    refine zLV (γ 7) rfl (zIN w_2 ?_)
    rfl
  exact zGoo_ato hJ hD
theorem vn36a0_11 {S : Nat → zSpc} (hS6 : zIm S 6 sn6) (hS7 : zIm S 7 sn7) (hS8 : zIm S 8 sn8) (hS20 : zIm S 20 sn20) (hS21 : zIm S 21 sn21) (hS22 : zIm S 22 sn22) (hS24 : zIm S 24 sn24) (hS25 : zIm S 25 sn25) (hS33 : zIm S 33 sn33) {a : List Int} {g : rHp} : ∀ (ρ : Nat → Int) (γ : Nat → rHp), jn36 a g 0 (zAg (zNA a36_ 0) ρ) (γ 1) → zO 17 S a g q36a0_11 ρ γ → zGl (fun i vs g1 => jn36 a g i vs g1) (sn36 a g) q36a0_11 ρ γ := by
  intro ρ γ hJ h
  obtain ⟨ha, hg, hr, hf, hm, hc, hl⟩ := h
  have ha : a = [ρ 0, ρ 1, ρ 2, ρ 3, ρ 4, ρ 5, ρ 6, ρ 7, ρ 8, ρ 9, ρ 10, ρ 11, ρ 12, ρ 13, ρ 14, ρ 15, ρ 16] := ha
  subst ha
  subst hg
  have hJ : jn36 [ρ 0, ρ 1, ρ 2, ρ 3, ρ 4, ρ 5, ρ 6, ρ 7, ρ 8, ρ 9, ρ 10, ρ 11, ρ 12, ρ 13, ρ 14, ρ 15, ρ 16] (γ 0) 0 [ρ 0, ρ 1, ρ 2, ρ 3, ρ 4, ρ 5, ρ 6, ρ 7, ρ 8, ρ 9, ρ 10, ρ 11, ρ 12, ρ 13, ρ 14, ρ 15, ρ 16, ρ 17, ρ 18, ρ 19, ρ 20, ρ 21, ρ 22, ρ 23, ρ 24, ρ 25, ρ 26, ρ 27] (γ 1) := hJ
  have r17 : (1 : Int) ≤ ρ 17 ∧ ρ 17 ≤ 1 := zRnA hr 17
  have r19 : (0 : Int) ≤ ρ 19 ∧ ρ 19 ≤ 3 := zRnA hr 19
  have r34 : (1 : Int) ≤ ρ 34 ∧ ρ 34 ≤ 1 := zRnA hr 34
  have r41 : ((-128) : Int) ≤ ρ 41 ∧ ρ 41 ≤ 127 := zRnA hr 41
  have f0 : (0 : Int) ≤ -ρ 40 + ρ 3 + (-1) := zAllA hf 0
  obtain ⟨w_0, w_1, w_2, w_3⟩ : (¬ (ρ 17 = 0)) ∧ (ρ 19 ≠ 4) ∧ (¬ (ρ 34 ≠ 1)) ∧ (0 ≤ -ρ 40 + ρ 3 + (-1)) := ⟨by omega, by omega, by omega, by omega⟩
  have m1 : γ 0 15 0 34 = ρ 3 := zAllA hm 1
  have m5 : γ 0 15 0 37 = ρ 7 := zAllA hm 5
  have m6 : γ 0 15 0 38 = ρ 8 := zAllA hm 6
  have m7 : γ 0 15 0 44 = ρ 9 := zAllA hm 7
  have m8 : γ 0 73 0 (ρ 9) = ρ 10 := zAllA hm 8
  have m11 : γ 0 15 0 14 = ρ 13 := zAllA hm 11
  have m14 : γ 0 15 0 45 = ρ 16 := zAllA hm 14
  have m24 : γ 2 15 0 35 = ρ 28 := zAllA hm 24
  have m29 : γ 3 15 0 39 = ρ 33 := zAllA hm 29
  have m30 : γ 3 15 0 40 = ρ 34 := zAllA hm 30
  have m34 : γ 6 15 0 35 = ρ 40 := zAllA hm 34
  have c4 : γ 4 = rUp (γ 3) 80 0 (ρ 19 + (4 * ρ 10 + 32 * ρ 9)) (ρ 34) := And.right (zChA hc 3)
  have c5 : γ 5 = rUp (γ 4) 81 0 (ρ 19 + (4 * ρ 10 + 32 * ρ 9)) (ρ 33) := And.right (zChA hc 2)
  have l0 : sn7 [ρ 20, ρ 3] (γ 1) 0 0 (γ 2) := hS7 _ _ _ _ _ (zAllA hl 0)
  have l1 : sn20 [1, ρ 28, ρ 3, ρ 21, ρ 22, ρ 29, ρ 26, ρ 14, ρ 24, ρ 25, ρ 9] (γ 2) 0 1 (γ 3) := hS20 _ _ _ _ _ (zAllA hl 1)
  have l2 : ρ 34 ≠ 1 := zAllA hl 2
  have l3 : zOpP (.l2i) (γ 0) (γ 1) [ρ 33] (ρ 37) := zAllA hl 3
  have l4 : zOpP (.ishl) (γ 0) (γ 1) [1, ρ 37] (ρ 38) := zAllA hl 4
  have l5 : zOpP (.ior) (γ 0) (γ 1) [ρ 18, ρ 38] (ρ 39) := zAllA hl 5
  have l6 : sn7 [ρ 30, ρ 3] (γ 5) 0 0 (γ 6) := hS7 _ _ _ _ _ (zAllA hl 6)
  have l7 : sn6 [ρ 40, ρ 3] (γ 6) 0 (ρ 41) (γ 7) := hS6 _ _ _ _ _ (zAllA hl 7)
  have l8 : ρ 41 ≠ 44 := zAllA hl 8
  obtain ⟨wl_0, wl_1⟩ : (ρ 34 ≠ 1) ∧ (ρ 41 ≠ 44) := ⟨by omega, by omega⟩
  show jn36 [ρ 0, ρ 1, ρ 2, ρ 3, ρ 4, ρ 5, ρ 6, ρ 7, ρ 8, ρ 9, ρ 10, ρ 11, ρ 12, ρ 13, ρ 14, ρ 15, ρ 16] (γ 0) 0 [ρ 0, ρ 1, ρ 2, ρ 3, ρ 4, ρ 5, ρ 6, ρ 7, ρ 8, ρ 9, ρ 10, ρ 11, ρ 12, ρ 13, ρ 14, ρ 15, ρ 16, 0, ρ 39, ρ 19 + 1, ρ 40, ρ 31, ρ 32, ρ 23, ρ 35, ρ 36, ρ 34, ρ 42] (γ 7)
  have hD : en36 (γ 0) (0, [ρ 0, ρ 1, ρ 17, ρ 18, ρ 19], γ 1) = .inl (0, [ρ 0, ρ 1, 0, ρ 39, ρ 19 + 1], γ 7) := by
    unfold en36
    refine zIP (show (0 : Nat) = 0 by decide) (zLV (γ 1) rfl (zLV (ρ 0) rfl (zLV (ρ 1) rfl (zLV (ρ 17) rfl (zLV (ρ 18) rfl (zLV (ρ 19) rfl (zLE m1 ?_)))))))
    refine zLE m5 (zLE m6 (zLE m7 (zLE m8 (zLE m11 (zLE m14 (zIN w_0 (zLE (show fn7 [] (γ 1) = (0, 0, γ 2) from l0.symm) ?_)))))))
    refine zLV (γ 2) rfl (zLE m24 (zIP w_1 (zLE (show fn20 [1] (γ 2) = (0, 1, γ 3) from l1.symm) (zLV (γ 3) rfl (zIP zQ1_ (zLE m29 (zLE m30 ?_)))))))
    refine zLE c4.symm (zLE c5.symm (zIP wl_0 (zIN w_2 (zLE (zF1_ok l3) (zLE (zF2_ok l4) (zLE (zF2_ok l5) (zLE (show fn7 [] (γ 5) = (0, 0, γ 6) from l6.symm) ?_)))))))
    refine zLV (γ 6) rfl (zLE m34 (zLE (show fn6 [ρ 40] (γ 6) = (0, ρ 41, γ 7) from l7.symm) (zLV (γ 7) rfl (zIP w_3 (zLV (ρ 41) rfl (zIP wl_1 ?_))))))
    rfl
  exact zGoo_ato hJ hD
theorem vn36a0_12 {S : Nat → zSpc} (hS6 : zIm S 6 sn6) (hS7 : zIm S 7 sn7) (hS8 : zIm S 8 sn8) (hS20 : zIm S 20 sn20) (hS21 : zIm S 21 sn21) (hS22 : zIm S 22 sn22) (hS24 : zIm S 24 sn24) (hS25 : zIm S 25 sn25) (hS33 : zIm S 33 sn33) {a : List Int} {g : rHp} : ∀ (ρ : Nat → Int) (γ : Nat → rHp), jn36 a g 0 (zAg (zNA a36_ 0) ρ) (γ 1) → zO 17 S a g q36a0_12 ρ γ → zGl (fun i vs g1 => jn36 a g i vs g1) (sn36 a g) q36a0_12 ρ γ := by
  intro ρ γ hJ h
  obtain ⟨ha, hg, hr, hf, hm, hc, hl⟩ := h
  have ha : a = [ρ 0, ρ 1, ρ 2, ρ 3, ρ 4, ρ 5, ρ 6, ρ 7, ρ 8, ρ 9, ρ 10, ρ 11, ρ 12, ρ 13, ρ 14, ρ 15, ρ 16] := ha
  subst ha
  subst hg
  have hJ : jn36 [ρ 0, ρ 1, ρ 2, ρ 3, ρ 4, ρ 5, ρ 6, ρ 7, ρ 8, ρ 9, ρ 10, ρ 11, ρ 12, ρ 13, ρ 14, ρ 15, ρ 16] (γ 0) 0 [ρ 0, ρ 1, ρ 2, ρ 3, ρ 4, ρ 5, ρ 6, ρ 7, ρ 8, ρ 9, ρ 10, ρ 11, ρ 12, ρ 13, ρ 14, ρ 15, ρ 16, ρ 17, ρ 18, ρ 19, ρ 20, ρ 21, ρ 22, ρ 23, ρ 24, ρ 25, ρ 26, ρ 27] (γ 1) := hJ
  have r17 : (1 : Int) ≤ ρ 17 ∧ ρ 17 ≤ 1 := zRnA hr 17
  have r19 : (0 : Int) ≤ ρ 19 ∧ ρ 19 ≤ 3 := zRnA hr 19
  have r34 : (1 : Int) ≤ ρ 34 ∧ ρ 34 ≤ 1 := zRnA hr 34
  have r41 : (44 : Int) ≤ ρ 41 ∧ ρ 41 ≤ 44 := zRnA hr 41
  have f0 : (0 : Int) ≤ -ρ 40 + ρ 3 + (-1) := zAllA hf 0
  obtain ⟨w_0, w_1, w_2, w_3, w_4⟩ : (¬ (ρ 17 = 0)) ∧ (ρ 19 ≠ 4) ∧ (¬ (ρ 34 ≠ 1)) ∧ (0 ≤ -ρ 40 + ρ 3 + (-1)) ∧ (¬ (ρ 41 ≠ 44)) := ⟨by omega, by omega, by omega, by omega, by omega⟩
  have m1 : γ 0 15 0 34 = ρ 3 := zAllA hm 1
  have m5 : γ 0 15 0 37 = ρ 7 := zAllA hm 5
  have m6 : γ 0 15 0 38 = ρ 8 := zAllA hm 6
  have m7 : γ 0 15 0 44 = ρ 9 := zAllA hm 7
  have m8 : γ 0 73 0 (ρ 9) = ρ 10 := zAllA hm 8
  have m11 : γ 0 15 0 14 = ρ 13 := zAllA hm 11
  have m14 : γ 0 15 0 45 = ρ 16 := zAllA hm 14
  have m24 : γ 2 15 0 35 = ρ 28 := zAllA hm 24
  have m29 : γ 3 15 0 39 = ρ 33 := zAllA hm 29
  have m30 : γ 3 15 0 40 = ρ 34 := zAllA hm 30
  have m34 : γ 6 15 0 35 = ρ 40 := zAllA hm 34
  have c4 : γ 4 = rUp (γ 3) 80 0 (ρ 19 + (4 * ρ 10 + 32 * ρ 9)) (ρ 34) := And.right (zChA hc 4)
  have c5 : γ 5 = rUp (γ 4) 81 0 (ρ 19 + (4 * ρ 10 + 32 * ρ 9)) (ρ 33) := And.right (zChA hc 3)
  have c8 : γ 8 = rUp (γ 7) 15 0 35 (ρ 40 + 1) := And.right (zChA hc 0)
  have l0 : sn7 [ρ 20, ρ 3] (γ 1) 0 0 (γ 2) := hS7 _ _ _ _ _ (zAllA hl 0)
  have l1 : sn20 [1, ρ 28, ρ 3, ρ 21, ρ 22, ρ 29, ρ 26, ρ 14, ρ 24, ρ 25, ρ 9] (γ 2) 0 1 (γ 3) := hS20 _ _ _ _ _ (zAllA hl 1)
  have l2 : ρ 34 ≠ 1 := zAllA hl 2
  have l3 : zOpP (.l2i) (γ 0) (γ 1) [ρ 33] (ρ 37) := zAllA hl 3
  have l4 : zOpP (.ishl) (γ 0) (γ 1) [1, ρ 37] (ρ 38) := zAllA hl 4
  have l5 : zOpP (.ior) (γ 0) (γ 1) [ρ 18, ρ 38] (ρ 39) := zAllA hl 5
  have l6 : sn7 [ρ 30, ρ 3] (γ 5) 0 0 (γ 6) := hS7 _ _ _ _ _ (zAllA hl 6)
  have l7 : sn6 [ρ 40, ρ 3] (γ 6) 0 (ρ 41) (γ 7) := hS6 _ _ _ _ _ (zAllA hl 7)
  have wl_0 : ρ 34 ≠ 1 := by omega
  show jn36 [ρ 0, ρ 1, ρ 2, ρ 3, ρ 4, ρ 5, ρ 6, ρ 7, ρ 8, ρ 9, ρ 10, ρ 11, ρ 12, ρ 13, ρ 14, ρ 15, ρ 16] (γ 0) 0 [ρ 0, ρ 1, ρ 2, ρ 3, ρ 4, ρ 5, ρ 6, ρ 7, ρ 8, ρ 9, ρ 10, ρ 11, ρ 12, ρ 13, ρ 14, ρ 15, ρ 16, 1, ρ 39, ρ 19 + 1, ρ 40 + 1, ρ 31, ρ 32, ρ 23, ρ 35, ρ 36, ρ 34, ρ 42] (γ 8)
  have hD : en36 (γ 0) (0, [ρ 0, ρ 1, ρ 17, ρ 18, ρ 19], γ 1) = .inl (0, [ρ 0, ρ 1, 1, ρ 39, ρ 19 + 1], γ 8) := by
    unfold en36
    refine zIP (show (0 : Nat) = 0 by decide) (zLV (γ 1) rfl (zLV (ρ 0) rfl (zLV (ρ 1) rfl (zLV (ρ 17) rfl (zLV (ρ 18) rfl (zLV (ρ 19) rfl (zLE m1 ?_)))))))
    refine zLE m5 (zLE m6 (zLE m7 (zLE m8 (zLE m11 (zLE m14 (zIN w_0 (zLE (show fn7 [] (γ 1) = (0, 0, γ 2) from l0.symm) ?_)))))))
    refine zLV (γ 2) rfl (zLE m24 (zIP w_1 (zLE (show fn20 [1] (γ 2) = (0, 1, γ 3) from l1.symm) (zLV (γ 3) rfl (zIP zQ1_ (zLE m29 (zLE m30 ?_)))))))
    refine zLE c4.symm (zLE c5.symm (zIP wl_0 (zIN w_2 (zLE (zF1_ok l3) (zLE (zF2_ok l4) (zLE (zF2_ok l5) (zLE (show fn7 [] (γ 5) = (0, 0, γ 6) from l6.symm) ?_)))))))
    refine zLV (γ 6) rfl (zLE m34 (zLE (show fn6 [ρ 40] (γ 6) = (0, ρ 41, γ 7) from l7.symm) (zLV (γ 7) rfl (zIP w_3 (zLV (ρ 41) rfl (zIN w_4 (zLE c8.symm ?_)))))))
    rfl
  exact zGoo_ato hJ hD
theorem vn36a0_13 {S : Nat → zSpc} (hS6 : zIm S 6 sn6) (hS7 : zIm S 7 sn7) (hS8 : zIm S 8 sn8) (hS20 : zIm S 20 sn20) (hS21 : zIm S 21 sn21) (hS22 : zIm S 22 sn22) (hS24 : zIm S 24 sn24) (hS25 : zIm S 25 sn25) (hS33 : zIm S 33 sn33) {a : List Int} {g : rHp} : ∀ (ρ : Nat → Int) (γ : Nat → rHp), jn36 a g 0 (zAg (zNA a36_ 0) ρ) (γ 1) → zO 17 S a g q36a0_13 ρ γ → zGl (fun i vs g1 => jn36 a g i vs g1) (sn36 a g) q36a0_13 ρ γ := by
  intro ρ γ hJ h
  obtain ⟨ha, hg, hr, hf, hm, hc, hl⟩ := h
  have ha : a = [ρ 0, ρ 1, ρ 2, ρ 3, ρ 4, ρ 5, ρ 6, ρ 7, ρ 8, ρ 9, ρ 10, ρ 11, ρ 12, ρ 13, ρ 14, ρ 15, ρ 16] := ha
  subst ha
  subst hg
  have hJ : jn36 [ρ 0, ρ 1, ρ 2, ρ 3, ρ 4, ρ 5, ρ 6, ρ 7, ρ 8, ρ 9, ρ 10, ρ 11, ρ 12, ρ 13, ρ 14, ρ 15, ρ 16] (γ 0) 0 [ρ 0, ρ 1, ρ 2, ρ 3, ρ 4, ρ 5, ρ 6, ρ 7, ρ 8, ρ 9, ρ 10, ρ 11, ρ 12, ρ 13, ρ 14, ρ 15, ρ 16, ρ 17, ρ 18, ρ 19, ρ 20, ρ 21, ρ 22, ρ 23, ρ 24, ρ 25, ρ 26, ρ 27] (γ 1) := hJ
  have r17 : (1 : Int) ≤ ρ 17 ∧ ρ 17 ≤ 1 := zRnA hr 17
  have r19 : (0 : Int) ≤ ρ 19 ∧ ρ 19 ≤ 3 := zRnA hr 19
  have r34 : (1 : Int) ≤ ρ 34 ∧ ρ 34 ≤ 1 := zRnA hr 34
  have f0 : (0 : Int) ≤ ρ 40 + -ρ 3 := zAllA hf 0
  obtain ⟨w_0, w_1, w_2, w_3⟩ : (¬ (ρ 17 = 0)) ∧ (ρ 19 ≠ 4) ∧ (¬ (ρ 34 ≠ 1)) ∧ (¬ (0 ≤ -ρ 40 + ρ 3 + (-1))) := ⟨by omega, by omega, by omega, by omega⟩
  have m1 : γ 0 15 0 34 = ρ 3 := zAllA hm 1
  have m5 : γ 0 15 0 37 = ρ 7 := zAllA hm 5
  have m6 : γ 0 15 0 38 = ρ 8 := zAllA hm 6
  have m7 : γ 0 15 0 44 = ρ 9 := zAllA hm 7
  have m8 : γ 0 73 0 (ρ 9) = ρ 10 := zAllA hm 8
  have m11 : γ 0 15 0 14 = ρ 13 := zAllA hm 11
  have m14 : γ 0 15 0 45 = ρ 16 := zAllA hm 14
  have m24 : γ 2 15 0 35 = ρ 28 := zAllA hm 24
  have m29 : γ 3 15 0 39 = ρ 33 := zAllA hm 29
  have m30 : γ 3 15 0 40 = ρ 34 := zAllA hm 30
  have m34 : γ 6 15 0 35 = ρ 40 := zAllA hm 34
  have c4 : γ 4 = rUp (γ 3) 80 0 (ρ 19 + (4 * ρ 10 + 32 * ρ 9)) (ρ 34) := And.right (zChA hc 3)
  have c5 : γ 5 = rUp (γ 4) 81 0 (ρ 19 + (4 * ρ 10 + 32 * ρ 9)) (ρ 33) := And.right (zChA hc 2)
  have l0 : sn7 [ρ 20, ρ 3] (γ 1) 0 0 (γ 2) := hS7 _ _ _ _ _ (zAllA hl 0)
  have l1 : sn20 [1, ρ 28, ρ 3, ρ 21, ρ 22, ρ 29, ρ 26, ρ 14, ρ 24, ρ 25, ρ 9] (γ 2) 0 1 (γ 3) := hS20 _ _ _ _ _ (zAllA hl 1)
  have l2 : ρ 34 ≠ 1 := zAllA hl 2
  have l3 : zOpP (.l2i) (γ 0) (γ 1) [ρ 33] (ρ 37) := zAllA hl 3
  have l4 : zOpP (.ishl) (γ 0) (γ 1) [1, ρ 37] (ρ 38) := zAllA hl 4
  have l5 : zOpP (.ior) (γ 0) (γ 1) [ρ 18, ρ 38] (ρ 39) := zAllA hl 5
  have l6 : sn7 [ρ 30, ρ 3] (γ 5) 0 0 (γ 6) := hS7 _ _ _ _ _ (zAllA hl 6)
  have l7 : sn6 [ρ 40, ρ 3] (γ 6) 0 (-1) (γ 7) := hS6 _ _ _ _ _ (zAllA hl 7)
  have wl_0 : ρ 34 ≠ 1 := by omega
  show jn36 [ρ 0, ρ 1, ρ 2, ρ 3, ρ 4, ρ 5, ρ 6, ρ 7, ρ 8, ρ 9, ρ 10, ρ 11, ρ 12, ρ 13, ρ 14, ρ 15, ρ 16] (γ 0) 0 [ρ 0, ρ 1, ρ 2, ρ 3, ρ 4, ρ 5, ρ 6, ρ 7, ρ 8, ρ 9, ρ 10, ρ 11, ρ 12, ρ 13, ρ 14, ρ 15, ρ 16, 0, ρ 39, ρ 19 + 1, ρ 40, ρ 31, ρ 32, ρ 23, ρ 35, ρ 36, ρ 34, ρ 41] (γ 7)
  have hD : en36 (γ 0) (0, [ρ 0, ρ 1, ρ 17, ρ 18, ρ 19], γ 1) = .inl (0, [ρ 0, ρ 1, 0, ρ 39, ρ 19 + 1], γ 7) := by
    unfold en36
    refine zIP (show (0 : Nat) = 0 by decide) (zLV (γ 1) rfl (zLV (ρ 0) rfl (zLV (ρ 1) rfl (zLV (ρ 17) rfl (zLV (ρ 18) rfl (zLV (ρ 19) rfl (zLE m1 ?_)))))))
    refine zLE m5 (zLE m6 (zLE m7 (zLE m8 (zLE m11 (zLE m14 (zIN w_0 (zLE (show fn7 [] (γ 1) = (0, 0, γ 2) from l0.symm) ?_)))))))
    refine zLV (γ 2) rfl (zLE m24 (zIP w_1 (zLE (show fn20 [1] (γ 2) = (0, 1, γ 3) from l1.symm) (zLV (γ 3) rfl (zIP zQ1_ (zLE m29 (zLE m30 ?_)))))))
    refine zLE c4.symm (zLE c5.symm (zIP wl_0 (zIN w_2 (zLE (zF1_ok l3) (zLE (zF2_ok l4) (zLE (zF2_ok l5) (zLE (show fn7 [] (γ 5) = (0, 0, γ 6) from l6.symm) ?_)))))))
    refine zLV (γ 6) rfl (zLE m34 (zLE (show fn6 [ρ 40] (γ 6) = (0, (-1), γ 7) from l7.symm) (zLV (γ 7) rfl (zIN w_3 ?_))))
    rfl
  exact zGoo_ato hJ hD
theorem vn36a0_14 {S : Nat → zSpc} (hS6 : zIm S 6 sn6) (hS7 : zIm S 7 sn7) (hS8 : zIm S 8 sn8) (hS20 : zIm S 20 sn20) (hS21 : zIm S 21 sn21) (hS22 : zIm S 22 sn22) (hS24 : zIm S 24 sn24) (hS25 : zIm S 25 sn25) (hS33 : zIm S 33 sn33) {a : List Int} {g : rHp} : ∀ (ρ : Nat → Int) (γ : Nat → rHp), jn36 a g 0 (zAg (zNA a36_ 0) ρ) (γ 1) → zO 17 S a g q36a0_14 ρ γ → zGl (fun i vs g1 => jn36 a g i vs g1) (sn36 a g) q36a0_14 ρ γ := by
  intro ρ γ hJ h
  obtain ⟨ha, hg, hr, hf, hm, hc, hl⟩ := h
  have ha : a = [ρ 0, ρ 1, ρ 2, ρ 3, ρ 4, ρ 5, ρ 6, ρ 7, ρ 8, ρ 9, ρ 10, ρ 11, ρ 12, ρ 13, ρ 14, ρ 15, ρ 16] := ha
  subst ha
  subst hg
  have hJ : jn36 [ρ 0, ρ 1, ρ 2, ρ 3, ρ 4, ρ 5, ρ 6, ρ 7, ρ 8, ρ 9, ρ 10, ρ 11, ρ 12, ρ 13, ρ 14, ρ 15, ρ 16] (γ 0) 0 [ρ 0, ρ 1, ρ 2, ρ 3, ρ 4, ρ 5, ρ 6, ρ 7, ρ 8, ρ 9, ρ 10, ρ 11, ρ 12, ρ 13, ρ 14, ρ 15, ρ 16, ρ 17, ρ 18, ρ 19, ρ 20, ρ 21, ρ 22, ρ 23, ρ 24, ρ 25, ρ 26, ρ 27] (γ 1) := hJ
  have r0 : (0 : Int) ≤ ρ 0 ∧ ρ 0 ≤ 0 := zRnA hr 0
  have r17 : (1 : Int) ≤ ρ 17 ∧ ρ 17 ≤ 1 := zRnA hr 17
  have r19 : (0 : Int) ≤ ρ 19 ∧ ρ 19 ≤ 3 := zRnA hr 19
  have r34 : (1 : Int) ≤ ρ 34 ∧ ρ 34 ≤ 1 := zRnA hr 34
  have r41 : ((-128) : Int) ≤ ρ 41 ∧ ρ 41 ≤ 127 := zRnA hr 41
  have f0 : (0 : Int) ≤ -ρ 40 + ρ 3 + (-1) := zAllA hf 0
  obtain ⟨w_0, w_1, w_2, w_3, w_4⟩ : (¬ (ρ 17 = 0)) ∧ (ρ 19 ≠ 4) ∧ (¬ (ρ 34 ≠ 1)) ∧ (ρ 0 = 0) ∧ (0 ≤ -ρ 40 + ρ 3 + (-1)) := ⟨by omega, by omega, by omega, by omega, by omega⟩
  have m1 : γ 0 15 0 34 = ρ 3 := zAllA hm 1
  have m5 : γ 0 15 0 37 = ρ 7 := zAllA hm 5
  have m6 : γ 0 15 0 38 = ρ 8 := zAllA hm 6
  have m7 : γ 0 15 0 44 = ρ 9 := zAllA hm 7
  have m8 : γ 0 73 0 (ρ 9) = ρ 10 := zAllA hm 8
  have m11 : γ 0 15 0 14 = ρ 13 := zAllA hm 11
  have m14 : γ 0 15 0 45 = ρ 16 := zAllA hm 14
  have m24 : γ 2 15 0 35 = ρ 28 := zAllA hm 24
  have m29 : γ 3 15 0 39 = ρ 33 := zAllA hm 29
  have m30 : γ 3 15 0 40 = ρ 34 := zAllA hm 30
  have m34 : γ 6 15 0 35 = ρ 40 := zAllA hm 34
  have c4 : γ 4 = rUp (γ 3) 80 0 (ρ 19 + (4 * ρ 10 + 32 * ρ 9)) (ρ 34) := And.right (zChA hc 3)
  have c5 : γ 5 = rUp (γ 4) 81 0 (ρ 19 + (4 * ρ 10 + 32 * ρ 9)) (ρ 33) := And.right (zChA hc 2)
  have l0 : sn7 [ρ 20, ρ 3] (γ 1) 0 0 (γ 2) := hS7 _ _ _ _ _ (zAllA hl 0)
  have l1 : sn20 [1, ρ 28, ρ 3, ρ 21, ρ 22, ρ 29, ρ 26, ρ 14, ρ 24, ρ 25, ρ 9] (γ 2) 0 1 (γ 3) := hS20 _ _ _ _ _ (zAllA hl 1)
  have l2 : zOpP (.l2i) (γ 0) (γ 1) [ρ 33] (ρ 37) := zAllA hl 2
  have l3 : zOpP (.ishl) (γ 0) (γ 1) [1, ρ 37] (ρ 38) := zAllA hl 3
  have l4 : zOpP (.ior) (γ 0) (γ 1) [ρ 18, ρ 38] (ρ 39) := zAllA hl 4
  have l5 : sn7 [ρ 30, ρ 3] (γ 5) 0 0 (γ 6) := hS7 _ _ _ _ _ (zAllA hl 5)
  have l6 : sn6 [ρ 40, ρ 3] (γ 6) 0 (ρ 41) (γ 7) := hS6 _ _ _ _ _ (zAllA hl 6)
  have l7 : ρ 41 ≠ 44 := zAllA hl 7
  have wl_0 : ρ 41 ≠ 44 := by omega
  show jn36 [ρ 0, ρ 1, ρ 2, ρ 3, ρ 4, ρ 5, ρ 6, ρ 7, ρ 8, ρ 9, ρ 10, ρ 11, ρ 12, ρ 13, ρ 14, ρ 15, ρ 16] (γ 0) 0 [ρ 0, ρ 1, ρ 2, ρ 3, ρ 4, ρ 5, ρ 6, ρ 7, ρ 8, ρ 9, ρ 10, ρ 11, ρ 12, ρ 13, ρ 14, ρ 15, ρ 16, 0, ρ 39, ρ 19 + 1, ρ 40, ρ 31, ρ 32, ρ 23, ρ 35, ρ 36, ρ 34, ρ 42] (γ 7)
  have hD : en36 (γ 0) (0, [ρ 0, ρ 1, ρ 17, ρ 18, ρ 19], γ 1) = .inl (0, [ρ 0, ρ 1, 0, ρ 39, ρ 19 + 1], γ 7) := by
    unfold en36
    refine zIP (show (0 : Nat) = 0 by decide) (zLV (γ 1) rfl (zLV (ρ 0) rfl (zLV (ρ 1) rfl (zLV (ρ 17) rfl (zLV (ρ 18) rfl (zLV (ρ 19) rfl (zLE m1 ?_)))))))
    refine zLE m5 (zLE m6 (zLE m7 (zLE m8 (zLE m11 (zLE m14 (zIN w_0 (zLE (show fn7 [] (γ 1) = (0, 0, γ 2) from l0.symm) ?_)))))))
    refine zLV (γ 2) rfl (zLE m24 (zIP w_1 (zLE (show fn20 [1] (γ 2) = (0, 1, γ 3) from l1.symm) (zLV (γ 3) rfl (zIP zQ1_ (zLE m29 (zLE m30 ?_)))))))
    refine zLE c4.symm (zLE c5.symm (zIN w_2 (zIP w_3 (zLE (zF1_ok l2) (zLE (zF2_ok l3) (zLE (zF2_ok l4) (zLE (show fn7 [] (γ 5) = (0, 0, γ 6) from l5.symm) ?_)))))))
    refine zLV (γ 6) rfl (zLE m34 (zLE (show fn6 [ρ 40] (γ 6) = (0, ρ 41, γ 7) from l6.symm) (zLV (γ 7) rfl (zIP w_4 (zLV (ρ 41) rfl (zIP wl_0 ?_))))))
    rfl
  exact zGoo_ato hJ hD
theorem vn36a0_15 {S : Nat → zSpc} (hS6 : zIm S 6 sn6) (hS7 : zIm S 7 sn7) (hS8 : zIm S 8 sn8) (hS20 : zIm S 20 sn20) (hS21 : zIm S 21 sn21) (hS22 : zIm S 22 sn22) (hS24 : zIm S 24 sn24) (hS25 : zIm S 25 sn25) (hS33 : zIm S 33 sn33) {a : List Int} {g : rHp} : ∀ (ρ : Nat → Int) (γ : Nat → rHp), jn36 a g 0 (zAg (zNA a36_ 0) ρ) (γ 1) → zO 17 S a g q36a0_15 ρ γ → zGl (fun i vs g1 => jn36 a g i vs g1) (sn36 a g) q36a0_15 ρ γ := by
  intro ρ γ hJ h
  obtain ⟨ha, hg, hr, hf, hm, hc, hl⟩ := h
  have ha : a = [ρ 0, ρ 1, ρ 2, ρ 3, ρ 4, ρ 5, ρ 6, ρ 7, ρ 8, ρ 9, ρ 10, ρ 11, ρ 12, ρ 13, ρ 14, ρ 15, ρ 16] := ha
  subst ha
  subst hg
  have hJ : jn36 [ρ 0, ρ 1, ρ 2, ρ 3, ρ 4, ρ 5, ρ 6, ρ 7, ρ 8, ρ 9, ρ 10, ρ 11, ρ 12, ρ 13, ρ 14, ρ 15, ρ 16] (γ 0) 0 [ρ 0, ρ 1, ρ 2, ρ 3, ρ 4, ρ 5, ρ 6, ρ 7, ρ 8, ρ 9, ρ 10, ρ 11, ρ 12, ρ 13, ρ 14, ρ 15, ρ 16, ρ 17, ρ 18, ρ 19, ρ 20, ρ 21, ρ 22, ρ 23, ρ 24, ρ 25, ρ 26, ρ 27] (γ 1) := hJ
  have r0 : (0 : Int) ≤ ρ 0 ∧ ρ 0 ≤ 0 := zRnA hr 0
  have r17 : (1 : Int) ≤ ρ 17 ∧ ρ 17 ≤ 1 := zRnA hr 17
  have r19 : (0 : Int) ≤ ρ 19 ∧ ρ 19 ≤ 3 := zRnA hr 19
  have r34 : (1 : Int) ≤ ρ 34 ∧ ρ 34 ≤ 1 := zRnA hr 34
  have r41 : (44 : Int) ≤ ρ 41 ∧ ρ 41 ≤ 44 := zRnA hr 41
  have f0 : (0 : Int) ≤ -ρ 40 + ρ 3 + (-1) := zAllA hf 0
  obtain ⟨w_0, w_1, w_2, w_3, w_4, w_5⟩ : (¬ (ρ 17 = 0)) ∧ (ρ 19 ≠ 4) ∧ (¬ (ρ 34 ≠ 1)) ∧ (ρ 0 = 0) ∧ (0 ≤ -ρ 40 + ρ 3 + (-1)) ∧ (¬ (ρ 41 ≠ 44)) := ⟨by omega, by omega, by omega, by omega, by omega, by omega⟩
  have m1 : γ 0 15 0 34 = ρ 3 := zAllA hm 1
  have m5 : γ 0 15 0 37 = ρ 7 := zAllA hm 5
  have m6 : γ 0 15 0 38 = ρ 8 := zAllA hm 6
  have m7 : γ 0 15 0 44 = ρ 9 := zAllA hm 7
  have m8 : γ 0 73 0 (ρ 9) = ρ 10 := zAllA hm 8
  have m11 : γ 0 15 0 14 = ρ 13 := zAllA hm 11
  have m14 : γ 0 15 0 45 = ρ 16 := zAllA hm 14
  have m24 : γ 2 15 0 35 = ρ 28 := zAllA hm 24
  have m29 : γ 3 15 0 39 = ρ 33 := zAllA hm 29
  have m30 : γ 3 15 0 40 = ρ 34 := zAllA hm 30
  have m34 : γ 6 15 0 35 = ρ 40 := zAllA hm 34
  have c4 : γ 4 = rUp (γ 3) 80 0 (ρ 19 + (4 * ρ 10 + 32 * ρ 9)) (ρ 34) := And.right (zChA hc 4)
  have c5 : γ 5 = rUp (γ 4) 81 0 (ρ 19 + (4 * ρ 10 + 32 * ρ 9)) (ρ 33) := And.right (zChA hc 3)
  have c8 : γ 8 = rUp (γ 7) 15 0 35 (ρ 40 + 1) := And.right (zChA hc 0)
  have l0 : sn7 [ρ 20, ρ 3] (γ 1) 0 0 (γ 2) := hS7 _ _ _ _ _ (zAllA hl 0)
  have l1 : sn20 [1, ρ 28, ρ 3, ρ 21, ρ 22, ρ 29, ρ 26, ρ 14, ρ 24, ρ 25, ρ 9] (γ 2) 0 1 (γ 3) := hS20 _ _ _ _ _ (zAllA hl 1)
  have l2 : zOpP (.l2i) (γ 0) (γ 1) [ρ 33] (ρ 37) := zAllA hl 2
  have l3 : zOpP (.ishl) (γ 0) (γ 1) [1, ρ 37] (ρ 38) := zAllA hl 3
  have l4 : zOpP (.ior) (γ 0) (γ 1) [ρ 18, ρ 38] (ρ 39) := zAllA hl 4
  have l5 : sn7 [ρ 30, ρ 3] (γ 5) 0 0 (γ 6) := hS7 _ _ _ _ _ (zAllA hl 5)
  have l6 : sn6 [ρ 40, ρ 3] (γ 6) 0 (ρ 41) (γ 7) := hS6 _ _ _ _ _ (zAllA hl 6)
  show jn36 [ρ 0, ρ 1, ρ 2, ρ 3, ρ 4, ρ 5, ρ 6, ρ 7, ρ 8, ρ 9, ρ 10, ρ 11, ρ 12, ρ 13, ρ 14, ρ 15, ρ 16] (γ 0) 0 [ρ 0, ρ 1, ρ 2, ρ 3, ρ 4, ρ 5, ρ 6, ρ 7, ρ 8, ρ 9, ρ 10, ρ 11, ρ 12, ρ 13, ρ 14, ρ 15, ρ 16, 1, ρ 39, ρ 19 + 1, ρ 40 + 1, ρ 31, ρ 32, ρ 23, ρ 35, ρ 36, ρ 34, ρ 42] (γ 8)
  have hD : en36 (γ 0) (0, [ρ 0, ρ 1, ρ 17, ρ 18, ρ 19], γ 1) = .inl (0, [ρ 0, ρ 1, 1, ρ 39, ρ 19 + 1], γ 8) := by
    unfold en36
    refine zIP (show (0 : Nat) = 0 by decide) (zLV (γ 1) rfl (zLV (ρ 0) rfl (zLV (ρ 1) rfl (zLV (ρ 17) rfl (zLV (ρ 18) rfl (zLV (ρ 19) rfl (zLE m1 ?_)))))))
    refine zLE m5 (zLE m6 (zLE m7 (zLE m8 (zLE m11 (zLE m14 (zIN w_0 (zLE (show fn7 [] (γ 1) = (0, 0, γ 2) from l0.symm) ?_)))))))
    refine zLV (γ 2) rfl (zLE m24 (zIP w_1 (zLE (show fn20 [1] (γ 2) = (0, 1, γ 3) from l1.symm) (zLV (γ 3) rfl (zIP zQ1_ (zLE m29 (zLE m30 ?_)))))))
    refine zLE c4.symm (zLE c5.symm (zIN w_2 (zIP w_3 (zLE (zF1_ok l2) (zLE (zF2_ok l3) (zLE (zF2_ok l4) (zLE (show fn7 [] (γ 5) = (0, 0, γ 6) from l5.symm) ?_)))))))
    refine zLV (γ 6) rfl (zLE m34 (zLE (show fn6 [ρ 40] (γ 6) = (0, ρ 41, γ 7) from l6.symm) (zLV (γ 7) rfl (zIP w_4 (zLV (ρ 41) rfl (zIN w_5 (zLE c8.symm ?_)))))))
    rfl
  exact zGoo_ato hJ hD
theorem vn36a0_16 {S : Nat → zSpc} (hS6 : zIm S 6 sn6) (hS7 : zIm S 7 sn7) (hS8 : zIm S 8 sn8) (hS20 : zIm S 20 sn20) (hS21 : zIm S 21 sn21) (hS22 : zIm S 22 sn22) (hS24 : zIm S 24 sn24) (hS25 : zIm S 25 sn25) (hS33 : zIm S 33 sn33) {a : List Int} {g : rHp} : ∀ (ρ : Nat → Int) (γ : Nat → rHp), jn36 a g 0 (zAg (zNA a36_ 0) ρ) (γ 1) → zO 17 S a g q36a0_16 ρ γ → zGl (fun i vs g1 => jn36 a g i vs g1) (sn36 a g) q36a0_16 ρ γ := by
  intro ρ γ hJ h
  obtain ⟨ha, hg, hr, hf, hm, hc, hl⟩ := h
  have ha : a = [ρ 0, ρ 1, ρ 2, ρ 3, ρ 4, ρ 5, ρ 6, ρ 7, ρ 8, ρ 9, ρ 10, ρ 11, ρ 12, ρ 13, ρ 14, ρ 15, ρ 16] := ha
  subst ha
  subst hg
  have hJ : jn36 [ρ 0, ρ 1, ρ 2, ρ 3, ρ 4, ρ 5, ρ 6, ρ 7, ρ 8, ρ 9, ρ 10, ρ 11, ρ 12, ρ 13, ρ 14, ρ 15, ρ 16] (γ 0) 0 [ρ 0, ρ 1, ρ 2, ρ 3, ρ 4, ρ 5, ρ 6, ρ 7, ρ 8, ρ 9, ρ 10, ρ 11, ρ 12, ρ 13, ρ 14, ρ 15, ρ 16, ρ 17, ρ 18, ρ 19, ρ 20, ρ 21, ρ 22, ρ 23, ρ 24, ρ 25, ρ 26, ρ 27] (γ 1) := hJ
  have r0 : (0 : Int) ≤ ρ 0 ∧ ρ 0 ≤ 0 := zRnA hr 0
  have r17 : (1 : Int) ≤ ρ 17 ∧ ρ 17 ≤ 1 := zRnA hr 17
  have r19 : (0 : Int) ≤ ρ 19 ∧ ρ 19 ≤ 3 := zRnA hr 19
  have r34 : (1 : Int) ≤ ρ 34 ∧ ρ 34 ≤ 1 := zRnA hr 34
  have f0 : (0 : Int) ≤ ρ 40 + -ρ 3 := zAllA hf 0
  obtain ⟨w_0, w_1, w_2, w_3, w_4⟩ : (¬ (ρ 17 = 0)) ∧ (ρ 19 ≠ 4) ∧ (¬ (ρ 34 ≠ 1)) ∧ (ρ 0 = 0) ∧ (¬ (0 ≤ -ρ 40 + ρ 3 + (-1))) := ⟨by omega, by omega, by omega, by omega, by omega⟩
  have m1 : γ 0 15 0 34 = ρ 3 := zAllA hm 1
  have m5 : γ 0 15 0 37 = ρ 7 := zAllA hm 5
  have m6 : γ 0 15 0 38 = ρ 8 := zAllA hm 6
  have m7 : γ 0 15 0 44 = ρ 9 := zAllA hm 7
  have m8 : γ 0 73 0 (ρ 9) = ρ 10 := zAllA hm 8
  have m11 : γ 0 15 0 14 = ρ 13 := zAllA hm 11
  have m14 : γ 0 15 0 45 = ρ 16 := zAllA hm 14
  have m24 : γ 2 15 0 35 = ρ 28 := zAllA hm 24
  have m29 : γ 3 15 0 39 = ρ 33 := zAllA hm 29
  have m30 : γ 3 15 0 40 = ρ 34 := zAllA hm 30
  have m34 : γ 6 15 0 35 = ρ 40 := zAllA hm 34
  have c4 : γ 4 = rUp (γ 3) 80 0 (ρ 19 + (4 * ρ 10 + 32 * ρ 9)) (ρ 34) := And.right (zChA hc 3)
  have c5 : γ 5 = rUp (γ 4) 81 0 (ρ 19 + (4 * ρ 10 + 32 * ρ 9)) (ρ 33) := And.right (zChA hc 2)
  have l0 : sn7 [ρ 20, ρ 3] (γ 1) 0 0 (γ 2) := hS7 _ _ _ _ _ (zAllA hl 0)
  have l1 : sn20 [1, ρ 28, ρ 3, ρ 21, ρ 22, ρ 29, ρ 26, ρ 14, ρ 24, ρ 25, ρ 9] (γ 2) 0 1 (γ 3) := hS20 _ _ _ _ _ (zAllA hl 1)
  have l2 : zOpP (.l2i) (γ 0) (γ 1) [ρ 33] (ρ 37) := zAllA hl 2
  have l3 : zOpP (.ishl) (γ 0) (γ 1) [1, ρ 37] (ρ 38) := zAllA hl 3
  have l4 : zOpP (.ior) (γ 0) (γ 1) [ρ 18, ρ 38] (ρ 39) := zAllA hl 4
  have l5 : sn7 [ρ 30, ρ 3] (γ 5) 0 0 (γ 6) := hS7 _ _ _ _ _ (zAllA hl 5)
  have l6 : sn6 [ρ 40, ρ 3] (γ 6) 0 (-1) (γ 7) := hS6 _ _ _ _ _ (zAllA hl 6)
  show jn36 [ρ 0, ρ 1, ρ 2, ρ 3, ρ 4, ρ 5, ρ 6, ρ 7, ρ 8, ρ 9, ρ 10, ρ 11, ρ 12, ρ 13, ρ 14, ρ 15, ρ 16] (γ 0) 0 [ρ 0, ρ 1, ρ 2, ρ 3, ρ 4, ρ 5, ρ 6, ρ 7, ρ 8, ρ 9, ρ 10, ρ 11, ρ 12, ρ 13, ρ 14, ρ 15, ρ 16, 0, ρ 39, ρ 19 + 1, ρ 40, ρ 31, ρ 32, ρ 23, ρ 35, ρ 36, ρ 34, ρ 41] (γ 7)
  have hD : en36 (γ 0) (0, [ρ 0, ρ 1, ρ 17, ρ 18, ρ 19], γ 1) = .inl (0, [ρ 0, ρ 1, 0, ρ 39, ρ 19 + 1], γ 7) := by
    unfold en36
    refine zIP (show (0 : Nat) = 0 by decide) (zLV (γ 1) rfl (zLV (ρ 0) rfl (zLV (ρ 1) rfl (zLV (ρ 17) rfl (zLV (ρ 18) rfl (zLV (ρ 19) rfl (zLE m1 ?_)))))))
    refine zLE m5 (zLE m6 (zLE m7 (zLE m8 (zLE m11 (zLE m14 (zIN w_0 (zLE (show fn7 [] (γ 1) = (0, 0, γ 2) from l0.symm) ?_)))))))
    refine zLV (γ 2) rfl (zLE m24 (zIP w_1 (zLE (show fn20 [1] (γ 2) = (0, 1, γ 3) from l1.symm) (zLV (γ 3) rfl (zIP zQ1_ (zLE m29 (zLE m30 ?_)))))))
    refine zLE c4.symm (zLE c5.symm (zIN w_2 (zIP w_3 (zLE (zF1_ok l2) (zLE (zF2_ok l3) (zLE (zF2_ok l4) (zLE (show fn7 [] (γ 5) = (0, 0, γ 6) from l5.symm) ?_)))))))
    refine zLV (γ 6) rfl (zLE m34 (zLE (show fn6 [ρ 40] (γ 6) = (0, (-1), γ 7) from l6.symm) (zLV (γ 7) rfl (zIN w_4 ?_))))
    rfl
  exact zGoo_ato hJ hD
theorem vn36a0_17 {S : Nat → zSpc} (hS6 : zIm S 6 sn6) (hS7 : zIm S 7 sn7) (hS8 : zIm S 8 sn8) (hS20 : zIm S 20 sn20) (hS21 : zIm S 21 sn21) (hS22 : zIm S 22 sn22) (hS24 : zIm S 24 sn24) (hS25 : zIm S 25 sn25) (hS33 : zIm S 33 sn33) {a : List Int} {g : rHp} : ∀ (ρ : Nat → Int) (γ : Nat → rHp), jn36 a g 0 (zAg (zNA a36_ 0) ρ) (γ 1) → zO 17 S a g q36a0_17 ρ γ → zGl (fun i vs g1 => jn36 a g i vs g1) (sn36 a g) q36a0_17 ρ γ := by
  intro ρ γ hJ h
  obtain ⟨ha, hg, hr, hf, hm, hc, hl⟩ := h
  have ha : a = [ρ 0, ρ 1, ρ 2, ρ 3, ρ 4, ρ 5, ρ 6, ρ 7, ρ 8, ρ 9, ρ 10, ρ 11, ρ 12, ρ 13, ρ 14, ρ 15, ρ 16] := ha
  subst ha
  subst hg
  have hJ : jn36 [ρ 0, ρ 1, ρ 2, ρ 3, ρ 4, ρ 5, ρ 6, ρ 7, ρ 8, ρ 9, ρ 10, ρ 11, ρ 12, ρ 13, ρ 14, ρ 15, ρ 16] (γ 0) 0 [ρ 0, ρ 1, ρ 2, ρ 3, ρ 4, ρ 5, ρ 6, ρ 7, ρ 8, ρ 9, ρ 10, ρ 11, ρ 12, ρ 13, ρ 14, ρ 15, ρ 16, ρ 17, ρ 18, ρ 19, ρ 20, ρ 21, ρ 22, ρ 23, ρ 24, ρ 25, ρ 26, ρ 27] (γ 1) := hJ
  have r0 : (1 : Int) ≤ ρ 0 ∧ ρ 0 ≤ 1 := zRnA hr 0
  have r17 : (1 : Int) ≤ ρ 17 ∧ ρ 17 ≤ 1 := zRnA hr 17
  have r19 : (0 : Int) ≤ ρ 19 ∧ ρ 19 ≤ 3 := zRnA hr 19
  have r34 : (1 : Int) ≤ ρ 34 ∧ ρ 34 ≤ 1 := zRnA hr 34
  have r40 : ((-128) : Int) ≤ ρ 40 ∧ ρ 40 ≤ 127 := zRnA hr 40
  have f0 : (0 : Int) ≤ -ρ 39 + ρ 3 + (-1) := zAllA hf 0
  obtain ⟨w_0, w_1, w_2, w_3, w_4⟩ : (¬ (ρ 17 = 0)) ∧ (ρ 19 ≠ 4) ∧ (¬ (ρ 34 ≠ 1)) ∧ (¬ (ρ 0 = 0)) ∧ (0 ≤ -ρ 39 + ρ 3 + (-1)) := ⟨by omega, by omega, by omega, by omega, by omega⟩
  have m1 : γ 0 15 0 34 = ρ 3 := zAllA hm 1
  have m5 : γ 0 15 0 37 = ρ 7 := zAllA hm 5
  have m6 : γ 0 15 0 38 = ρ 8 := zAllA hm 6
  have m7 : γ 0 15 0 44 = ρ 9 := zAllA hm 7
  have m8 : γ 0 73 0 (ρ 9) = ρ 10 := zAllA hm 8
  have m11 : γ 0 15 0 14 = ρ 13 := zAllA hm 11
  have m14 : γ 0 15 0 45 = ρ 16 := zAllA hm 14
  have m24 : γ 2 15 0 35 = ρ 28 := zAllA hm 24
  have m29 : γ 3 15 0 39 = ρ 33 := zAllA hm 29
  have m30 : γ 3 15 0 40 = ρ 34 := zAllA hm 30
  have m35 : γ 7 15 0 35 = ρ 39 := zAllA hm 35
  have c4 : γ 4 = rUp (γ 3) 80 0 (ρ 19 + (4 * ρ 10 + 32 * ρ 9)) (ρ 34) := And.right (zChA hc 4)
  have c5 : γ 5 = rUp (γ 4) 81 0 (ρ 19 + (4 * ρ 10 + 32 * ρ 9)) (ρ 33) := And.right (zChA hc 3)
  have l0 : sn7 [ρ 20, ρ 3] (γ 1) 0 0 (γ 2) := hS7 _ _ _ _ _ (zAllA hl 0)
  have l1 : sn20 [1, ρ 28, ρ 3, ρ 21, ρ 22, ρ 29, ρ 26, ρ 14, ρ 24, ρ 25, ρ 9] (γ 2) 0 1 (γ 3) := hS20 _ _ _ _ _ (zAllA hl 1)
  have l2 : sn25 [ρ 28, ρ 33, 1, ρ 23, ρ 16] (γ 5) 0 0 (γ 6) := hS25 _ _ _ _ _ (zAllA hl 2)
  have l3 : zOpP (.ishl) (γ 0) (γ 1) [1, ρ 33] (ρ 37) := zAllA hl 3
  have l4 : zOpP (.ior) (γ 0) (γ 1) [ρ 18, ρ 37] (ρ 38) := zAllA hl 4
  have l5 : sn7 [ρ 30, ρ 3] (γ 6) 0 0 (γ 7) := hS7 _ _ _ _ _ (zAllA hl 5)
  have l6 : sn6 [ρ 39, ρ 3] (γ 7) 0 (ρ 40) (γ 8) := hS6 _ _ _ _ _ (zAllA hl 6)
  have l7 : ρ 40 ≠ 44 := zAllA hl 7
  have wl_0 : ρ 40 ≠ 44 := by omega
  show jn36 [ρ 0, ρ 1, ρ 2, ρ 3, ρ 4, ρ 5, ρ 6, ρ 7, ρ 8, ρ 9, ρ 10, ρ 11, ρ 12, ρ 13, ρ 14, ρ 15, ρ 16] (γ 0) 0 [ρ 0, ρ 1, ρ 2, ρ 3, ρ 4, ρ 5, ρ 6, ρ 7, ρ 8, ρ 9, ρ 10, ρ 11, ρ 12, ρ 13, ρ 14, ρ 15, ρ 16, 0, ρ 38, ρ 19 + 1, ρ 39, ρ 31, ρ 32, ρ 23 + 1, ρ 35, ρ 36, ρ 34, ρ 41] (γ 8)
  have hD : en36 (γ 0) (0, [ρ 0, ρ 1, ρ 17, ρ 18, ρ 19], γ 1) = .inl (0, [ρ 0, ρ 1, 0, ρ 38, ρ 19 + 1], γ 8) := by
    unfold en36
    refine zIP (show (0 : Nat) = 0 by decide) (zLV (γ 1) rfl (zLV (ρ 0) rfl (zLV (ρ 1) rfl (zLV (ρ 17) rfl (zLV (ρ 18) rfl (zLV (ρ 19) rfl (zLE m1 ?_)))))))
    refine zLE m5 (zLE m6 (zLE m7 (zLE m8 (zLE m11 (zLE m14 (zIN w_0 (zLE (show fn7 [] (γ 1) = (0, 0, γ 2) from l0.symm) ?_)))))))
    refine zLV (γ 2) rfl (zLE m24 (zIP w_1 (zLE (show fn20 [1] (γ 2) = (0, 1, γ 3) from l1.symm) (zLV (γ 3) rfl (zIP zQ1_ (zLE m29 (zLE m30 ?_)))))))
    refine zLE c4.symm (zLE c5.symm (zIN w_2 (zIN w_3 (zLE (show fn25 [ρ 28, ρ 33, 1] (γ 5) = (0, 0, γ 6) from l2.symm) (zLV (γ 6) rfl (zLE (zF2_ok l3) (zLE (zF2_ok l4) ?_)))))))
    refine zLE (show fn7 [] (γ 6) = (0, 0, γ 7) from l5.symm) (zLV (γ 7) rfl (zLE m35 (zLE (show fn6 [ρ 39] (γ 7) = (0, ρ 40, γ 8) from l6.symm) (zLV (γ 8) rfl (zIP w_4 (zLV (ρ 40) rfl (zIP wl_0 ?_)))))))
    rfl
  exact zGoo_ato hJ hD
theorem vn36a0_18 {S : Nat → zSpc} (hS6 : zIm S 6 sn6) (hS7 : zIm S 7 sn7) (hS8 : zIm S 8 sn8) (hS20 : zIm S 20 sn20) (hS21 : zIm S 21 sn21) (hS22 : zIm S 22 sn22) (hS24 : zIm S 24 sn24) (hS25 : zIm S 25 sn25) (hS33 : zIm S 33 sn33) {a : List Int} {g : rHp} : ∀ (ρ : Nat → Int) (γ : Nat → rHp), jn36 a g 0 (zAg (zNA a36_ 0) ρ) (γ 1) → zO 17 S a g q36a0_18 ρ γ → zGl (fun i vs g1 => jn36 a g i vs g1) (sn36 a g) q36a0_18 ρ γ := by
  intro ρ γ hJ h
  obtain ⟨ha, hg, hr, hf, hm, hc, hl⟩ := h
  have ha : a = [ρ 0, ρ 1, ρ 2, ρ 3, ρ 4, ρ 5, ρ 6, ρ 7, ρ 8, ρ 9, ρ 10, ρ 11, ρ 12, ρ 13, ρ 14, ρ 15, ρ 16] := ha
  subst ha
  subst hg
  have hJ : jn36 [ρ 0, ρ 1, ρ 2, ρ 3, ρ 4, ρ 5, ρ 6, ρ 7, ρ 8, ρ 9, ρ 10, ρ 11, ρ 12, ρ 13, ρ 14, ρ 15, ρ 16] (γ 0) 0 [ρ 0, ρ 1, ρ 2, ρ 3, ρ 4, ρ 5, ρ 6, ρ 7, ρ 8, ρ 9, ρ 10, ρ 11, ρ 12, ρ 13, ρ 14, ρ 15, ρ 16, ρ 17, ρ 18, ρ 19, ρ 20, ρ 21, ρ 22, ρ 23, ρ 24, ρ 25, ρ 26, ρ 27] (γ 1) := hJ
  have r0 : (1 : Int) ≤ ρ 0 ∧ ρ 0 ≤ 1 := zRnA hr 0
  have r17 : (1 : Int) ≤ ρ 17 ∧ ρ 17 ≤ 1 := zRnA hr 17
  have r19 : (0 : Int) ≤ ρ 19 ∧ ρ 19 ≤ 3 := zRnA hr 19
  have r34 : (1 : Int) ≤ ρ 34 ∧ ρ 34 ≤ 1 := zRnA hr 34
  have r40 : (44 : Int) ≤ ρ 40 ∧ ρ 40 ≤ 44 := zRnA hr 40
  have f0 : (0 : Int) ≤ -ρ 39 + ρ 3 + (-1) := zAllA hf 0
  obtain ⟨w_0, w_1, w_2, w_3, w_4, w_5⟩ : (¬ (ρ 17 = 0)) ∧ (ρ 19 ≠ 4) ∧ (¬ (ρ 34 ≠ 1)) ∧ (¬ (ρ 0 = 0)) ∧ (0 ≤ -ρ 39 + ρ 3 + (-1)) ∧ (¬ (ρ 40 ≠ 44)) := ⟨by omega, by omega, by omega, by omega, by omega, by omega⟩
  have m1 : γ 0 15 0 34 = ρ 3 := zAllA hm 1
  have m5 : γ 0 15 0 37 = ρ 7 := zAllA hm 5
  have m6 : γ 0 15 0 38 = ρ 8 := zAllA hm 6
  have m7 : γ 0 15 0 44 = ρ 9 := zAllA hm 7
  have m8 : γ 0 73 0 (ρ 9) = ρ 10 := zAllA hm 8
  have m11 : γ 0 15 0 14 = ρ 13 := zAllA hm 11
  have m14 : γ 0 15 0 45 = ρ 16 := zAllA hm 14
  have m24 : γ 2 15 0 35 = ρ 28 := zAllA hm 24
  have m29 : γ 3 15 0 39 = ρ 33 := zAllA hm 29
  have m30 : γ 3 15 0 40 = ρ 34 := zAllA hm 30
  have m35 : γ 7 15 0 35 = ρ 39 := zAllA hm 35
  have c4 : γ 4 = rUp (γ 3) 80 0 (ρ 19 + (4 * ρ 10 + 32 * ρ 9)) (ρ 34) := And.right (zChA hc 5)
  have c5 : γ 5 = rUp (γ 4) 81 0 (ρ 19 + (4 * ρ 10 + 32 * ρ 9)) (ρ 33) := And.right (zChA hc 4)
  have c9 : γ 9 = rUp (γ 8) 15 0 35 (ρ 39 + 1) := And.right (zChA hc 0)
  have l0 : sn7 [ρ 20, ρ 3] (γ 1) 0 0 (γ 2) := hS7 _ _ _ _ _ (zAllA hl 0)
  have l1 : sn20 [1, ρ 28, ρ 3, ρ 21, ρ 22, ρ 29, ρ 26, ρ 14, ρ 24, ρ 25, ρ 9] (γ 2) 0 1 (γ 3) := hS20 _ _ _ _ _ (zAllA hl 1)
  have l2 : sn25 [ρ 28, ρ 33, 1, ρ 23, ρ 16] (γ 5) 0 0 (γ 6) := hS25 _ _ _ _ _ (zAllA hl 2)
  have l3 : zOpP (.ishl) (γ 0) (γ 1) [1, ρ 33] (ρ 37) := zAllA hl 3
  have l4 : zOpP (.ior) (γ 0) (γ 1) [ρ 18, ρ 37] (ρ 38) := zAllA hl 4
  have l5 : sn7 [ρ 30, ρ 3] (γ 6) 0 0 (γ 7) := hS7 _ _ _ _ _ (zAllA hl 5)
  have l6 : sn6 [ρ 39, ρ 3] (γ 7) 0 (ρ 40) (γ 8) := hS6 _ _ _ _ _ (zAllA hl 6)
  show jn36 [ρ 0, ρ 1, ρ 2, ρ 3, ρ 4, ρ 5, ρ 6, ρ 7, ρ 8, ρ 9, ρ 10, ρ 11, ρ 12, ρ 13, ρ 14, ρ 15, ρ 16] (γ 0) 0 [ρ 0, ρ 1, ρ 2, ρ 3, ρ 4, ρ 5, ρ 6, ρ 7, ρ 8, ρ 9, ρ 10, ρ 11, ρ 12, ρ 13, ρ 14, ρ 15, ρ 16, 1, ρ 38, ρ 19 + 1, ρ 39 + 1, ρ 31, ρ 32, ρ 23 + 1, ρ 35, ρ 36, ρ 34, ρ 41] (γ 9)
  have hD : en36 (γ 0) (0, [ρ 0, ρ 1, ρ 17, ρ 18, ρ 19], γ 1) = .inl (0, [ρ 0, ρ 1, 1, ρ 38, ρ 19 + 1], γ 9) := by
    unfold en36
    refine zIP (show (0 : Nat) = 0 by decide) (zLV (γ 1) rfl (zLV (ρ 0) rfl (zLV (ρ 1) rfl (zLV (ρ 17) rfl (zLV (ρ 18) rfl (zLV (ρ 19) rfl (zLE m1 ?_)))))))
    refine zLE m5 (zLE m6 (zLE m7 (zLE m8 (zLE m11 (zLE m14 (zIN w_0 (zLE (show fn7 [] (γ 1) = (0, 0, γ 2) from l0.symm) ?_)))))))
    refine zLV (γ 2) rfl (zLE m24 (zIP w_1 (zLE (show fn20 [1] (γ 2) = (0, 1, γ 3) from l1.symm) (zLV (γ 3) rfl (zIP zQ1_ (zLE m29 (zLE m30 ?_)))))))
    refine zLE c4.symm (zLE c5.symm (zIN w_2 (zIN w_3 (zLE (show fn25 [ρ 28, ρ 33, 1] (γ 5) = (0, 0, γ 6) from l2.symm) (zLV (γ 6) rfl (zLE (zF2_ok l3) (zLE (zF2_ok l4) ?_)))))))
    refine zLE (show fn7 [] (γ 6) = (0, 0, γ 7) from l5.symm) (zLV (γ 7) rfl (zLE m35 (zLE (show fn6 [ρ 39] (γ 7) = (0, ρ 40, γ 8) from l6.symm) (zLV (γ 8) rfl (zIP w_4 (zLV (ρ 40) rfl (zIN w_5 ?_)))))))
    refine zLE c9.symm ?_
    rfl
  exact zGoo_ato hJ hD
theorem vn36a0_19 {S : Nat → zSpc} (hS6 : zIm S 6 sn6) (hS7 : zIm S 7 sn7) (hS8 : zIm S 8 sn8) (hS20 : zIm S 20 sn20) (hS21 : zIm S 21 sn21) (hS22 : zIm S 22 sn22) (hS24 : zIm S 24 sn24) (hS25 : zIm S 25 sn25) (hS33 : zIm S 33 sn33) {a : List Int} {g : rHp} : ∀ (ρ : Nat → Int) (γ : Nat → rHp), jn36 a g 0 (zAg (zNA a36_ 0) ρ) (γ 1) → zO 17 S a g q36a0_19 ρ γ → zGl (fun i vs g1 => jn36 a g i vs g1) (sn36 a g) q36a0_19 ρ γ := by
  intro ρ γ hJ h
  obtain ⟨ha, hg, hr, hf, hm, hc, hl⟩ := h
  have ha : a = [ρ 0, ρ 1, ρ 2, ρ 3, ρ 4, ρ 5, ρ 6, ρ 7, ρ 8, ρ 9, ρ 10, ρ 11, ρ 12, ρ 13, ρ 14, ρ 15, ρ 16] := ha
  subst ha
  subst hg
  have hJ : jn36 [ρ 0, ρ 1, ρ 2, ρ 3, ρ 4, ρ 5, ρ 6, ρ 7, ρ 8, ρ 9, ρ 10, ρ 11, ρ 12, ρ 13, ρ 14, ρ 15, ρ 16] (γ 0) 0 [ρ 0, ρ 1, ρ 2, ρ 3, ρ 4, ρ 5, ρ 6, ρ 7, ρ 8, ρ 9, ρ 10, ρ 11, ρ 12, ρ 13, ρ 14, ρ 15, ρ 16, ρ 17, ρ 18, ρ 19, ρ 20, ρ 21, ρ 22, ρ 23, ρ 24, ρ 25, ρ 26, ρ 27] (γ 1) := hJ
  have r0 : (1 : Int) ≤ ρ 0 ∧ ρ 0 ≤ 1 := zRnA hr 0
  have r17 : (1 : Int) ≤ ρ 17 ∧ ρ 17 ≤ 1 := zRnA hr 17
  have r19 : (0 : Int) ≤ ρ 19 ∧ ρ 19 ≤ 3 := zRnA hr 19
  have r34 : (1 : Int) ≤ ρ 34 ∧ ρ 34 ≤ 1 := zRnA hr 34
  have f0 : (0 : Int) ≤ ρ 39 + -ρ 3 := zAllA hf 0
  obtain ⟨w_0, w_1, w_2, w_3, w_4⟩ : (¬ (ρ 17 = 0)) ∧ (ρ 19 ≠ 4) ∧ (¬ (ρ 34 ≠ 1)) ∧ (¬ (ρ 0 = 0)) ∧ (¬ (0 ≤ -ρ 39 + ρ 3 + (-1))) := ⟨by omega, by omega, by omega, by omega, by omega⟩
  have m1 : γ 0 15 0 34 = ρ 3 := zAllA hm 1
  have m5 : γ 0 15 0 37 = ρ 7 := zAllA hm 5
  have m6 : γ 0 15 0 38 = ρ 8 := zAllA hm 6
  have m7 : γ 0 15 0 44 = ρ 9 := zAllA hm 7
  have m8 : γ 0 73 0 (ρ 9) = ρ 10 := zAllA hm 8
  have m11 : γ 0 15 0 14 = ρ 13 := zAllA hm 11
  have m14 : γ 0 15 0 45 = ρ 16 := zAllA hm 14
  have m24 : γ 2 15 0 35 = ρ 28 := zAllA hm 24
  have m29 : γ 3 15 0 39 = ρ 33 := zAllA hm 29
  have m30 : γ 3 15 0 40 = ρ 34 := zAllA hm 30
  have m35 : γ 7 15 0 35 = ρ 39 := zAllA hm 35
  have c4 : γ 4 = rUp (γ 3) 80 0 (ρ 19 + (4 * ρ 10 + 32 * ρ 9)) (ρ 34) := And.right (zChA hc 4)
  have c5 : γ 5 = rUp (γ 4) 81 0 (ρ 19 + (4 * ρ 10 + 32 * ρ 9)) (ρ 33) := And.right (zChA hc 3)
  have l0 : sn7 [ρ 20, ρ 3] (γ 1) 0 0 (γ 2) := hS7 _ _ _ _ _ (zAllA hl 0)
  have l1 : sn20 [1, ρ 28, ρ 3, ρ 21, ρ 22, ρ 29, ρ 26, ρ 14, ρ 24, ρ 25, ρ 9] (γ 2) 0 1 (γ 3) := hS20 _ _ _ _ _ (zAllA hl 1)
  have l2 : sn25 [ρ 28, ρ 33, 1, ρ 23, ρ 16] (γ 5) 0 0 (γ 6) := hS25 _ _ _ _ _ (zAllA hl 2)
  have l3 : zOpP (.ishl) (γ 0) (γ 1) [1, ρ 33] (ρ 37) := zAllA hl 3
  have l4 : zOpP (.ior) (γ 0) (γ 1) [ρ 18, ρ 37] (ρ 38) := zAllA hl 4
  have l5 : sn7 [ρ 30, ρ 3] (γ 6) 0 0 (γ 7) := hS7 _ _ _ _ _ (zAllA hl 5)
  have l6 : sn6 [ρ 39, ρ 3] (γ 7) 0 (-1) (γ 8) := hS6 _ _ _ _ _ (zAllA hl 6)
  show jn36 [ρ 0, ρ 1, ρ 2, ρ 3, ρ 4, ρ 5, ρ 6, ρ 7, ρ 8, ρ 9, ρ 10, ρ 11, ρ 12, ρ 13, ρ 14, ρ 15, ρ 16] (γ 0) 0 [ρ 0, ρ 1, ρ 2, ρ 3, ρ 4, ρ 5, ρ 6, ρ 7, ρ 8, ρ 9, ρ 10, ρ 11, ρ 12, ρ 13, ρ 14, ρ 15, ρ 16, 0, ρ 38, ρ 19 + 1, ρ 39, ρ 31, ρ 32, ρ 23 + 1, ρ 35, ρ 36, ρ 34, ρ 40] (γ 8)
  have hD : en36 (γ 0) (0, [ρ 0, ρ 1, ρ 17, ρ 18, ρ 19], γ 1) = .inl (0, [ρ 0, ρ 1, 0, ρ 38, ρ 19 + 1], γ 8) := by
    unfold en36
    refine zIP (show (0 : Nat) = 0 by decide) (zLV (γ 1) rfl (zLV (ρ 0) rfl (zLV (ρ 1) rfl (zLV (ρ 17) rfl (zLV (ρ 18) rfl (zLV (ρ 19) rfl (zLE m1 ?_)))))))
    refine zLE m5 (zLE m6 (zLE m7 (zLE m8 (zLE m11 (zLE m14 (zIN w_0 (zLE (show fn7 [] (γ 1) = (0, 0, γ 2) from l0.symm) ?_)))))))
    refine zLV (γ 2) rfl (zLE m24 (zIP w_1 (zLE (show fn20 [1] (γ 2) = (0, 1, γ 3) from l1.symm) (zLV (γ 3) rfl (zIP zQ1_ (zLE m29 (zLE m30 ?_)))))))
    refine zLE c4.symm (zLE c5.symm (zIN w_2 (zIN w_3 (zLE (show fn25 [ρ 28, ρ 33, 1] (γ 5) = (0, 0, γ 6) from l2.symm) (zLV (γ 6) rfl (zLE (zF2_ok l3) (zLE (zF2_ok l4) ?_)))))))
    refine zLE (show fn7 [] (γ 6) = (0, 0, γ 7) from l5.symm) (zLV (γ 7) rfl (zLE m35 (zLE (show fn6 [ρ 39] (γ 7) = (0, (-1), γ 8) from l6.symm) (zLV (γ 8) rfl (zIN w_4 ?_)))))
    rfl
  exact zGoo_ato hJ hD
theorem vn36a0_20 {S : Nat → zSpc} (hS6 : zIm S 6 sn6) (hS7 : zIm S 7 sn7) (hS8 : zIm S 8 sn8) (hS20 : zIm S 20 sn20) (hS21 : zIm S 21 sn21) (hS22 : zIm S 22 sn22) (hS24 : zIm S 24 sn24) (hS25 : zIm S 25 sn25) (hS33 : zIm S 33 sn33) {a : List Int} {g : rHp} : ∀ (ρ : Nat → Int) (γ : Nat → rHp), jn36 a g 0 (zAg (zNA a36_ 0) ρ) (γ 1) → zO 17 S a g q36a0_20 ρ γ → zGl (fun i vs g1 => jn36 a g i vs g1) (sn36 a g) q36a0_20 ρ γ := by
  intro ρ γ hJ h
  obtain ⟨ha, hg, hr, hf, hm, hc, hl⟩ := h
  have ha : a = [ρ 0, ρ 1, ρ 2, ρ 3, ρ 4, ρ 5, ρ 6, ρ 7, ρ 8, ρ 9, ρ 10, ρ 11, ρ 12, ρ 13, ρ 14, ρ 15, ρ 16] := ha
  subst ha
  subst hg
  have hJ : jn36 [ρ 0, ρ 1, ρ 2, ρ 3, ρ 4, ρ 5, ρ 6, ρ 7, ρ 8, ρ 9, ρ 10, ρ 11, ρ 12, ρ 13, ρ 14, ρ 15, ρ 16] (γ 0) 0 [ρ 0, ρ 1, ρ 2, ρ 3, ρ 4, ρ 5, ρ 6, ρ 7, ρ 8, ρ 9, ρ 10, ρ 11, ρ 12, ρ 13, ρ 14, ρ 15, ρ 16, ρ 17, ρ 18, ρ 19, ρ 20, ρ 21, ρ 22, ρ 23, ρ 24, ρ 25, ρ 26, ρ 27] (γ 1) := hJ
  have r17 : (1 : Int) ≤ ρ 17 ∧ ρ 17 ≤ 1 := zRnA hr 17
  have r19 : (4 : Int) ≤ ρ 19 ∧ ρ 19 ≤ 4 := zRnA hr 19
  obtain ⟨w_0, w_1⟩ : (¬ (ρ 17 = 0)) ∧ (¬ (ρ 19 ≠ 4)) := ⟨by omega, by omega⟩
  have m1 : γ 0 15 0 34 = ρ 3 := zAllA hm 1
  have m5 : γ 0 15 0 37 = ρ 7 := zAllA hm 5
  have m6 : γ 0 15 0 38 = ρ 8 := zAllA hm 6
  have m7 : γ 0 15 0 44 = ρ 9 := zAllA hm 7
  have m8 : γ 0 73 0 (ρ 9) = ρ 10 := zAllA hm 8
  have m11 : γ 0 15 0 14 = ρ 13 := zAllA hm 11
  have m14 : γ 0 15 0 45 = ρ 16 := zAllA hm 14
  have m24 : γ 2 15 0 35 = ρ 28 := zAllA hm 24
  have l0 : sn7 [ρ 20, ρ 3] (γ 1) 0 0 (γ 2) := hS7 _ _ _ _ _ (zAllA hl 0)
  have l1 : sn8 [ρ 28, ρ 3, ρ 14] (γ 2) 0 0 (γ 3) := hS8 _ _ _ _ _ (zAllA hl 1)
  show sn36 [ρ 0, ρ 1, ρ 2, ρ 3, ρ 4, ρ 5, ρ 6, ρ 7, ρ 8, ρ 9, ρ 10, ρ 11, ρ 12, ρ 13, ρ 14, ρ 15, ρ 16] (γ 0) 0 0 (γ 3)
  have hD : en36 (γ 0) (0, [ρ 0, ρ 1, ρ 17, ρ 18, ρ 19], γ 1) = .inr (0, 0, γ 3) := by
    unfold en36
    refine zIP (show (0 : Nat) = 0 by decide) (zLV (γ 1) rfl (zLV (ρ 0) rfl (zLV (ρ 1) rfl (zLV (ρ 17) rfl (zLV (ρ 18) rfl (zLV (ρ 19) rfl (zLE m1 ?_)))))))
    refine zLE m5 (zLE m6 (zLE m7 (zLE m8 (zLE m11 (zLE m14 (zIN w_0 (zLE (show fn7 [] (γ 1) = (0, 0, γ 2) from l0.symm) ?_)))))))
    refine zLV (γ 2) rfl (zLE m24 (zIN w_1 (zLE (show fn8 [ρ 28] (γ 2) = (0, 0, γ 3) from l1.symm) (zLV (γ 3) rfl ?_))))
    rfl
  exact zGoo_aend hJ hD
theorem yn36 {S : Nat → zSpc} (hS6 : zIm S 6 sn6) (hS7 : zIm S 7 sn7) (hS8 : zIm S 8 sn8) (hS20 : zIm S 20 sn20) (hS21 : zIm S 21 sn21) (hS22 : zIm S 22 sn22) (hS24 : zIm S 24 sn24) (hS25 : zIm S 25 sn25) (hS33 : zIm S 33 sn33) : ∀ x g o v gz, zSem uW uT w36_.2.2.2.1 w36_.2.2.1.1.length S q36 (fun i => q36a.getD i []) (zNA a36_) x g o v gz → sn36 x g o v gz := by
  intro a g o v gz h
  exact zSem_all (l0 := q36) (las := q36a) (S := S) (J := (fun i vs g1 => jn36 a g i vs g1)) (P := sn36 a g) (fun _ => (show zAll _ [q36_0] from (zAll_c (vn36_0 hS6 hS7 hS8 hS20 hS21 hS22 hS24 hS25 hS33) zAll_n))) (fun _ => (show zAllI _ 0 [q36a0] from ⟨(show zAll _ [q36a0_0, q36a0_1, q36a0_2, q36a0_3, q36a0_4, q36a0_5, q36a0_6, q36a0_7, q36a0_8, q36a0_9, q36a0_10, q36a0_11, q36a0_12, q36a0_13, q36a0_14, q36a0_15, q36a0_16, q36a0_17, q36a0_18, q36a0_19, q36a0_20] from (zAll_c (vn36a0_0 hS6 hS7 hS8 hS20 hS21 hS22 hS24 hS25 hS33) (zAll_c (vn36a0_1 hS6 hS7 hS8 hS20 hS21 hS22 hS24 hS25 hS33) (zAll_c (vn36a0_2 hS6 hS7 hS8 hS20 hS21 hS22 hS24 hS25 hS33) (zAll_c (vn36a0_3 hS6 hS7 hS8 hS20 hS21 hS22 hS24 hS25 hS33) (zAll_c (vn36a0_4 hS6 hS7 hS8 hS20 hS21 hS22 hS24 hS25 hS33) (zAll_c (vn36a0_5 hS6 hS7 hS8 hS20 hS21 hS22 hS24 hS25 hS33) (zAll_c (vn36a0_6 hS6 hS7 hS8 hS20 hS21 hS22 hS24 hS25 hS33) (zAll_c (vn36a0_7 hS6 hS7 hS8 hS20 hS21 hS22 hS24 hS25 hS33) (zAll_c (vn36a0_8 hS6 hS7 hS8 hS20 hS21 hS22 hS24 hS25 hS33) (zAll_c (vn36a0_9 hS6 hS7 hS8 hS20 hS21 hS22 hS24 hS25 hS33) (zAll_c (vn36a0_10 hS6 hS7 hS8 hS20 hS21 hS22 hS24 hS25 hS33) (zAll_c (vn36a0_11 hS6 hS7 hS8 hS20 hS21 hS22 hS24 hS25 hS33) (zAll_c (vn36a0_12 hS6 hS7 hS8 hS20 hS21 hS22 hS24 hS25 hS33) (zAll_c (vn36a0_13 hS6 hS7 hS8 hS20 hS21 hS22 hS24 hS25 hS33) (zAll_c (vn36a0_14 hS6 hS7 hS8 hS20 hS21 hS22 hS24 hS25 hS33) (zAll_c (vn36a0_15 hS6 hS7 hS8 hS20 hS21 hS22 hS24 hS25 hS33) (zAll_c (vn36a0_16 hS6 hS7 hS8 hS20 hS21 hS22 hS24 hS25 hS33) (zAll_c (vn36a0_17 hS6 hS7 hS8 hS20 hS21 hS22 hS24 hS25 hS33) (zAll_c (vn36a0_18 hS6 hS7 hS8 hS20 hS21 hS22 hS24 hS25 hS33) (zAll_c (vn36a0_19 hS6 hS7 hS8 hS20 hS21 hS22 hS24 hS25 hS33) (zAll_c (vn36a0_20 hS6 hS7 hS8 hS20 hS21 hS22 hS24 hS25 hS33) zAll_n)))))))))))))))))))))), trivial⟩)) h
