/-! ===== the runs are the functions ===== -/
theorem vn250_0 {S : Nat → zSpc} (hS225 : zIm S 225 sn225) (hS226 : zIm S 226 sn226) (hS227 : zIm S 227 sn227) (hS232 : zIm S 232 sn232) (hS249 : zIm S 249 sn249) {a : List Int} {g : rHp} : ∀ (ρ : Nat → Int) (γ : Nat → rHp), zO 35 S a g q250_0 ρ γ → zGl (fun i vs g1 => jn250 a g i vs g1) (sn250 a g) q250_0 ρ γ := by
  intro ρ γ h
  obtain ⟨ha, hg, hr, hf, hm, hc, hl⟩ := h
  have ha : a = [ρ 0, ρ 1, ρ 2, ρ 3, ρ 4, ρ 5, ρ 6, ρ 7, ρ 8, ρ 9, ρ 10, ρ 11, ρ 12, ρ 13, ρ 14, ρ 15, ρ 16, ρ 17, ρ 18, ρ 19, ρ 20, ρ 21, ρ 22, ρ 23, ρ 24, ρ 25, ρ 26, ρ 27, ρ 28, ρ 29, ρ 30, ρ 31, ρ 32, ρ 33, ρ 34] := ha
  subst ha
  subst hg
  have r9 : ((-2147483648) : Int) ≤ ρ 9 ∧ ρ 9 ≤ 1 := zRnA hr 9
  have w_0 : ρ 9 ≤ 1 := by omega
  have m4 : γ 0 6 0 7 = ρ 4 := zAllA hm 4
  have m9 : γ 0 6 0 10 = ρ 9 := zAllA hm 9
  have m11 : γ 0 6 0 12 = ρ 11 := zAllA hm 11
  have m12 : γ 0 6 0 13 = ρ 12 := zAllA hm 12
  have m14 : γ 0 9 (ρ 4) 3 = ρ 14 := zAllA hm 14
  have m22 : γ 0 10 (9 * ρ 4 + 6) 10 = ρ 22 := zAllA hm 22
  have l0 : sn226 [9 * ρ 4 + 6, 0, ρ 6, ρ 20, ρ 21] (γ 0) 0 (ρ 35) (γ 1) := hS226 _ _ _ _ _ (zAllA hl 0)
  show jn250 [ρ 0, ρ 1, ρ 2, ρ 3, ρ 4, ρ 5, ρ 6, ρ 7, ρ 8, ρ 9, ρ 10, ρ 11, ρ 12, ρ 13, ρ 14, ρ 15, ρ 16, ρ 17, ρ 18, ρ 19, ρ 20, ρ 21, ρ 22, ρ 23, ρ 24, ρ 25, ρ 26, ρ 27, ρ 28, ρ 29, ρ 30, ρ 31, ρ 32, ρ 33, ρ 34] (γ 0) 0 [ρ 0, ρ 1, ρ 2, ρ 3, ρ 4, ρ 5, ρ 6, ρ 7, ρ 8, ρ 9, ρ 10, ρ 11, ρ 12, ρ 13, ρ 14, ρ 15, ρ 16, ρ 17, ρ 18, ρ 19, ρ 20, ρ 21, ρ 22, ρ 23, ρ 24, ρ 25, ρ 26, ρ 27, ρ 28, ρ 29, ρ 30, ρ 31, ρ 32, ρ 33, ρ 34, 0, ρ 35, 0, 0, ρ 0, ρ 3, ρ 6, ρ 7, ρ 12] (γ 1)
  have hD : dn250 [] (γ 0) = .inl (0, [0, ρ 35, 0, 0], γ 1) := by
    unfold dn250
    refine zLE m4 (zLE m9 (zLE m11 (zLE m12 (zLE m14 (zLE m22 (zIP w_0 (zLE (show fn226 [9 * ρ 4 + 6, 0] (γ 0) = (0, ρ 35, γ 1) from l0.symm) ?_)))))))
    refine zLV (γ 1) rfl (zLV (ρ 35) rfl ?_)
    rfl
  exact zGoo_to hD
theorem vn250_1 {S : Nat → zSpc} (hS225 : zIm S 225 sn225) (hS226 : zIm S 226 sn226) (hS227 : zIm S 227 sn227) (hS232 : zIm S 232 sn232) (hS249 : zIm S 249 sn249) {a : List Int} {g : rHp} : ∀ (ρ : Nat → Int) (γ : Nat → rHp), zO 35 S a g q250_1 ρ γ → zGl (fun i vs g1 => jn250 a g i vs g1) (sn250 a g) q250_1 ρ γ := by
  intro ρ γ h
  obtain ⟨ha, hg, hr, hf, hm, hc, hl⟩ := h
  have ha : a = [ρ 0, ρ 1, ρ 2, ρ 3, ρ 4, ρ 5, ρ 6, ρ 7, ρ 8, ρ 9, ρ 10, ρ 11, ρ 12, ρ 13, ρ 14, ρ 15, ρ 16, ρ 17, ρ 18, ρ 19, ρ 20, ρ 21, ρ 22, ρ 23, ρ 24, ρ 25, ρ 26, ρ 27, ρ 28, ρ 29, ρ 30, ρ 31, ρ 32, ρ 33, ρ 34] := ha
  subst ha
  subst hg
  have r9 : (2 : Int) ≤ ρ 9 ∧ ρ 9 ≤ 2147483647 := zRnA hr 9
  have r12 : ((-2147483648) : Int) ≤ ρ 12 ∧ ρ 12 ≤ 2147483647 := zRnA hr 12
  have w_0 : ¬ (ρ 9 ≤ 1) := by omega
  have m4 : γ 0 6 0 7 = ρ 4 := zAllA hm 4
  have m9 : γ 0 6 0 10 = ρ 9 := zAllA hm 9
  have m11 : γ 0 6 0 12 = ρ 11 := zAllA hm 11
  have m12 : γ 0 6 0 13 = ρ 12 := zAllA hm 12
  have m14 : γ 0 9 (ρ 4) 3 = ρ 14 := zAllA hm 14
  have m22 : γ 0 10 (9 * ρ 4 + 6) 10 = ρ 22 := zAllA hm 22
  have l0 : ρ 12 ≠ 0 := zAllA hl 0
  have l1 : sn226 [9 * ρ 4 + 6, 0, ρ 6, ρ 20, ρ 21] (γ 0) 0 (ρ 35) (γ 1) := hS226 _ _ _ _ _ (zAllA hl 1)
  have wl_0 : ρ 12 ≠ 0 := by omega
  show jn250 [ρ 0, ρ 1, ρ 2, ρ 3, ρ 4, ρ 5, ρ 6, ρ 7, ρ 8, ρ 9, ρ 10, ρ 11, ρ 12, ρ 13, ρ 14, ρ 15, ρ 16, ρ 17, ρ 18, ρ 19, ρ 20, ρ 21, ρ 22, ρ 23, ρ 24, ρ 25, ρ 26, ρ 27, ρ 28, ρ 29, ρ 30, ρ 31, ρ 32, ρ 33, ρ 34] (γ 0) 0 [ρ 0, ρ 1, ρ 2, ρ 3, ρ 4, ρ 5, ρ 6, ρ 7, ρ 8, ρ 9, ρ 10, ρ 11, ρ 12, ρ 13, ρ 14, ρ 15, ρ 16, ρ 17, ρ 18, ρ 19, ρ 20, ρ 21, ρ 22, ρ 23, ρ 24, ρ 25, ρ 26, ρ 27, ρ 28, ρ 29, ρ 30, ρ 31, ρ 32, ρ 33, ρ 34, 0, ρ 35, 0, 0, ρ 0, ρ 3, ρ 6, ρ 7, ρ 12] (γ 1)
  have hD : dn250 [] (γ 0) = .inl (0, [0, ρ 35, 0, 0], γ 1) := by
    unfold dn250
    refine zLE m4 (zLE m9 (zLE m11 (zLE m12 (zLE m14 (zLE m22 (zIN w_0 (zIP wl_0 ?_)))))))
    refine zLE (show fn226 [9 * ρ 4 + 6, 0] (γ 0) = (0, ρ 35, γ 1) from l1.symm) (zLV (γ 1) rfl (zLV (ρ 35) rfl ?_))
    rfl
  exact zGoo_to hD
theorem vn250_2 {S : Nat → zSpc} (hS225 : zIm S 225 sn225) (hS226 : zIm S 226 sn226) (hS227 : zIm S 227 sn227) (hS232 : zIm S 232 sn232) (hS249 : zIm S 249 sn249) {a : List Int} {g : rHp} : ∀ (ρ : Nat → Int) (γ : Nat → rHp), zO 35 S a g q250_2 ρ γ → zGl (fun i vs g1 => jn250 a g i vs g1) (sn250 a g) q250_2 ρ γ := by
  intro ρ γ h
  obtain ⟨ha, hg, hr, hf, hm, hc, hl⟩ := h
  have ha : a = [ρ 0, ρ 1, ρ 2, ρ 3, ρ 4, ρ 5, ρ 6, ρ 7, ρ 8, ρ 9, ρ 10, ρ 11, ρ 12, ρ 13, ρ 14, ρ 15, ρ 16, ρ 17, ρ 18, ρ 19, ρ 20, ρ 21, ρ 22, ρ 23, ρ 24, ρ 25, ρ 26, ρ 27, ρ 28, ρ 29, ρ 30, ρ 31, ρ 32, ρ 33, ρ 34] := ha
  subst ha
  subst hg
  have r9 : (2 : Int) ≤ ρ 9 ∧ ρ 9 ≤ 2147483647 := zRnA hr 9
  have r12 : (0 : Int) ≤ ρ 12 ∧ ρ 12 ≤ 0 := zRnA hr 12
  have r14 : (0 : Int) ≤ ρ 14 ∧ ρ 14 ≤ 8 := zRnA hr 14
  have r22 : (0 : Int) ≤ ρ 22 ∧ ρ 22 ≤ 7 := zRnA hr 22
  obtain ⟨w_0, w_1⟩ : (¬ (ρ 9 ≤ 1)) ∧ (¬ (ρ 12 ≠ 0)) := ⟨by omega, by omega⟩
  have m4 : γ 0 6 0 7 = ρ 4 := zAllA hm 4
  have m9 : γ 0 6 0 10 = ρ 9 := zAllA hm 9
  have m11 : γ 0 6 0 12 = ρ 11 := zAllA hm 11
  have m12 : γ 0 6 0 13 = ρ 12 := zAllA hm 12
  have m14 : γ 0 9 (ρ 4) 3 = ρ 14 := zAllA hm 14
  have m22 : γ 0 10 (9 * ρ 4 + 6) 10 = ρ 22 := zAllA hm 22
  have l0 : ρ 22 ≠ ρ 14 + (-1) := zAllA hl 0
  have l1 : sn226 [9 * ρ 4 + 6, 0, ρ 6, ρ 20, ρ 21] (γ 0) 0 (ρ 35) (γ 1) := hS226 _ _ _ _ _ (zAllA hl 1)
  have wl_0 : ρ 22 ≠ ρ 14 + (-1) := by omega
  show jn250 [ρ 0, ρ 1, ρ 2, ρ 3, ρ 4, ρ 5, ρ 6, ρ 7, ρ 8, ρ 9, ρ 10, ρ 11, ρ 12, ρ 13, ρ 14, ρ 15, ρ 16, ρ 17, ρ 18, ρ 19, ρ 20, ρ 21, ρ 22, ρ 23, ρ 24, ρ 25, ρ 26, ρ 27, ρ 28, ρ 29, ρ 30, ρ 31, ρ 32, ρ 33, ρ 34] (γ 0) 0 [ρ 0, ρ 1, ρ 2, ρ 3, ρ 4, ρ 5, ρ 6, ρ 7, ρ 8, ρ 9, ρ 10, ρ 11, ρ 12, ρ 13, ρ 14, ρ 15, ρ 16, ρ 17, ρ 18, ρ 19, ρ 20, ρ 21, ρ 22, ρ 23, ρ 24, ρ 25, ρ 26, ρ 27, ρ 28, ρ 29, ρ 30, ρ 31, ρ 32, ρ 33, ρ 34, 0, ρ 35, 0, 0, ρ 0, ρ 3, ρ 6, ρ 7, ρ 12] (γ 1)
  have hD : dn250 [] (γ 0) = .inl (0, [0, ρ 35, 0, 0], γ 1) := by
    unfold dn250
    refine zLE m4 (zLE m9 (zLE m11 (zLE m12 (zLE m14 (zLE m22 (zIN w_0 (zIN w_1 ?_)))))))
    refine zIP wl_0 (zLE (show fn226 [9 * ρ 4 + 6, 0] (γ 0) = (0, ρ 35, γ 1) from l1.symm) (zLV (γ 1) rfl (zLV (ρ 35) rfl ?_)))
    rfl
  exact zGoo_to hD
theorem vn250_3 {S : Nat → zSpc} (hS225 : zIm S 225 sn225) (hS226 : zIm S 226 sn226) (hS227 : zIm S 227 sn227) (hS232 : zIm S 232 sn232) (hS249 : zIm S 249 sn249) {a : List Int} {g : rHp} : ∀ (ρ : Nat → Int) (γ : Nat → rHp), zO 35 S a g q250_3 ρ γ → zGl (fun i vs g1 => jn250 a g i vs g1) (sn250 a g) q250_3 ρ γ := by
  intro ρ γ h
  obtain ⟨ha, hg, hr, hf, hm, hc, hl⟩ := h
  have ha : a = [ρ 0, ρ 1, ρ 2, ρ 3, ρ 4, ρ 5, ρ 6, ρ 7, ρ 8, ρ 9, ρ 10, ρ 11, ρ 12, ρ 13, ρ 14, ρ 15, ρ 16, ρ 17, ρ 18, ρ 19, ρ 20, ρ 21, ρ 22, ρ 23, ρ 24, ρ 25, ρ 26, ρ 27, ρ 28, ρ 29, ρ 30, ρ 31, ρ 32, ρ 33, ρ 34] := ha
  subst ha
  subst hg
  have r9 : (2 : Int) ≤ ρ 9 ∧ ρ 9 ≤ 2147483647 := zRnA hr 9
  have r12 : (0 : Int) ≤ ρ 12 ∧ ρ 12 ≤ 0 := zRnA hr 12
  have f0 : (0 : Int) ≤ -ρ 22 + ρ 14 + (-1) := zAllA hf 0
  have f1 : (0 : Int) ≤ ρ 22 + -ρ 14 + 1 := zAllA hf 1
  obtain ⟨w_0, w_1, w_2⟩ : (¬ (ρ 9 ≤ 1)) ∧ (¬ (ρ 12 ≠ 0)) ∧ (¬ (ρ 22 ≠ ρ 14 + (-1))) := ⟨by omega, by omega, by omega⟩
  have m4 : γ 0 6 0 7 = ρ 4 := zAllA hm 4
  have m9 : γ 0 6 0 10 = ρ 9 := zAllA hm 9
  have m11 : γ 0 6 0 12 = ρ 11 := zAllA hm 11
  have m12 : γ 0 6 0 13 = ρ 12 := zAllA hm 12
  have m14 : γ 0 9 (ρ 4) 3 = ρ 14 := zAllA hm 14
  have m22 : γ 0 10 (9 * ρ 4 + 6) 10 = ρ 22 := zAllA hm 22
  have l0 : sn226 [9 * ρ 4 + 6, ρ 11, ρ 6, ρ 20, ρ 21] (γ 0) 0 (ρ 35) (γ 1) := hS226 _ _ _ _ _ (zAllA hl 0)
  show jn250 [ρ 0, ρ 1, ρ 2, ρ 3, ρ 4, ρ 5, ρ 6, ρ 7, ρ 8, ρ 9, ρ 10, ρ 11, ρ 12, ρ 13, ρ 14, ρ 15, ρ 16, ρ 17, ρ 18, ρ 19, ρ 20, ρ 21, ρ 22, ρ 23, ρ 24, ρ 25, ρ 26, ρ 27, ρ 28, ρ 29, ρ 30, ρ 31, ρ 32, ρ 33, ρ 34] (γ 0) 0 [ρ 0, ρ 1, ρ 2, ρ 3, ρ 4, ρ 5, ρ 6, ρ 7, ρ 8, ρ 9, ρ 10, ρ 11, ρ 12, ρ 13, ρ 14, ρ 15, ρ 16, ρ 17, ρ 18, ρ 19, ρ 20, ρ 21, ρ 22, ρ 23, ρ 24, ρ 25, ρ 26, ρ 27, ρ 28, ρ 29, ρ 30, ρ 31, ρ 32, ρ 33, ρ 34, 0, ρ 35, ρ 11, 1, ρ 0, ρ 3, ρ 6, ρ 7, ρ 12] (γ 1)
  have hD : dn250 [] (γ 0) = .inl (0, [0, ρ 35, ρ 11, 1], γ 1) := by
    unfold dn250
    refine zLE m4 (zLE m9 (zLE m11 (zLE m12 (zLE m14 (zLE m22 (zIN w_0 (zIN w_1 ?_)))))))
    refine zIN w_2 (zLE (show fn226 [9 * ρ 4 + 6, ρ 11] (γ 0) = (0, ρ 35, γ 1) from l0.symm) (zLV (γ 1) rfl (zLV (ρ 35) rfl ?_)))
    rfl
  exact zGoo_to hD
theorem vn250a0_0 {S : Nat → zSpc} (hS225 : zIm S 225 sn225) (hS226 : zIm S 226 sn226) (hS227 : zIm S 227 sn227) (hS232 : zIm S 232 sn232) (hS249 : zIm S 249 sn249) {a : List Int} {g : rHp} : ∀ (ρ : Nat → Int) (γ : Nat → rHp), jn250 a g 0 (zAg (zNA a250_ 0) ρ) (γ 1) → zO 35 S a g q250a0_0 ρ γ → zGl (fun i vs g1 => jn250 a g i vs g1) (sn250 a g) q250a0_0 ρ γ := by
  intro ρ γ hJ h
  obtain ⟨ha, hg, hr, hf, hm, hc, hl⟩ := h
  have ha : a = [ρ 0, ρ 1, ρ 2, ρ 3, ρ 4, ρ 5, ρ 6, ρ 7, ρ 8, ρ 9, ρ 10, ρ 11, ρ 12, ρ 13, ρ 14, ρ 15, ρ 16, ρ 17, ρ 18, ρ 19, ρ 20, ρ 21, ρ 22, ρ 23, ρ 24, ρ 25, ρ 26, ρ 27, ρ 28, ρ 29, ρ 30, ρ 31, ρ 32, ρ 33, ρ 34] := ha
  subst ha
  subst hg
  have hJ : jn250 [ρ 0, ρ 1, ρ 2, ρ 3, ρ 4, ρ 5, ρ 6, ρ 7, ρ 8, ρ 9, ρ 10, ρ 11, ρ 12, ρ 13, ρ 14, ρ 15, ρ 16, ρ 17, ρ 18, ρ 19, ρ 20, ρ 21, ρ 22, ρ 23, ρ 24, ρ 25, ρ 26, ρ 27, ρ 28, ρ 29, ρ 30, ρ 31, ρ 32, ρ 33, ρ 34] (γ 0) 0 [ρ 0, ρ 1, ρ 2, ρ 3, ρ 4, ρ 5, ρ 6, ρ 7, ρ 8, ρ 9, ρ 10, ρ 11, ρ 12, ρ 13, ρ 14, ρ 15, ρ 16, ρ 17, ρ 18, ρ 19, ρ 20, ρ 21, ρ 22, ρ 23, ρ 24, ρ 25, ρ 26, ρ 27, ρ 28, ρ 29, ρ 30, ρ 31, ρ 32, ρ 33, ρ 34, ρ 35, ρ 36, ρ 37, ρ 38, ρ 39, ρ 40, ρ 41, ρ 42, ρ 43] (γ 1) := hJ
  have r36 : ((-1) : Int) ≤ ρ 36 ∧ ρ 36 ≤ (-1) := zRnA hr 36
  have w_0 : ρ 36 < 0 := by omega
  have m4 : γ 0 6 0 7 = ρ 4 := zAllA hm 4
  have m10 : γ 0 6 0 11 = ρ 10 := zAllA hm 10
  have m11 : γ 0 6 0 12 = ρ 11 := zAllA hm 11
  have m39 : γ 1 6 0 13 = ρ 43 := zAllA hm 39
  show sn250 [ρ 0, ρ 1, ρ 2, ρ 3, ρ 4, ρ 5, ρ 6, ρ 7, ρ 8, ρ 9, ρ 10, ρ 11, ρ 12, ρ 13, ρ 14, ρ 15, ρ 16, ρ 17, ρ 18, ρ 19, ρ 20, ρ 21, ρ 22, ρ 23, ρ 24, ρ 25, ρ 26, ρ 27, ρ 28, ρ 29, ρ 30, ρ 31, ρ 32, ρ 33, ρ 34] (γ 0) 0 0 (γ 1)
  have hD : en250 (γ 0) (0, [ρ 35, ρ 36, ρ 37, ρ 38], γ 1) = .inr (0, 0, γ 1) := by
    unfold en250
    refine zIP (show (0 : Nat) = 0 by decide) (zLV (γ 1) rfl (zLV (ρ 35) rfl (zLV (ρ 36) rfl (zLV (ρ 37) rfl (zLV (ρ 38) rfl (zLE m4 (zLE m10 ?_)))))))
    refine zLE m11 (zLE m39 (zIP w_0 ?_))
    rfl
  exact zGoo_aend hJ hD
theorem vn250a0_1 {S : Nat → zSpc} (hS225 : zIm S 225 sn225) (hS226 : zIm S 226 sn226) (hS227 : zIm S 227 sn227) (hS232 : zIm S 232 sn232) (hS249 : zIm S 249 sn249) {a : List Int} {g : rHp} : ∀ (ρ : Nat → Int) (γ : Nat → rHp), jn250 a g 0 (zAg (zNA a250_ 0) ρ) (γ 1) → zO 35 S a g q250a0_1 ρ γ → zGl (fun i vs g1 => jn250 a g i vs g1) (sn250 a g) q250a0_1 ρ γ := by
  intro ρ γ hJ h
  obtain ⟨ha, hg, hr, hf, hm, hc, hl⟩ := h
  have ha : a = [ρ 0, ρ 1, ρ 2, ρ 3, ρ 4, ρ 5, ρ 6, ρ 7, ρ 8, ρ 9, ρ 10, ρ 11, ρ 12, ρ 13, ρ 14, ρ 15, ρ 16, ρ 17, ρ 18, ρ 19, ρ 20, ρ 21, ρ 22, ρ 23, ρ 24, ρ 25, ρ 26, ρ 27, ρ 28, ρ 29, ρ 30, ρ 31, ρ 32, ρ 33, ρ 34] := ha
  subst ha
  subst hg
  have hJ : jn250 [ρ 0, ρ 1, ρ 2, ρ 3, ρ 4, ρ 5, ρ 6, ρ 7, ρ 8, ρ 9, ρ 10, ρ 11, ρ 12, ρ 13, ρ 14, ρ 15, ρ 16, ρ 17, ρ 18, ρ 19, ρ 20, ρ 21, ρ 22, ρ 23, ρ 24, ρ 25, ρ 26, ρ 27, ρ 28, ρ 29, ρ 30, ρ 31, ρ 32, ρ 33, ρ 34] (γ 0) 0 [ρ 0, ρ 1, ρ 2, ρ 3, ρ 4, ρ 5, ρ 6, ρ 7, ρ 8, ρ 9, ρ 10, ρ 11, ρ 12, ρ 13, ρ 14, ρ 15, ρ 16, ρ 17, ρ 18, ρ 19, ρ 20, ρ 21, ρ 22, ρ 23, ρ 24, ρ 25, ρ 26, ρ 27, ρ 28, ρ 29, ρ 30, ρ 31, ρ 32, ρ 33, ρ 34, ρ 35, ρ 36, ρ 37, ρ 38, ρ 39, ρ 40, ρ 41, ρ 42, ρ 43] (γ 1) := hJ
  have r36 : (0 : Int) ≤ ρ 36 ∧ ρ 36 ≤ 2000 := zRnA hr 36
  have f0 : (0 : Int) ≤ ρ 36 + -ρ 10 := zAllA hf 0
  obtain ⟨w_0, w_1⟩ : (¬ (ρ 36 < 0)) ∧ (ρ 36 ≥ ρ 10) := ⟨by omega, by omega⟩
  have m4 : γ 0 6 0 7 = ρ 4 := zAllA hm 4
  have m10 : γ 0 6 0 11 = ρ 10 := zAllA hm 10
  have m11 : γ 0 6 0 12 = ρ 11 := zAllA hm 11
  have m39 : γ 1 6 0 13 = ρ 43 := zAllA hm 39
  show sn250 [ρ 0, ρ 1, ρ 2, ρ 3, ρ 4, ρ 5, ρ 6, ρ 7, ρ 8, ρ 9, ρ 10, ρ 11, ρ 12, ρ 13, ρ 14, ρ 15, ρ 16, ρ 17, ρ 18, ρ 19, ρ 20, ρ 21, ρ 22, ρ 23, ρ 24, ρ 25, ρ 26, ρ 27, ρ 28, ρ 29, ρ 30, ρ 31, ρ 32, ρ 33, ρ 34] (γ 0) 0 0 (γ 1)
  have hD : en250 (γ 0) (0, [ρ 35, ρ 36, ρ 37, ρ 38], γ 1) = .inr (0, 0, γ 1) := by
    unfold en250
    refine zIP (show (0 : Nat) = 0 by decide) (zLV (γ 1) rfl (zLV (ρ 35) rfl (zLV (ρ 36) rfl (zLV (ρ 37) rfl (zLV (ρ 38) rfl (zLE m4 (zLE m10 ?_)))))))
    refine zLE m11 (zLE m39 (zIN w_0 (zIP w_1 ?_)))
    rfl
  exact zGoo_aend hJ hD
theorem vn250a0_2 {S : Nat → zSpc} (hS225 : zIm S 225 sn225) (hS226 : zIm S 226 sn226) (hS227 : zIm S 227 sn227) (hS232 : zIm S 232 sn232) (hS249 : zIm S 249 sn249) {a : List Int} {g : rHp} : ∀ (ρ : Nat → Int) (γ : Nat → rHp), jn250 a g 0 (zAg (zNA a250_ 0) ρ) (γ 1) → zO 35 S a g q250a0_2 ρ γ → zGl (fun i vs g1 => jn250 a g i vs g1) (sn250 a g) q250a0_2 ρ γ := by
  intro ρ γ hJ h
  obtain ⟨ha, hg, hr, hf, hm, hc, hl⟩ := h
  have ha : a = [ρ 0, ρ 1, ρ 2, ρ 3, ρ 4, ρ 5, ρ 6, ρ 7, ρ 8, ρ 9, ρ 10, ρ 11, ρ 12, ρ 13, ρ 14, ρ 15, ρ 16, ρ 17, ρ 18, ρ 19, ρ 20, ρ 21, ρ 22, ρ 23, ρ 24, ρ 25, ρ 26, ρ 27, ρ 28, ρ 29, ρ 30, ρ 31, ρ 32, ρ 33, ρ 34] := ha
  subst ha
  subst hg
  have hJ : jn250 [ρ 0, ρ 1, ρ 2, ρ 3, ρ 4, ρ 5, ρ 6, ρ 7, ρ 8, ρ 9, ρ 10, ρ 11, ρ 12, ρ 13, ρ 14, ρ 15, ρ 16, ρ 17, ρ 18, ρ 19, ρ 20, ρ 21, ρ 22, ρ 23, ρ 24, ρ 25, ρ 26, ρ 27, ρ 28, ρ 29, ρ 30, ρ 31, ρ 32, ρ 33, ρ 34] (γ 0) 0 [ρ 0, ρ 1, ρ 2, ρ 3, ρ 4, ρ 5, ρ 6, ρ 7, ρ 8, ρ 9, ρ 10, ρ 11, ρ 12, ρ 13, ρ 14, ρ 15, ρ 16, ρ 17, ρ 18, ρ 19, ρ 20, ρ 21, ρ 22, ρ 23, ρ 24, ρ 25, ρ 26, ρ 27, ρ 28, ρ 29, ρ 30, ρ 31, ρ 32, ρ 33, ρ 34, ρ 35, ρ 36, ρ 37, ρ 38, ρ 39, ρ 40, ρ 41, ρ 42, ρ 43] (γ 1) := hJ
  have r35 : (2000 : Int) ≤ ρ 35 ∧ ρ 35 ≤ 2000 := zRnA hr 35
  have r36 : (0 : Int) ≤ ρ 36 ∧ ρ 36 ≤ 2000 := zRnA hr 36
  have f0 : (0 : Int) ≤ -ρ 36 + ρ 10 + (-1) := zAllA hf 0
  obtain ⟨w_0, w_1, w_2⟩ : (¬ (ρ 36 < 0)) ∧ (¬ (ρ 36 ≥ ρ 10)) ∧ (ρ 35 ≥ 2000) := ⟨by omega, by omega, by omega⟩
  have m4 : γ 0 6 0 7 = ρ 4 := zAllA hm 4
  have m10 : γ 0 6 0 11 = ρ 10 := zAllA hm 10
  have m11 : γ 0 6 0 12 = ρ 11 := zAllA hm 11
  have m39 : γ 1 6 0 13 = ρ 43 := zAllA hm 39
  show sn250 [ρ 0, ρ 1, ρ 2, ρ 3, ρ 4, ρ 5, ρ 6, ρ 7, ρ 8, ρ 9, ρ 10, ρ 11, ρ 12, ρ 13, ρ 14, ρ 15, ρ 16, ρ 17, ρ 18, ρ 19, ρ 20, ρ 21, ρ 22, ρ 23, ρ 24, ρ 25, ρ 26, ρ 27, ρ 28, ρ 29, ρ 30, ρ 31, ρ 32, ρ 33, ρ 34] (γ 0) 0 0 (γ 1)
  have hD : en250 (γ 0) (0, [ρ 35, ρ 36, ρ 37, ρ 38], γ 1) = .inr (0, 0, γ 1) := by
    unfold en250
    refine zIP (show (0 : Nat) = 0 by decide) (zLV (γ 1) rfl (zLV (ρ 35) rfl (zLV (ρ 36) rfl (zLV (ρ 37) rfl (zLV (ρ 38) rfl (zLE m4 (zLE m10 ?_)))))))
    refine zLE m11 (zLE m39 (zIN w_0 (zIN w_1 (zIP w_2 ?_))))
    rfl
  exact zGoo_aend hJ hD
theorem vn250a0_3 {S : Nat → zSpc} (hS225 : zIm S 225 sn225) (hS226 : zIm S 226 sn226) (hS227 : zIm S 227 sn227) (hS232 : zIm S 232 sn232) (hS249 : zIm S 249 sn249) {a : List Int} {g : rHp} : ∀ (ρ : Nat → Int) (γ : Nat → rHp), jn250 a g 0 (zAg (zNA a250_ 0) ρ) (γ 1) → zO 35 S a g q250a0_3 ρ γ → zGl (fun i vs g1 => jn250 a g i vs g1) (sn250 a g) q250a0_3 ρ γ := by
  intro ρ γ hJ h
  obtain ⟨ha, hg, hr, hf, hm, hc, hl⟩ := h
  have ha : a = [ρ 0, ρ 1, ρ 2, ρ 3, ρ 4, ρ 5, ρ 6, ρ 7, ρ 8, ρ 9, ρ 10, ρ 11, ρ 12, ρ 13, ρ 14, ρ 15, ρ 16, ρ 17, ρ 18, ρ 19, ρ 20, ρ 21, ρ 22, ρ 23, ρ 24, ρ 25, ρ 26, ρ 27, ρ 28, ρ 29, ρ 30, ρ 31, ρ 32, ρ 33, ρ 34] := ha
  subst ha
  subst hg
  have hJ : jn250 [ρ 0, ρ 1, ρ 2, ρ 3, ρ 4, ρ 5, ρ 6, ρ 7, ρ 8, ρ 9, ρ 10, ρ 11, ρ 12, ρ 13, ρ 14, ρ 15, ρ 16, ρ 17, ρ 18, ρ 19, ρ 20, ρ 21, ρ 22, ρ 23, ρ 24, ρ 25, ρ 26, ρ 27, ρ 28, ρ 29, ρ 30, ρ 31, ρ 32, ρ 33, ρ 34] (γ 0) 0 [ρ 0, ρ 1, ρ 2, ρ 3, ρ 4, ρ 5, ρ 6, ρ 7, ρ 8, ρ 9, ρ 10, ρ 11, ρ 12, ρ 13, ρ 14, ρ 15, ρ 16, ρ 17, ρ 18, ρ 19, ρ 20, ρ 21, ρ 22, ρ 23, ρ 24, ρ 25, ρ 26, ρ 27, ρ 28, ρ 29, ρ 30, ρ 31, ρ 32, ρ 33, ρ 34, ρ 35, ρ 36, ρ 37, ρ 38, ρ 39, ρ 40, ρ 41, ρ 42, ρ 43] (γ 1) := hJ
  have r35 : (0 : Int) ≤ ρ 35 ∧ ρ 35 ≤ 1999 := zRnA hr 35
  have r36 : (0 : Int) ≤ ρ 36 ∧ ρ 36 ≤ 2000 := zRnA hr 36
  have f0 : (0 : Int) ≤ ρ 37 + -ρ 36 + (-1) := zAllA hf 0
  have f1 : (0 : Int) ≤ -ρ 36 + ρ 10 + (-1) := zAllA hf 1
  obtain ⟨w_0, w_1, w_2, w_3⟩ : (¬ (ρ 36 < 0)) ∧ (¬ (ρ 36 ≥ ρ 10)) ∧ (¬ (ρ 35 ≥ 2000)) ∧ (ρ 36 < ρ 37) := ⟨by omega, by omega, by omega, by omega⟩
  have m4 : γ 0 6 0 7 = ρ 4 := zAllA hm 4
  have m10 : γ 0 6 0 11 = ρ 10 := zAllA hm 10
  have m11 : γ 0 6 0 12 = ρ 11 := zAllA hm 11
  have m39 : γ 1 6 0 13 = ρ 43 := zAllA hm 39
  have l0 : sn227 [9 * ρ 4 + 6, ρ 36, ρ 21] (γ 1) 0 (ρ 44) (γ 2) := hS227 _ _ _ _ _ (zAllA hl 0)
  show jn250 [ρ 0, ρ 1, ρ 2, ρ 3, ρ 4, ρ 5, ρ 6, ρ 7, ρ 8, ρ 9, ρ 10, ρ 11, ρ 12, ρ 13, ρ 14, ρ 15, ρ 16, ρ 17, ρ 18, ρ 19, ρ 20, ρ 21, ρ 22, ρ 23, ρ 24, ρ 25, ρ 26, ρ 27, ρ 28, ρ 29, ρ 30, ρ 31, ρ 32, ρ 33, ρ 34] (γ 0) 0 [ρ 0, ρ 1, ρ 2, ρ 3, ρ 4, ρ 5, ρ 6, ρ 7, ρ 8, ρ 9, ρ 10, ρ 11, ρ 12, ρ 13, ρ 14, ρ 15, ρ 16, ρ 17, ρ 18, ρ 19, ρ 20, ρ 21, ρ 22, ρ 23, ρ 24, ρ 25, ρ 26, ρ 27, ρ 28, ρ 29, ρ 30, ρ 31, ρ 32, ρ 33, ρ 34, ρ 35 + 1, ρ 44, ρ 37, ρ 38, ρ 39, ρ 40, ρ 41, ρ 42, ρ 43] (γ 2)
  have hD : en250 (γ 0) (0, [ρ 35, ρ 36, ρ 37, ρ 38], γ 1) = .inl (0, [ρ 35 + 1, ρ 44, ρ 37, ρ 38], γ 2) := by
    unfold en250
    refine zIP (show (0 : Nat) = 0 by decide) (zLV (γ 1) rfl (zLV (ρ 35) rfl (zLV (ρ 36) rfl (zLV (ρ 37) rfl (zLV (ρ 38) rfl (zLE m4 (zLE m10 ?_)))))))
    refine zLE m11 (zLE m39 (zIN w_0 (zIN w_1 (zIN w_2 (zIP w_3 (zLE (show fn227 [9 * ρ 4 + 6, ρ 36] (γ 1) = (0, ρ 44, γ 2) from l0.symm) (zLV (γ 2) rfl ?_)))))))
    refine zLV (ρ 44) rfl ?_
    rfl
  exact zGoo_ato hJ hD
theorem vn250a0_4 {S : Nat → zSpc} (hS225 : zIm S 225 sn225) (hS226 : zIm S 226 sn226) (hS227 : zIm S 227 sn227) (hS232 : zIm S 232 sn232) (hS249 : zIm S 249 sn249) {a : List Int} {g : rHp} : ∀ (ρ : Nat → Int) (γ : Nat → rHp), jn250 a g 0 (zAg (zNA a250_ 0) ρ) (γ 1) → zO 35 S a g q250a0_4 ρ γ → zGl (fun i vs g1 => jn250 a g i vs g1) (sn250 a g) q250a0_4 ρ γ := by
  intro ρ γ hJ h
  obtain ⟨ha, hg, hr, hf, hm, hc, hl⟩ := h
  have ha : a = [ρ 0, ρ 1, ρ 2, ρ 3, ρ 4, ρ 5, ρ 6, ρ 7, ρ 8, ρ 9, ρ 10, ρ 11, ρ 12, ρ 13, ρ 14, ρ 15, ρ 16, ρ 17, ρ 18, ρ 19, ρ 20, ρ 21, ρ 22, ρ 23, ρ 24, ρ 25, ρ 26, ρ 27, ρ 28, ρ 29, ρ 30, ρ 31, ρ 32, ρ 33, ρ 34] := ha
  subst ha
  subst hg
  have hJ : jn250 [ρ 0, ρ 1, ρ 2, ρ 3, ρ 4, ρ 5, ρ 6, ρ 7, ρ 8, ρ 9, ρ 10, ρ 11, ρ 12, ρ 13, ρ 14, ρ 15, ρ 16, ρ 17, ρ 18, ρ 19, ρ 20, ρ 21, ρ 22, ρ 23, ρ 24, ρ 25, ρ 26, ρ 27, ρ 28, ρ 29, ρ 30, ρ 31, ρ 32, ρ 33, ρ 34] (γ 0) 0 [ρ 0, ρ 1, ρ 2, ρ 3, ρ 4, ρ 5, ρ 6, ρ 7, ρ 8, ρ 9, ρ 10, ρ 11, ρ 12, ρ 13, ρ 14, ρ 15, ρ 16, ρ 17, ρ 18, ρ 19, ρ 20, ρ 21, ρ 22, ρ 23, ρ 24, ρ 25, ρ 26, ρ 27, ρ 28, ρ 29, ρ 30, ρ 31, ρ 32, ρ 33, ρ 34, ρ 35, ρ 36, ρ 37, ρ 38, ρ 39, ρ 40, ρ 41, ρ 42, ρ 43] (γ 1) := hJ
  have r35 : (0 : Int) ≤ ρ 35 ∧ ρ 35 ≤ 1999 := zRnA hr 35
  have r36 : (0 : Int) ≤ ρ 36 ∧ ρ 36 ≤ 2000 := zRnA hr 36
  have f0 : (0 : Int) ≤ -ρ 37 + ρ 36 := zAllA hf 0
  have f1 : (0 : Int) ≤ -ρ 36 + ρ 10 + (-1) := zAllA hf 1
  obtain ⟨w_0, w_1, w_2, w_3⟩ : (¬ (ρ 36 < 0)) ∧ (¬ (ρ 36 ≥ ρ 10)) ∧ (¬ (ρ 35 ≥ 2000)) ∧ (¬ (ρ 36 < ρ 37)) := ⟨by omega, by omega, by omega, by omega⟩
  have m4 : γ 0 6 0 7 = ρ 4 := zAllA hm 4
  have m10 : γ 0 6 0 11 = ρ 10 := zAllA hm 10
  have m11 : γ 0 6 0 12 = ρ 11 := zAllA hm 11
  have m39 : γ 1 6 0 13 = ρ 43 := zAllA hm 39
  have l0 : sn225 [9 * ρ 4 + 6, ρ 36, ρ 19, ρ 20] (γ 1) 0 0 (γ 2) := hS225 _ _ _ _ _ (zAllA hl 0)
  have l1 : sn227 [9 * ρ 4 + 6, ρ 36, ρ 21] (γ 2) 0 (ρ 44) (γ 3) := hS227 _ _ _ _ _ (zAllA hl 1)
  show jn250 [ρ 0, ρ 1, ρ 2, ρ 3, ρ 4, ρ 5, ρ 6, ρ 7, ρ 8, ρ 9, ρ 10, ρ 11, ρ 12, ρ 13, ρ 14, ρ 15, ρ 16, ρ 17, ρ 18, ρ 19, ρ 20, ρ 21, ρ 22, ρ 23, ρ 24, ρ 25, ρ 26, ρ 27, ρ 28, ρ 29, ρ 30, ρ 31, ρ 32, ρ 33, ρ 34] (γ 0) 0 [ρ 0, ρ 1, ρ 2, ρ 3, ρ 4, ρ 5, ρ 6, ρ 7, ρ 8, ρ 9, ρ 10, ρ 11, ρ 12, ρ 13, ρ 14, ρ 15, ρ 16, ρ 17, ρ 18, ρ 19, ρ 20, ρ 21, ρ 22, ρ 23, ρ 24, ρ 25, ρ 26, ρ 27, ρ 28, ρ 29, ρ 30, ρ 31, ρ 32, ρ 33, ρ 34, ρ 35 + 1, ρ 44, ρ 37, ρ 38, ρ 39, ρ 40, ρ 41, ρ 42, ρ 43] (γ 3)
  have hD : en250 (γ 0) (0, [ρ 35, ρ 36, ρ 37, ρ 38], γ 1) = .inl (0, [ρ 35 + 1, ρ 44, ρ 37, ρ 38], γ 3) := by
    unfold en250
    refine zIP (show (0 : Nat) = 0 by decide) (zLV (γ 1) rfl (zLV (ρ 35) rfl (zLV (ρ 36) rfl (zLV (ρ 37) rfl (zLV (ρ 38) rfl (zLE m4 (zLE m10 ?_)))))))
    refine zLE m11 (zLE m39 (zIN w_0 (zIN w_1 (zIN w_2 (zIN w_3 (zLE (show fn225 [9 * ρ 4 + 6, ρ 36] (γ 1) = (0, 0, γ 2) from l0.symm) (zLV (γ 2) rfl ?_)))))))
    refine zIN zQ0_ (zLE (show fn227 [9 * ρ 4 + 6, ρ 36] (γ 2) = (0, ρ 44, γ 3) from l1.symm) (zLV (γ 3) rfl (zLV (ρ 44) rfl ?_)))
    rfl
  exact zGoo_ato hJ hD
theorem vn250a0_5 {S : Nat → zSpc} (hS225 : zIm S 225 sn225) (hS226 : zIm S 226 sn226) (hS227 : zIm S 227 sn227) (hS232 : zIm S 232 sn232) (hS249 : zIm S 249 sn249) {a : List Int} {g : rHp} : ∀ (ρ : Nat → Int) (γ : Nat → rHp), jn250 a g 0 (zAg (zNA a250_ 0) ρ) (γ 1) → zO 35 S a g q250a0_5 ρ γ → zGl (fun i vs g1 => jn250 a g i vs g1) (sn250 a g) q250a0_5 ρ γ := by
  intro ρ γ hJ h
  obtain ⟨ha, hg, hr, hf, hm, hc, hl⟩ := h
  have ha : a = [ρ 0, ρ 1, ρ 2, ρ 3, ρ 4, ρ 5, ρ 6, ρ 7, ρ 8, ρ 9, ρ 10, ρ 11, ρ 12, ρ 13, ρ 14, ρ 15, ρ 16, ρ 17, ρ 18, ρ 19, ρ 20, ρ 21, ρ 22, ρ 23, ρ 24, ρ 25, ρ 26, ρ 27, ρ 28, ρ 29, ρ 30, ρ 31, ρ 32, ρ 33, ρ 34] := ha
  subst ha
  subst hg
  have hJ : jn250 [ρ 0, ρ 1, ρ 2, ρ 3, ρ 4, ρ 5, ρ 6, ρ 7, ρ 8, ρ 9, ρ 10, ρ 11, ρ 12, ρ 13, ρ 14, ρ 15, ρ 16, ρ 17, ρ 18, ρ 19, ρ 20, ρ 21, ρ 22, ρ 23, ρ 24, ρ 25, ρ 26, ρ 27, ρ 28, ρ 29, ρ 30, ρ 31, ρ 32, ρ 33, ρ 34] (γ 0) 0 [ρ 0, ρ 1, ρ 2, ρ 3, ρ 4, ρ 5, ρ 6, ρ 7, ρ 8, ρ 9, ρ 10, ρ 11, ρ 12, ρ 13, ρ 14, ρ 15, ρ 16, ρ 17, ρ 18, ρ 19, ρ 20, ρ 21, ρ 22, ρ 23, ρ 24, ρ 25, ρ 26, ρ 27, ρ 28, ρ 29, ρ 30, ρ 31, ρ 32, ρ 33, ρ 34, ρ 35, ρ 36, ρ 37, ρ 38, ρ 39, ρ 40, ρ 41, ρ 42, ρ 43] (γ 1) := hJ
  have r35 : (0 : Int) ≤ ρ 35 ∧ ρ 35 ≤ 1999 := zRnA hr 35
  have r36 : (0 : Int) ≤ ρ 36 ∧ ρ 36 ≤ 2000 := zRnA hr 36
  have f6 : (0 : Int) ≤ -ρ 36 + ρ 11 + (-1) := zAllA hf 6
  have f7 : (0 : Int) ≤ -ρ 37 + ρ 36 := zAllA hf 7
  have f8 : (0 : Int) ≤ -ρ 36 + ρ 10 + (-1) := zAllA hf 8
  obtain ⟨w_0, w_1, w_2, w_3, w_4⟩ : (¬ (ρ 36 < 0)) ∧ (¬ (ρ 36 ≥ ρ 10)) ∧ (¬ (ρ 35 ≥ 2000)) ∧ (¬ (ρ 36 < ρ 37)) ∧ (ρ 36 < ρ 11) := ⟨by omega, by omega, by omega, by omega, by omega⟩
  have m4 : γ 0 6 0 7 = ρ 4 := zAllA hm 4
  have m10 : γ 0 6 0 11 = ρ 10 := zAllA hm 10
  have m11 : γ 0 6 0 12 = ρ 11 := zAllA hm 11
  have m39 : γ 1 6 0 13 = ρ 43 := zAllA hm 39
  have m45 : γ 5 6 0 13 = ρ 48 := zAllA hm 45
  have c4 : γ 4 = rUp (γ 3) 6 0 13 (ρ 43) := And.right (zChA hc 3)
  have c6 : γ 6 = rUp (γ 5) 6 0 13 (ρ 48) := And.right (zChA hc 1)
  have l0 : sn225 [9 * ρ 4 + 6, ρ 36, ρ 19, ρ 20] (γ 1) 0 1 (γ 2) := hS225 _ _ _ _ _ (zAllA hl 0)
  have l1 : sn232 [9 * ρ 4 + 6, ρ 36, ρ 39, ρ 22] (γ 2) 0 0 (γ 3) := hS232 _ _ _ _ _ (zAllA hl 1)
  have l2 : sn249 [ρ 39 + 1, ρ 1, ρ 2, ρ 40, ρ 4, ρ 5, ρ 41, ρ 42, ρ 8, ρ 9, ρ 10, ρ 11, ρ 43, ρ 13, ρ 14, ρ 15, ρ 16, ρ 17, ρ 18, ρ 23, ρ 24, ρ 25, ρ 26, ρ 27, ρ 28, ρ 29, ρ 30, ρ 31, ρ 32, ρ 33, ρ 34] (γ 4) 0 0 (γ 5) := hS249 _ _ _ _ _ (zAllA hl 2)
  have l3 : sn227 [9 * ρ 4 + 6, ρ 36, ρ 21] (γ 6) 0 (ρ 49) (γ 7) := hS227 _ _ _ _ _ (zAllA hl 3)
  show jn250 [ρ 0, ρ 1, ρ 2, ρ 3, ρ 4, ρ 5, ρ 6, ρ 7, ρ 8, ρ 9, ρ 10, ρ 11, ρ 12, ρ 13, ρ 14, ρ 15, ρ 16, ρ 17, ρ 18, ρ 19, ρ 20, ρ 21, ρ 22, ρ 23, ρ 24, ρ 25, ρ 26, ρ 27, ρ 28, ρ 29, ρ 30, ρ 31, ρ 32, ρ 33, ρ 34] (γ 0) 0 [ρ 0, ρ 1, ρ 2, ρ 3, ρ 4, ρ 5, ρ 6, ρ 7, ρ 8, ρ 9, ρ 10, ρ 11, ρ 12, ρ 13, ρ 14, ρ 15, ρ 16, ρ 17, ρ 18, ρ 19, ρ 20, ρ 21, ρ 22, ρ 23, ρ 24, ρ 25, ρ 26, ρ 27, ρ 28, ρ 29, ρ 30, ρ 31, ρ 32, ρ 33, ρ 34, ρ 35 + 1, ρ 49, ρ 37, ρ 38, ρ 44, ρ 45, ρ 46, ρ 47, ρ 48] (γ 7)
  have hD : en250 (γ 0) (0, [ρ 35, ρ 36, ρ 37, ρ 38], γ 1) = .inl (0, [ρ 35 + 1, ρ 49, ρ 37, ρ 38], γ 7) := by
    unfold en250
    refine zIP (show (0 : Nat) = 0 by decide) (zLV (γ 1) rfl (zLV (ρ 35) rfl (zLV (ρ 36) rfl (zLV (ρ 37) rfl (zLV (ρ 38) rfl (zLE m4 (zLE m10 ?_)))))))
    refine zLE m11 (zLE m39 (zIN w_0 (zIN w_1 (zIN w_2 (zIN w_3 (zLE (show fn225 [9 * ρ 4 + 6, ρ 36] (γ 1) = (0, 1, γ 2) from l0.symm) (zLV (γ 2) rfl ?_)))))))
    refine zIP zQ1_ (zLE (show fn232 [9 * ρ 4 + 6, ρ 36] (γ 2) = (0, 0, γ 3) from l1.symm) (zLV (γ 3) rfl (zIP (show (0 : Nat) = 0 by decide) (zIP w_4 (zLE c4.symm (zLE (show fn249 [] (γ 4) = (0, 0, γ 5) from l2.symm) (zLV (γ 5) rfl ?_)))))))
    refine zIP (show (0 : Nat) = 0 by decide) (zLE m45 (zLE c6.symm (zLE (show fn227 [9 * ρ 4 + 6, ρ 36] (γ 6) = (0, ρ 49, γ 7) from l3.symm) (zLV (γ 7) rfl (zLV (ρ 49) rfl ?_)))))
    rfl
  exact zGoo_ato hJ hD
theorem vn250a0_6 {S : Nat → zSpc} (hS225 : zIm S 225 sn225) (hS226 : zIm S 226 sn226) (hS227 : zIm S 227 sn227) (hS232 : zIm S 232 sn232) (hS249 : zIm S 249 sn249) {a : List Int} {g : rHp} : ∀ (ρ : Nat → Int) (γ : Nat → rHp), jn250 a g 0 (zAg (zNA a250_ 0) ρ) (γ 1) → zO 35 S a g q250a0_6 ρ γ → zGl (fun i vs g1 => jn250 a g i vs g1) (sn250 a g) q250a0_6 ρ γ := by
  intro ρ γ hJ h
  obtain ⟨ha, hg, hr, hf, hm, hc, hl⟩ := h
  have ha : a = [ρ 0, ρ 1, ρ 2, ρ 3, ρ 4, ρ 5, ρ 6, ρ 7, ρ 8, ρ 9, ρ 10, ρ 11, ρ 12, ρ 13, ρ 14, ρ 15, ρ 16, ρ 17, ρ 18, ρ 19, ρ 20, ρ 21, ρ 22, ρ 23, ρ 24, ρ 25, ρ 26, ρ 27, ρ 28, ρ 29, ρ 30, ρ 31, ρ 32, ρ 33, ρ 34] := ha
  subst ha
  subst hg
  have hJ : jn250 [ρ 0, ρ 1, ρ 2, ρ 3, ρ 4, ρ 5, ρ 6, ρ 7, ρ 8, ρ 9, ρ 10, ρ 11, ρ 12, ρ 13, ρ 14, ρ 15, ρ 16, ρ 17, ρ 18, ρ 19, ρ 20, ρ 21, ρ 22, ρ 23, ρ 24, ρ 25, ρ 26, ρ 27, ρ 28, ρ 29, ρ 30, ρ 31, ρ 32, ρ 33, ρ 34] (γ 0) 0 [ρ 0, ρ 1, ρ 2, ρ 3, ρ 4, ρ 5, ρ 6, ρ 7, ρ 8, ρ 9, ρ 10, ρ 11, ρ 12, ρ 13, ρ 14, ρ 15, ρ 16, ρ 17, ρ 18, ρ 19, ρ 20, ρ 21, ρ 22, ρ 23, ρ 24, ρ 25, ρ 26, ρ 27, ρ 28, ρ 29, ρ 30, ρ 31, ρ 32, ρ 33, ρ 34, ρ 35, ρ 36, ρ 37, ρ 38, ρ 39, ρ 40, ρ 41, ρ 42, ρ 43] (γ 1) := hJ
  have r35 : (0 : Int) ≤ ρ 35 ∧ ρ 35 ≤ 1999 := zRnA hr 35
  have r36 : (0 : Int) ≤ ρ 36 ∧ ρ 36 ≤ 2000 := zRnA hr 36
  have f5 : (0 : Int) ≤ -ρ 36 + ρ 11 + (-1) := zAllA hf 5
  have f6 : (0 : Int) ≤ -ρ 37 + ρ 36 := zAllA hf 6
  have f7 : (0 : Int) ≤ -ρ 36 + ρ 10 + (-1) := zAllA hf 7
  obtain ⟨w_0, w_1, w_2, w_3, w_4⟩ : (¬ (ρ 36 < 0)) ∧ (¬ (ρ 36 ≥ ρ 10)) ∧ (¬ (ρ 35 ≥ 2000)) ∧ (¬ (ρ 36 < ρ 37)) ∧ (ρ 36 < ρ 11) := ⟨by omega, by omega, by omega, by omega, by omega⟩
  have m4 : γ 0 6 0 7 = ρ 4 := zAllA hm 4
  have m10 : γ 0 6 0 11 = ρ 10 := zAllA hm 10
  have m11 : γ 0 6 0 12 = ρ 11 := zAllA hm 11
  have m39 : γ 1 6 0 13 = ρ 43 := zAllA hm 39
  have c4 : γ 4 = rUp (γ 3) 6 0 13 (ρ 43) := And.right (zChA hc 1)
  have l0 : sn225 [9 * ρ 4 + 6, ρ 36, ρ 19, ρ 20] (γ 1) 0 1 (γ 2) := hS225 _ _ _ _ _ (zAllA hl 0)
  have l1 : sn232 [9 * ρ 4 + 6, ρ 36, ρ 39, ρ 22] (γ 2) 0 0 (γ 3) := hS232 _ _ _ _ _ (zAllA hl 1)
  have l2 : sn249 [ρ 39 + 1, ρ 1, ρ 2, ρ 40, ρ 4, ρ 5, ρ 41, ρ 42, ρ 8, ρ 9, ρ 10, ρ 11, ρ 43, ρ 13, ρ 14, ρ 15, ρ 16, ρ 17, ρ 18, ρ 23, ρ 24, ρ 25, ρ 26, ρ 27, ρ 28, ρ 29, ρ 30, ρ 31, ρ 32, ρ 33, ρ 34] (γ 4) 1 0 (γ 5) := hS249 _ _ _ _ _ (zAllA hl 2)
  show sn250 [ρ 0, ρ 1, ρ 2, ρ 3, ρ 4, ρ 5, ρ 6, ρ 7, ρ 8, ρ 9, ρ 10, ρ 11, ρ 12, ρ 13, ρ 14, ρ 15, ρ 16, ρ 17, ρ 18, ρ 19, ρ 20, ρ 21, ρ 22, ρ 23, ρ 24, ρ 25, ρ 26, ρ 27, ρ 28, ρ 29, ρ 30, ρ 31, ρ 32, ρ 33, ρ 34] (γ 0) 1 0 (γ 5)
  have hD : en250 (γ 0) (0, [ρ 35, ρ 36, ρ 37, ρ 38], γ 1) = .inr (1, 0, γ 5) := by
    unfold en250
    refine zIP (show (0 : Nat) = 0 by decide) (zLV (γ 1) rfl (zLV (ρ 35) rfl (zLV (ρ 36) rfl (zLV (ρ 37) rfl (zLV (ρ 38) rfl (zLE m4 (zLE m10 ?_)))))))
    refine zLE m11 (zLE m39 (zIN w_0 (zIN w_1 (zIN w_2 (zIN w_3 (zLE (show fn225 [9 * ρ 4 + 6, ρ 36] (γ 1) = (0, 1, γ 2) from l0.symm) (zLV (γ 2) rfl ?_)))))))
    refine zIP zQ1_ (zLE (show fn232 [9 * ρ 4 + 6, ρ 36] (γ 2) = (0, 0, γ 3) from l1.symm) (zLV (γ 3) rfl (zIP (show (0 : Nat) = 0 by decide) (zIP w_4 (zLE c4.symm (zLE (show fn249 [] (γ 4) = (1, 0, γ 5) from l2.symm) (zLV (γ 5) rfl ?_)))))))
    refine zIN (show ¬ (1 : Nat) = 0 by decide) (zIP (show (1 : Nat) = 1 by decide) ?_)
    rfl
  exact zGoo_aend hJ hD
theorem vn250a0_7 {S : Nat → zSpc} (hS225 : zIm S 225 sn225) (hS226 : zIm S 226 sn226) (hS227 : zIm S 227 sn227) (hS232 : zIm S 232 sn232) (hS249 : zIm S 249 sn249) {a : List Int} {g : rHp} : ∀ (ρ : Nat → Int) (γ : Nat → rHp), jn250 a g 0 (zAg (zNA a250_ 0) ρ) (γ 1) → zO 35 S a g q250a0_7 ρ γ → zGl (fun i vs g1 => jn250 a g i vs g1) (sn250 a g) q250a0_7 ρ γ := by
  intro ρ γ hJ h
  obtain ⟨ha, hg, hr, hf, hm, hc, hl⟩ := h
  have ha : a = [ρ 0, ρ 1, ρ 2, ρ 3, ρ 4, ρ 5, ρ 6, ρ 7, ρ 8, ρ 9, ρ 10, ρ 11, ρ 12, ρ 13, ρ 14, ρ 15, ρ 16, ρ 17, ρ 18, ρ 19, ρ 20, ρ 21, ρ 22, ρ 23, ρ 24, ρ 25, ρ 26, ρ 27, ρ 28, ρ 29, ρ 30, ρ 31, ρ 32, ρ 33, ρ 34] := ha
  subst ha
  subst hg
  have hJ : jn250 [ρ 0, ρ 1, ρ 2, ρ 3, ρ 4, ρ 5, ρ 6, ρ 7, ρ 8, ρ 9, ρ 10, ρ 11, ρ 12, ρ 13, ρ 14, ρ 15, ρ 16, ρ 17, ρ 18, ρ 19, ρ 20, ρ 21, ρ 22, ρ 23, ρ 24, ρ 25, ρ 26, ρ 27, ρ 28, ρ 29, ρ 30, ρ 31, ρ 32, ρ 33, ρ 34] (γ 0) 0 [ρ 0, ρ 1, ρ 2, ρ 3, ρ 4, ρ 5, ρ 6, ρ 7, ρ 8, ρ 9, ρ 10, ρ 11, ρ 12, ρ 13, ρ 14, ρ 15, ρ 16, ρ 17, ρ 18, ρ 19, ρ 20, ρ 21, ρ 22, ρ 23, ρ 24, ρ 25, ρ 26, ρ 27, ρ 28, ρ 29, ρ 30, ρ 31, ρ 32, ρ 33, ρ 34, ρ 35, ρ 36, ρ 37, ρ 38, ρ 39, ρ 40, ρ 41, ρ 42, ρ 43] (γ 1) := hJ
  have r35 : (0 : Int) ≤ ρ 35 ∧ ρ 35 ≤ 1999 := zRnA hr 35
  have r36 : (0 : Int) ≤ ρ 36 ∧ ρ 36 ≤ 2000 := zRnA hr 36
  have f6 : (0 : Int) ≤ -ρ 36 + ρ 11 + (-1) := zAllA hf 6
  have f7 : (0 : Int) ≤ -ρ 37 + ρ 36 := zAllA hf 7
  have f8 : (0 : Int) ≤ -ρ 36 + ρ 10 + (-1) := zAllA hf 8
  obtain ⟨w_0, w_1, w_2, w_3, w_4⟩ : (¬ (ρ 36 < 0)) ∧ (¬ (ρ 36 ≥ ρ 10)) ∧ (¬ (ρ 35 ≥ 2000)) ∧ (¬ (ρ 36 < ρ 37)) ∧ (ρ 36 < ρ 11) := ⟨by omega, by omega, by omega, by omega, by omega⟩
  have m4 : γ 0 6 0 7 = ρ 4 := zAllA hm 4
  have m10 : γ 0 6 0 11 = ρ 10 := zAllA hm 10
  have m11 : γ 0 6 0 12 = ρ 11 := zAllA hm 11
  have m39 : γ 1 6 0 13 = ρ 43 := zAllA hm 39
  have c4 : γ 4 = rUp (γ 3) 6 0 13 (ρ 43) := And.right (zChA hc 1)
  have l0 : sn225 [9 * ρ 4 + 6, ρ 36, ρ 19, ρ 20] (γ 1) 0 1 (γ 2) := hS225 _ _ _ _ _ (zAllA hl 0)
  have l1 : sn232 [9 * ρ 4 + 6, ρ 36, ρ 39, ρ 22] (γ 2) 0 0 (γ 3) := hS232 _ _ _ _ _ (zAllA hl 1)
  have l2 : sn249 [ρ 39 + 1, ρ 1, ρ 2, ρ 40, ρ 4, ρ 5, ρ 41, ρ 42, ρ 8, ρ 9, ρ 10, ρ 11, ρ 43, ρ 13, ρ 14, ρ 15, ρ 16, ρ 17, ρ 18, ρ 23, ρ 24, ρ 25, ρ 26, ρ 27, ρ 28, ρ 29, ρ 30, ρ 31, ρ 32, ρ 33, ρ 34] (γ 4) 4 0 (γ 5) := hS249 _ _ _ _ _ (zAllA hl 2)
  show sn250 [ρ 0, ρ 1, ρ 2, ρ 3, ρ 4, ρ 5, ρ 6, ρ 7, ρ 8, ρ 9, ρ 10, ρ 11, ρ 12, ρ 13, ρ 14, ρ 15, ρ 16, ρ 17, ρ 18, ρ 19, ρ 20, ρ 21, ρ 22, ρ 23, ρ 24, ρ 25, ρ 26, ρ 27, ρ 28, ρ 29, ρ 30, ρ 31, ρ 32, ρ 33, ρ 34] (γ 0) 4 0 (γ 5)
  have hD : en250 (γ 0) (0, [ρ 35, ρ 36, ρ 37, ρ 38], γ 1) = .inr (4, 0, γ 5) := by
    unfold en250
    refine zIP (show (0 : Nat) = 0 by decide) (zLV (γ 1) rfl (zLV (ρ 35) rfl (zLV (ρ 36) rfl (zLV (ρ 37) rfl (zLV (ρ 38) rfl (zLE m4 (zLE m10 ?_)))))))
    refine zLE m11 (zLE m39 (zIN w_0 (zIN w_1 (zIN w_2 (zIN w_3 (zLE (show fn225 [9 * ρ 4 + 6, ρ 36] (γ 1) = (0, 1, γ 2) from l0.symm) (zLV (γ 2) rfl ?_)))))))
    refine zIP zQ1_ (zLE (show fn232 [9 * ρ 4 + 6, ρ 36] (γ 2) = (0, 0, γ 3) from l1.symm) (zLV (γ 3) rfl (zIP (show (0 : Nat) = 0 by decide) (zIP w_4 (zLE c4.symm (zLE (show fn249 [] (γ 4) = (4, 0, γ 5) from l2.symm) (zLV (γ 5) rfl ?_)))))))
    refine zIN (show ¬ (4 : Nat) = 0 by decide) (zIN (show ¬ (4 : Nat) = 1 by decide) ?_)
    rfl
  exact zGoo_aend hJ hD
theorem vn250a0_8 {S : Nat → zSpc} (hS225 : zIm S 225 sn225) (hS226 : zIm S 226 sn226) (hS227 : zIm S 227 sn227) (hS232 : zIm S 232 sn232) (hS249 : zIm S 249 sn249) {a : List Int} {g : rHp} : ∀ (ρ : Nat → Int) (γ : Nat → rHp), jn250 a g 0 (zAg (zNA a250_ 0) ρ) (γ 1) → zO 35 S a g q250a0_8 ρ γ → zGl (fun i vs g1 => jn250 a g i vs g1) (sn250 a g) q250a0_8 ρ γ := by
  intro ρ γ hJ h
  obtain ⟨ha, hg, hr, hf, hm, hc, hl⟩ := h
  have ha : a = [ρ 0, ρ 1, ρ 2, ρ 3, ρ 4, ρ 5, ρ 6, ρ 7, ρ 8, ρ 9, ρ 10, ρ 11, ρ 12, ρ 13, ρ 14, ρ 15, ρ 16, ρ 17, ρ 18, ρ 19, ρ 20, ρ 21, ρ 22, ρ 23, ρ 24, ρ 25, ρ 26, ρ 27, ρ 28, ρ 29, ρ 30, ρ 31, ρ 32, ρ 33, ρ 34] := ha
  subst ha
  subst hg
  have hJ : jn250 [ρ 0, ρ 1, ρ 2, ρ 3, ρ 4, ρ 5, ρ 6, ρ 7, ρ 8, ρ 9, ρ 10, ρ 11, ρ 12, ρ 13, ρ 14, ρ 15, ρ 16, ρ 17, ρ 18, ρ 19, ρ 20, ρ 21, ρ 22, ρ 23, ρ 24, ρ 25, ρ 26, ρ 27, ρ 28, ρ 29, ρ 30, ρ 31, ρ 32, ρ 33, ρ 34] (γ 0) 0 [ρ 0, ρ 1, ρ 2, ρ 3, ρ 4, ρ 5, ρ 6, ρ 7, ρ 8, ρ 9, ρ 10, ρ 11, ρ 12, ρ 13, ρ 14, ρ 15, ρ 16, ρ 17, ρ 18, ρ 19, ρ 20, ρ 21, ρ 22, ρ 23, ρ 24, ρ 25, ρ 26, ρ 27, ρ 28, ρ 29, ρ 30, ρ 31, ρ 32, ρ 33, ρ 34, ρ 35, ρ 36, ρ 37, ρ 38, ρ 39, ρ 40, ρ 41, ρ 42, ρ 43] (γ 1) := hJ
  have r35 : (0 : Int) ≤ ρ 35 ∧ ρ 35 ≤ 1999 := zRnA hr 35
  have r36 : (0 : Int) ≤ ρ 36 ∧ ρ 36 ≤ 2000 := zRnA hr 36
  have f6 : (0 : Int) ≤ ρ 36 + -ρ 11 := zAllA hf 6
  have f7 : (0 : Int) ≤ -ρ 37 + ρ 36 := zAllA hf 7
  have f8 : (0 : Int) ≤ -ρ 36 + ρ 10 + (-1) := zAllA hf 8
  obtain ⟨w_0, w_1, w_2, w_3, w_4⟩ : (¬ (ρ 36 < 0)) ∧ (¬ (ρ 36 ≥ ρ 10)) ∧ (¬ (ρ 35 ≥ 2000)) ∧ (¬ (ρ 36 < ρ 37)) ∧ (¬ (ρ 36 < ρ 11)) := ⟨by omega, by omega, by omega, by omega, by omega⟩
  have m4 : γ 0 6 0 7 = ρ 4 := zAllA hm 4
  have m10 : γ 0 6 0 11 = ρ 10 := zAllA hm 10
  have m11 : γ 0 6 0 12 = ρ 11 := zAllA hm 11
  have m39 : γ 1 6 0 13 = ρ 43 := zAllA hm 39
  have m45 : γ 5 6 0 13 = ρ 49 := zAllA hm 45
  have c4 : γ 4 = rUp (γ 3) 6 0 13 (ρ 44) := And.right (zChA hc 3)
  have c6 : γ 6 = rUp (γ 5) 6 0 13 (ρ 50) := And.right (zChA hc 1)
  have l0 : sn225 [9 * ρ 4 + 6, ρ 36, ρ 19, ρ 20] (γ 1) 0 1 (γ 2) := hS225 _ _ _ _ _ (zAllA hl 0)
  have l1 : sn232 [9 * ρ 4 + 6, ρ 36, ρ 39, ρ 22] (γ 2) 0 0 (γ 3) := hS232 _ _ _ _ _ (zAllA hl 1)
  have l2 : zOpP (.iadd) (γ 0) (γ 1) [ρ 43, 1] (ρ 44) := zAllA hl 2
  have l3 : sn249 [ρ 39 + 1, ρ 1, ρ 2, ρ 40, ρ 4, ρ 5, ρ 41, ρ 42, ρ 8, ρ 9, ρ 10, ρ 11, ρ 44, ρ 13, ρ 14, ρ 15, ρ 16, ρ 17, ρ 18, ρ 23, ρ 24, ρ 25, ρ 26, ρ 27, ρ 28, ρ 29, ρ 30, ρ 31, ρ 32, ρ 33, ρ 34] (γ 4) 0 0 (γ 5) := hS249 _ _ _ _ _ (zAllA hl 3)
  have l4 : zOpP (.isub) (γ 0) (γ 1) [ρ 49, 1] (ρ 50) := zAllA hl 4
  have l5 : sn227 [9 * ρ 4 + 6, ρ 36, ρ 21] (γ 6) 0 (ρ 51) (γ 7) := hS227 _ _ _ _ _ (zAllA hl 5)
  show jn250 [ρ 0, ρ 1, ρ 2, ρ 3, ρ 4, ρ 5, ρ 6, ρ 7, ρ 8, ρ 9, ρ 10, ρ 11, ρ 12, ρ 13, ρ 14, ρ 15, ρ 16, ρ 17, ρ 18, ρ 19, ρ 20, ρ 21, ρ 22, ρ 23, ρ 24, ρ 25, ρ 26, ρ 27, ρ 28, ρ 29, ρ 30, ρ 31, ρ 32, ρ 33, ρ 34] (γ 0) 0 [ρ 0, ρ 1, ρ 2, ρ 3, ρ 4, ρ 5, ρ 6, ρ 7, ρ 8, ρ 9, ρ 10, ρ 11, ρ 12, ρ 13, ρ 14, ρ 15, ρ 16, ρ 17, ρ 18, ρ 19, ρ 20, ρ 21, ρ 22, ρ 23, ρ 24, ρ 25, ρ 26, ρ 27, ρ 28, ρ 29, ρ 30, ρ 31, ρ 32, ρ 33, ρ 34, ρ 35 + 1, ρ 51, ρ 37, ρ 38, ρ 45, ρ 46, ρ 47, ρ 48, ρ 50] (γ 7)
  have hD : en250 (γ 0) (0, [ρ 35, ρ 36, ρ 37, ρ 38], γ 1) = .inl (0, [ρ 35 + 1, ρ 51, ρ 37, ρ 38], γ 7) := by
    unfold en250
    refine zIP (show (0 : Nat) = 0 by decide) (zLV (γ 1) rfl (zLV (ρ 35) rfl (zLV (ρ 36) rfl (zLV (ρ 37) rfl (zLV (ρ 38) rfl (zLE m4 (zLE m10 ?_)))))))
    refine zLE m11 (zLE m39 (zIN w_0 (zIN w_1 (zIN w_2 (zIN w_3 (zLE (show fn225 [9 * ρ 4 + 6, ρ 36] (γ 1) = (0, 1, γ 2) from l0.symm) (zLV (γ 2) rfl ?_)))))))
    refine zIP zQ1_ (zLE (show fn232 [9 * ρ 4 + 6, ρ 36] (γ 2) = (0, 0, γ 3) from l1.symm) (zLV (γ 3) rfl (zIP (show (0 : Nat) = 0 by decide) (zIN w_4 (zLE (zF2_ok l2) (zLE c4.symm (zLE (show fn249 [] (γ 4) = (0, 0, γ 5) from l3.symm) ?_)))))))
    refine zLV (γ 5) rfl (zIP (show (0 : Nat) = 0 by decide) (zLE m45 (zLE (zF2_ok l4) (zLE c6.symm (zLE (show fn227 [9 * ρ 4 + 6, ρ 36] (γ 6) = (0, ρ 51, γ 7) from l5.symm) (zLV (γ 7) rfl (zLV (ρ 51) rfl ?_)))))))
    rfl
  exact zGoo_ato hJ hD
theorem vn250a0_9 {S : Nat → zSpc} (hS225 : zIm S 225 sn225) (hS226 : zIm S 226 sn226) (hS227 : zIm S 227 sn227) (hS232 : zIm S 232 sn232) (hS249 : zIm S 249 sn249) {a : List Int} {g : rHp} : ∀ (ρ : Nat → Int) (γ : Nat → rHp), jn250 a g 0 (zAg (zNA a250_ 0) ρ) (γ 1) → zO 35 S a g q250a0_9 ρ γ → zGl (fun i vs g1 => jn250 a g i vs g1) (sn250 a g) q250a0_9 ρ γ := by
  intro ρ γ hJ h
  obtain ⟨ha, hg, hr, hf, hm, hc, hl⟩ := h
  have ha : a = [ρ 0, ρ 1, ρ 2, ρ 3, ρ 4, ρ 5, ρ 6, ρ 7, ρ 8, ρ 9, ρ 10, ρ 11, ρ 12, ρ 13, ρ 14, ρ 15, ρ 16, ρ 17, ρ 18, ρ 19, ρ 20, ρ 21, ρ 22, ρ 23, ρ 24, ρ 25, ρ 26, ρ 27, ρ 28, ρ 29, ρ 30, ρ 31, ρ 32, ρ 33, ρ 34] := ha
  subst ha
  subst hg
  have hJ : jn250 [ρ 0, ρ 1, ρ 2, ρ 3, ρ 4, ρ 5, ρ 6, ρ 7, ρ 8, ρ 9, ρ 10, ρ 11, ρ 12, ρ 13, ρ 14, ρ 15, ρ 16, ρ 17, ρ 18, ρ 19, ρ 20, ρ 21, ρ 22, ρ 23, ρ 24, ρ 25, ρ 26, ρ 27, ρ 28, ρ 29, ρ 30, ρ 31, ρ 32, ρ 33, ρ 34] (γ 0) 0 [ρ 0, ρ 1, ρ 2, ρ 3, ρ 4, ρ 5, ρ 6, ρ 7, ρ 8, ρ 9, ρ 10, ρ 11, ρ 12, ρ 13, ρ 14, ρ 15, ρ 16, ρ 17, ρ 18, ρ 19, ρ 20, ρ 21, ρ 22, ρ 23, ρ 24, ρ 25, ρ 26, ρ 27, ρ 28, ρ 29, ρ 30, ρ 31, ρ 32, ρ 33, ρ 34, ρ 35, ρ 36, ρ 37, ρ 38, ρ 39, ρ 40, ρ 41, ρ 42, ρ 43] (γ 1) := hJ
  have r35 : (0 : Int) ≤ ρ 35 ∧ ρ 35 ≤ 1999 := zRnA hr 35
  have r36 : (0 : Int) ≤ ρ 36 ∧ ρ 36 ≤ 2000 := zRnA hr 36
  have f5 : (0 : Int) ≤ ρ 36 + -ρ 11 := zAllA hf 5
  have f6 : (0 : Int) ≤ -ρ 37 + ρ 36 := zAllA hf 6
  have f7 : (0 : Int) ≤ -ρ 36 + ρ 10 + (-1) := zAllA hf 7
  obtain ⟨w_0, w_1, w_2, w_3, w_4⟩ : (¬ (ρ 36 < 0)) ∧ (¬ (ρ 36 ≥ ρ 10)) ∧ (¬ (ρ 35 ≥ 2000)) ∧ (¬ (ρ 36 < ρ 37)) ∧ (¬ (ρ 36 < ρ 11)) := ⟨by omega, by omega, by omega, by omega, by omega⟩
  have m4 : γ 0 6 0 7 = ρ 4 := zAllA hm 4
  have m10 : γ 0 6 0 11 = ρ 10 := zAllA hm 10
  have m11 : γ 0 6 0 12 = ρ 11 := zAllA hm 11
  have m39 : γ 1 6 0 13 = ρ 43 := zAllA hm 39
  have c4 : γ 4 = rUp (γ 3) 6 0 13 (ρ 44) := And.right (zChA hc 1)
  have l0 : sn225 [9 * ρ 4 + 6, ρ 36, ρ 19, ρ 20] (γ 1) 0 1 (γ 2) := hS225 _ _ _ _ _ (zAllA hl 0)
  have l1 : sn232 [9 * ρ 4 + 6, ρ 36, ρ 39, ρ 22] (γ 2) 0 0 (γ 3) := hS232 _ _ _ _ _ (zAllA hl 1)
  have l2 : zOpP (.iadd) (γ 0) (γ 1) [ρ 43, 1] (ρ 44) := zAllA hl 2
  have l3 : sn249 [ρ 39 + 1, ρ 1, ρ 2, ρ 40, ρ 4, ρ 5, ρ 41, ρ 42, ρ 8, ρ 9, ρ 10, ρ 11, ρ 44, ρ 13, ρ 14, ρ 15, ρ 16, ρ 17, ρ 18, ρ 23, ρ 24, ρ 25, ρ 26, ρ 27, ρ 28, ρ 29, ρ 30, ρ 31, ρ 32, ρ 33, ρ 34] (γ 4) 1 0 (γ 5) := hS249 _ _ _ _ _ (zAllA hl 3)
  show sn250 [ρ 0, ρ 1, ρ 2, ρ 3, ρ 4, ρ 5, ρ 6, ρ 7, ρ 8, ρ 9, ρ 10, ρ 11, ρ 12, ρ 13, ρ 14, ρ 15, ρ 16, ρ 17, ρ 18, ρ 19, ρ 20, ρ 21, ρ 22, ρ 23, ρ 24, ρ 25, ρ 26, ρ 27, ρ 28, ρ 29, ρ 30, ρ 31, ρ 32, ρ 33, ρ 34] (γ 0) 1 0 (γ 5)
  have hD : en250 (γ 0) (0, [ρ 35, ρ 36, ρ 37, ρ 38], γ 1) = .inr (1, 0, γ 5) := by
    unfold en250
    refine zIP (show (0 : Nat) = 0 by decide) (zLV (γ 1) rfl (zLV (ρ 35) rfl (zLV (ρ 36) rfl (zLV (ρ 37) rfl (zLV (ρ 38) rfl (zLE m4 (zLE m10 ?_)))))))
    refine zLE m11 (zLE m39 (zIN w_0 (zIN w_1 (zIN w_2 (zIN w_3 (zLE (show fn225 [9 * ρ 4 + 6, ρ 36] (γ 1) = (0, 1, γ 2) from l0.symm) (zLV (γ 2) rfl ?_)))))))
    refine zIP zQ1_ (zLE (show fn232 [9 * ρ 4 + 6, ρ 36] (γ 2) = (0, 0, γ 3) from l1.symm) (zLV (γ 3) rfl (zIP (show (0 : Nat) = 0 by decide) (zIN w_4 (zLE (zF2_ok l2) (zLE c4.symm (zLE (show fn249 [] (γ 4) = (1, 0, γ 5) from l3.symm) ?_)))))))
    refine zLV (γ 5) rfl (zIN (show ¬ (1 : Nat) = 0 by decide) (zIP (show (1 : Nat) = 1 by decide) ?_))
    rfl
  exact zGoo_aend hJ hD
theorem vn250a0_10 {S : Nat → zSpc} (hS225 : zIm S 225 sn225) (hS226 : zIm S 226 sn226) (hS227 : zIm S 227 sn227) (hS232 : zIm S 232 sn232) (hS249 : zIm S 249 sn249) {a : List Int} {g : rHp} : ∀ (ρ : Nat → Int) (γ : Nat → rHp), jn250 a g 0 (zAg (zNA a250_ 0) ρ) (γ 1) → zO 35 S a g q250a0_10 ρ γ → zGl (fun i vs g1 => jn250 a g i vs g1) (sn250 a g) q250a0_10 ρ γ := by
  intro ρ γ hJ h
  obtain ⟨ha, hg, hr, hf, hm, hc, hl⟩ := h
  have ha : a = [ρ 0, ρ 1, ρ 2, ρ 3, ρ 4, ρ 5, ρ 6, ρ 7, ρ 8, ρ 9, ρ 10, ρ 11, ρ 12, ρ 13, ρ 14, ρ 15, ρ 16, ρ 17, ρ 18, ρ 19, ρ 20, ρ 21, ρ 22, ρ 23, ρ 24, ρ 25, ρ 26, ρ 27, ρ 28, ρ 29, ρ 30, ρ 31, ρ 32, ρ 33, ρ 34] := ha
  subst ha
  subst hg
  have hJ : jn250 [ρ 0, ρ 1, ρ 2, ρ 3, ρ 4, ρ 5, ρ 6, ρ 7, ρ 8, ρ 9, ρ 10, ρ 11, ρ 12, ρ 13, ρ 14, ρ 15, ρ 16, ρ 17, ρ 18, ρ 19, ρ 20, ρ 21, ρ 22, ρ 23, ρ 24, ρ 25, ρ 26, ρ 27, ρ 28, ρ 29, ρ 30, ρ 31, ρ 32, ρ 33, ρ 34] (γ 0) 0 [ρ 0, ρ 1, ρ 2, ρ 3, ρ 4, ρ 5, ρ 6, ρ 7, ρ 8, ρ 9, ρ 10, ρ 11, ρ 12, ρ 13, ρ 14, ρ 15, ρ 16, ρ 17, ρ 18, ρ 19, ρ 20, ρ 21, ρ 22, ρ 23, ρ 24, ρ 25, ρ 26, ρ 27, ρ 28, ρ 29, ρ 30, ρ 31, ρ 32, ρ 33, ρ 34, ρ 35, ρ 36, ρ 37, ρ 38, ρ 39, ρ 40, ρ 41, ρ 42, ρ 43] (γ 1) := hJ
  have r35 : (0 : Int) ≤ ρ 35 ∧ ρ 35 ≤ 1999 := zRnA hr 35
  have r36 : (0 : Int) ≤ ρ 36 ∧ ρ 36 ≤ 2000 := zRnA hr 36
  have f6 : (0 : Int) ≤ ρ 36 + -ρ 11 := zAllA hf 6
  have f7 : (0 : Int) ≤ -ρ 37 + ρ 36 := zAllA hf 7
  have f8 : (0 : Int) ≤ -ρ 36 + ρ 10 + (-1) := zAllA hf 8
  obtain ⟨w_0, w_1, w_2, w_3, w_4⟩ : (¬ (ρ 36 < 0)) ∧ (¬ (ρ 36 ≥ ρ 10)) ∧ (¬ (ρ 35 ≥ 2000)) ∧ (¬ (ρ 36 < ρ 37)) ∧ (¬ (ρ 36 < ρ 11)) := ⟨by omega, by omega, by omega, by omega, by omega⟩
  have m4 : γ 0 6 0 7 = ρ 4 := zAllA hm 4
  have m10 : γ 0 6 0 11 = ρ 10 := zAllA hm 10
  have m11 : γ 0 6 0 12 = ρ 11 := zAllA hm 11
  have m39 : γ 1 6 0 13 = ρ 43 := zAllA hm 39
  have c4 : γ 4 = rUp (γ 3) 6 0 13 (ρ 44) := And.right (zChA hc 1)
  have l0 : sn225 [9 * ρ 4 + 6, ρ 36, ρ 19, ρ 20] (γ 1) 0 1 (γ 2) := hS225 _ _ _ _ _ (zAllA hl 0)
  have l1 : sn232 [9 * ρ 4 + 6, ρ 36, ρ 39, ρ 22] (γ 2) 0 0 (γ 3) := hS232 _ _ _ _ _ (zAllA hl 1)
  have l2 : zOpP (.iadd) (γ 0) (γ 1) [ρ 43, 1] (ρ 44) := zAllA hl 2
  have l3 : sn249 [ρ 39 + 1, ρ 1, ρ 2, ρ 40, ρ 4, ρ 5, ρ 41, ρ 42, ρ 8, ρ 9, ρ 10, ρ 11, ρ 44, ρ 13, ρ 14, ρ 15, ρ 16, ρ 17, ρ 18, ρ 23, ρ 24, ρ 25, ρ 26, ρ 27, ρ 28, ρ 29, ρ 30, ρ 31, ρ 32, ρ 33, ρ 34] (γ 4) 4 0 (γ 5) := hS249 _ _ _ _ _ (zAllA hl 3)
  show sn250 [ρ 0, ρ 1, ρ 2, ρ 3, ρ 4, ρ 5, ρ 6, ρ 7, ρ 8, ρ 9, ρ 10, ρ 11, ρ 12, ρ 13, ρ 14, ρ 15, ρ 16, ρ 17, ρ 18, ρ 19, ρ 20, ρ 21, ρ 22, ρ 23, ρ 24, ρ 25, ρ 26, ρ 27, ρ 28, ρ 29, ρ 30, ρ 31, ρ 32, ρ 33, ρ 34] (γ 0) 4 0 (γ 5)
  have hD : en250 (γ 0) (0, [ρ 35, ρ 36, ρ 37, ρ 38], γ 1) = .inr (4, 0, γ 5) := by
    unfold en250
    refine zIP (show (0 : Nat) = 0 by decide) (zLV (γ 1) rfl (zLV (ρ 35) rfl (zLV (ρ 36) rfl (zLV (ρ 37) rfl (zLV (ρ 38) rfl (zLE m4 (zLE m10 ?_)))))))
    refine zLE m11 (zLE m39 (zIN w_0 (zIN w_1 (zIN w_2 (zIN w_3 (zLE (show fn225 [9 * ρ 4 + 6, ρ 36] (γ 1) = (0, 1, γ 2) from l0.symm) (zLV (γ 2) rfl ?_)))))))
    refine zIP zQ1_ (zLE (show fn232 [9 * ρ 4 + 6, ρ 36] (γ 2) = (0, 0, γ 3) from l1.symm) (zLV (γ 3) rfl (zIP (show (0 : Nat) = 0 by decide) (zIN w_4 (zLE (zF2_ok l2) (zLE c4.symm (zLE (show fn249 [] (γ 4) = (4, 0, γ 5) from l3.symm) ?_)))))))
    refine zLV (γ 5) rfl (zIN (show ¬ (4 : Nat) = 0 by decide) (zIN (show ¬ (4 : Nat) = 1 by decide) ?_))
    rfl
  exact zGoo_aend hJ hD
theorem vn250a0_11 {S : Nat → zSpc} (hS225 : zIm S 225 sn225) (hS226 : zIm S 226 sn226) (hS227 : zIm S 227 sn227) (hS232 : zIm S 232 sn232) (hS249 : zIm S 249 sn249) {a : List Int} {g : rHp} : ∀ (ρ : Nat → Int) (γ : Nat → rHp), jn250 a g 0 (zAg (zNA a250_ 0) ρ) (γ 1) → zO 35 S a g q250a0_11 ρ γ → zGl (fun i vs g1 => jn250 a g i vs g1) (sn250 a g) q250a0_11 ρ γ := by
  intro ρ γ hJ h
  obtain ⟨ha, hg, hr, hf, hm, hc, hl⟩ := h
  have ha : a = [ρ 0, ρ 1, ρ 2, ρ 3, ρ 4, ρ 5, ρ 6, ρ 7, ρ 8, ρ 9, ρ 10, ρ 11, ρ 12, ρ 13, ρ 14, ρ 15, ρ 16, ρ 17, ρ 18, ρ 19, ρ 20, ρ 21, ρ 22, ρ 23, ρ 24, ρ 25, ρ 26, ρ 27, ρ 28, ρ 29, ρ 30, ρ 31, ρ 32, ρ 33, ρ 34] := ha
  subst ha
  subst hg
  have hJ : jn250 [ρ 0, ρ 1, ρ 2, ρ 3, ρ 4, ρ 5, ρ 6, ρ 7, ρ 8, ρ 9, ρ 10, ρ 11, ρ 12, ρ 13, ρ 14, ρ 15, ρ 16, ρ 17, ρ 18, ρ 19, ρ 20, ρ 21, ρ 22, ρ 23, ρ 24, ρ 25, ρ 26, ρ 27, ρ 28, ρ 29, ρ 30, ρ 31, ρ 32, ρ 33, ρ 34] (γ 0) 0 [ρ 0, ρ 1, ρ 2, ρ 3, ρ 4, ρ 5, ρ 6, ρ 7, ρ 8, ρ 9, ρ 10, ρ 11, ρ 12, ρ 13, ρ 14, ρ 15, ρ 16, ρ 17, ρ 18, ρ 19, ρ 20, ρ 21, ρ 22, ρ 23, ρ 24, ρ 25, ρ 26, ρ 27, ρ 28, ρ 29, ρ 30, ρ 31, ρ 32, ρ 33, ρ 34, ρ 35, ρ 36, ρ 37, ρ 38, ρ 39, ρ 40, ρ 41, ρ 42, ρ 43] (γ 1) := hJ
  have r35 : (0 : Int) ≤ ρ 35 ∧ ρ 35 ≤ 1999 := zRnA hr 35
  have r36 : (0 : Int) ≤ ρ 36 ∧ ρ 36 ≤ 2000 := zRnA hr 36
  have f0 : (0 : Int) ≤ -ρ 37 + ρ 36 := zAllA hf 0
  have f1 : (0 : Int) ≤ -ρ 36 + ρ 10 + (-1) := zAllA hf 1
  obtain ⟨w_0, w_1, w_2, w_3⟩ : (¬ (ρ 36 < 0)) ∧ (¬ (ρ 36 ≥ ρ 10)) ∧ (¬ (ρ 35 ≥ 2000)) ∧ (¬ (ρ 36 < ρ 37)) := ⟨by omega, by omega, by omega, by omega⟩
  have m4 : γ 0 6 0 7 = ρ 4 := zAllA hm 4
  have m10 : γ 0 6 0 11 = ρ 10 := zAllA hm 10
  have m11 : γ 0 6 0 12 = ρ 11 := zAllA hm 11
  have m39 : γ 1 6 0 13 = ρ 43 := zAllA hm 39
  have l0 : sn225 [9 * ρ 4 + 6, ρ 36, ρ 19, ρ 20] (γ 1) 0 1 (γ 2) := hS225 _ _ _ _ _ (zAllA hl 0)
  have l1 : sn232 [9 * ρ 4 + 6, ρ 36, ρ 39, ρ 22] (γ 2) 4 0 (γ 3) := hS232 _ _ _ _ _ (zAllA hl 1)
  show sn250 [ρ 0, ρ 1, ρ 2, ρ 3, ρ 4, ρ 5, ρ 6, ρ 7, ρ 8, ρ 9, ρ 10, ρ 11, ρ 12, ρ 13, ρ 14, ρ 15, ρ 16, ρ 17, ρ 18, ρ 19, ρ 20, ρ 21, ρ 22, ρ 23, ρ 24, ρ 25, ρ 26, ρ 27, ρ 28, ρ 29, ρ 30, ρ 31, ρ 32, ρ 33, ρ 34] (γ 0) 4 0 (γ 3)
  have hD : en250 (γ 0) (0, [ρ 35, ρ 36, ρ 37, ρ 38], γ 1) = .inr (4, 0, γ 3) := by
    unfold en250
    refine zIP (show (0 : Nat) = 0 by decide) (zLV (γ 1) rfl (zLV (ρ 35) rfl (zLV (ρ 36) rfl (zLV (ρ 37) rfl (zLV (ρ 38) rfl (zLE m4 (zLE m10 ?_)))))))
    refine zLE m11 (zLE m39 (zIN w_0 (zIN w_1 (zIN w_2 (zIN w_3 (zLE (show fn225 [9 * ρ 4 + 6, ρ 36] (γ 1) = (0, 1, γ 2) from l0.symm) (zLV (γ 2) rfl ?_)))))))
    refine zIP zQ1_ (zLE (show fn232 [9 * ρ 4 + 6, ρ 36] (γ 2) = (4, 0, γ 3) from l1.symm) (zLV (γ 3) rfl (zIN (show ¬ (4 : Nat) = 0 by decide) ?_)))
    rfl
  exact zGoo_aend hJ hD
theorem yn250 {S : Nat → zSpc} (hS225 : zIm S 225 sn225) (hS226 : zIm S 226 sn226) (hS227 : zIm S 227 sn227) (hS232 : zIm S 232 sn232) (hS249 : zIm S 249 sn249) : ∀ x g o v gz, zSem uW uT w250_.2.2.2.1 w250_.2.2.1.1.length S q250 (fun i => q250a.getD i []) (zNA a250_) x g o v gz → sn250 x g o v gz := by
  intro a g o v gz h
  exact zSem_all (l0 := q250) (las := q250a) (S := S) (J := (fun i vs g1 => jn250 a g i vs g1)) (P := sn250 a g) (fun _ => (show zAll _ [q250_0, q250_1, q250_2, q250_3] from (zAll_c (vn250_0 hS225 hS226 hS227 hS232 hS249) (zAll_c (vn250_1 hS225 hS226 hS227 hS232 hS249) (zAll_c (vn250_2 hS225 hS226 hS227 hS232 hS249) (zAll_c (vn250_3 hS225 hS226 hS227 hS232 hS249) zAll_n)))))) (fun _ => (show zAllI _ 0 [q250a0] from ⟨(show zAll _ [q250a0_0, q250a0_1, q250a0_2, q250a0_3, q250a0_4, q250a0_5, q250a0_6, q250a0_7, q250a0_8, q250a0_9, q250a0_10, q250a0_11] from (zAll_c (vn250a0_0 hS225 hS226 hS227 hS232 hS249) (zAll_c (vn250a0_1 hS225 hS226 hS227 hS232 hS249) (zAll_c (vn250a0_2 hS225 hS226 hS227 hS232 hS249) (zAll_c (vn250a0_3 hS225 hS226 hS227 hS232 hS249) (zAll_c (vn250a0_4 hS225 hS226 hS227 hS232 hS249) (zAll_c (vn250a0_5 hS225 hS226 hS227 hS232 hS249) (zAll_c (vn250a0_6 hS225 hS226 hS227 hS232 hS249) (zAll_c (vn250a0_7 hS225 hS226 hS227 hS232 hS249) (zAll_c (vn250a0_8 hS225 hS226 hS227 hS232 hS249) (zAll_c (vn250a0_9 hS225 hS226 hS227 hS232 hS249) (zAll_c (vn250a0_10 hS225 hS226 hS227 hS232 hS249) (zAll_c (vn250a0_11 hS225 hS226 hS227 hS232 hS249) zAll_n))))))))))))), trivial⟩)) h
theorem vn251_0 {S : Nat → zSpc} (hS132 : zIm S 132 sn132) (hS228 : zIm S 228 sn228) (hS229 : zIm S 229 sn229) (hS230 : zIm S 230 sn230) (hS231 : zIm S 231 sn231) (hS244 : zIm S 244 sn244) (hS249 : zIm S 249 sn249) (hS250 : zIm S 250 sn250) {a : List Int} {g : rHp} : ∀ (ρ : Nat → Int) (γ : Nat → rHp), zO 37 S a g q251_0 ρ γ → zGl (fun _ _ _ => True) (sn251 a g) q251_0 ρ γ := by
  intro ρ γ h
  obtain ⟨ha, hg, hr, hf, hm, hc, hl⟩ := h
  have ha : a = [ρ 0, ρ 1, ρ 2, ρ 3, ρ 4, ρ 5, ρ 6, ρ 7, ρ 8, ρ 9, ρ 10, ρ 11, ρ 12, ρ 13, ρ 14, ρ 15, ρ 16, ρ 17, ρ 18, ρ 19, ρ 20, ρ 21, ρ 22, ρ 23, ρ 24, ρ 25, ρ 26, ρ 27, ρ 28, ρ 29, ρ 30, ρ 31, ρ 32, ρ 33, ρ 34, ρ 35, ρ 36] := ha
  subst ha
  subst hg
  have r13 : (0 : Int) ≤ ρ 13 ∧ ρ 13 ≤ 5 := zRnA hr 13
  have w_0 : 5 ≥ ρ 13 := by omega
  have m4 : γ 0 6 0 7 = ρ 4 := zAllA hm 4
  have m13 : γ 0 9 (ρ 4) 2 = ρ 13 := zAllA hm 13
  have m19 : γ 0 10 (9 * ρ 4 + 6) 4 = ρ 19 := zAllA hm 19
  have l0 : sn244 [ρ 0, ρ 1, ρ 2, ρ 3, ρ 4, ρ 6, ρ 7, ρ 8, ρ 9, ρ 14, ρ 15, ρ 16, ρ 17, ρ 18] (γ 0) 0 0 (γ 1) := hS244 _ _ _ _ _ (zAllA hl 0)
  show sn251 [ρ 0, ρ 1, ρ 2, ρ 3, ρ 4, ρ 5, ρ 6, ρ 7, ρ 8, ρ 9, ρ 10, ρ 11, ρ 12, ρ 13, ρ 14, ρ 15, ρ 16, ρ 17, ρ 18, ρ 19, ρ 20, ρ 21, ρ 22, ρ 23, ρ 24, ρ 25, ρ 26, ρ 27, ρ 28, ρ 29, ρ 30, ρ 31, ρ 32, ρ 33, ρ 34, ρ 35, ρ 36] (γ 0) 0 0 (γ 1)
  refine Eq.symm ?_
  show fn251 [] (γ 0) = _
  unfold fn251
  refine zLE m4 (zLE m13 (zLE m19 (zIP w_0 (zLE (show fn244 [] (γ 0) = (0, 0, γ 1) from l0.symm) (zLV (γ 1) rfl (zIP (show (0 : Nat) = 0 by decide) ?_))))))
  rfl
theorem vn251_1 {S : Nat → zSpc} (hS132 : zIm S 132 sn132) (hS228 : zIm S 228 sn228) (hS229 : zIm S 229 sn229) (hS230 : zIm S 230 sn230) (hS231 : zIm S 231 sn231) (hS244 : zIm S 244 sn244) (hS249 : zIm S 249 sn249) (hS250 : zIm S 250 sn250) {a : List Int} {g : rHp} : ∀ (ρ : Nat → Int) (γ : Nat → rHp), zO 37 S a g q251_1 ρ γ → zGl (fun _ _ _ => True) (sn251 a g) q251_1 ρ γ := by
  intro ρ γ h
  obtain ⟨ha, hg, hr, hf, hm, hc, hl⟩ := h
  have ha : a = [ρ 0, ρ 1, ρ 2, ρ 3, ρ 4, ρ 5, ρ 6, ρ 7, ρ 8, ρ 9, ρ 10, ρ 11, ρ 12, ρ 13, ρ 14, ρ 15, ρ 16, ρ 17, ρ 18, ρ 19, ρ 20, ρ 21, ρ 22, ρ 23, ρ 24, ρ 25, ρ 26, ρ 27, ρ 28, ρ 29, ρ 30, ρ 31, ρ 32, ρ 33, ρ 34, ρ 35, ρ 36] := ha
  subst ha
  subst hg
  have r13 : (0 : Int) ≤ ρ 13 ∧ ρ 13 ≤ 5 := zRnA hr 13
  have w_0 : 5 ≥ ρ 13 := by omega
  have m4 : γ 0 6 0 7 = ρ 4 := zAllA hm 4
  have m13 : γ 0 9 (ρ 4) 2 = ρ 13 := zAllA hm 13
  have m19 : γ 0 10 (9 * ρ 4 + 6) 4 = ρ 19 := zAllA hm 19
  have l0 : sn244 [ρ 0, ρ 1, ρ 2, ρ 3, ρ 4, ρ 6, ρ 7, ρ 8, ρ 9, ρ 14, ρ 15, ρ 16, ρ 17, ρ 18] (γ 0) 1 0 (γ 1) := hS244 _ _ _ _ _ (zAllA hl 0)
  show sn251 [ρ 0, ρ 1, ρ 2, ρ 3, ρ 4, ρ 5, ρ 6, ρ 7, ρ 8, ρ 9, ρ 10, ρ 11, ρ 12, ρ 13, ρ 14, ρ 15, ρ 16, ρ 17, ρ 18, ρ 19, ρ 20, ρ 21, ρ 22, ρ 23, ρ 24, ρ 25, ρ 26, ρ 27, ρ 28, ρ 29, ρ 30, ρ 31, ρ 32, ρ 33, ρ 34, ρ 35, ρ 36] (γ 0) 1 0 (γ 1)
  refine Eq.symm ?_
  show fn251 [] (γ 0) = _
  unfold fn251
  refine zLE m4 (zLE m13 (zLE m19 (zIP w_0 (zLE (show fn244 [] (γ 0) = (1, 0, γ 1) from l0.symm) (zLV (γ 1) rfl (zIN (show ¬ (1 : Nat) = 0 by decide) ?_))))))
  rfl
theorem vn251_2 {S : Nat → zSpc} (hS132 : zIm S 132 sn132) (hS228 : zIm S 228 sn228) (hS229 : zIm S 229 sn229) (hS230 : zIm S 230 sn230) (hS231 : zIm S 231 sn231) (hS244 : zIm S 244 sn244) (hS249 : zIm S 249 sn249) (hS250 : zIm S 250 sn250) {a : List Int} {g : rHp} : ∀ (ρ : Nat → Int) (γ : Nat → rHp), zO 37 S a g q251_2 ρ γ → zGl (fun _ _ _ => True) (sn251 a g) q251_2 ρ γ := by
  intro ρ γ h
  obtain ⟨ha, hg, hr, hf, hm, hc, hl⟩ := h
  have ha : a = [ρ 0, ρ 1, ρ 2, ρ 3, ρ 4, ρ 5, ρ 6, ρ 7, ρ 8, ρ 9, ρ 10, ρ 11, ρ 12, ρ 13, ρ 14, ρ 15, ρ 16, ρ 17, ρ 18, ρ 19, ρ 20, ρ 21, ρ 22, ρ 23, ρ 24, ρ 25, ρ 26, ρ 27, ρ 28, ρ 29, ρ 30, ρ 31, ρ 32, ρ 33, ρ 34, ρ 35, ρ 36] := ha
  subst ha
  subst hg
  have r13 : (6 : Int) ≤ ρ 13 ∧ ρ 13 ≤ 8 := zRnA hr 13
  have r19 : (3 : Int) ≤ ρ 19 ∧ ρ 19 ≤ 3 := zRnA hr 19
  obtain ⟨w_0, w_1, w_2, w_3⟩ : (¬ (5 ≥ ρ 13)) ∧ (ρ 19 ≠ 1) ∧ (0 ≤ -ρ 19 + 3) ∧ (ρ 19 ≠ 2) := ⟨by omega, by omega, by omega, by omega⟩
  have m4 : γ 0 6 0 7 = ρ 4 := zAllA hm 4
  have m13 : γ 0 9 (ρ 4) 2 = ρ 13 := zAllA hm 13
  have m19 : γ 0 10 (9 * ρ 4 + 6) 4 = ρ 19 := zAllA hm 19
  have l0 : sn132 [ρ 4, 5] (γ 0) 0 (9 * ρ 4 + 6) (γ 1) := hS132 _ _ _ _ _ (zAllA hl 0)
  have l1 : sn230 [9 * ρ 4 + 6, ρ 19] (γ 1) 0 0 (γ 2) := hS230 _ _ _ _ _ (zAllA hl 1)
  show sn251 [ρ 0, ρ 1, ρ 2, ρ 3, ρ 4, ρ 5, ρ 6, ρ 7, ρ 8, ρ 9, ρ 10, ρ 11, ρ 12, ρ 13, ρ 14, ρ 15, ρ 16, ρ 17, ρ 18, ρ 19, ρ 20, ρ 21, ρ 22, ρ 23, ρ 24, ρ 25, ρ 26, ρ 27, ρ 28, ρ 29, ρ 30, ρ 31, ρ 32, ρ 33, ρ 34, ρ 35, ρ 36] (γ 0) 0 0 (γ 2)
  refine Eq.symm ?_
  show fn251 [] (γ 0) = _
  unfold fn251
  refine zLE m4 (zLE m13 (zLE m19 (zIN w_0 (zLE (show fn132 [ρ 4, 5] (γ 0) = (0, 9 * ρ 4 + 6, γ 1) from l0.symm) (zLV (γ 1) rfl (zIP w_1 (zIP w_2 ?_)))))))
  refine zIP w_3 (zLE (show fn230 [9 * ρ 4 + 6] (γ 1) = (0, 0, γ 2) from l1.symm) (zLV (γ 2) rfl (zIN zQ0_ ?_)))
  rfl
theorem vn251_3 {S : Nat → zSpc} (hS132 : zIm S 132 sn132) (hS228 : zIm S 228 sn228) (hS229 : zIm S 229 sn229) (hS230 : zIm S 230 sn230) (hS231 : zIm S 231 sn231) (hS244 : zIm S 244 sn244) (hS249 : zIm S 249 sn249) (hS250 : zIm S 250 sn250) {a : List Int} {g : rHp} : ∀ (ρ : Nat → Int) (γ : Nat → rHp), zO 37 S a g q251_3 ρ γ → zGl (fun _ _ _ => True) (sn251 a g) q251_3 ρ γ := by
  intro ρ γ h
  obtain ⟨ha, hg, hr, hf, hm, hc, hl⟩ := h
  have ha : a = [ρ 0, ρ 1, ρ 2, ρ 3, ρ 4, ρ 5, ρ 6, ρ 7, ρ 8, ρ 9, ρ 10, ρ 11, ρ 12, ρ 13, ρ 14, ρ 15, ρ 16, ρ 17, ρ 18, ρ 19, ρ 20, ρ 21, ρ 22, ρ 23, ρ 24, ρ 25, ρ 26, ρ 27, ρ 28, ρ 29, ρ 30, ρ 31, ρ 32, ρ 33, ρ 34, ρ 35, ρ 36] := ha
  subst ha
  subst hg
  have r13 : (6 : Int) ≤ ρ 13 ∧ ρ 13 ≤ 8 := zRnA hr 13
  have r19 : (3 : Int) ≤ ρ 19 ∧ ρ 19 ≤ 3 := zRnA hr 19
  obtain ⟨w_0, w_1, w_2, w_3⟩ : (¬ (5 ≥ ρ 13)) ∧ (ρ 19 ≠ 1) ∧ (0 ≤ -ρ 19 + 3) ∧ (ρ 19 ≠ 2) := ⟨by omega, by omega, by omega, by omega⟩
  have m4 : γ 0 6 0 7 = ρ 4 := zAllA hm 4
  have m13 : γ 0 9 (ρ 4) 2 = ρ 13 := zAllA hm 13
  have m19 : γ 0 10 (9 * ρ 4 + 6) 4 = ρ 19 := zAllA hm 19
  have l0 : sn132 [ρ 4, 5] (γ 0) 0 (9 * ρ 4 + 6) (γ 1) := hS132 _ _ _ _ _ (zAllA hl 0)
  have l1 : sn230 [9 * ρ 4 + 6, ρ 19] (γ 1) 0 1 (γ 2) := hS230 _ _ _ _ _ (zAllA hl 1)
  have l2 : sn249 [ρ 0, ρ 1, ρ 2, ρ 3, ρ 4, ρ 5, ρ 6, ρ 7, ρ 8, ρ 9, ρ 10, ρ 11, ρ 12, ρ 13, ρ 14, ρ 15, ρ 16, ρ 17, ρ 18, ρ 25, ρ 26, ρ 27, ρ 28, ρ 29, ρ 30, ρ 31, ρ 32, ρ 33, ρ 34, ρ 35, ρ 36] (γ 2) 0 0 (γ 3) := hS249 _ _ _ _ _ (zAllA hl 2)
  show sn251 [ρ 0, ρ 1, ρ 2, ρ 3, ρ 4, ρ 5, ρ 6, ρ 7, ρ 8, ρ 9, ρ 10, ρ 11, ρ 12, ρ 13, ρ 14, ρ 15, ρ 16, ρ 17, ρ 18, ρ 19, ρ 20, ρ 21, ρ 22, ρ 23, ρ 24, ρ 25, ρ 26, ρ 27, ρ 28, ρ 29, ρ 30, ρ 31, ρ 32, ρ 33, ρ 34, ρ 35, ρ 36] (γ 0) 0 0 (γ 3)
  refine Eq.symm ?_
  show fn251 [] (γ 0) = _
  unfold fn251
  refine zLE m4 (zLE m13 (zLE m19 (zIN w_0 (zLE (show fn132 [ρ 4, 5] (γ 0) = (0, 9 * ρ 4 + 6, γ 1) from l0.symm) (zLV (γ 1) rfl (zIP w_1 (zIP w_2 ?_)))))))
  refine zIP w_3 (zLE (show fn230 [9 * ρ 4 + 6] (γ 1) = (0, 1, γ 2) from l1.symm) (zLV (γ 2) rfl (zIP zQ1_ (zLE (show fn249 [] (γ 2) = (0, 0, γ 3) from l2.symm) (zLV (γ 3) rfl (zIP (show (0 : Nat) = 0 by decide) ?_))))))
  rfl
theorem vn251_4 {S : Nat → zSpc} (hS132 : zIm S 132 sn132) (hS228 : zIm S 228 sn228) (hS229 : zIm S 229 sn229) (hS230 : zIm S 230 sn230) (hS231 : zIm S 231 sn231) (hS244 : zIm S 244 sn244) (hS249 : zIm S 249 sn249) (hS250 : zIm S 250 sn250) {a : List Int} {g : rHp} : ∀ (ρ : Nat → Int) (γ : Nat → rHp), zO 37 S a g q251_4 ρ γ → zGl (fun _ _ _ => True) (sn251 a g) q251_4 ρ γ := by
  intro ρ γ h
  obtain ⟨ha, hg, hr, hf, hm, hc, hl⟩ := h
  have ha : a = [ρ 0, ρ 1, ρ 2, ρ 3, ρ 4, ρ 5, ρ 6, ρ 7, ρ 8, ρ 9, ρ 10, ρ 11, ρ 12, ρ 13, ρ 14, ρ 15, ρ 16, ρ 17, ρ 18, ρ 19, ρ 20, ρ 21, ρ 22, ρ 23, ρ 24, ρ 25, ρ 26, ρ 27, ρ 28, ρ 29, ρ 30, ρ 31, ρ 32, ρ 33, ρ 34, ρ 35, ρ 36] := ha
  subst ha
  subst hg
  have r13 : (6 : Int) ≤ ρ 13 ∧ ρ 13 ≤ 8 := zRnA hr 13
  have r19 : (3 : Int) ≤ ρ 19 ∧ ρ 19 ≤ 3 := zRnA hr 19
  obtain ⟨w_0, w_1, w_2, w_3⟩ : (¬ (5 ≥ ρ 13)) ∧ (ρ 19 ≠ 1) ∧ (0 ≤ -ρ 19 + 3) ∧ (ρ 19 ≠ 2) := ⟨by omega, by omega, by omega, by omega⟩
  have m4 : γ 0 6 0 7 = ρ 4 := zAllA hm 4
  have m13 : γ 0 9 (ρ 4) 2 = ρ 13 := zAllA hm 13
  have m19 : γ 0 10 (9 * ρ 4 + 6) 4 = ρ 19 := zAllA hm 19
  have l0 : sn132 [ρ 4, 5] (γ 0) 0 (9 * ρ 4 + 6) (γ 1) := hS132 _ _ _ _ _ (zAllA hl 0)
  have l1 : sn230 [9 * ρ 4 + 6, ρ 19] (γ 1) 0 1 (γ 2) := hS230 _ _ _ _ _ (zAllA hl 1)
  have l2 : sn249 [ρ 0, ρ 1, ρ 2, ρ 3, ρ 4, ρ 5, ρ 6, ρ 7, ρ 8, ρ 9, ρ 10, ρ 11, ρ 12, ρ 13, ρ 14, ρ 15, ρ 16, ρ 17, ρ 18, ρ 25, ρ 26, ρ 27, ρ 28, ρ 29, ρ 30, ρ 31, ρ 32, ρ 33, ρ 34, ρ 35, ρ 36] (γ 2) 1 0 (γ 3) := hS249 _ _ _ _ _ (zAllA hl 2)
  show sn251 [ρ 0, ρ 1, ρ 2, ρ 3, ρ 4, ρ 5, ρ 6, ρ 7, ρ 8, ρ 9, ρ 10, ρ 11, ρ 12, ρ 13, ρ 14, ρ 15, ρ 16, ρ 17, ρ 18, ρ 19, ρ 20, ρ 21, ρ 22, ρ 23, ρ 24, ρ 25, ρ 26, ρ 27, ρ 28, ρ 29, ρ 30, ρ 31, ρ 32, ρ 33, ρ 34, ρ 35, ρ 36] (γ 0) 1 0 (γ 3)
  refine Eq.symm ?_
  show fn251 [] (γ 0) = _
  unfold fn251
  refine zLE m4 (zLE m13 (zLE m19 (zIN w_0 (zLE (show fn132 [ρ 4, 5] (γ 0) = (0, 9 * ρ 4 + 6, γ 1) from l0.symm) (zLV (γ 1) rfl (zIP w_1 (zIP w_2 ?_)))))))
  refine zIP w_3 (zLE (show fn230 [9 * ρ 4 + 6] (γ 1) = (0, 1, γ 2) from l1.symm) (zLV (γ 2) rfl (zIP zQ1_ (zLE (show fn249 [] (γ 2) = (1, 0, γ 3) from l2.symm) (zLV (γ 3) rfl (zIN (show ¬ (1 : Nat) = 0 by decide) (zIP (show (1 : Nat) = 1 by decide) ?_)))))))
  rfl
theorem vn251_5 {S : Nat → zSpc} (hS132 : zIm S 132 sn132) (hS228 : zIm S 228 sn228) (hS229 : zIm S 229 sn229) (hS230 : zIm S 230 sn230) (hS231 : zIm S 231 sn231) (hS244 : zIm S 244 sn244) (hS249 : zIm S 249 sn249) (hS250 : zIm S 250 sn250) {a : List Int} {g : rHp} : ∀ (ρ : Nat → Int) (γ : Nat → rHp), zO 37 S a g q251_5 ρ γ → zGl (fun _ _ _ => True) (sn251 a g) q251_5 ρ γ := by
  intro ρ γ h
  obtain ⟨ha, hg, hr, hf, hm, hc, hl⟩ := h
  have ha : a = [ρ 0, ρ 1, ρ 2, ρ 3, ρ 4, ρ 5, ρ 6, ρ 7, ρ 8, ρ 9, ρ 10, ρ 11, ρ 12, ρ 13, ρ 14, ρ 15, ρ 16, ρ 17, ρ 18, ρ 19, ρ 20, ρ 21, ρ 22, ρ 23, ρ 24, ρ 25, ρ 26, ρ 27, ρ 28, ρ 29, ρ 30, ρ 31, ρ 32, ρ 33, ρ 34, ρ 35, ρ 36] := ha
  subst ha
  subst hg
  have r13 : (7 : Int) ≤ ρ 13 ∧ ρ 13 ≤ 8 := zRnA hr 13
  have r19 : (3 : Int) ≤ ρ 19 ∧ ρ 19 ≤ 3 := zRnA hr 19
  obtain ⟨w_0, w_1, w_2, w_3⟩ : (¬ (5 ≥ ρ 13)) ∧ (ρ 19 ≠ 1) ∧ (0 ≤ -ρ 19 + 3) ∧ (ρ 19 ≠ 2) := ⟨by omega, by omega, by omega, by omega⟩
  have m4 : γ 0 6 0 7 = ρ 4 := zAllA hm 4
  have m13 : γ 0 9 (ρ 4) 2 = ρ 13 := zAllA hm 13
  have m19 : γ 0 10 (9 * ρ 4 + 6) 4 = ρ 19 := zAllA hm 19
  have l0 : sn132 [ρ 4, 5] (γ 0) 0 (9 * ρ 4 + 6) (γ 1) := hS132 _ _ _ _ _ (zAllA hl 0)
  have l1 : sn230 [9 * ρ 4 + 6, ρ 19] (γ 1) 0 1 (γ 2) := hS230 _ _ _ _ _ (zAllA hl 1)
  have l2 : sn249 [ρ 0, ρ 1, ρ 2, ρ 3, ρ 4, ρ 5, ρ 6, ρ 7, ρ 8, ρ 9, ρ 10, ρ 11, ρ 12, ρ 13, ρ 14, ρ 15, ρ 16, ρ 17, ρ 18, ρ 25, ρ 26, ρ 27, ρ 28, ρ 29, ρ 30, ρ 31, ρ 32, ρ 33, ρ 34, ρ 35, ρ 36] (γ 2) 4 0 (γ 3) := hS249 _ _ _ _ _ (zAllA hl 2)
  show sn251 [ρ 0, ρ 1, ρ 2, ρ 3, ρ 4, ρ 5, ρ 6, ρ 7, ρ 8, ρ 9, ρ 10, ρ 11, ρ 12, ρ 13, ρ 14, ρ 15, ρ 16, ρ 17, ρ 18, ρ 19, ρ 20, ρ 21, ρ 22, ρ 23, ρ 24, ρ 25, ρ 26, ρ 27, ρ 28, ρ 29, ρ 30, ρ 31, ρ 32, ρ 33, ρ 34, ρ 35, ρ 36] (γ 0) 4 0 (γ 3)
  refine Eq.symm ?_
  show fn251 [] (γ 0) = _
  unfold fn251
  refine zLE m4 (zLE m13 (zLE m19 (zIN w_0 (zLE (show fn132 [ρ 4, 5] (γ 0) = (0, 9 * ρ 4 + 6, γ 1) from l0.symm) (zLV (γ 1) rfl (zIP w_1 (zIP w_2 ?_)))))))
  refine zIP w_3 (zLE (show fn230 [9 * ρ 4 + 6] (γ 1) = (0, 1, γ 2) from l1.symm) (zLV (γ 2) rfl (zIP zQ1_ (zLE (show fn249 [] (γ 2) = (4, 0, γ 3) from l2.symm) (zLV (γ 3) rfl (zIN (show ¬ (4 : Nat) = 0 by decide) (zIN (show ¬ (4 : Nat) = 1 by decide) ?_)))))))
  rfl
theorem vn251_6 {S : Nat → zSpc} (hS132 : zIm S 132 sn132) (hS228 : zIm S 228 sn228) (hS229 : zIm S 229 sn229) (hS230 : zIm S 230 sn230) (hS231 : zIm S 231 sn231) (hS244 : zIm S 244 sn244) (hS249 : zIm S 249 sn249) (hS250 : zIm S 250 sn250) {a : List Int} {g : rHp} : ∀ (ρ : Nat → Int) (γ : Nat → rHp), zO 37 S a g q251_6 ρ γ → zGl (fun _ _ _ => True) (sn251 a g) q251_6 ρ γ := by
  intro ρ γ h
  obtain ⟨ha, hg, hr, hf, hm, hc, hl⟩ := h
  have ha : a = [ρ 0, ρ 1, ρ 2, ρ 3, ρ 4, ρ 5, ρ 6, ρ 7, ρ 8, ρ 9, ρ 10, ρ 11, ρ 12, ρ 13, ρ 14, ρ 15, ρ 16, ρ 17, ρ 18, ρ 19, ρ 20, ρ 21, ρ 22, ρ 23, ρ 24, ρ 25, ρ 26, ρ 27, ρ 28, ρ 29, ρ 30, ρ 31, ρ 32, ρ 33, ρ 34, ρ 35, ρ 36] := ha
  subst ha
  subst hg
  have r13 : (6 : Int) ≤ ρ 13 ∧ ρ 13 ≤ 8 := zRnA hr 13
  have r19 : (2 : Int) ≤ ρ 19 ∧ ρ 19 ≤ 2 := zRnA hr 19
  obtain ⟨w_0, w_1, w_2, w_3⟩ : (¬ (5 ≥ ρ 13)) ∧ (ρ 19 ≠ 1) ∧ (0 ≤ -ρ 19 + 3) ∧ (¬ (ρ 19 ≠ 2)) := ⟨by omega, by omega, by omega, by omega⟩
  have m4 : γ 0 6 0 7 = ρ 4 := zAllA hm 4
  have m13 : γ 0 9 (ρ 4) 2 = ρ 13 := zAllA hm 13
  have m19 : γ 0 10 (9 * ρ 4 + 6) 4 = ρ 19 := zAllA hm 19
  have l0 : sn132 [ρ 4, 5] (γ 0) 0 (9 * ρ 4 + 6) (γ 1) := hS132 _ _ _ _ _ (zAllA hl 0)
  have l1 : sn228 [9 * ρ 4 + 6, ρ 6, ρ 10, ρ 20, ρ 21, ρ 22] (γ 1) 0 0 (γ 2) := hS228 _ _ _ _ _ (zAllA hl 1)
  have l2 : sn249 [ρ 0, ρ 1, ρ 2, ρ 3, ρ 4, ρ 5, ρ 6, ρ 7, ρ 8, ρ 9, ρ 10, ρ 11, ρ 12, ρ 13, ρ 14, ρ 15, ρ 16, ρ 17, ρ 18, ρ 25, ρ 26, ρ 27, ρ 28, ρ 29, ρ 30, ρ 31, ρ 32, ρ 33, ρ 34, ρ 35, ρ 36] (γ 2) 0 0 (γ 3) := hS249 _ _ _ _ _ (zAllA hl 2)
  show sn251 [ρ 0, ρ 1, ρ 2, ρ 3, ρ 4, ρ 5, ρ 6, ρ 7, ρ 8, ρ 9, ρ 10, ρ 11, ρ 12, ρ 13, ρ 14, ρ 15, ρ 16, ρ 17, ρ 18, ρ 19, ρ 20, ρ 21, ρ 22, ρ 23, ρ 24, ρ 25, ρ 26, ρ 27, ρ 28, ρ 29, ρ 30, ρ 31, ρ 32, ρ 33, ρ 34, ρ 35, ρ 36] (γ 0) 0 0 (γ 3)
  refine Eq.symm ?_
  show fn251 [] (γ 0) = _
  unfold fn251
  refine zLE m4 (zLE m13 (zLE m19 (zIN w_0 (zLE (show fn132 [ρ 4, 5] (γ 0) = (0, 9 * ρ 4 + 6, γ 1) from l0.symm) (zLV (γ 1) rfl (zIP w_1 (zIP w_2 ?_)))))))
  refine zIN w_3 (zLE (show fn228 [9 * ρ 4 + 6] (γ 1) = (0, 0, γ 2) from l1.symm) (zLV (γ 2) rfl (zIN zQ0_ (zLE (show fn249 [] (γ 2) = (0, 0, γ 3) from l2.symm) (zLV (γ 3) rfl (zIP (show (0 : Nat) = 0 by decide) ?_))))))
  rfl
theorem vn251_7 {S : Nat → zSpc} (hS132 : zIm S 132 sn132) (hS228 : zIm S 228 sn228) (hS229 : zIm S 229 sn229) (hS230 : zIm S 230 sn230) (hS231 : zIm S 231 sn231) (hS244 : zIm S 244 sn244) (hS249 : zIm S 249 sn249) (hS250 : zIm S 250 sn250) {a : List Int} {g : rHp} : ∀ (ρ : Nat → Int) (γ : Nat → rHp), zO 37 S a g q251_7 ρ γ → zGl (fun _ _ _ => True) (sn251 a g) q251_7 ρ γ := by
  intro ρ γ h
  obtain ⟨ha, hg, hr, hf, hm, hc, hl⟩ := h
  have ha : a = [ρ 0, ρ 1, ρ 2, ρ 3, ρ 4, ρ 5, ρ 6, ρ 7, ρ 8, ρ 9, ρ 10, ρ 11, ρ 12, ρ 13, ρ 14, ρ 15, ρ 16, ρ 17, ρ 18, ρ 19, ρ 20, ρ 21, ρ 22, ρ 23, ρ 24, ρ 25, ρ 26, ρ 27, ρ 28, ρ 29, ρ 30, ρ 31, ρ 32, ρ 33, ρ 34, ρ 35, ρ 36] := ha
  subst ha
  subst hg
  have r13 : (6 : Int) ≤ ρ 13 ∧ ρ 13 ≤ 8 := zRnA hr 13
  have r19 : (2 : Int) ≤ ρ 19 ∧ ρ 19 ≤ 2 := zRnA hr 19
  obtain ⟨w_0, w_1, w_2, w_3⟩ : (¬ (5 ≥ ρ 13)) ∧ (ρ 19 ≠ 1) ∧ (0 ≤ -ρ 19 + 3) ∧ (¬ (ρ 19 ≠ 2)) := ⟨by omega, by omega, by omega, by omega⟩
  have m4 : γ 0 6 0 7 = ρ 4 := zAllA hm 4
  have m13 : γ 0 9 (ρ 4) 2 = ρ 13 := zAllA hm 13
  have m19 : γ 0 10 (9 * ρ 4 + 6) 4 = ρ 19 := zAllA hm 19
  have l0 : sn132 [ρ 4, 5] (γ 0) 0 (9 * ρ 4 + 6) (γ 1) := hS132 _ _ _ _ _ (zAllA hl 0)
  have l1 : sn228 [9 * ρ 4 + 6, ρ 6, ρ 10, ρ 20, ρ 21, ρ 22] (γ 1) 0 0 (γ 2) := hS228 _ _ _ _ _ (zAllA hl 1)
  have l2 : sn249 [ρ 0, ρ 1, ρ 2, ρ 3, ρ 4, ρ 5, ρ 6, ρ 7, ρ 8, ρ 9, ρ 10, ρ 11, ρ 12, ρ 13, ρ 14, ρ 15, ρ 16, ρ 17, ρ 18, ρ 25, ρ 26, ρ 27, ρ 28, ρ 29, ρ 30, ρ 31, ρ 32, ρ 33, ρ 34, ρ 35, ρ 36] (γ 2) 1 0 (γ 3) := hS249 _ _ _ _ _ (zAllA hl 2)
  show sn251 [ρ 0, ρ 1, ρ 2, ρ 3, ρ 4, ρ 5, ρ 6, ρ 7, ρ 8, ρ 9, ρ 10, ρ 11, ρ 12, ρ 13, ρ 14, ρ 15, ρ 16, ρ 17, ρ 18, ρ 19, ρ 20, ρ 21, ρ 22, ρ 23, ρ 24, ρ 25, ρ 26, ρ 27, ρ 28, ρ 29, ρ 30, ρ 31, ρ 32, ρ 33, ρ 34, ρ 35, ρ 36] (γ 0) 1 0 (γ 3)
  refine Eq.symm ?_
  show fn251 [] (γ 0) = _
  unfold fn251
  refine zLE m4 (zLE m13 (zLE m19 (zIN w_0 (zLE (show fn132 [ρ 4, 5] (γ 0) = (0, 9 * ρ 4 + 6, γ 1) from l0.symm) (zLV (γ 1) rfl (zIP w_1 (zIP w_2 ?_)))))))
  refine zIN w_3 (zLE (show fn228 [9 * ρ 4 + 6] (γ 1) = (0, 0, γ 2) from l1.symm) (zLV (γ 2) rfl (zIN zQ0_ (zLE (show fn249 [] (γ 2) = (1, 0, γ 3) from l2.symm) (zLV (γ 3) rfl (zIN (show ¬ (1 : Nat) = 0 by decide) (zIP (show (1 : Nat) = 1 by decide) ?_)))))))
  rfl
theorem vn251_8 {S : Nat → zSpc} (hS132 : zIm S 132 sn132) (hS228 : zIm S 228 sn228) (hS229 : zIm S 229 sn229) (hS230 : zIm S 230 sn230) (hS231 : zIm S 231 sn231) (hS244 : zIm S 244 sn244) (hS249 : zIm S 249 sn249) (hS250 : zIm S 250 sn250) {a : List Int} {g : rHp} : ∀ (ρ : Nat → Int) (γ : Nat → rHp), zO 37 S a g q251_8 ρ γ → zGl (fun _ _ _ => True) (sn251 a g) q251_8 ρ γ := by
  intro ρ γ h
  obtain ⟨ha, hg, hr, hf, hm, hc, hl⟩ := h
  have ha : a = [ρ 0, ρ 1, ρ 2, ρ 3, ρ 4, ρ 5, ρ 6, ρ 7, ρ 8, ρ 9, ρ 10, ρ 11, ρ 12, ρ 13, ρ 14, ρ 15, ρ 16, ρ 17, ρ 18, ρ 19, ρ 20, ρ 21, ρ 22, ρ 23, ρ 24, ρ 25, ρ 26, ρ 27, ρ 28, ρ 29, ρ 30, ρ 31, ρ 32, ρ 33, ρ 34, ρ 35, ρ 36] := ha
  subst ha
  subst hg
  have r13 : (7 : Int) ≤ ρ 13 ∧ ρ 13 ≤ 8 := zRnA hr 13
  have r19 : (2 : Int) ≤ ρ 19 ∧ ρ 19 ≤ 2 := zRnA hr 19
  obtain ⟨w_0, w_1, w_2, w_3⟩ : (¬ (5 ≥ ρ 13)) ∧ (ρ 19 ≠ 1) ∧ (0 ≤ -ρ 19 + 3) ∧ (¬ (ρ 19 ≠ 2)) := ⟨by omega, by omega, by omega, by omega⟩
  have m4 : γ 0 6 0 7 = ρ 4 := zAllA hm 4
  have m13 : γ 0 9 (ρ 4) 2 = ρ 13 := zAllA hm 13
  have m19 : γ 0 10 (9 * ρ 4 + 6) 4 = ρ 19 := zAllA hm 19
  have l0 : sn132 [ρ 4, 5] (γ 0) 0 (9 * ρ 4 + 6) (γ 1) := hS132 _ _ _ _ _ (zAllA hl 0)
  have l1 : sn228 [9 * ρ 4 + 6, ρ 6, ρ 10, ρ 20, ρ 21, ρ 22] (γ 1) 0 0 (γ 2) := hS228 _ _ _ _ _ (zAllA hl 1)
  have l2 : sn249 [ρ 0, ρ 1, ρ 2, ρ 3, ρ 4, ρ 5, ρ 6, ρ 7, ρ 8, ρ 9, ρ 10, ρ 11, ρ 12, ρ 13, ρ 14, ρ 15, ρ 16, ρ 17, ρ 18, ρ 25, ρ 26, ρ 27, ρ 28, ρ 29, ρ 30, ρ 31, ρ 32, ρ 33, ρ 34, ρ 35, ρ 36] (γ 2) 4 0 (γ 3) := hS249 _ _ _ _ _ (zAllA hl 2)
  show sn251 [ρ 0, ρ 1, ρ 2, ρ 3, ρ 4, ρ 5, ρ 6, ρ 7, ρ 8, ρ 9, ρ 10, ρ 11, ρ 12, ρ 13, ρ 14, ρ 15, ρ 16, ρ 17, ρ 18, ρ 19, ρ 20, ρ 21, ρ 22, ρ 23, ρ 24, ρ 25, ρ 26, ρ 27, ρ 28, ρ 29, ρ 30, ρ 31, ρ 32, ρ 33, ρ 34, ρ 35, ρ 36] (γ 0) 4 0 (γ 3)
  refine Eq.symm ?_
  show fn251 [] (γ 0) = _
  unfold fn251
  refine zLE m4 (zLE m13 (zLE m19 (zIN w_0 (zLE (show fn132 [ρ 4, 5] (γ 0) = (0, 9 * ρ 4 + 6, γ 1) from l0.symm) (zLV (γ 1) rfl (zIP w_1 (zIP w_2 ?_)))))))
  refine zIN w_3 (zLE (show fn228 [9 * ρ 4 + 6] (γ 1) = (0, 0, γ 2) from l1.symm) (zLV (γ 2) rfl (zIN zQ0_ (zLE (show fn249 [] (γ 2) = (4, 0, γ 3) from l2.symm) (zLV (γ 3) rfl (zIN (show ¬ (4 : Nat) = 0 by decide) (zIN (show ¬ (4 : Nat) = 1 by decide) ?_)))))))
  rfl
theorem vn251_9 {S : Nat → zSpc} (hS132 : zIm S 132 sn132) (hS228 : zIm S 228 sn228) (hS229 : zIm S 229 sn229) (hS230 : zIm S 230 sn230) (hS231 : zIm S 231 sn231) (hS244 : zIm S 244 sn244) (hS249 : zIm S 249 sn249) (hS250 : zIm S 250 sn250) {a : List Int} {g : rHp} : ∀ (ρ : Nat → Int) (γ : Nat → rHp), zO 37 S a g q251_9 ρ γ → zGl (fun _ _ _ => True) (sn251 a g) q251_9 ρ γ := by
  intro ρ γ h
  obtain ⟨ha, hg, hr, hf, hm, hc, hl⟩ := h
  have ha : a = [ρ 0, ρ 1, ρ 2, ρ 3, ρ 4, ρ 5, ρ 6, ρ 7, ρ 8, ρ 9, ρ 10, ρ 11, ρ 12, ρ 13, ρ 14, ρ 15, ρ 16, ρ 17, ρ 18, ρ 19, ρ 20, ρ 21, ρ 22, ρ 23, ρ 24, ρ 25, ρ 26, ρ 27, ρ 28, ρ 29, ρ 30, ρ 31, ρ 32, ρ 33, ρ 34, ρ 35, ρ 36] := ha
  subst ha
  subst hg
  have r13 : (6 : Int) ≤ ρ 13 ∧ ρ 13 ≤ 8 := zRnA hr 13
  have r19 : (2 : Int) ≤ ρ 19 ∧ ρ 19 ≤ 2 := zRnA hr 19
  obtain ⟨w_0, w_1, w_2, w_3⟩ : (¬ (5 ≥ ρ 13)) ∧ (ρ 19 ≠ 1) ∧ (0 ≤ -ρ 19 + 3) ∧ (¬ (ρ 19 ≠ 2)) := ⟨by omega, by omega, by omega, by omega⟩
  have m4 : γ 0 6 0 7 = ρ 4 := zAllA hm 4
  have m13 : γ 0 9 (ρ 4) 2 = ρ 13 := zAllA hm 13
  have m19 : γ 0 10 (9 * ρ 4 + 6) 4 = ρ 19 := zAllA hm 19
  have l0 : sn132 [ρ 4, 5] (γ 0) 0 (9 * ρ 4 + 6) (γ 1) := hS132 _ _ _ _ _ (zAllA hl 0)
  have l1 : sn228 [9 * ρ 4 + 6, ρ 6, ρ 10, ρ 20, ρ 21, ρ 22] (γ 1) 0 1 (γ 2) := hS228 _ _ _ _ _ (zAllA hl 1)
  show sn251 [ρ 0, ρ 1, ρ 2, ρ 3, ρ 4, ρ 5, ρ 6, ρ 7, ρ 8, ρ 9, ρ 10, ρ 11, ρ 12, ρ 13, ρ 14, ρ 15, ρ 16, ρ 17, ρ 18, ρ 19, ρ 20, ρ 21, ρ 22, ρ 23, ρ 24, ρ 25, ρ 26, ρ 27, ρ 28, ρ 29, ρ 30, ρ 31, ρ 32, ρ 33, ρ 34, ρ 35, ρ 36] (γ 0) 0 0 (γ 2)
  refine Eq.symm ?_
  show fn251 [] (γ 0) = _
  unfold fn251
  refine zLE m4 (zLE m13 (zLE m19 (zIN w_0 (zLE (show fn132 [ρ 4, 5] (γ 0) = (0, 9 * ρ 4 + 6, γ 1) from l0.symm) (zLV (γ 1) rfl (zIP w_1 (zIP w_2 ?_)))))))
  refine zIN w_3 (zLE (show fn228 [9 * ρ 4 + 6] (γ 1) = (0, 1, γ 2) from l1.symm) (zLV (γ 2) rfl (zIP zQ1_ ?_)))
  rfl
theorem vn251_10 {S : Nat → zSpc} (hS132 : zIm S 132 sn132) (hS228 : zIm S 228 sn228) (hS229 : zIm S 229 sn229) (hS230 : zIm S 230 sn230) (hS231 : zIm S 231 sn231) (hS244 : zIm S 244 sn244) (hS249 : zIm S 249 sn249) (hS250 : zIm S 250 sn250) {a : List Int} {g : rHp} : ∀ (ρ : Nat → Int) (γ : Nat → rHp), zO 37 S a g q251_10 ρ γ → zGl (fun _ _ _ => True) (sn251 a g) q251_10 ρ γ := by
  intro ρ γ h
  obtain ⟨ha, hg, hr, hf, hm, hc, hl⟩ := h
  have ha : a = [ρ 0, ρ 1, ρ 2, ρ 3, ρ 4, ρ 5, ρ 6, ρ 7, ρ 8, ρ 9, ρ 10, ρ 11, ρ 12, ρ 13, ρ 14, ρ 15, ρ 16, ρ 17, ρ 18, ρ 19, ρ 20, ρ 21, ρ 22, ρ 23, ρ 24, ρ 25, ρ 26, ρ 27, ρ 28, ρ 29, ρ 30, ρ 31, ρ 32, ρ 33, ρ 34, ρ 35, ρ 36] := ha
  subst ha
  subst hg
  have r13 : (6 : Int) ≤ ρ 13 ∧ ρ 13 ≤ 8 := zRnA hr 13
  have r19 : (4 : Int) ≤ ρ 19 ∧ ρ 19 ≤ 5 := zRnA hr 19
  obtain ⟨w_0, w_1, w_2, w_3⟩ : (¬ (5 ≥ ρ 13)) ∧ (ρ 19 ≠ 1) ∧ (¬ (0 ≤ -ρ 19 + 3)) ∧ (0 ≤ -ρ 19 + 5) := ⟨by omega, by omega, by omega, by omega⟩
  have m4 : γ 0 6 0 7 = ρ 4 := zAllA hm 4
  have m13 : γ 0 9 (ρ 4) 2 = ρ 13 := zAllA hm 13
  have m19 : γ 0 10 (9 * ρ 4 + 6) 4 = ρ 19 := zAllA hm 19
  have l0 : sn132 [ρ 4, 5] (γ 0) 0 (9 * ρ 4 + 6) (γ 1) := hS132 _ _ _ _ _ (zAllA hl 0)
  have l1 : sn229 [9 * ρ 4 + 6, ρ 19] (γ 1) 0 0 (γ 2) := hS229 _ _ _ _ _ (zAllA hl 1)
  show sn251 [ρ 0, ρ 1, ρ 2, ρ 3, ρ 4, ρ 5, ρ 6, ρ 7, ρ 8, ρ 9, ρ 10, ρ 11, ρ 12, ρ 13, ρ 14, ρ 15, ρ 16, ρ 17, ρ 18, ρ 19, ρ 20, ρ 21, ρ 22, ρ 23, ρ 24, ρ 25, ρ 26, ρ 27, ρ 28, ρ 29, ρ 30, ρ 31, ρ 32, ρ 33, ρ 34, ρ 35, ρ 36] (γ 0) 0 0 (γ 2)
  refine Eq.symm ?_
  show fn251 [] (γ 0) = _
  unfold fn251
  refine zLE m4 (zLE m13 (zLE m19 (zIN w_0 (zLE (show fn132 [ρ 4, 5] (γ 0) = (0, 9 * ρ 4 + 6, γ 1) from l0.symm) (zLV (γ 1) rfl (zIP w_1 (zIN w_2 ?_)))))))
  refine zIP w_3 (zLE (show fn229 [9 * ρ 4 + 6] (γ 1) = (0, 0, γ 2) from l1.symm) (zLV (γ 2) rfl (zIN zQ0_ ?_)))
  rfl
theorem vn251_11 {S : Nat → zSpc} (hS132 : zIm S 132 sn132) (hS228 : zIm S 228 sn228) (hS229 : zIm S 229 sn229) (hS230 : zIm S 230 sn230) (hS231 : zIm S 231 sn231) (hS244 : zIm S 244 sn244) (hS249 : zIm S 249 sn249) (hS250 : zIm S 250 sn250) {a : List Int} {g : rHp} : ∀ (ρ : Nat → Int) (γ : Nat → rHp), zO 37 S a g q251_11 ρ γ → zGl (fun _ _ _ => True) (sn251 a g) q251_11 ρ γ := by
  intro ρ γ h
  obtain ⟨ha, hg, hr, hf, hm, hc, hl⟩ := h
  have ha : a = [ρ 0, ρ 1, ρ 2, ρ 3, ρ 4, ρ 5, ρ 6, ρ 7, ρ 8, ρ 9, ρ 10, ρ 11, ρ 12, ρ 13, ρ 14, ρ 15, ρ 16, ρ 17, ρ 18, ρ 19, ρ 20, ρ 21, ρ 22, ρ 23, ρ 24, ρ 25, ρ 26, ρ 27, ρ 28, ρ 29, ρ 30, ρ 31, ρ 32, ρ 33, ρ 34, ρ 35, ρ 36] := ha
  subst ha
  subst hg
  have r13 : (6 : Int) ≤ ρ 13 ∧ ρ 13 ≤ 8 := zRnA hr 13
  have r19 : (4 : Int) ≤ ρ 19 ∧ ρ 19 ≤ 5 := zRnA hr 19
  obtain ⟨w_0, w_1, w_2, w_3⟩ : (¬ (5 ≥ ρ 13)) ∧ (ρ 19 ≠ 1) ∧ (¬ (0 ≤ -ρ 19 + 3)) ∧ (0 ≤ -ρ 19 + 5) := ⟨by omega, by omega, by omega, by omega⟩
  have m4 : γ 0 6 0 7 = ρ 4 := zAllA hm 4
  have m13 : γ 0 9 (ρ 4) 2 = ρ 13 := zAllA hm 13
  have m19 : γ 0 10 (9 * ρ 4 + 6) 4 = ρ 19 := zAllA hm 19
  have l0 : sn132 [ρ 4, 5] (γ 0) 0 (9 * ρ 4 + 6) (γ 1) := hS132 _ _ _ _ _ (zAllA hl 0)
  have l1 : sn229 [9 * ρ 4 + 6, ρ 19] (γ 1) 0 1 (γ 2) := hS229 _ _ _ _ _ (zAllA hl 1)
  have l2 : sn249 [ρ 0, ρ 1, ρ 2, ρ 3, ρ 4, ρ 5, ρ 6, ρ 7, ρ 8, ρ 9, ρ 10, ρ 11, ρ 12, ρ 13, ρ 14, ρ 15, ρ 16, ρ 17, ρ 18, ρ 25, ρ 26, ρ 27, ρ 28, ρ 29, ρ 30, ρ 31, ρ 32, ρ 33, ρ 34, ρ 35, ρ 36] (γ 2) 0 0 (γ 3) := hS249 _ _ _ _ _ (zAllA hl 2)
  show sn251 [ρ 0, ρ 1, ρ 2, ρ 3, ρ 4, ρ 5, ρ 6, ρ 7, ρ 8, ρ 9, ρ 10, ρ 11, ρ 12, ρ 13, ρ 14, ρ 15, ρ 16, ρ 17, ρ 18, ρ 19, ρ 20, ρ 21, ρ 22, ρ 23, ρ 24, ρ 25, ρ 26, ρ 27, ρ 28, ρ 29, ρ 30, ρ 31, ρ 32, ρ 33, ρ 34, ρ 35, ρ 36] (γ 0) 0 0 (γ 3)
  refine Eq.symm ?_
  show fn251 [] (γ 0) = _
  unfold fn251
  refine zLE m4 (zLE m13 (zLE m19 (zIN w_0 (zLE (show fn132 [ρ 4, 5] (γ 0) = (0, 9 * ρ 4 + 6, γ 1) from l0.symm) (zLV (γ 1) rfl (zIP w_1 (zIN w_2 ?_)))))))
  refine zIP w_3 (zLE (show fn229 [9 * ρ 4 + 6] (γ 1) = (0, 1, γ 2) from l1.symm) (zLV (γ 2) rfl (zIP zQ1_ (zLE (show fn249 [] (γ 2) = (0, 0, γ 3) from l2.symm) (zLV (γ 3) rfl (zIP (show (0 : Nat) = 0 by decide) ?_))))))
  rfl
theorem vn251_12 {S : Nat → zSpc} (hS132 : zIm S 132 sn132) (hS228 : zIm S 228 sn228) (hS229 : zIm S 229 sn229) (hS230 : zIm S 230 sn230) (hS231 : zIm S 231 sn231) (hS244 : zIm S 244 sn244) (hS249 : zIm S 249 sn249) (hS250 : zIm S 250 sn250) {a : List Int} {g : rHp} : ∀ (ρ : Nat → Int) (γ : Nat → rHp), zO 37 S a g q251_12 ρ γ → zGl (fun _ _ _ => True) (sn251 a g) q251_12 ρ γ := by
  intro ρ γ h
  obtain ⟨ha, hg, hr, hf, hm, hc, hl⟩ := h
  have ha : a = [ρ 0, ρ 1, ρ 2, ρ 3, ρ 4, ρ 5, ρ 6, ρ 7, ρ 8, ρ 9, ρ 10, ρ 11, ρ 12, ρ 13, ρ 14, ρ 15, ρ 16, ρ 17, ρ 18, ρ 19, ρ 20, ρ 21, ρ 22, ρ 23, ρ 24, ρ 25, ρ 26, ρ 27, ρ 28, ρ 29, ρ 30, ρ 31, ρ 32, ρ 33, ρ 34, ρ 35, ρ 36] := ha
  subst ha
  subst hg
  have r13 : (6 : Int) ≤ ρ 13 ∧ ρ 13 ≤ 8 := zRnA hr 13
  have r19 : (4 : Int) ≤ ρ 19 ∧ ρ 19 ≤ 5 := zRnA hr 19
  obtain ⟨w_0, w_1, w_2, w_3⟩ : (¬ (5 ≥ ρ 13)) ∧ (ρ 19 ≠ 1) ∧ (¬ (0 ≤ -ρ 19 + 3)) ∧ (0 ≤ -ρ 19 + 5) := ⟨by omega, by omega, by omega, by omega⟩
  have m4 : γ 0 6 0 7 = ρ 4 := zAllA hm 4
  have m13 : γ 0 9 (ρ 4) 2 = ρ 13 := zAllA hm 13
  have m19 : γ 0 10 (9 * ρ 4 + 6) 4 = ρ 19 := zAllA hm 19
  have l0 : sn132 [ρ 4, 5] (γ 0) 0 (9 * ρ 4 + 6) (γ 1) := hS132 _ _ _ _ _ (zAllA hl 0)
  have l1 : sn229 [9 * ρ 4 + 6, ρ 19] (γ 1) 0 1 (γ 2) := hS229 _ _ _ _ _ (zAllA hl 1)
  have l2 : sn249 [ρ 0, ρ 1, ρ 2, ρ 3, ρ 4, ρ 5, ρ 6, ρ 7, ρ 8, ρ 9, ρ 10, ρ 11, ρ 12, ρ 13, ρ 14, ρ 15, ρ 16, ρ 17, ρ 18, ρ 25, ρ 26, ρ 27, ρ 28, ρ 29, ρ 30, ρ 31, ρ 32, ρ 33, ρ 34, ρ 35, ρ 36] (γ 2) 1 0 (γ 3) := hS249 _ _ _ _ _ (zAllA hl 2)
  show sn251 [ρ 0, ρ 1, ρ 2, ρ 3, ρ 4, ρ 5, ρ 6, ρ 7, ρ 8, ρ 9, ρ 10, ρ 11, ρ 12, ρ 13, ρ 14, ρ 15, ρ 16, ρ 17, ρ 18, ρ 19, ρ 20, ρ 21, ρ 22, ρ 23, ρ 24, ρ 25, ρ 26, ρ 27, ρ 28, ρ 29, ρ 30, ρ 31, ρ 32, ρ 33, ρ 34, ρ 35, ρ 36] (γ 0) 1 0 (γ 3)
  refine Eq.symm ?_
  show fn251 [] (γ 0) = _
  unfold fn251
  refine zLE m4 (zLE m13 (zLE m19 (zIN w_0 (zLE (show fn132 [ρ 4, 5] (γ 0) = (0, 9 * ρ 4 + 6, γ 1) from l0.symm) (zLV (γ 1) rfl (zIP w_1 (zIN w_2 ?_)))))))
  refine zIP w_3 (zLE (show fn229 [9 * ρ 4 + 6] (γ 1) = (0, 1, γ 2) from l1.symm) (zLV (γ 2) rfl (zIP zQ1_ (zLE (show fn249 [] (γ 2) = (1, 0, γ 3) from l2.symm) (zLV (γ 3) rfl (zIN (show ¬ (1 : Nat) = 0 by decide) (zIP (show (1 : Nat) = 1 by decide) ?_)))))))
  rfl
theorem vn251_13 {S : Nat → zSpc} (hS132 : zIm S 132 sn132) (hS228 : zIm S 228 sn228) (hS229 : zIm S 229 sn229) (hS230 : zIm S 230 sn230) (hS231 : zIm S 231 sn231) (hS244 : zIm S 244 sn244) (hS249 : zIm S 249 sn249) (hS250 : zIm S 250 sn250) {a : List Int} {g : rHp} : ∀ (ρ : Nat → Int) (γ : Nat → rHp), zO 37 S a g q251_13 ρ γ → zGl (fun _ _ _ => True) (sn251 a g) q251_13 ρ γ := by
  intro ρ γ h
  obtain ⟨ha, hg, hr, hf, hm, hc, hl⟩ := h
  have ha : a = [ρ 0, ρ 1, ρ 2, ρ 3, ρ 4, ρ 5, ρ 6, ρ 7, ρ 8, ρ 9, ρ 10, ρ 11, ρ 12, ρ 13, ρ 14, ρ 15, ρ 16, ρ 17, ρ 18, ρ 19, ρ 20, ρ 21, ρ 22, ρ 23, ρ 24, ρ 25, ρ 26, ρ 27, ρ 28, ρ 29, ρ 30, ρ 31, ρ 32, ρ 33, ρ 34, ρ 35, ρ 36] := ha
  subst ha
  subst hg
  have r13 : (7 : Int) ≤ ρ 13 ∧ ρ 13 ≤ 8 := zRnA hr 13
  have r19 : (4 : Int) ≤ ρ 19 ∧ ρ 19 ≤ 5 := zRnA hr 19
  obtain ⟨w_0, w_1, w_2, w_3⟩ : (¬ (5 ≥ ρ 13)) ∧ (ρ 19 ≠ 1) ∧ (¬ (0 ≤ -ρ 19 + 3)) ∧ (0 ≤ -ρ 19 + 5) := ⟨by omega, by omega, by omega, by omega⟩
  have m4 : γ 0 6 0 7 = ρ 4 := zAllA hm 4
  have m13 : γ 0 9 (ρ 4) 2 = ρ 13 := zAllA hm 13
  have m19 : γ 0 10 (9 * ρ 4 + 6) 4 = ρ 19 := zAllA hm 19
  have l0 : sn132 [ρ 4, 5] (γ 0) 0 (9 * ρ 4 + 6) (γ 1) := hS132 _ _ _ _ _ (zAllA hl 0)
  have l1 : sn229 [9 * ρ 4 + 6, ρ 19] (γ 1) 0 1 (γ 2) := hS229 _ _ _ _ _ (zAllA hl 1)
  have l2 : sn249 [ρ 0, ρ 1, ρ 2, ρ 3, ρ 4, ρ 5, ρ 6, ρ 7, ρ 8, ρ 9, ρ 10, ρ 11, ρ 12, ρ 13, ρ 14, ρ 15, ρ 16, ρ 17, ρ 18, ρ 25, ρ 26, ρ 27, ρ 28, ρ 29, ρ 30, ρ 31, ρ 32, ρ 33, ρ 34, ρ 35, ρ 36] (γ 2) 4 0 (γ 3) := hS249 _ _ _ _ _ (zAllA hl 2)
  show sn251 [ρ 0, ρ 1, ρ 2, ρ 3, ρ 4, ρ 5, ρ 6, ρ 7, ρ 8, ρ 9, ρ 10, ρ 11, ρ 12, ρ 13, ρ 14, ρ 15, ρ 16, ρ 17, ρ 18, ρ 19, ρ 20, ρ 21, ρ 22, ρ 23, ρ 24, ρ 25, ρ 26, ρ 27, ρ 28, ρ 29, ρ 30, ρ 31, ρ 32, ρ 33, ρ 34, ρ 35, ρ 36] (γ 0) 4 0 (γ 3)
  refine Eq.symm ?_
  show fn251 [] (γ 0) = _
  unfold fn251
  refine zLE m4 (zLE m13 (zLE m19 (zIN w_0 (zLE (show fn132 [ρ 4, 5] (γ 0) = (0, 9 * ρ 4 + 6, γ 1) from l0.symm) (zLV (γ 1) rfl (zIP w_1 (zIN w_2 ?_)))))))
  refine zIP w_3 (zLE (show fn229 [9 * ρ 4 + 6] (γ 1) = (0, 1, γ 2) from l1.symm) (zLV (γ 2) rfl (zIP zQ1_ (zLE (show fn249 [] (γ 2) = (4, 0, γ 3) from l2.symm) (zLV (γ 3) rfl (zIN (show ¬ (4 : Nat) = 0 by decide) (zIN (show ¬ (4 : Nat) = 1 by decide) ?_)))))))
  rfl
theorem vn251_14 {S : Nat → zSpc} (hS132 : zIm S 132 sn132) (hS228 : zIm S 228 sn228) (hS229 : zIm S 229 sn229) (hS230 : zIm S 230 sn230) (hS231 : zIm S 231 sn231) (hS244 : zIm S 244 sn244) (hS249 : zIm S 249 sn249) (hS250 : zIm S 250 sn250) {a : List Int} {g : rHp} : ∀ (ρ : Nat → Int) (γ : Nat → rHp), zO 37 S a g q251_14 ρ γ → zGl (fun _ _ _ => True) (sn251 a g) q251_14 ρ γ := by
  intro ρ γ h
  obtain ⟨ha, hg, hr, hf, hm, hc, hl⟩ := h
  have ha : a = [ρ 0, ρ 1, ρ 2, ρ 3, ρ 4, ρ 5, ρ 6, ρ 7, ρ 8, ρ 9, ρ 10, ρ 11, ρ 12, ρ 13, ρ 14, ρ 15, ρ 16, ρ 17, ρ 18, ρ 19, ρ 20, ρ 21, ρ 22, ρ 23, ρ 24, ρ 25, ρ 26, ρ 27, ρ 28, ρ 29, ρ 30, ρ 31, ρ 32, ρ 33, ρ 34, ρ 35, ρ 36] := ha
  subst ha
  subst hg
  have r13 : (6 : Int) ≤ ρ 13 ∧ ρ 13 ≤ 8 := zRnA hr 13
  have r19 : (6 : Int) ≤ ρ 19 ∧ ρ 19 ≤ 8 := zRnA hr 19
  obtain ⟨w_0, w_1, w_2, w_3⟩ : (¬ (5 ≥ ρ 13)) ∧ (ρ 19 ≠ 1) ∧ (¬ (0 ≤ -ρ 19 + 3)) ∧ (¬ (0 ≤ -ρ 19 + 5)) := ⟨by omega, by omega, by omega, by omega⟩
  have m4 : γ 0 6 0 7 = ρ 4 := zAllA hm 4
  have m13 : γ 0 9 (ρ 4) 2 = ρ 13 := zAllA hm 13
  have m19 : γ 0 10 (9 * ρ 4 + 6) 4 = ρ 19 := zAllA hm 19
  have l0 : sn132 [ρ 4, 5] (γ 0) 0 (9 * ρ 4 + 6) (γ 1) := hS132 _ _ _ _ _ (zAllA hl 0)
  have l1 : sn231 [9 * ρ 4 + 6, ρ 19, ρ 24] (γ 1) 0 0 (γ 2) := hS231 _ _ _ _ _ (zAllA hl 1)
  show sn251 [ρ 0, ρ 1, ρ 2, ρ 3, ρ 4, ρ 5, ρ 6, ρ 7, ρ 8, ρ 9, ρ 10, ρ 11, ρ 12, ρ 13, ρ 14, ρ 15, ρ 16, ρ 17, ρ 18, ρ 19, ρ 20, ρ 21, ρ 22, ρ 23, ρ 24, ρ 25, ρ 26, ρ 27, ρ 28, ρ 29, ρ 30, ρ 31, ρ 32, ρ 33, ρ 34, ρ 35, ρ 36] (γ 0) 0 0 (γ 2)
  refine Eq.symm ?_
  show fn251 [] (γ 0) = _
  unfold fn251
  refine zLE m4 (zLE m13 (zLE m19 (zIN w_0 (zLE (show fn132 [ρ 4, 5] (γ 0) = (0, 9 * ρ 4 + 6, γ 1) from l0.symm) (zLV (γ 1) rfl (zIP w_1 (zIN w_2 ?_)))))))
  refine zIN w_3 (zLE (show fn231 [9 * ρ 4 + 6] (γ 1) = (0, 0, γ 2) from l1.symm) (zLV (γ 2) rfl (zIN zQ0_ ?_)))
  rfl
theorem vn251_15 {S : Nat → zSpc} (hS132 : zIm S 132 sn132) (hS228 : zIm S 228 sn228) (hS229 : zIm S 229 sn229) (hS230 : zIm S 230 sn230) (hS231 : zIm S 231 sn231) (hS244 : zIm S 244 sn244) (hS249 : zIm S 249 sn249) (hS250 : zIm S 250 sn250) {a : List Int} {g : rHp} : ∀ (ρ : Nat → Int) (γ : Nat → rHp), zO 37 S a g q251_15 ρ γ → zGl (fun _ _ _ => True) (sn251 a g) q251_15 ρ γ := by
  intro ρ γ h
  obtain ⟨ha, hg, hr, hf, hm, hc, hl⟩ := h
  have ha : a = [ρ 0, ρ 1, ρ 2, ρ 3, ρ 4, ρ 5, ρ 6, ρ 7, ρ 8, ρ 9, ρ 10, ρ 11, ρ 12, ρ 13, ρ 14, ρ 15, ρ 16, ρ 17, ρ 18, ρ 19, ρ 20, ρ 21, ρ 22, ρ 23, ρ 24, ρ 25, ρ 26, ρ 27, ρ 28, ρ 29, ρ 30, ρ 31, ρ 32, ρ 33, ρ 34, ρ 35, ρ 36] := ha
  subst ha
  subst hg
  have r13 : (6 : Int) ≤ ρ 13 ∧ ρ 13 ≤ 8 := zRnA hr 13
  have r19 : (6 : Int) ≤ ρ 19 ∧ ρ 19 ≤ 8 := zRnA hr 19
  obtain ⟨w_0, w_1, w_2, w_3⟩ : (¬ (5 ≥ ρ 13)) ∧ (ρ 19 ≠ 1) ∧ (¬ (0 ≤ -ρ 19 + 3)) ∧ (¬ (0 ≤ -ρ 19 + 5)) := ⟨by omega, by omega, by omega, by omega⟩
  have m4 : γ 0 6 0 7 = ρ 4 := zAllA hm 4
  have m13 : γ 0 9 (ρ 4) 2 = ρ 13 := zAllA hm 13
  have m19 : γ 0 10 (9 * ρ 4 + 6) 4 = ρ 19 := zAllA hm 19
  have l0 : sn132 [ρ 4, 5] (γ 0) 0 (9 * ρ 4 + 6) (γ 1) := hS132 _ _ _ _ _ (zAllA hl 0)
  have l1 : sn231 [9 * ρ 4 + 6, ρ 19, ρ 24] (γ 1) 0 1 (γ 2) := hS231 _ _ _ _ _ (zAllA hl 1)
  have l2 : sn249 [ρ 0, ρ 1, ρ 2, ρ 3, ρ 4, ρ 5, ρ 6, ρ 7, ρ 8, ρ 9, ρ 10, ρ 11, ρ 12, ρ 13, ρ 14, ρ 15, ρ 16, ρ 17, ρ 18, ρ 25, ρ 26, ρ 27, ρ 28, ρ 29, ρ 30, ρ 31, ρ 32, ρ 33, ρ 34, ρ 35, ρ 36] (γ 2) 0 0 (γ 3) := hS249 _ _ _ _ _ (zAllA hl 2)
  show sn251 [ρ 0, ρ 1, ρ 2, ρ 3, ρ 4, ρ 5, ρ 6, ρ 7, ρ 8, ρ 9, ρ 10, ρ 11, ρ 12, ρ 13, ρ 14, ρ 15, ρ 16, ρ 17, ρ 18, ρ 19, ρ 20, ρ 21, ρ 22, ρ 23, ρ 24, ρ 25, ρ 26, ρ 27, ρ 28, ρ 29, ρ 30, ρ 31, ρ 32, ρ 33, ρ 34, ρ 35, ρ 36] (γ 0) 0 0 (γ 3)
  refine Eq.symm ?_
  show fn251 [] (γ 0) = _
  unfold fn251
  refine zLE m4 (zLE m13 (zLE m19 (zIN w_0 (zLE (show fn132 [ρ 4, 5] (γ 0) = (0, 9 * ρ 4 + 6, γ 1) from l0.symm) (zLV (γ 1) rfl (zIP w_1 (zIN w_2 ?_)))))))
  refine zIN w_3 (zLE (show fn231 [9 * ρ 4 + 6] (γ 1) = (0, 1, γ 2) from l1.symm) (zLV (γ 2) rfl (zIP zQ1_ (zLE (show fn249 [] (γ 2) = (0, 0, γ 3) from l2.symm) (zLV (γ 3) rfl (zIP (show (0 : Nat) = 0 by decide) ?_))))))
  rfl
theorem vn251_16 {S : Nat → zSpc} (hS132 : zIm S 132 sn132) (hS228 : zIm S 228 sn228) (hS229 : zIm S 229 sn229) (hS230 : zIm S 230 sn230) (hS231 : zIm S 231 sn231) (hS244 : zIm S 244 sn244) (hS249 : zIm S 249 sn249) (hS250 : zIm S 250 sn250) {a : List Int} {g : rHp} : ∀ (ρ : Nat → Int) (γ : Nat → rHp), zO 37 S a g q251_16 ρ γ → zGl (fun _ _ _ => True) (sn251 a g) q251_16 ρ γ := by
  intro ρ γ h
  obtain ⟨ha, hg, hr, hf, hm, hc, hl⟩ := h
  have ha : a = [ρ 0, ρ 1, ρ 2, ρ 3, ρ 4, ρ 5, ρ 6, ρ 7, ρ 8, ρ 9, ρ 10, ρ 11, ρ 12, ρ 13, ρ 14, ρ 15, ρ 16, ρ 17, ρ 18, ρ 19, ρ 20, ρ 21, ρ 22, ρ 23, ρ 24, ρ 25, ρ 26, ρ 27, ρ 28, ρ 29, ρ 30, ρ 31, ρ 32, ρ 33, ρ 34, ρ 35, ρ 36] := ha
  subst ha
  subst hg
  have r13 : (6 : Int) ≤ ρ 13 ∧ ρ 13 ≤ 8 := zRnA hr 13
  have r19 : (6 : Int) ≤ ρ 19 ∧ ρ 19 ≤ 8 := zRnA hr 19
  obtain ⟨w_0, w_1, w_2, w_3⟩ : (¬ (5 ≥ ρ 13)) ∧ (ρ 19 ≠ 1) ∧ (¬ (0 ≤ -ρ 19 + 3)) ∧ (¬ (0 ≤ -ρ 19 + 5)) := ⟨by omega, by omega, by omega, by omega⟩
  have m4 : γ 0 6 0 7 = ρ 4 := zAllA hm 4
  have m13 : γ 0 9 (ρ 4) 2 = ρ 13 := zAllA hm 13
  have m19 : γ 0 10 (9 * ρ 4 + 6) 4 = ρ 19 := zAllA hm 19
  have l0 : sn132 [ρ 4, 5] (γ 0) 0 (9 * ρ 4 + 6) (γ 1) := hS132 _ _ _ _ _ (zAllA hl 0)
  have l1 : sn231 [9 * ρ 4 + 6, ρ 19, ρ 24] (γ 1) 0 1 (γ 2) := hS231 _ _ _ _ _ (zAllA hl 1)
  have l2 : sn249 [ρ 0, ρ 1, ρ 2, ρ 3, ρ 4, ρ 5, ρ 6, ρ 7, ρ 8, ρ 9, ρ 10, ρ 11, ρ 12, ρ 13, ρ 14, ρ 15, ρ 16, ρ 17, ρ 18, ρ 25, ρ 26, ρ 27, ρ 28, ρ 29, ρ 30, ρ 31, ρ 32, ρ 33, ρ 34, ρ 35, ρ 36] (γ 2) 1 0 (γ 3) := hS249 _ _ _ _ _ (zAllA hl 2)
  show sn251 [ρ 0, ρ 1, ρ 2, ρ 3, ρ 4, ρ 5, ρ 6, ρ 7, ρ 8, ρ 9, ρ 10, ρ 11, ρ 12, ρ 13, ρ 14, ρ 15, ρ 16, ρ 17, ρ 18, ρ 19, ρ 20, ρ 21, ρ 22, ρ 23, ρ 24, ρ 25, ρ 26, ρ 27, ρ 28, ρ 29, ρ 30, ρ 31, ρ 32, ρ 33, ρ 34, ρ 35, ρ 36] (γ 0) 1 0 (γ 3)
  refine Eq.symm ?_
  show fn251 [] (γ 0) = _
  unfold fn251
  refine zLE m4 (zLE m13 (zLE m19 (zIN w_0 (zLE (show fn132 [ρ 4, 5] (γ 0) = (0, 9 * ρ 4 + 6, γ 1) from l0.symm) (zLV (γ 1) rfl (zIP w_1 (zIN w_2 ?_)))))))
  refine zIN w_3 (zLE (show fn231 [9 * ρ 4 + 6] (γ 1) = (0, 1, γ 2) from l1.symm) (zLV (γ 2) rfl (zIP zQ1_ (zLE (show fn249 [] (γ 2) = (1, 0, γ 3) from l2.symm) (zLV (γ 3) rfl (zIN (show ¬ (1 : Nat) = 0 by decide) (zIP (show (1 : Nat) = 1 by decide) ?_)))))))
  rfl
theorem vn251_17 {S : Nat → zSpc} (hS132 : zIm S 132 sn132) (hS228 : zIm S 228 sn228) (hS229 : zIm S 229 sn229) (hS230 : zIm S 230 sn230) (hS231 : zIm S 231 sn231) (hS244 : zIm S 244 sn244) (hS249 : zIm S 249 sn249) (hS250 : zIm S 250 sn250) {a : List Int} {g : rHp} : ∀ (ρ : Nat → Int) (γ : Nat → rHp), zO 37 S a g q251_17 ρ γ → zGl (fun _ _ _ => True) (sn251 a g) q251_17 ρ γ := by
  intro ρ γ h
  obtain ⟨ha, hg, hr, hf, hm, hc, hl⟩ := h
  have ha : a = [ρ 0, ρ 1, ρ 2, ρ 3, ρ 4, ρ 5, ρ 6, ρ 7, ρ 8, ρ 9, ρ 10, ρ 11, ρ 12, ρ 13, ρ 14, ρ 15, ρ 16, ρ 17, ρ 18, ρ 19, ρ 20, ρ 21, ρ 22, ρ 23, ρ 24, ρ 25, ρ 26, ρ 27, ρ 28, ρ 29, ρ 30, ρ 31, ρ 32, ρ 33, ρ 34, ρ 35, ρ 36] := ha
  subst ha
  subst hg
  have r13 : (7 : Int) ≤ ρ 13 ∧ ρ 13 ≤ 8 := zRnA hr 13
  have r19 : (6 : Int) ≤ ρ 19 ∧ ρ 19 ≤ 8 := zRnA hr 19
  obtain ⟨w_0, w_1, w_2, w_3⟩ : (¬ (5 ≥ ρ 13)) ∧ (ρ 19 ≠ 1) ∧ (¬ (0 ≤ -ρ 19 + 3)) ∧ (¬ (0 ≤ -ρ 19 + 5)) := ⟨by omega, by omega, by omega, by omega⟩
  have m4 : γ 0 6 0 7 = ρ 4 := zAllA hm 4
  have m13 : γ 0 9 (ρ 4) 2 = ρ 13 := zAllA hm 13
  have m19 : γ 0 10 (9 * ρ 4 + 6) 4 = ρ 19 := zAllA hm 19
  have l0 : sn132 [ρ 4, 5] (γ 0) 0 (9 * ρ 4 + 6) (γ 1) := hS132 _ _ _ _ _ (zAllA hl 0)
  have l1 : sn231 [9 * ρ 4 + 6, ρ 19, ρ 24] (γ 1) 0 1 (γ 2) := hS231 _ _ _ _ _ (zAllA hl 1)
  have l2 : sn249 [ρ 0, ρ 1, ρ 2, ρ 3, ρ 4, ρ 5, ρ 6, ρ 7, ρ 8, ρ 9, ρ 10, ρ 11, ρ 12, ρ 13, ρ 14, ρ 15, ρ 16, ρ 17, ρ 18, ρ 25, ρ 26, ρ 27, ρ 28, ρ 29, ρ 30, ρ 31, ρ 32, ρ 33, ρ 34, ρ 35, ρ 36] (γ 2) 4 0 (γ 3) := hS249 _ _ _ _ _ (zAllA hl 2)
  show sn251 [ρ 0, ρ 1, ρ 2, ρ 3, ρ 4, ρ 5, ρ 6, ρ 7, ρ 8, ρ 9, ρ 10, ρ 11, ρ 12, ρ 13, ρ 14, ρ 15, ρ 16, ρ 17, ρ 18, ρ 19, ρ 20, ρ 21, ρ 22, ρ 23, ρ 24, ρ 25, ρ 26, ρ 27, ρ 28, ρ 29, ρ 30, ρ 31, ρ 32, ρ 33, ρ 34, ρ 35, ρ 36] (γ 0) 4 0 (γ 3)
  refine Eq.symm ?_
  show fn251 [] (γ 0) = _
  unfold fn251
  refine zLE m4 (zLE m13 (zLE m19 (zIN w_0 (zLE (show fn132 [ρ 4, 5] (γ 0) = (0, 9 * ρ 4 + 6, γ 1) from l0.symm) (zLV (γ 1) rfl (zIP w_1 (zIN w_2 ?_)))))))
  refine zIN w_3 (zLE (show fn231 [9 * ρ 4 + 6] (γ 1) = (0, 1, γ 2) from l1.symm) (zLV (γ 2) rfl (zIP zQ1_ (zLE (show fn249 [] (γ 2) = (4, 0, γ 3) from l2.symm) (zLV (γ 3) rfl (zIN (show ¬ (4 : Nat) = 0 by decide) (zIN (show ¬ (4 : Nat) = 1 by decide) ?_)))))))
  rfl
theorem vn251_18 {S : Nat → zSpc} (hS132 : zIm S 132 sn132) (hS228 : zIm S 228 sn228) (hS229 : zIm S 229 sn229) (hS230 : zIm S 230 sn230) (hS231 : zIm S 231 sn231) (hS244 : zIm S 244 sn244) (hS249 : zIm S 249 sn249) (hS250 : zIm S 250 sn250) {a : List Int} {g : rHp} : ∀ (ρ : Nat → Int) (γ : Nat → rHp), zO 37 S a g q251_18 ρ γ → zGl (fun _ _ _ => True) (sn251 a g) q251_18 ρ γ := by
  intro ρ γ h
  obtain ⟨ha, hg, hr, hf, hm, hc, hl⟩ := h
  have ha : a = [ρ 0, ρ 1, ρ 2, ρ 3, ρ 4, ρ 5, ρ 6, ρ 7, ρ 8, ρ 9, ρ 10, ρ 11, ρ 12, ρ 13, ρ 14, ρ 15, ρ 16, ρ 17, ρ 18, ρ 19, ρ 20, ρ 21, ρ 22, ρ 23, ρ 24, ρ 25, ρ 26, ρ 27, ρ 28, ρ 29, ρ 30, ρ 31, ρ 32, ρ 33, ρ 34, ρ 35, ρ 36] := ha
  subst ha
  subst hg
  have r13 : (6 : Int) ≤ ρ 13 ∧ ρ 13 ≤ 8 := zRnA hr 13
  have r19 : (1 : Int) ≤ ρ 19 ∧ ρ 19 ≤ 1 := zRnA hr 19
  obtain ⟨w_0, w_1⟩ : (¬ (5 ≥ ρ 13)) ∧ (¬ (ρ 19 ≠ 1)) := ⟨by omega, by omega⟩
  have m4 : γ 0 6 0 7 = ρ 4 := zAllA hm 4
  have m13 : γ 0 9 (ρ 4) 2 = ρ 13 := zAllA hm 13
  have m19 : γ 0 10 (9 * ρ 4 + 6) 4 = ρ 19 := zAllA hm 19
  have l0 : sn132 [ρ 4, 5] (γ 0) 0 (9 * ρ 4 + 6) (γ 1) := hS132 _ _ _ _ _ (zAllA hl 0)
  have l1 : sn250 [ρ 0, ρ 1, ρ 2, ρ 3, ρ 4, ρ 5, ρ 6, ρ 7, ρ 8, ρ 9, ρ 10, ρ 11, ρ 12, ρ 13, ρ 14, ρ 15, ρ 16, ρ 17, ρ 18, ρ 20, ρ 21, ρ 22, ρ 23, ρ 25, ρ 26, ρ 27, ρ 28, ρ 29, ρ 30, ρ 31, ρ 32, ρ 33, ρ 34, ρ 35, ρ 36] (γ 1) 0 0 (γ 2) := hS250 _ _ _ _ _ (zAllA hl 1)
  show sn251 [ρ 0, ρ 1, ρ 2, ρ 3, ρ 4, ρ 5, ρ 6, ρ 7, ρ 8, ρ 9, ρ 10, ρ 11, ρ 12, ρ 13, ρ 14, ρ 15, ρ 16, ρ 17, ρ 18, ρ 19, ρ 20, ρ 21, ρ 22, ρ 23, ρ 24, ρ 25, ρ 26, ρ 27, ρ 28, ρ 29, ρ 30, ρ 31, ρ 32, ρ 33, ρ 34, ρ 35, ρ 36] (γ 0) 0 0 (γ 2)
  refine Eq.symm ?_
  show fn251 [] (γ 0) = _
  unfold fn251
  refine zLE m4 (zLE m13 (zLE m19 (zIN w_0 (zLE (show fn132 [ρ 4, 5] (γ 0) = (0, 9 * ρ 4 + 6, γ 1) from l0.symm) (zLV (γ 1) rfl (zIN w_1 (zLE (show fn250 [] (γ 1) = (0, 0, γ 2) from l1.symm) ?_)))))))
  refine zLV (γ 2) rfl (zIP (show (0 : Nat) = 0 by decide) ?_)
  rfl
theorem vn251_19 {S : Nat → zSpc} (hS132 : zIm S 132 sn132) (hS228 : zIm S 228 sn228) (hS229 : zIm S 229 sn229) (hS230 : zIm S 230 sn230) (hS231 : zIm S 231 sn231) (hS244 : zIm S 244 sn244) (hS249 : zIm S 249 sn249) (hS250 : zIm S 250 sn250) {a : List Int} {g : rHp} : ∀ (ρ : Nat → Int) (γ : Nat → rHp), zO 37 S a g q251_19 ρ γ → zGl (fun _ _ _ => True) (sn251 a g) q251_19 ρ γ := by
  intro ρ γ h
  obtain ⟨ha, hg, hr, hf, hm, hc, hl⟩ := h
  have ha : a = [ρ 0, ρ 1, ρ 2, ρ 3, ρ 4, ρ 5, ρ 6, ρ 7, ρ 8, ρ 9, ρ 10, ρ 11, ρ 12, ρ 13, ρ 14, ρ 15, ρ 16, ρ 17, ρ 18, ρ 19, ρ 20, ρ 21, ρ 22, ρ 23, ρ 24, ρ 25, ρ 26, ρ 27, ρ 28, ρ 29, ρ 30, ρ 31, ρ 32, ρ 33, ρ 34, ρ 35, ρ 36] := ha
  subst ha
  subst hg
  have r13 : (6 : Int) ≤ ρ 13 ∧ ρ 13 ≤ 8 := zRnA hr 13
  have r19 : (1 : Int) ≤ ρ 19 ∧ ρ 19 ≤ 1 := zRnA hr 19
  obtain ⟨w_0, w_1⟩ : (¬ (5 ≥ ρ 13)) ∧ (¬ (ρ 19 ≠ 1)) := ⟨by omega, by omega⟩
  have m4 : γ 0 6 0 7 = ρ 4 := zAllA hm 4
  have m13 : γ 0 9 (ρ 4) 2 = ρ 13 := zAllA hm 13
  have m19 : γ 0 10 (9 * ρ 4 + 6) 4 = ρ 19 := zAllA hm 19
  have l0 : sn132 [ρ 4, 5] (γ 0) 0 (9 * ρ 4 + 6) (γ 1) := hS132 _ _ _ _ _ (zAllA hl 0)
  have l1 : sn250 [ρ 0, ρ 1, ρ 2, ρ 3, ρ 4, ρ 5, ρ 6, ρ 7, ρ 8, ρ 9, ρ 10, ρ 11, ρ 12, ρ 13, ρ 14, ρ 15, ρ 16, ρ 17, ρ 18, ρ 20, ρ 21, ρ 22, ρ 23, ρ 25, ρ 26, ρ 27, ρ 28, ρ 29, ρ 30, ρ 31, ρ 32, ρ 33, ρ 34, ρ 35, ρ 36] (γ 1) 1 0 (γ 2) := hS250 _ _ _ _ _ (zAllA hl 1)
  show sn251 [ρ 0, ρ 1, ρ 2, ρ 3, ρ 4, ρ 5, ρ 6, ρ 7, ρ 8, ρ 9, ρ 10, ρ 11, ρ 12, ρ 13, ρ 14, ρ 15, ρ 16, ρ 17, ρ 18, ρ 19, ρ 20, ρ 21, ρ 22, ρ 23, ρ 24, ρ 25, ρ 26, ρ 27, ρ 28, ρ 29, ρ 30, ρ 31, ρ 32, ρ 33, ρ 34, ρ 35, ρ 36] (γ 0) 1 0 (γ 2)
  refine Eq.symm ?_
  show fn251 [] (γ 0) = _
  unfold fn251
  refine zLE m4 (zLE m13 (zLE m19 (zIN w_0 (zLE (show fn132 [ρ 4, 5] (γ 0) = (0, 9 * ρ 4 + 6, γ 1) from l0.symm) (zLV (γ 1) rfl (zIN w_1 (zLE (show fn250 [] (γ 1) = (1, 0, γ 2) from l1.symm) ?_)))))))
  refine zLV (γ 2) rfl (zIN (show ¬ (1 : Nat) = 0 by decide) (zIP (show (1 : Nat) = 1 by decide) ?_))
  rfl
theorem vn251_20 {S : Nat → zSpc} (hS132 : zIm S 132 sn132) (hS228 : zIm S 228 sn228) (hS229 : zIm S 229 sn229) (hS230 : zIm S 230 sn230) (hS231 : zIm S 231 sn231) (hS244 : zIm S 244 sn244) (hS249 : zIm S 249 sn249) (hS250 : zIm S 250 sn250) {a : List Int} {g : rHp} : ∀ (ρ : Nat → Int) (γ : Nat → rHp), zO 37 S a g q251_20 ρ γ → zGl (fun _ _ _ => True) (sn251 a g) q251_20 ρ γ := by
  intro ρ γ h
  obtain ⟨ha, hg, hr, hf, hm, hc, hl⟩ := h
  have ha : a = [ρ 0, ρ 1, ρ 2, ρ 3, ρ 4, ρ 5, ρ 6, ρ 7, ρ 8, ρ 9, ρ 10, ρ 11, ρ 12, ρ 13, ρ 14, ρ 15, ρ 16, ρ 17, ρ 18, ρ 19, ρ 20, ρ 21, ρ 22, ρ 23, ρ 24, ρ 25, ρ 26, ρ 27, ρ 28, ρ 29, ρ 30, ρ 31, ρ 32, ρ 33, ρ 34, ρ 35, ρ 36] := ha
  subst ha
  subst hg
  have r13 : (6 : Int) ≤ ρ 13 ∧ ρ 13 ≤ 8 := zRnA hr 13
  have r19 : (1 : Int) ≤ ρ 19 ∧ ρ 19 ≤ 1 := zRnA hr 19
  obtain ⟨w_0, w_1⟩ : (¬ (5 ≥ ρ 13)) ∧ (¬ (ρ 19 ≠ 1)) := ⟨by omega, by omega⟩
  have m4 : γ 0 6 0 7 = ρ 4 := zAllA hm 4
  have m13 : γ 0 9 (ρ 4) 2 = ρ 13 := zAllA hm 13
  have m19 : γ 0 10 (9 * ρ 4 + 6) 4 = ρ 19 := zAllA hm 19
  have l0 : sn132 [ρ 4, 5] (γ 0) 0 (9 * ρ 4 + 6) (γ 1) := hS132 _ _ _ _ _ (zAllA hl 0)
  have l1 : sn250 [ρ 0, ρ 1, ρ 2, ρ 3, ρ 4, ρ 5, ρ 6, ρ 7, ρ 8, ρ 9, ρ 10, ρ 11, ρ 12, ρ 13, ρ 14, ρ 15, ρ 16, ρ 17, ρ 18, ρ 20, ρ 21, ρ 22, ρ 23, ρ 25, ρ 26, ρ 27, ρ 28, ρ 29, ρ 30, ρ 31, ρ 32, ρ 33, ρ 34, ρ 35, ρ 36] (γ 1) 4 0 (γ 2) := hS250 _ _ _ _ _ (zAllA hl 1)
  show sn251 [ρ 0, ρ 1, ρ 2, ρ 3, ρ 4, ρ 5, ρ 6, ρ 7, ρ 8, ρ 9, ρ 10, ρ 11, ρ 12, ρ 13, ρ 14, ρ 15, ρ 16, ρ 17, ρ 18, ρ 19, ρ 20, ρ 21, ρ 22, ρ 23, ρ 24, ρ 25, ρ 26, ρ 27, ρ 28, ρ 29, ρ 30, ρ 31, ρ 32, ρ 33, ρ 34, ρ 35, ρ 36] (γ 0) 4 0 (γ 2)
  refine Eq.symm ?_
  show fn251 [] (γ 0) = _
  unfold fn251
  refine zLE m4 (zLE m13 (zLE m19 (zIN w_0 (zLE (show fn132 [ρ 4, 5] (γ 0) = (0, 9 * ρ 4 + 6, γ 1) from l0.symm) (zLV (γ 1) rfl (zIN w_1 (zLE (show fn250 [] (γ 1) = (4, 0, γ 2) from l1.symm) ?_)))))))
  refine zLV (γ 2) rfl (zIN (show ¬ (4 : Nat) = 0 by decide) (zIN (show ¬ (4 : Nat) = 1 by decide) ?_))
  rfl
theorem yn251 {S : Nat → zSpc} (hS132 : zIm S 132 sn132) (hS228 : zIm S 228 sn228) (hS229 : zIm S 229 sn229) (hS230 : zIm S 230 sn230) (hS231 : zIm S 231 sn231) (hS244 : zIm S 244 sn244) (hS249 : zIm S 249 sn249) (hS250 : zIm S 250 sn250) : ∀ x g o v gz, zSem uW uT w251_.2.2.2.1 w251_.2.2.1.1.length S q251 (fun i => q251a.getD i []) (zNA a251_) x g o v gz → sn251 x g o v gz := by
  intro a g o v gz h
  exact zSem_all (l0 := q251) (las := q251a) (S := S) (J := (fun _ _ _ => True)) (P := sn251 a g) (fun _ => (show zAll _ [q251_0, q251_1, q251_2, q251_3, q251_4, q251_5, q251_6, q251_7, q251_8, q251_9, q251_10, q251_11, q251_12, q251_13, q251_14, q251_15, q251_16, q251_17, q251_18, q251_19, q251_20] from (zAll_c (vn251_0 hS132 hS228 hS229 hS230 hS231 hS244 hS249 hS250) (zAll_c (vn251_1 hS132 hS228 hS229 hS230 hS231 hS244 hS249 hS250) (zAll_c (vn251_2 hS132 hS228 hS229 hS230 hS231 hS244 hS249 hS250) (zAll_c (vn251_3 hS132 hS228 hS229 hS230 hS231 hS244 hS249 hS250) (zAll_c (vn251_4 hS132 hS228 hS229 hS230 hS231 hS244 hS249 hS250) (zAll_c (vn251_5 hS132 hS228 hS229 hS230 hS231 hS244 hS249 hS250) (zAll_c (vn251_6 hS132 hS228 hS229 hS230 hS231 hS244 hS249 hS250) (zAll_c (vn251_7 hS132 hS228 hS229 hS230 hS231 hS244 hS249 hS250) (zAll_c (vn251_8 hS132 hS228 hS229 hS230 hS231 hS244 hS249 hS250) (zAll_c (vn251_9 hS132 hS228 hS229 hS230 hS231 hS244 hS249 hS250) (zAll_c (vn251_10 hS132 hS228 hS229 hS230 hS231 hS244 hS249 hS250) (zAll_c (vn251_11 hS132 hS228 hS229 hS230 hS231 hS244 hS249 hS250) (zAll_c (vn251_12 hS132 hS228 hS229 hS230 hS231 hS244 hS249 hS250) (zAll_c (vn251_13 hS132 hS228 hS229 hS230 hS231 hS244 hS249 hS250) (zAll_c (vn251_14 hS132 hS228 hS229 hS230 hS231 hS244 hS249 hS250) (zAll_c (vn251_15 hS132 hS228 hS229 hS230 hS231 hS244 hS249 hS250) (zAll_c (vn251_16 hS132 hS228 hS229 hS230 hS231 hS244 hS249 hS250) (zAll_c (vn251_17 hS132 hS228 hS229 hS230 hS231 hS244 hS249 hS250) (zAll_c (vn251_18 hS132 hS228 hS229 hS230 hS231 hS244 hS249 hS250) (zAll_c (vn251_19 hS132 hS228 hS229 hS230 hS231 hS244 hS249 hS250) (zAll_c (vn251_20 hS132 hS228 hS229 hS230 hS231 hS244 hS249 hS250) zAll_n))))))))))))))))))))))) (fun _ => (show zAllI _ 0 [] from trivial)) h
