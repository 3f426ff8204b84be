/-! ===== the runs are the functions ===== -/
theorem vn264_0 {S : Nat → zSpc} (hS131 : zIm S 131 sn131) (hS234 : zIm S 234 sn234) (hS238 : zIm S 238 sn238) (hS261 : zIm S 261 sn261) {a : List Int} {g : rHp} : ∀ (ρ : Nat → Int) (γ : Nat → rHp), zO 11 S a g q264_0 ρ γ → zGl (fun i vs g1 => jn264 a g i vs g1) (sn264 a g) q264_0 ρ γ := by
  intro ρ γ h
  obtain ⟨ha, hg, hr, hf, hm, hc, hl⟩ := h
  have ha : a = [ρ 0, ρ 1, ρ 2, ρ 3, ρ 4, ρ 5, ρ 6, ρ 7, ρ 8, ρ 9, ρ 10] := ha
  subst ha
  subst hg
  have m2 : γ 0 4 0 7 = ρ 3 := zAllA hm 2
  have c1 : γ 1 = rUp (γ 0) 6 0 12 (ρ 3) := And.right (zChA hc 0)
  show jn264 [ρ 0, ρ 1, ρ 2, ρ 3, ρ 4, ρ 5, ρ 6, ρ 7, ρ 8, ρ 9, ρ 10] (γ 0) 0 [ρ 0, ρ 1, ρ 2, ρ 3, ρ 4, ρ 5, ρ 6, ρ 7, ρ 8, ρ 9, ρ 10, 1, 0, ρ 1, ρ 3, ρ 4, ρ 5, ρ 6, ρ 7, ρ 8, ρ 3, ρ 10] (γ 1)
  have hD : dn264 [ρ 0] (γ 0) = .inl (0, [ρ 0, 1, 0], γ 1) := by
    unfold dn264
    refine zLV (ρ 0) rfl (zLE m2 (zLE c1.symm ?_))
    rfl
  exact zGoo_to hD
theorem vn264a0_0 {S : Nat → zSpc} (hS131 : zIm S 131 sn131) (hS234 : zIm S 234 sn234) (hS238 : zIm S 238 sn238) (hS261 : zIm S 261 sn261) {a : List Int} {g : rHp} : ∀ (ρ : Nat → Int) (γ : Nat → rHp), jn264 a g 0 (zAg (zNA a264_ 0) ρ) (γ 1) → zO 11 S a g q264a0_0 ρ γ → zGl (fun i vs g1 => jn264 a g i vs g1) (sn264 a g) q264a0_0 ρ γ := by
  intro ρ γ hJ h
  obtain ⟨ha, hg, hr, hf, hm, hc, hl⟩ := h
  have ha : a = [ρ 0, ρ 1, ρ 2, ρ 3, ρ 4, ρ 5, ρ 6, ρ 7, ρ 8, ρ 9, ρ 10] := ha
  subst ha
  subst hg
  have hJ : jn264 [ρ 0, ρ 1, ρ 2, ρ 3, ρ 4, ρ 5, ρ 6, ρ 7, ρ 8, ρ 9, ρ 10] (γ 0) 0 [ρ 0, ρ 1, ρ 2, ρ 3, ρ 4, ρ 5, ρ 6, ρ 7, ρ 8, ρ 9, ρ 10, ρ 11, ρ 12, ρ 13, ρ 14, ρ 15, ρ 16, ρ 17, ρ 18, ρ 19, ρ 20, ρ 21] (γ 1) := hJ
  have r11 : (0 : Int) ≤ ρ 11 ∧ ρ 11 ≤ 0 := zRnA hr 11
  have w_0 : ρ 11 = 0 := by omega
  have m11 : γ 1 4 0 7 = ρ 14 := zAllA hm 11
  show sn264 [ρ 0, ρ 1, ρ 2, ρ 3, ρ 4, ρ 5, ρ 6, ρ 7, ρ 8, ρ 9, ρ 10] (γ 0) 0 (ρ 12) (γ 1)
  have hD : en264 (γ 0) (0, [ρ 0, ρ 11, ρ 12], γ 1) = .inr (0, ρ 12, γ 1) := by
    unfold en264
    refine zIP (show (0 : Nat) = 0 by decide) (zLV (γ 1) rfl (zLV (ρ 0) rfl (zLV (ρ 11) rfl (zLV (ρ 12) rfl (zLE m11 (zIP w_0 ?_))))))
    rfl
  exact zGoo_aend hJ hD
theorem vn264a0_1 {S : Nat → zSpc} (hS131 : zIm S 131 sn131) (hS234 : zIm S 234 sn234) (hS238 : zIm S 238 sn238) (hS261 : zIm S 261 sn261) {a : List Int} {g : rHp} : ∀ (ρ : Nat → Int) (γ : Nat → rHp), jn264 a g 0 (zAg (zNA a264_ 0) ρ) (γ 1) → zO 11 S a g q264a0_1 ρ γ → zGl (fun i vs g1 => jn264 a g i vs g1) (sn264 a g) q264a0_1 ρ γ := by
  intro ρ γ hJ h
  obtain ⟨ha, hg, hr, hf, hm, hc, hl⟩ := h
  have ha : a = [ρ 0, ρ 1, ρ 2, ρ 3, ρ 4, ρ 5, ρ 6, ρ 7, ρ 8, ρ 9, ρ 10] := ha
  subst ha
  subst hg
  have hJ : jn264 [ρ 0, ρ 1, ρ 2, ρ 3, ρ 4, ρ 5, ρ 6, ρ 7, ρ 8, ρ 9, ρ 10] (γ 0) 0 [ρ 0, ρ 1, ρ 2, ρ 3, ρ 4, ρ 5, ρ 6, ρ 7, ρ 8, ρ 9, ρ 10, ρ 11, ρ 12, ρ 13, ρ 14, ρ 15, ρ 16, ρ 17, ρ 18, ρ 19, ρ 20, ρ 21] (γ 1) := hJ
  have r11 : (1 : Int) ≤ ρ 11 ∧ ρ 11 ≤ 1 := zRnA hr 11
  have r12 : (2001 : Int) ≤ ρ 12 ∧ ρ 12 ≤ 2001 := zRnA hr 12
  obtain ⟨w_0, w_1⟩ : (¬ (ρ 11 = 0)) ∧ (ρ 12 > 2000) := ⟨by omega, by omega⟩
  have m11 : γ 1 4 0 7 = ρ 14 := zAllA hm 11
  show sn264 [ρ 0, ρ 1, ρ 2, ρ 3, ρ 4, ρ 5, ρ 6, ρ 7, ρ 8, ρ 9, ρ 10] (γ 0) 0 (ρ 12) (γ 1)
  have hD : en264 (γ 0) (0, [ρ 0, ρ 11, ρ 12], γ 1) = .inr (0, ρ 12, γ 1) := by
    unfold en264
    refine zIP (show (0 : Nat) = 0 by decide) (zLV (γ 1) rfl (zLV (ρ 0) rfl (zLV (ρ 11) rfl (zLV (ρ 12) rfl (zLE m11 (zIN w_0 (zIP w_1 ?_)))))))
    rfl
  exact zGoo_aend hJ hD
theorem vn264a0_2 {S : Nat → zSpc} (hS131 : zIm S 131 sn131) (hS234 : zIm S 234 sn234) (hS238 : zIm S 238 sn238) (hS261 : zIm S 261 sn261) {a : List Int} {g : rHp} : ∀ (ρ : Nat → Int) (γ : Nat → rHp), jn264 a g 0 (zAg (zNA a264_ 0) ρ) (γ 1) → zO 11 S a g q264a0_2 ρ γ → zGl (fun i vs g1 => jn264 a g i vs g1) (sn264 a g) q264a0_2 ρ γ := by
  intro ρ γ hJ h
  obtain ⟨ha, hg, hr, hf, hm, hc, hl⟩ := h
  have ha : a = [ρ 0, ρ 1, ρ 2, ρ 3, ρ 4, ρ 5, ρ 6, ρ 7, ρ 8, ρ 9, ρ 10] := ha
  subst ha
  subst hg
  have hJ : jn264 [ρ 0, ρ 1, ρ 2, ρ 3, ρ 4, ρ 5, ρ 6, ρ 7, ρ 8, ρ 9, ρ 10] (γ 0) 0 [ρ 0, ρ 1, ρ 2, ρ 3, ρ 4, ρ 5, ρ 6, ρ 7, ρ 8, ρ 9, ρ 10, ρ 11, ρ 12, ρ 13, ρ 14, ρ 15, ρ 16, ρ 17, ρ 18, ρ 19, ρ 20, ρ 21] (γ 1) := hJ
  have r11 : (1 : Int) ≤ ρ 11 ∧ ρ 11 ≤ 1 := zRnA hr 11
  have r12 : (0 : Int) ≤ ρ 12 ∧ ρ 12 ≤ 2000 := zRnA hr 12
  obtain ⟨w_0, w_1⟩ : (¬ (ρ 11 = 0)) ∧ (¬ (ρ 12 > 2000)) := ⟨by omega, by omega⟩
  have m11 : γ 1 4 0 7 = ρ 14 := zAllA hm 11
  have c2 : γ 2 = rUp (γ 1) 6 0 11 (ρ 14) := And.right (zChA hc 0)
  show jn264 [ρ 0, ρ 1, ρ 2, ρ 3, ρ 4, ρ 5, ρ 6, ρ 7, ρ 8, ρ 9, ρ 10] (γ 0) 1 [ρ 0, ρ 1, ρ 2, ρ 3, ρ 4, ρ 5, ρ 6, ρ 7, ρ 8, ρ 9, ρ 10, 0, ρ 12 + 1, ρ 13, ρ 14, ρ 15, ρ 16, ρ 17, ρ 18, ρ 14, ρ 20, ρ 21] (γ 2)
  have hD : en264 (γ 0) (0, [ρ 0, ρ 11, ρ 12], γ 1) = .inl (1, [ρ 0, 0, ρ 12 + 1], γ 2) := by
    unfold en264
    refine zIP (show (0 : Nat) = 0 by decide) (zLV (γ 1) rfl (zLV (ρ 0) rfl (zLV (ρ 11) rfl (zLV (ρ 12) rfl (zLE m11 (zIN w_0 (zIN w_1 ?_)))))))
    refine zLE c2.symm ?_
    rfl
  exact zGoo_ato hJ hD
theorem vn264a1_0 {S : Nat → zSpc} (hS131 : zIm S 131 sn131) (hS234 : zIm S 234 sn234) (hS238 : zIm S 238 sn238) (hS261 : zIm S 261 sn261) {a : List Int} {g : rHp} : ∀ (ρ : Nat → Int) (γ : Nat → rHp), jn264 a g 1 (zAg (zNA a264_ 1) ρ) (γ 1) → zO 11 S a g q264a1_0 ρ γ → zGl (fun i vs g1 => jn264 a g i vs g1) (sn264 a g) q264a1_0 ρ γ := by
  intro ρ γ hJ h
  obtain ⟨ha, hg, hr, hf, hm, hc, hl⟩ := h
  have ha : a = [ρ 0, ρ 1, ρ 2, ρ 3, ρ 4, ρ 5, ρ 6, ρ 7, ρ 8, ρ 9, ρ 10] := ha
  subst ha
  subst hg
  have hJ : jn264 [ρ 0, ρ 1, ρ 2, ρ 3, ρ 4, ρ 5, ρ 6, ρ 7, ρ 8, ρ 9, ρ 10] (γ 0) 1 [ρ 0, ρ 1, ρ 2, ρ 3, ρ 4, ρ 5, ρ 6, ρ 7, ρ 8, ρ 9, ρ 10, ρ 11, ρ 12, ρ 13, ρ 14, ρ 15, ρ 16, ρ 17, ρ 18, ρ 19, ρ 20, ρ 21] (γ 1) := hJ
  have f0 : (0 : Int) ≤ ρ 19 + -ρ 14 := zAllA hf 0
  have f1 : (0 : Int) ≤ ρ 11 + -ρ 2 := zAllA hf 1
  obtain ⟨w_0, w_1⟩ : (ρ 11 ≥ ρ 2) ∧ (ρ 14 ≤ ρ 19) := ⟨by omega, by omega⟩
  have m1 : γ 0 1 0 10 = ρ 2 := zAllA hm 1
  have m11 : γ 1 4 0 7 = ρ 14 := zAllA hm 11
  have m16 : γ 1 6 0 11 = ρ 19 := zAllA hm 16
  have c2 : γ 2 = rUp (γ 1) 6 0 12 (ρ 19) := And.right (zChA hc 0)
  show jn264 [ρ 0, ρ 1, ρ 2, ρ 3, ρ 4, ρ 5, ρ 6, ρ 7, ρ 8, ρ 9, ρ 10] (γ 0) 0 [ρ 0, ρ 1, ρ 2, ρ 3, ρ 4, ρ 5, ρ 6, ρ 7, ρ 8, ρ 9, ρ 10, 0, ρ 12, ρ 13, ρ 14, ρ 15, ρ 16, ρ 17, ρ 18, ρ 19, ρ 19, ρ 21] (γ 2)
  have hD : en264 (γ 0) (1, [ρ 0, ρ 11, ρ 12], γ 1) = .inl (0, [ρ 0, 0, ρ 12], γ 2) := by
    unfold en264
    refine zIN (show ¬ (1 : Nat) = 0 by decide) (zIP (show (1 : Nat) = 1 by decide) (zLV (γ 1) rfl (zLV (ρ 0) rfl (zLV (ρ 11) rfl (zLV (ρ 12) rfl (zLE m1 (zLE m11 ?_)))))))
    refine zLE m16 (zIP w_0 (zLE c2.symm (zIP w_1 ?_)))
    rfl
  exact zGoo_ato hJ hD
theorem vn264a1_1 {S : Nat → zSpc} (hS131 : zIm S 131 sn131) (hS234 : zIm S 234 sn234) (hS238 : zIm S 238 sn238) (hS261 : zIm S 261 sn261) {a : List Int} {g : rHp} : ∀ (ρ : Nat → Int) (γ : Nat → rHp), jn264 a g 1 (zAg (zNA a264_ 1) ρ) (γ 1) → zO 11 S a g q264a1_1 ρ γ → zGl (fun i vs g1 => jn264 a g i vs g1) (sn264 a g) q264a1_1 ρ γ := by
  intro ρ γ hJ h
  obtain ⟨ha, hg, hr, hf, hm, hc, hl⟩ := h
  have ha : a = [ρ 0, ρ 1, ρ 2, ρ 3, ρ 4, ρ 5, ρ 6, ρ 7, ρ 8, ρ 9, ρ 10] := ha
  subst ha
  subst hg
  have hJ : jn264 [ρ 0, ρ 1, ρ 2, ρ 3, ρ 4, ρ 5, ρ 6, ρ 7, ρ 8, ρ 9, ρ 10] (γ 0) 1 [ρ 0, ρ 1, ρ 2, ρ 3, ρ 4, ρ 5, ρ 6, ρ 7, ρ 8, ρ 9, ρ 10, ρ 11, ρ 12, ρ 13, ρ 14, ρ 15, ρ 16, ρ 17, ρ 18, ρ 19, ρ 20, ρ 21] (γ 1) := hJ
  have f0 : (0 : Int) ≤ -ρ 19 + ρ 14 + (-1) := zAllA hf 0
  have f1 : (0 : Int) ≤ ρ 11 + -ρ 2 := zAllA hf 1
  obtain ⟨w_0, w_1⟩ : (ρ 11 ≥ ρ 2) ∧ (¬ (ρ 14 ≤ ρ 19)) := ⟨by omega, by omega⟩
  have m1 : γ 0 1 0 10 = ρ 2 := zAllA hm 1
  have m11 : γ 1 4 0 7 = ρ 14 := zAllA hm 11
  have m16 : γ 1 6 0 11 = ρ 19 := zAllA hm 16
  have c2 : γ 2 = rUp (γ 1) 6 0 12 (ρ 19) := And.right (zChA hc 0)
  show jn264 [ρ 0, ρ 1, ρ 2, ρ 3, ρ 4, ρ 5, ρ 6, ρ 7, ρ 8, ρ 9, ρ 10] (γ 0) 0 [ρ 0, ρ 1, ρ 2, ρ 3, ρ 4, ρ 5, ρ 6, ρ 7, ρ 8, ρ 9, ρ 10, 1, ρ 12, ρ 13, ρ 14, ρ 15, ρ 16, ρ 17, ρ 18, ρ 19, ρ 19, ρ 21] (γ 2)
  have hD : en264 (γ 0) (1, [ρ 0, ρ 11, ρ 12], γ 1) = .inl (0, [ρ 0, 1, ρ 12], γ 2) := by
    unfold en264
    refine zIN (show ¬ (1 : Nat) = 0 by decide) (zIP (show (1 : Nat) = 1 by decide) (zLV (γ 1) rfl (zLV (ρ 0) rfl (zLV (ρ 11) rfl (zLV (ρ 12) rfl (zLE m1 (zLE m11 ?_)))))))
    refine zLE m16 (zIP w_0 (zLE c2.symm (zIN w_1 ?_)))
    rfl
  exact zGoo_ato hJ hD
theorem vn264a1_2 {S : Nat → zSpc} (hS131 : zIm S 131 sn131) (hS234 : zIm S 234 sn234) (hS238 : zIm S 238 sn238) (hS261 : zIm S 261 sn261) {a : List Int} {g : rHp} : ∀ (ρ : Nat → Int) (γ : Nat → rHp), jn264 a g 1 (zAg (zNA a264_ 1) ρ) (γ 1) → zO 11 S a g q264a1_2 ρ γ → zGl (fun i vs g1 => jn264 a g i vs g1) (sn264 a g) q264a1_2 ρ γ := by
  intro ρ γ hJ h
  obtain ⟨ha, hg, hr, hf, hm, hc, hl⟩ := h
  have ha : a = [ρ 0, ρ 1, ρ 2, ρ 3, ρ 4, ρ 5, ρ 6, ρ 7, ρ 8, ρ 9, ρ 10] := ha
  subst ha
  subst hg
  have hJ : jn264 [ρ 0, ρ 1, ρ 2, ρ 3, ρ 4, ρ 5, ρ 6, ρ 7, ρ 8, ρ 9, ρ 10] (γ 0) 1 [ρ 0, ρ 1, ρ 2, ρ 3, ρ 4, ρ 5, ρ 6, ρ 7, ρ 8, ρ 9, ρ 10, ρ 11, ρ 12, ρ 13, ρ 14, ρ 15, ρ 16, ρ 17, ρ 18, ρ 19, ρ 20, ρ 21] (γ 1) := hJ
  have r12 : (1 : Int) ≤ ρ 12 ∧ ρ 12 ≤ 1 := zRnA hr 12
  have r23 : (1 : Int) ≤ ρ 23 ∧ ρ 23 ≤ 4 := zRnA hr 23
  have f0 : (0 : Int) ≤ -ρ 11 + ρ 2 + (-1) := zAllA hf 0
  obtain ⟨w_0, w_1, w_2⟩ : (¬ (ρ 11 ≥ ρ 2)) ∧ (ρ 12 = 1) ∧ (ρ 23 ≠ 0) := ⟨by omega, by omega, by omega⟩
  have m1 : γ 0 1 0 10 = ρ 2 := zAllA hm 1
  have m11 : γ 1 4 0 7 = ρ 14 := zAllA hm 11
  have m16 : γ 1 6 0 11 = ρ 19 := zAllA hm 16
  have m19 : γ 0 40 0 (ρ 11) = ρ 22 := zAllA hm 19
  have m20 : γ 0 10 (9 * ρ 22) 12 = ρ 23 := zAllA hm 20
  have l0 : sn131 [ρ 11, ρ 22] (γ 1) 0 (ρ 22) (γ 2) := hS131 _ _ _ _ _ (zAllA hl 0)
  show jn264 [ρ 0, ρ 1, ρ 2, ρ 3, ρ 4, ρ 5, ρ 6, ρ 7, ρ 8, ρ 9, ρ 10] (γ 0) 1 [ρ 0, ρ 1, ρ 2, ρ 3, ρ 4, ρ 5, ρ 6, ρ 7, ρ 8, ρ 9, ρ 10, ρ 11 + 1, ρ 12, ρ 13, ρ 14, ρ 15, ρ 16, ρ 17, ρ 18, ρ 19, ρ 20, ρ 21] (γ 2)
  have hD : en264 (γ 0) (1, [ρ 0, ρ 11, ρ 12], γ 1) = .inl (1, [ρ 0, ρ 11 + 1, ρ 12], γ 2) := by
    unfold en264
    refine zIN (show ¬ (1 : Nat) = 0 by decide) (zIP (show (1 : Nat) = 1 by decide) (zLV (γ 1) rfl (zLV (ρ 0) rfl (zLV (ρ 11) rfl (zLV (ρ 12) rfl (zLE m1 (zLE m11 ?_)))))))
    refine zLE m16 (zIN w_0 (zLE m19 (zLE (show fn131 [ρ 11] (γ 1) = (0, ρ 22, γ 2) from l0.symm) (zLV (γ 2) rfl (zIP w_1 (zLE m20 (zIP w_2 ?_)))))))
    rfl
  exact zGoo_ato hJ hD
theorem vn264a1_3 {S : Nat → zSpc} (hS131 : zIm S 131 sn131) (hS234 : zIm S 234 sn234) (hS238 : zIm S 238 sn238) (hS261 : zIm S 261 sn261) {a : List Int} {g : rHp} : ∀ (ρ : Nat → Int) (γ : Nat → rHp), jn264 a g 1 (zAg (zNA a264_ 1) ρ) (γ 1) → zO 11 S a g q264a1_3 ρ γ → zGl (fun i vs g1 => jn264 a g i vs g1) (sn264 a g) q264a1_3 ρ γ := by
  intro ρ γ hJ h
  obtain ⟨ha, hg, hr, hf, hm, hc, hl⟩ := h
  have ha : a = [ρ 0, ρ 1, ρ 2, ρ 3, ρ 4, ρ 5, ρ 6, ρ 7, ρ 8, ρ 9, ρ 10] := ha
  subst ha
  subst hg
  have hJ : jn264 [ρ 0, ρ 1, ρ 2, ρ 3, ρ 4, ρ 5, ρ 6, ρ 7, ρ 8, ρ 9, ρ 10] (γ 0) 1 [ρ 0, ρ 1, ρ 2, ρ 3, ρ 4, ρ 5, ρ 6, ρ 7, ρ 8, ρ 9, ρ 10, ρ 11, ρ 12, ρ 13, ρ 14, ρ 15, ρ 16, ρ 17, ρ 18, ρ 19, ρ 20, ρ 21] (γ 1) := hJ
  have r12 : (1 : Int) ≤ ρ 12 ∧ ρ 12 ≤ 1 := zRnA hr 12
  have r23 : (0 : Int) ≤ ρ 23 ∧ ρ 23 ≤ 0 := zRnA hr 23
  have f0 : (0 : Int) ≤ -ρ 11 + ρ 2 + (-1) := zAllA hf 0
  obtain ⟨w_0, w_1, w_2⟩ : (¬ (ρ 11 ≥ ρ 2)) ∧ (ρ 12 = 1) ∧ (¬ (ρ 23 ≠ 0)) := ⟨by omega, by omega, by omega⟩
  have m1 : γ 0 1 0 10 = ρ 2 := zAllA hm 1
  have m11 : γ 1 4 0 7 = ρ 14 := zAllA hm 11
  have m16 : γ 1 6 0 11 = ρ 19 := zAllA hm 16
  have m19 : γ 0 40 0 (ρ 11) = ρ 22 := zAllA hm 19
  have m20 : γ 0 10 (9 * ρ 22) 12 = ρ 23 := zAllA hm 20
  have l0 : sn131 [ρ 11, ρ 22] (γ 1) 0 (ρ 22) (γ 2) := hS131 _ _ _ _ _ (zAllA hl 0)
  have l1 : sn234 [ρ 22, ρ 0, ρ 24] (γ 2) 0 0 (γ 3) := hS234 _ _ _ _ _ (zAllA hl 1)
  show jn264 [ρ 0, ρ 1, ρ 2, ρ 3, ρ 4, ρ 5, ρ 6, ρ 7, ρ 8, ρ 9, ρ 10] (γ 0) 1 [ρ 0, ρ 1, ρ 2, ρ 3, ρ 4, ρ 5, ρ 6, ρ 7, ρ 8, ρ 9, ρ 10, ρ 11 + 1, ρ 12, ρ 13, ρ 14, ρ 15, ρ 16, ρ 17, ρ 18, ρ 19, ρ 20, ρ 21] (γ 3)
  have hD : en264 (γ 0) (1, [ρ 0, ρ 11, ρ 12], γ 1) = .inl (1, [ρ 0, ρ 11 + 1, ρ 12], γ 3) := by
    unfold en264
    refine zIN (show ¬ (1 : Nat) = 0 by decide) (zIP (show (1 : Nat) = 1 by decide) (zLV (γ 1) rfl (zLV (ρ 0) rfl (zLV (ρ 11) rfl (zLV (ρ 12) rfl (zLE m1 (zLE m11 ?_)))))))
    refine zLE m16 (zIN w_0 (zLE m19 (zLE (show fn131 [ρ 11] (γ 1) = (0, ρ 22, γ 2) from l0.symm) (zLV (γ 2) rfl (zIP w_1 (zLE m20 (zIN w_2 ?_)))))))
    refine zLE (show fn234 [ρ 22, ρ 0] (γ 2) = (0, 0, γ 3) from l1.symm) (zLV (γ 3) rfl (zIN zQ0_ ?_))
    rfl
  exact zGoo_ato hJ hD
theorem vn264a1_4 {S : Nat → zSpc} (hS131 : zIm S 131 sn131) (hS234 : zIm S 234 sn234) (hS238 : zIm S 238 sn238) (hS261 : zIm S 261 sn261) {a : List Int} {g : rHp} : ∀ (ρ : Nat → Int) (γ : Nat → rHp), jn264 a g 1 (zAg (zNA a264_ 1) ρ) (γ 1) → zO 11 S a g q264a1_4 ρ γ → zGl (fun i vs g1 => jn264 a g i vs g1) (sn264 a g) q264a1_4 ρ γ := by
  intro ρ γ hJ h
  obtain ⟨ha, hg, hr, hf, hm, hc, hl⟩ := h
  have ha : a = [ρ 0, ρ 1, ρ 2, ρ 3, ρ 4, ρ 5, ρ 6, ρ 7, ρ 8, ρ 9, ρ 10] := ha
  subst ha
  subst hg
  have hJ : jn264 [ρ 0, ρ 1, ρ 2, ρ 3, ρ 4, ρ 5, ρ 6, ρ 7, ρ 8, ρ 9, ρ 10] (γ 0) 1 [ρ 0, ρ 1, ρ 2, ρ 3, ρ 4, ρ 5, ρ 6, ρ 7, ρ 8, ρ 9, ρ 10, ρ 11, ρ 12, ρ 13, ρ 14, ρ 15, ρ 16, ρ 17, ρ 18, ρ 19, ρ 20, ρ 21] (γ 1) := hJ
  have r12 : (1 : Int) ≤ ρ 12 ∧ ρ 12 ≤ 1 := zRnA hr 12
  have r23 : (0 : Int) ≤ ρ 23 ∧ ρ 23 ≤ 0 := zRnA hr 23
  have f5 : (0 : Int) ≤ -ρ 11 + ρ 2 + (-1) := zAllA hf 5
  obtain ⟨w_0, w_1, w_2⟩ : (¬ (ρ 11 ≥ ρ 2)) ∧ (ρ 12 = 1) ∧ (¬ (ρ 23 ≠ 0)) := ⟨by omega, by omega, by omega⟩
  have m1 : γ 0 1 0 10 = ρ 2 := zAllA hm 1
  have m11 : γ 1 4 0 7 = ρ 14 := zAllA hm 11
  have m16 : γ 1 6 0 11 = ρ 19 := zAllA hm 16
  have m19 : γ 0 40 0 (ρ 11) = ρ 22 := zAllA hm 19
  have m20 : γ 0 10 (9 * ρ 22) 12 = ρ 23 := zAllA hm 20
  have l0 : sn131 [ρ 11, ρ 22] (γ 1) 0 (ρ 22) (γ 2) := hS131 _ _ _ _ _ (zAllA hl 0)
  have l1 : sn234 [ρ 22, ρ 0, ρ 24] (γ 2) 0 1 (γ 3) := hS234 _ _ _ _ _ (zAllA hl 1)
  have l2 : sn238 [ρ 12, ρ 22, ρ 11, ρ 24, ρ 23, ρ 25, ρ 16, ρ 17, ρ 18, ρ 21] (γ 3) 0 0 (γ 4) := hS238 _ _ _ _ _ (zAllA hl 2)
  have l3 : sn261 [ρ 13, 0, ρ 26, ρ 27, ρ 28, ρ 2, ρ 14, ρ 15, ρ 11, ρ 12, ρ 19, ρ 20, 0, ρ 29, ρ 30, ρ 31, ρ 32, ρ 33, ρ 34, ρ 35, ρ 36, ρ 37, ρ 38, ρ 39, ρ 40, ρ 41, ρ 42, ρ 43, ρ 44, ρ 45, ρ 46, ρ 47, ρ 48, ρ 49, ρ 50, ρ 51, ρ 52, ρ 53, ρ 54, ρ 55, ρ 56, ρ 57, ρ 58, ρ 59, ρ 60, ρ 61, ρ 62, ρ 63, ρ 64, ρ 65, ρ 66, ρ 67, ρ 68, ρ 69, ρ 70, ρ 71, ρ 72, ρ 73, ρ 74, ρ 75, ρ 76, ρ 77, ρ 78, ρ 79, ρ 80, ρ 81, ρ 82] (γ 4) 0 0 (γ 5) := hS261 _ _ _ _ _ (zAllA hl 3)
  show jn264 [ρ 0, ρ 1, ρ 2, ρ 3, ρ 4, ρ 5, ρ 6, ρ 7, ρ 8, ρ 9, ρ 10] (γ 0) 1 [ρ 0, ρ 1, ρ 2, ρ 3, ρ 4, ρ 5, ρ 6, ρ 7, ρ 8, ρ 9, ρ 10, ρ 11 + 1, ρ 12, ρ 83, ρ 85, ρ 86, ρ 11, 0, ρ 12, ρ 19, ρ 20, ρ 87] (γ 5)
  have hD : en264 (γ 0) (1, [ρ 0, ρ 11, ρ 12], γ 1) = .inl (1, [ρ 0, ρ 11 + 1, ρ 12], γ 5) := by
    unfold en264
    refine zIN (show ¬ (1 : Nat) = 0 by decide) (zIP (show (1 : Nat) = 1 by decide) (zLV (γ 1) rfl (zLV (ρ 0) rfl (zLV (ρ 11) rfl (zLV (ρ 12) rfl (zLE m1 (zLE m11 ?_)))))))
    refine zLE m16 (zIN w_0 (zLE m19 (zLE (show fn131 [ρ 11] (γ 1) = (0, ρ 22, γ 2) from l0.symm) (zLV (γ 2) rfl (zIP w_1 (zLE m20 (zIN w_2 ?_)))))))
    refine zLE (show fn234 [ρ 22, ρ 0] (γ 2) = (0, 1, γ 3) from l1.symm) (zLV (γ 3) rfl (zIP zQ1_ (zLE (show fn238 [ρ 12, ρ 22, ρ 11] (γ 3) = (0, 0, γ 4) from l2.symm) (zLV (γ 4) rfl (zLE (show fn261 [] (γ 4) = (0, 0, γ 5) from l3.symm) (zLV (γ 5) rfl (zIP (show (0 : Nat) = 0 by decide) ?_)))))))
    rfl
  exact zGoo_ato hJ hD
theorem vn264a1_5 {S : Nat → zSpc} (hS131 : zIm S 131 sn131) (hS234 : zIm S 234 sn234) (hS238 : zIm S 238 sn238) (hS261 : zIm S 261 sn261) {a : List Int} {g : rHp} : ∀ (ρ : Nat → Int) (γ : Nat → rHp), jn264 a g 1 (zAg (zNA a264_ 1) ρ) (γ 1) → zO 11 S a g q264a1_5 ρ γ → zGl (fun i vs g1 => jn264 a g i vs g1) (sn264 a g) q264a1_5 ρ γ := by
  intro ρ γ hJ h
  obtain ⟨ha, hg, hr, hf, hm, hc, hl⟩ := h
  have ha : a = [ρ 0, ρ 1, ρ 2, ρ 3, ρ 4, ρ 5, ρ 6, ρ 7, ρ 8, ρ 9, ρ 10] := ha
  subst ha
  subst hg
  have hJ : jn264 [ρ 0, ρ 1, ρ 2, ρ 3, ρ 4, ρ 5, ρ 6, ρ 7, ρ 8, ρ 9, ρ 10] (γ 0) 1 [ρ 0, ρ 1, ρ 2, ρ 3, ρ 4, ρ 5, ρ 6, ρ 7, ρ 8, ρ 9, ρ 10, ρ 11, ρ 12, ρ 13, ρ 14, ρ 15, ρ 16, ρ 17, ρ 18, ρ 19, ρ 20, ρ 21] (γ 1) := hJ
  have r12 : (1 : Int) ≤ ρ 12 ∧ ρ 12 ≤ 1 := zRnA hr 12
  have r23 : (0 : Int) ≤ ρ 23 ∧ ρ 23 ≤ 0 := zRnA hr 23
  have f5 : (0 : Int) ≤ -ρ 11 + ρ 2 + (-1) := zAllA hf 5
  obtain ⟨w_0, w_1, w_2⟩ : (¬ (ρ 11 ≥ ρ 2)) ∧ (ρ 12 = 1) ∧ (¬ (ρ 23 ≠ 0)) := ⟨by omega, by omega, by omega⟩
  have m1 : γ 0 1 0 10 = ρ 2 := zAllA hm 1
  have m11 : γ 1 4 0 7 = ρ 14 := zAllA hm 11
  have m16 : γ 1 6 0 11 = ρ 19 := zAllA hm 16
  have m19 : γ 0 40 0 (ρ 11) = ρ 22 := zAllA hm 19
  have m20 : γ 0 10 (9 * ρ 22) 12 = ρ 23 := zAllA hm 20
  have l0 : sn131 [ρ 11, ρ 22] (γ 1) 0 (ρ 22) (γ 2) := hS131 _ _ _ _ _ (zAllA hl 0)
  have l1 : sn234 [ρ 22, ρ 0, ρ 24] (γ 2) 0 1 (γ 3) := hS234 _ _ _ _ _ (zAllA hl 1)
  have l2 : sn238 [ρ 12, ρ 22, ρ 11, ρ 24, ρ 23, ρ 25, ρ 16, ρ 17, ρ 18, ρ 21] (γ 3) 0 0 (γ 4) := hS238 _ _ _ _ _ (zAllA hl 2)
  have l3 : sn261 [ρ 13, 0, ρ 26, ρ 27, ρ 28, ρ 2, ρ 14, ρ 15, ρ 11, ρ 12, ρ 19, ρ 20, 0, ρ 29, ρ 30, ρ 31, ρ 32, ρ 33, ρ 34, ρ 35, ρ 36, ρ 37, ρ 38, ρ 39, ρ 40, ρ 41, ρ 42, ρ 43, ρ 44, ρ 45, ρ 46, ρ 47, ρ 48, ρ 49, ρ 50, ρ 51, ρ 52, ρ 53, ρ 54, ρ 55, ρ 56, ρ 57, ρ 58, ρ 59, ρ 60, ρ 61, ρ 62, ρ 63, ρ 64, ρ 65, ρ 66, ρ 67, ρ 68, ρ 69, ρ 70, ρ 71, ρ 72, ρ 73, ρ 74, ρ 75, ρ 76, ρ 77, ρ 78, ρ 79, ρ 80, ρ 81, ρ 82] (γ 4) 1 0 (γ 5) := hS261 _ _ _ _ _ (zAllA hl 3)
  show sn264 [ρ 0, ρ 1, ρ 2, ρ 3, ρ 4, ρ 5, ρ 6, ρ 7, ρ 8, ρ 9, ρ 10] (γ 0) 1 0 (γ 5)
  have hD : en264 (γ 0) (1, [ρ 0, ρ 11, ρ 12], γ 1) = .inr (1, 0, γ 5) := by
    unfold en264
    refine zIN (show ¬ (1 : Nat) = 0 by decide) (zIP (show (1 : Nat) = 1 by decide) (zLV (γ 1) rfl (zLV (ρ 0) rfl (zLV (ρ 11) rfl (zLV (ρ 12) rfl (zLE m1 (zLE m11 ?_)))))))
    refine zLE m16 (zIN w_0 (zLE m19 (zLE (show fn131 [ρ 11] (γ 1) = (0, ρ 22, γ 2) from l0.symm) (zLV (γ 2) rfl (zIP w_1 (zLE m20 (zIN w_2 ?_)))))))
    refine zLE (show fn234 [ρ 22, ρ 0] (γ 2) = (0, 1, γ 3) from l1.symm) (zLV (γ 3) rfl (zIP zQ1_ (zLE (show fn238 [ρ 12, ρ 22, ρ 11] (γ 3) = (0, 0, γ 4) from l2.symm) (zLV (γ 4) rfl (zLE (show fn261 [] (γ 4) = (1, 0, γ 5) from l3.symm) (zLV (γ 5) rfl (zIN (show ¬ (1 : Nat) = 0 by decide) ?_)))))))
    refine zIP (show (1 : Nat) = 1 by decide) ?_
    rfl
  exact zGoo_aend hJ hD
theorem vn264a1_6 {S : Nat → zSpc} (hS131 : zIm S 131 sn131) (hS234 : zIm S 234 sn234) (hS238 : zIm S 238 sn238) (hS261 : zIm S 261 sn261) {a : List Int} {g : rHp} : ∀ (ρ : Nat → Int) (γ : Nat → rHp), jn264 a g 1 (zAg (zNA a264_ 1) ρ) (γ 1) → zO 11 S a g q264a1_6 ρ γ → zGl (fun i vs g1 => jn264 a g i vs g1) (sn264 a g) q264a1_6 ρ γ := by
  intro ρ γ hJ h
  obtain ⟨ha, hg, hr, hf, hm, hc, hl⟩ := h
  have ha : a = [ρ 0, ρ 1, ρ 2, ρ 3, ρ 4, ρ 5, ρ 6, ρ 7, ρ 8, ρ 9, ρ 10] := ha
  subst ha
  subst hg
  have hJ : jn264 [ρ 0, ρ 1, ρ 2, ρ 3, ρ 4, ρ 5, ρ 6, ρ 7, ρ 8, ρ 9, ρ 10] (γ 0) 1 [ρ 0, ρ 1, ρ 2, ρ 3, ρ 4, ρ 5, ρ 6, ρ 7, ρ 8, ρ 9, ρ 10, ρ 11, ρ 12, ρ 13, ρ 14, ρ 15, ρ 16, ρ 17, ρ 18, ρ 19, ρ 20, ρ 21] (γ 1) := hJ
  have r12 : (1 : Int) ≤ ρ 12 ∧ ρ 12 ≤ 1 := zRnA hr 12
  have r23 : (0 : Int) ≤ ρ 23 ∧ ρ 23 ≤ 0 := zRnA hr 23
  have f4 : (0 : Int) ≤ -ρ 11 + ρ 2 + (-1) := zAllA hf 4
  obtain ⟨w_0, w_1, w_2⟩ : (¬ (ρ 11 ≥ ρ 2)) ∧ (ρ 12 = 1) ∧ (¬ (ρ 23 ≠ 0)) := ⟨by omega, by omega, by omega⟩
  have m1 : γ 0 1 0 10 = ρ 2 := zAllA hm 1
  have m11 : γ 1 4 0 7 = ρ 14 := zAllA hm 11
  have m16 : γ 1 6 0 11 = ρ 19 := zAllA hm 16
  have m19 : γ 0 40 0 (ρ 11) = ρ 22 := zAllA hm 19
  have m20 : γ 0 10 (9 * ρ 22) 12 = ρ 23 := zAllA hm 20
  have l0 : sn131 [ρ 11, ρ 22] (γ 1) 0 (ρ 22) (γ 2) := hS131 _ _ _ _ _ (zAllA hl 0)
  have l1 : sn234 [ρ 22, ρ 0, ρ 24] (γ 2) 0 1 (γ 3) := hS234 _ _ _ _ _ (zAllA hl 1)
  have l2 : sn238 [ρ 12, ρ 22, ρ 11, ρ 24, ρ 23, ρ 25, ρ 16, ρ 17, ρ 18, ρ 21] (γ 3) 0 0 (γ 4) := hS238 _ _ _ _ _ (zAllA hl 2)
  have l3 : sn261 [ρ 13, 0, ρ 26, ρ 27, ρ 28, ρ 2, ρ 14, ρ 15, ρ 11, ρ 12, ρ 19, ρ 20, 0, ρ 29, ρ 30, ρ 31, ρ 32, ρ 33, ρ 34, ρ 35, ρ 36, ρ 37, ρ 38, ρ 39, ρ 40, ρ 41, ρ 42, ρ 43, ρ 44, ρ 45, ρ 46, ρ 47, ρ 48, ρ 49, ρ 50, ρ 51, ρ 52, ρ 53, ρ 54, ρ 55, ρ 56, ρ 57, ρ 58, ρ 59, ρ 60, ρ 61, ρ 62, ρ 63, ρ 64, ρ 65, ρ 66, ρ 67, ρ 68, ρ 69, ρ 70, ρ 71, ρ 72, ρ 73, ρ 74, ρ 75, ρ 76, ρ 77, ρ 78, ρ 79, ρ 80, ρ 81, ρ 82] (γ 4) 4 0 (γ 5) := hS261 _ _ _ _ _ (zAllA hl 3)
  show sn264 [ρ 0, ρ 1, ρ 2, ρ 3, ρ 4, ρ 5, ρ 6, ρ 7, ρ 8, ρ 9, ρ 10] (γ 0) 4 0 (γ 5)
  have hD : en264 (γ 0) (1, [ρ 0, ρ 11, ρ 12], γ 1) = .inr (4, 0, γ 5) := by
    unfold en264
    refine zIN (show ¬ (1 : Nat) = 0 by decide) (zIP (show (1 : Nat) = 1 by decide) (zLV (γ 1) rfl (zLV (ρ 0) rfl (zLV (ρ 11) rfl (zLV (ρ 12) rfl (zLE m1 (zLE m11 ?_)))))))
    refine zLE m16 (zIN w_0 (zLE m19 (zLE (show fn131 [ρ 11] (γ 1) = (0, ρ 22, γ 2) from l0.symm) (zLV (γ 2) rfl (zIP w_1 (zLE m20 (zIN w_2 ?_)))))))
    refine zLE (show fn234 [ρ 22, ρ 0] (γ 2) = (0, 1, γ 3) from l1.symm) (zLV (γ 3) rfl (zIP zQ1_ (zLE (show fn238 [ρ 12, ρ 22, ρ 11] (γ 3) = (0, 0, γ 4) from l2.symm) (zLV (γ 4) rfl (zLE (show fn261 [] (γ 4) = (4, 0, γ 5) from l3.symm) (zLV (γ 5) rfl (zIN (show ¬ (4 : Nat) = 0 by decide) ?_)))))))
    refine zIN (show ¬ (4 : Nat) = 1 by decide) ?_
    rfl
  exact zGoo_aend hJ hD
theorem vn264a1_7 {S : Nat → zSpc} (hS131 : zIm S 131 sn131) (hS234 : zIm S 234 sn234) (hS238 : zIm S 238 sn238) (hS261 : zIm S 261 sn261) {a : List Int} {g : rHp} : ∀ (ρ : Nat → Int) (γ : Nat → rHp), jn264 a g 1 (zAg (zNA a264_ 1) ρ) (γ 1) → zO 11 S a g q264a1_7 ρ γ → zGl (fun i vs g1 => jn264 a g i vs g1) (sn264 a g) q264a1_7 ρ γ := by
  intro ρ γ hJ h
  obtain ⟨ha, hg, hr, hf, hm, hc, hl⟩ := h
  have ha : a = [ρ 0, ρ 1, ρ 2, ρ 3, ρ 4, ρ 5, ρ 6, ρ 7, ρ 8, ρ 9, ρ 10] := ha
  subst ha
  subst hg
  have hJ : jn264 [ρ 0, ρ 1, ρ 2, ρ 3, ρ 4, ρ 5, ρ 6, ρ 7, ρ 8, ρ 9, ρ 10] (γ 0) 1 [ρ 0, ρ 1, ρ 2, ρ 3, ρ 4, ρ 5, ρ 6, ρ 7, ρ 8, ρ 9, ρ 10, ρ 11, ρ 12, ρ 13, ρ 14, ρ 15, ρ 16, ρ 17, ρ 18, ρ 19, ρ 20, ρ 21] (γ 1) := hJ
  have r12 : (2 : Int) ≤ ρ 12 ∧ ρ 12 ≤ 2001 := zRnA hr 12
  have r23 : (0 : Int) ≤ ρ 23 ∧ ρ 23 ≤ 0 := zRnA hr 23
  have f0 : (0 : Int) ≤ -ρ 11 + ρ 2 + (-1) := zAllA hf 0
  obtain ⟨w_0, w_1, w_2⟩ : (¬ (ρ 11 ≥ ρ 2)) ∧ (¬ (ρ 12 = 1)) ∧ (ρ 23 ≤ 0) := ⟨by omega, by omega, by omega⟩
  have m1 : γ 0 1 0 10 = ρ 2 := zAllA hm 1
  have m11 : γ 1 4 0 7 = ρ 14 := zAllA hm 11
  have m16 : γ 1 6 0 11 = ρ 19 := zAllA hm 16
  have m19 : γ 0 40 0 (ρ 11) = ρ 22 := zAllA hm 19
  have m20 : γ 0 9 (ρ 22) 3 = ρ 23 := zAllA hm 20
  have l0 : sn131 [ρ 11, ρ 22] (γ 1) 0 (ρ 22) (γ 2) := hS131 _ _ _ _ _ (zAllA hl 0)
  show jn264 [ρ 0, ρ 1, ρ 2, ρ 3, ρ 4, ρ 5, ρ 6, ρ 7, ρ 8, ρ 9, ρ 10] (γ 0) 1 [ρ 0, ρ 1, ρ 2, ρ 3, ρ 4, ρ 5, ρ 6, ρ 7, ρ 8, ρ 9, ρ 10, ρ 11 + 1, ρ 12, ρ 13, ρ 14, ρ 15, ρ 16, ρ 17, ρ 18, ρ 19, ρ 20, ρ 21] (γ 2)
  have hD : en264 (γ 0) (1, [ρ 0, ρ 11, ρ 12], γ 1) = .inl (1, [ρ 0, ρ 11 + 1, ρ 12], γ 2) := by
    unfold en264
    refine zIN (show ¬ (1 : Nat) = 0 by decide) (zIP (show (1 : Nat) = 1 by decide) (zLV (γ 1) rfl (zLV (ρ 0) rfl (zLV (ρ 11) rfl (zLV (ρ 12) rfl (zLE m1 (zLE m11 ?_)))))))
    refine zLE m16 (zIN w_0 (zLE m19 (zLE (show fn131 [ρ 11] (γ 1) = (0, ρ 22, γ 2) from l0.symm) (zLV (γ 2) rfl (zIN w_1 (zLE m20 (zIP w_2 ?_)))))))
    rfl
  exact zGoo_ato hJ hD
theorem vn264a1_8 {S : Nat → zSpc} (hS131 : zIm S 131 sn131) (hS234 : zIm S 234 sn234) (hS238 : zIm S 238 sn238) (hS261 : zIm S 261 sn261) {a : List Int} {g : rHp} : ∀ (ρ : Nat → Int) (γ : Nat → rHp), jn264 a g 1 (zAg (zNA a264_ 1) ρ) (γ 1) → zO 11 S a g q264a1_8 ρ γ → zGl (fun i vs g1 => jn264 a g i vs g1) (sn264 a g) q264a1_8 ρ γ := by
  intro ρ γ hJ h
  obtain ⟨ha, hg, hr, hf, hm, hc, hl⟩ := h
  have ha : a = [ρ 0, ρ 1, ρ 2, ρ 3, ρ 4, ρ 5, ρ 6, ρ 7, ρ 8, ρ 9, ρ 10] := ha
  subst ha
  subst hg
  have hJ : jn264 [ρ 0, ρ 1, ρ 2, ρ 3, ρ 4, ρ 5, ρ 6, ρ 7, ρ 8, ρ 9, ρ 10] (γ 0) 1 [ρ 0, ρ 1, ρ 2, ρ 3, ρ 4, ρ 5, ρ 6, ρ 7, ρ 8, ρ 9, ρ 10, ρ 11, ρ 12, ρ 13, ρ 14, ρ 15, ρ 16, ρ 17, ρ 18, ρ 19, ρ 20, ρ 21] (γ 1) := hJ
  have r12 : (2 : Int) ≤ ρ 12 ∧ ρ 12 ≤ 2001 := zRnA hr 12
  have r23 : (1 : Int) ≤ ρ 23 ∧ ρ 23 ≤ 8 := zRnA hr 23
  have r24 : (1 : Int) ≤ ρ 24 ∧ ρ 24 ≤ 4 := zRnA hr 24
  have f0 : (0 : Int) ≤ -ρ 11 + ρ 2 + (-1) := zAllA hf 0
  obtain ⟨w_0, w_1, w_2, w_3⟩ : (¬ (ρ 11 ≥ ρ 2)) ∧ (¬ (ρ 12 = 1)) ∧ (¬ (ρ 23 ≤ 0)) ∧ (ρ 24 ≠ 0) := ⟨by omega, by omega, by omega, by omega⟩
  have m1 : γ 0 1 0 10 = ρ 2 := zAllA hm 1
  have m11 : γ 1 4 0 7 = ρ 14 := zAllA hm 11
  have m16 : γ 1 6 0 11 = ρ 19 := zAllA hm 16
  have m19 : γ 0 40 0 (ρ 11) = ρ 22 := zAllA hm 19
  have m20 : γ 0 9 (ρ 22) 3 = ρ 23 := zAllA hm 20
  have m21 : γ 0 10 (9 * ρ 22) 12 = ρ 24 := zAllA hm 21
  have l0 : sn131 [ρ 11, ρ 22] (γ 1) 0 (ρ 22) (γ 2) := hS131 _ _ _ _ _ (zAllA hl 0)
  show jn264 [ρ 0, ρ 1, ρ 2, ρ 3, ρ 4, ρ 5, ρ 6, ρ 7, ρ 8, ρ 9, ρ 10] (γ 0) 1 [ρ 0, ρ 1, ρ 2, ρ 3, ρ 4, ρ 5, ρ 6, ρ 7, ρ 8, ρ 9, ρ 10, ρ 11 + 1, ρ 12, ρ 13, ρ 14, ρ 15, ρ 16, ρ 17, ρ 18, ρ 19, ρ 20, ρ 21] (γ 2)
  have hD : en264 (γ 0) (1, [ρ 0, ρ 11, ρ 12], γ 1) = .inl (1, [ρ 0, ρ 11 + 1, ρ 12], γ 2) := by
    unfold en264
    refine zIN (show ¬ (1 : Nat) = 0 by decide) (zIP (show (1 : Nat) = 1 by decide) (zLV (γ 1) rfl (zLV (ρ 0) rfl (zLV (ρ 11) rfl (zLV (ρ 12) rfl (zLE m1 (zLE m11 ?_)))))))
    refine zLE m16 (zIN w_0 (zLE m19 (zLE (show fn131 [ρ 11] (γ 1) = (0, ρ 22, γ 2) from l0.symm) (zLV (γ 2) rfl (zIN w_1 (zLE m20 (zIN w_2 ?_)))))))
    refine zLE m21 (zIP w_3 ?_)
    rfl
  exact zGoo_ato hJ hD
theorem vn264a1_9 {S : Nat → zSpc} (hS131 : zIm S 131 sn131) (hS234 : zIm S 234 sn234) (hS238 : zIm S 238 sn238) (hS261 : zIm S 261 sn261) {a : List Int} {g : rHp} : ∀ (ρ : Nat → Int) (γ : Nat → rHp), jn264 a g 1 (zAg (zNA a264_ 1) ρ) (γ 1) → zO 11 S a g q264a1_9 ρ γ → zGl (fun i vs g1 => jn264 a g i vs g1) (sn264 a g) q264a1_9 ρ γ := by
  intro ρ γ hJ h
  obtain ⟨ha, hg, hr, hf, hm, hc, hl⟩ := h
  have ha : a = [ρ 0, ρ 1, ρ 2, ρ 3, ρ 4, ρ 5, ρ 6, ρ 7, ρ 8, ρ 9, ρ 10] := ha
  subst ha
  subst hg
  have hJ : jn264 [ρ 0, ρ 1, ρ 2, ρ 3, ρ 4, ρ 5, ρ 6, ρ 7, ρ 8, ρ 9, ρ 10] (γ 0) 1 [ρ 0, ρ 1, ρ 2, ρ 3, ρ 4, ρ 5, ρ 6, ρ 7, ρ 8, ρ 9, ρ 10, ρ 11, ρ 12, ρ 13, ρ 14, ρ 15, ρ 16, ρ 17, ρ 18, ρ 19, ρ 20, ρ 21] (γ 1) := hJ
  have r12 : (2 : Int) ≤ ρ 12 ∧ ρ 12 ≤ 2001 := zRnA hr 12
  have r23 : (1 : Int) ≤ ρ 23 ∧ ρ 23 ≤ 8 := zRnA hr 23
  have r24 : (0 : Int) ≤ ρ 24 ∧ ρ 24 ≤ 0 := zRnA hr 24
  have f0 : (0 : Int) ≤ -ρ 11 + ρ 2 + (-1) := zAllA hf 0
  obtain ⟨w_0, w_1, w_2, w_3⟩ : (¬ (ρ 11 ≥ ρ 2)) ∧ (¬ (ρ 12 = 1)) ∧ (¬ (ρ 23 ≤ 0)) ∧ (¬ (ρ 24 ≠ 0)) := ⟨by omega, by omega, by omega, by omega⟩
  have m1 : γ 0 1 0 10 = ρ 2 := zAllA hm 1
  have m11 : γ 1 4 0 7 = ρ 14 := zAllA hm 11
  have m16 : γ 1 6 0 11 = ρ 19 := zAllA hm 16
  have m19 : γ 0 40 0 (ρ 11) = ρ 22 := zAllA hm 19
  have m20 : γ 0 9 (ρ 22) 3 = ρ 23 := zAllA hm 20
  have m21 : γ 0 10 (9 * ρ 22) 12 = ρ 24 := zAllA hm 21
  have l0 : sn131 [ρ 11, ρ 22] (γ 1) 0 (ρ 22) (γ 2) := hS131 _ _ _ _ _ (zAllA hl 0)
  have l1 : sn234 [ρ 22, ρ 0, ρ 25] (γ 2) 0 0 (γ 3) := hS234 _ _ _ _ _ (zAllA hl 1)
  show jn264 [ρ 0, ρ 1, ρ 2, ρ 3, ρ 4, ρ 5, ρ 6, ρ 7, ρ 8, ρ 9, ρ 10] (γ 0) 1 [ρ 0, ρ 1, ρ 2, ρ 3, ρ 4, ρ 5, ρ 6, ρ 7, ρ 8, ρ 9, ρ 10, ρ 11 + 1, ρ 12, ρ 13, ρ 14, ρ 15, ρ 16, ρ 17, ρ 18, ρ 19, ρ 20, ρ 21] (γ 3)
  have hD : en264 (γ 0) (1, [ρ 0, ρ 11, ρ 12], γ 1) = .inl (1, [ρ 0, ρ 11 + 1, ρ 12], γ 3) := by
    unfold en264
    refine zIN (show ¬ (1 : Nat) = 0 by decide) (zIP (show (1 : Nat) = 1 by decide) (zLV (γ 1) rfl (zLV (ρ 0) rfl (zLV (ρ 11) rfl (zLV (ρ 12) rfl (zLE m1 (zLE m11 ?_)))))))
    refine zLE m16 (zIN w_0 (zLE m19 (zLE (show fn131 [ρ 11] (γ 1) = (0, ρ 22, γ 2) from l0.symm) (zLV (γ 2) rfl (zIN w_1 (zLE m20 (zIN w_2 ?_)))))))
    refine zLE m21 (zIN w_3 (zLE (show fn234 [ρ 22, ρ 0] (γ 2) = (0, 0, γ 3) from l1.symm) (zLV (γ 3) rfl (zIN zQ0_ ?_))))
    rfl
  exact zGoo_ato hJ hD
theorem vn264a1_10 {S : Nat → zSpc} (hS131 : zIm S 131 sn131) (hS234 : zIm S 234 sn234) (hS238 : zIm S 238 sn238) (hS261 : zIm S 261 sn261) {a : List Int} {g : rHp} : ∀ (ρ : Nat → Int) (γ : Nat → rHp), jn264 a g 1 (zAg (zNA a264_ 1) ρ) (γ 1) → zO 11 S a g q264a1_10 ρ γ → zGl (fun i vs g1 => jn264 a g i vs g1) (sn264 a g) q264a1_10 ρ γ := by
  intro ρ γ hJ h
  obtain ⟨ha, hg, hr, hf, hm, hc, hl⟩ := h
  have ha : a = [ρ 0, ρ 1, ρ 2, ρ 3, ρ 4, ρ 5, ρ 6, ρ 7, ρ 8, ρ 9, ρ 10] := ha
  subst ha
  subst hg
  have hJ : jn264 [ρ 0, ρ 1, ρ 2, ρ 3, ρ 4, ρ 5, ρ 6, ρ 7, ρ 8, ρ 9, ρ 10] (γ 0) 1 [ρ 0, ρ 1, ρ 2, ρ 3, ρ 4, ρ 5, ρ 6, ρ 7, ρ 8, ρ 9, ρ 10, ρ 11, ρ 12, ρ 13, ρ 14, ρ 15, ρ 16, ρ 17, ρ 18, ρ 19, ρ 20, ρ 21] (γ 1) := hJ
  have r12 : (2 : Int) ≤ ρ 12 ∧ ρ 12 ≤ 2001 := zRnA hr 12
  have r23 : (1 : Int) ≤ ρ 23 ∧ ρ 23 ≤ 8 := zRnA hr 23
  have r24 : (0 : Int) ≤ ρ 24 ∧ ρ 24 ≤ 0 := zRnA hr 24
  have f5 : (0 : Int) ≤ -ρ 11 + ρ 2 + (-1) := zAllA hf 5
  obtain ⟨w_0, w_1, w_2, w_3⟩ : (¬ (ρ 11 ≥ ρ 2)) ∧ (¬ (ρ 12 = 1)) ∧ (¬ (ρ 23 ≤ 0)) ∧ (¬ (ρ 24 ≠ 0)) := ⟨by omega, by omega, by omega, by omega⟩
  have m1 : γ 0 1 0 10 = ρ 2 := zAllA hm 1
  have m11 : γ 1 4 0 7 = ρ 14 := zAllA hm 11
  have m16 : γ 1 6 0 11 = ρ 19 := zAllA hm 16
  have m19 : γ 0 40 0 (ρ 11) = ρ 22 := zAllA hm 19
  have m20 : γ 0 9 (ρ 22) 3 = ρ 23 := zAllA hm 20
  have m21 : γ 0 10 (9 * ρ 22) 12 = ρ 24 := zAllA hm 21
  have l0 : sn131 [ρ 11, ρ 22] (γ 1) 0 (ρ 22) (γ 2) := hS131 _ _ _ _ _ (zAllA hl 0)
  have l1 : sn234 [ρ 22, ρ 0, ρ 25] (γ 2) 0 1 (γ 3) := hS234 _ _ _ _ _ (zAllA hl 1)
  have l2 : sn238 [ρ 12, ρ 22, ρ 11, ρ 25, ρ 24, ρ 26, ρ 16, ρ 17, ρ 18, ρ 21] (γ 3) 0 0 (γ 4) := hS238 _ _ _ _ _ (zAllA hl 2)
  have l3 : sn261 [ρ 13, 0, ρ 27, ρ 28, ρ 29, ρ 2, ρ 14, ρ 15, ρ 11, ρ 12, ρ 19, ρ 20, 0, ρ 30, ρ 31, ρ 32, ρ 33, ρ 34, ρ 35, ρ 36, ρ 37, ρ 38, ρ 39, ρ 40, ρ 41, ρ 42, ρ 43, ρ 44, ρ 45, ρ 46, ρ 47, ρ 48, ρ 49, ρ 50, ρ 51, ρ 52, ρ 53, ρ 54, ρ 55, ρ 56, ρ 57, ρ 58, ρ 59, ρ 60, ρ 61, ρ 62, ρ 63, ρ 64, ρ 65, ρ 66, ρ 67, ρ 68, ρ 69, ρ 70, ρ 71, ρ 72, ρ 73, ρ 74, ρ 75, ρ 76, ρ 77, ρ 78, ρ 79, ρ 80, ρ 81, ρ 82, ρ 83] (γ 4) 0 0 (γ 5) := hS261 _ _ _ _ _ (zAllA hl 3)
  show jn264 [ρ 0, ρ 1, ρ 2, ρ 3, ρ 4, ρ 5, ρ 6, ρ 7, ρ 8, ρ 9, ρ 10] (γ 0) 1 [ρ 0, ρ 1, ρ 2, ρ 3, ρ 4, ρ 5, ρ 6, ρ 7, ρ 8, ρ 9, ρ 10, ρ 11 + 1, ρ 12, ρ 84, ρ 86, ρ 87, ρ 11, 0, ρ 12, ρ 19, ρ 20, ρ 88] (γ 5)
  have hD : en264 (γ 0) (1, [ρ 0, ρ 11, ρ 12], γ 1) = .inl (1, [ρ 0, ρ 11 + 1, ρ 12], γ 5) := by
    unfold en264
    refine zIN (show ¬ (1 : Nat) = 0 by decide) (zIP (show (1 : Nat) = 1 by decide) (zLV (γ 1) rfl (zLV (ρ 0) rfl (zLV (ρ 11) rfl (zLV (ρ 12) rfl (zLE m1 (zLE m11 ?_)))))))
    refine zLE m16 (zIN w_0 (zLE m19 (zLE (show fn131 [ρ 11] (γ 1) = (0, ρ 22, γ 2) from l0.symm) (zLV (γ 2) rfl (zIN w_1 (zLE m20 (zIN w_2 ?_)))))))
    refine zLE m21 (zIN w_3 (zLE (show fn234 [ρ 22, ρ 0] (γ 2) = (0, 1, γ 3) from l1.symm) (zLV (γ 3) rfl (zIP zQ1_ (zLE (show fn238 [ρ 12, ρ 22, ρ 11] (γ 3) = (0, 0, γ 4) from l2.symm) (zLV (γ 4) rfl (zLE (show fn261 [] (γ 4) = (0, 0, γ 5) from l3.symm) ?_)))))))
    refine zLV (γ 5) rfl (zIP (show (0 : Nat) = 0 by decide) ?_)
    rfl
  exact zGoo_ato hJ hD
theorem vn264a1_11 {S : Nat → zSpc} (hS131 : zIm S 131 sn131) (hS234 : zIm S 234 sn234) (hS238 : zIm S 238 sn238) (hS261 : zIm S 261 sn261) {a : List Int} {g : rHp} : ∀ (ρ : Nat → Int) (γ : Nat → rHp), jn264 a g 1 (zAg (zNA a264_ 1) ρ) (γ 1) → zO 11 S a g q264a1_11 ρ γ → zGl (fun i vs g1 => jn264 a g i vs g1) (sn264 a g) q264a1_11 ρ γ := by
  intro ρ γ hJ h
  obtain ⟨ha, hg, hr, hf, hm, hc, hl⟩ := h
  have ha : a = [ρ 0, ρ 1, ρ 2, ρ 3, ρ 4, ρ 5, ρ 6, ρ 7, ρ 8, ρ 9, ρ 10] := ha
  subst ha
  subst hg
  have hJ : jn264 [ρ 0, ρ 1, ρ 2, ρ 3, ρ 4, ρ 5, ρ 6, ρ 7, ρ 8, ρ 9, ρ 10] (γ 0) 1 [ρ 0, ρ 1, ρ 2, ρ 3, ρ 4, ρ 5, ρ 6, ρ 7, ρ 8, ρ 9, ρ 10, ρ 11, ρ 12, ρ 13, ρ 14, ρ 15, ρ 16, ρ 17, ρ 18, ρ 19, ρ 20, ρ 21] (γ 1) := hJ
  have r12 : (2 : Int) ≤ ρ 12 ∧ ρ 12 ≤ 2001 := zRnA hr 12
  have r23 : (1 : Int) ≤ ρ 23 ∧ ρ 23 ≤ 8 := zRnA hr 23
  have r24 : (0 : Int) ≤ ρ 24 ∧ ρ 24 ≤ 0 := zRnA hr 24
  have f5 : (0 : Int) ≤ -ρ 11 + ρ 2 + (-1) := zAllA hf 5
  obtain ⟨w_0, w_1, w_2, w_3⟩ : (¬ (ρ 11 ≥ ρ 2)) ∧ (¬ (ρ 12 = 1)) ∧ (¬ (ρ 23 ≤ 0)) ∧ (¬ (ρ 24 ≠ 0)) := ⟨by omega, by omega, by omega, by omega⟩
  have m1 : γ 0 1 0 10 = ρ 2 := zAllA hm 1
  have m11 : γ 1 4 0 7 = ρ 14 := zAllA hm 11
  have m16 : γ 1 6 0 11 = ρ 19 := zAllA hm 16
  have m19 : γ 0 40 0 (ρ 11) = ρ 22 := zAllA hm 19
  have m20 : γ 0 9 (ρ 22) 3 = ρ 23 := zAllA hm 20
  have m21 : γ 0 10 (9 * ρ 22) 12 = ρ 24 := zAllA hm 21
  have l0 : sn131 [ρ 11, ρ 22] (γ 1) 0 (ρ 22) (γ 2) := hS131 _ _ _ _ _ (zAllA hl 0)
  have l1 : sn234 [ρ 22, ρ 0, ρ 25] (γ 2) 0 1 (γ 3) := hS234 _ _ _ _ _ (zAllA hl 1)
  have l2 : sn238 [ρ 12, ρ 22, ρ 11, ρ 25, ρ 24, ρ 26, ρ 16, ρ 17, ρ 18, ρ 21] (γ 3) 0 0 (γ 4) := hS238 _ _ _ _ _ (zAllA hl 2)
  have l3 : sn261 [ρ 13, 0, ρ 27, ρ 28, ρ 29, ρ 2, ρ 14, ρ 15, ρ 11, ρ 12, ρ 19, ρ 20, 0, ρ 30, ρ 31, ρ 32, ρ 33, ρ 34, ρ 35, ρ 36, ρ 37, ρ 38, ρ 39, ρ 40, ρ 41, ρ 42, ρ 43, ρ 44, ρ 45, ρ 46, ρ 47, ρ 48, ρ 49, ρ 50, ρ 51, ρ 52, ρ 53, ρ 54, ρ 55, ρ 56, ρ 57, ρ 58, ρ 59, ρ 60, ρ 61, ρ 62, ρ 63, ρ 64, ρ 65, ρ 66, ρ 67, ρ 68, ρ 69, ρ 70, ρ 71, ρ 72, ρ 73, ρ 74, ρ 75, ρ 76, ρ 77, ρ 78, ρ 79, ρ 80, ρ 81, ρ 82, ρ 83] (γ 4) 1 0 (γ 5) := hS261 _ _ _ _ _ (zAllA hl 3)
  show sn264 [ρ 0, ρ 1, ρ 2, ρ 3, ρ 4, ρ 5, ρ 6, ρ 7, ρ 8, ρ 9, ρ 10] (γ 0) 1 0 (γ 5)
  have hD : en264 (γ 0) (1, [ρ 0, ρ 11, ρ 12], γ 1) = .inr (1, 0, γ 5) := by
    unfold en264
    refine zIN (show ¬ (1 : Nat) = 0 by decide) (zIP (show (1 : Nat) = 1 by decide) (zLV (γ 1) rfl (zLV (ρ 0) rfl (zLV (ρ 11) rfl (zLV (ρ 12) rfl (zLE m1 (zLE m11 ?_)))))))
    refine zLE m16 (zIN w_0 (zLE m19 (zLE (show fn131 [ρ 11] (γ 1) = (0, ρ 22, γ 2) from l0.symm) (zLV (γ 2) rfl (zIN w_1 (zLE m20 (zIN w_2 ?_)))))))
    refine zLE m21 (zIN w_3 (zLE (show fn234 [ρ 22, ρ 0] (γ 2) = (0, 1, γ 3) from l1.symm) (zLV (γ 3) rfl (zIP zQ1_ (zLE (show fn238 [ρ 12, ρ 22, ρ 11] (γ 3) = (0, 0, γ 4) from l2.symm) (zLV (γ 4) rfl (zLE (show fn261 [] (γ 4) = (1, 0, γ 5) from l3.symm) ?_)))))))
    refine zLV (γ 5) rfl (zIN (show ¬ (1 : Nat) = 0 by decide) (zIP (show (1 : Nat) = 1 by decide) ?_))
    rfl
  exact zGoo_aend hJ hD
theorem vn264a1_12 {S : Nat → zSpc} (hS131 : zIm S 131 sn131) (hS234 : zIm S 234 sn234) (hS238 : zIm S 238 sn238) (hS261 : zIm S 261 sn261) {a : List Int} {g : rHp} : ∀ (ρ : Nat → Int) (γ : Nat → rHp), jn264 a g 1 (zAg (zNA a264_ 1) ρ) (γ 1) → zO 11 S a g q264a1_12 ρ γ → zGl (fun i vs g1 => jn264 a g i vs g1) (sn264 a g) q264a1_12 ρ γ := by
  intro ρ γ hJ h
  obtain ⟨ha, hg, hr, hf, hm, hc, hl⟩ := h
  have ha : a = [ρ 0, ρ 1, ρ 2, ρ 3, ρ 4, ρ 5, ρ 6, ρ 7, ρ 8, ρ 9, ρ 10] := ha
  subst ha
  subst hg
  have hJ : jn264 [ρ 0, ρ 1, ρ 2, ρ 3, ρ 4, ρ 5, ρ 6, ρ 7, ρ 8, ρ 9, ρ 10] (γ 0) 1 [ρ 0, ρ 1, ρ 2, ρ 3, ρ 4, ρ 5, ρ 6, ρ 7, ρ 8, ρ 9, ρ 10, ρ 11, ρ 12, ρ 13, ρ 14, ρ 15, ρ 16, ρ 17, ρ 18, ρ 19, ρ 20, ρ 21] (γ 1) := hJ
  have r12 : (2 : Int) ≤ ρ 12 ∧ ρ 12 ≤ 2001 := zRnA hr 12
  have r23 : (1 : Int) ≤ ρ 23 ∧ ρ 23 ≤ 8 := zRnA hr 23
  have r24 : (0 : Int) ≤ ρ 24 ∧ ρ 24 ≤ 0 := zRnA hr 24
  have f4 : (0 : Int) ≤ -ρ 11 + ρ 2 + (-1) := zAllA hf 4
  obtain ⟨w_0, w_1, w_2, w_3⟩ : (¬ (ρ 11 ≥ ρ 2)) ∧ (¬ (ρ 12 = 1)) ∧ (¬ (ρ 23 ≤ 0)) ∧ (¬ (ρ 24 ≠ 0)) := ⟨by omega, by omega, by omega, by omega⟩
  have m1 : γ 0 1 0 10 = ρ 2 := zAllA hm 1
  have m11 : γ 1 4 0 7 = ρ 14 := zAllA hm 11
  have m16 : γ 1 6 0 11 = ρ 19 := zAllA hm 16
  have m19 : γ 0 40 0 (ρ 11) = ρ 22 := zAllA hm 19
  have m20 : γ 0 9 (ρ 22) 3 = ρ 23 := zAllA hm 20
  have m21 : γ 0 10 (9 * ρ 22) 12 = ρ 24 := zAllA hm 21
  have l0 : sn131 [ρ 11, ρ 22] (γ 1) 0 (ρ 22) (γ 2) := hS131 _ _ _ _ _ (zAllA hl 0)
  have l1 : sn234 [ρ 22, ρ 0, ρ 25] (γ 2) 0 1 (γ 3) := hS234 _ _ _ _ _ (zAllA hl 1)
  have l2 : sn238 [ρ 12, ρ 22, ρ 11, ρ 25, ρ 24, ρ 26, ρ 16, ρ 17, ρ 18, ρ 21] (γ 3) 0 0 (γ 4) := hS238 _ _ _ _ _ (zAllA hl 2)
  have l3 : sn261 [ρ 13, 0, ρ 27, ρ 28, ρ 29, ρ 2, ρ 14, ρ 15, ρ 11, ρ 12, ρ 19, ρ 20, 0, ρ 30, ρ 31, ρ 32, ρ 33, ρ 34, ρ 35, ρ 36, ρ 37, ρ 38, ρ 39, ρ 40, ρ 41, ρ 42, ρ 43, ρ 44, ρ 45, ρ 46, ρ 47, ρ 48, ρ 49, ρ 50, ρ 51, ρ 52, ρ 53, ρ 54, ρ 55, ρ 56, ρ 57, ρ 58, ρ 59, ρ 60, ρ 61, ρ 62, ρ 63, ρ 64, ρ 65, ρ 66, ρ 67, ρ 68, ρ 69, ρ 70, ρ 71, ρ 72, ρ 73, ρ 74, ρ 75, ρ 76, ρ 77, ρ 78, ρ 79, ρ 80, ρ 81, ρ 82, ρ 83] (γ 4) 4 0 (γ 5) := hS261 _ _ _ _ _ (zAllA hl 3)
  show sn264 [ρ 0, ρ 1, ρ 2, ρ 3, ρ 4, ρ 5, ρ 6, ρ 7, ρ 8, ρ 9, ρ 10] (γ 0) 4 0 (γ 5)
  have hD : en264 (γ 0) (1, [ρ 0, ρ 11, ρ 12], γ 1) = .inr (4, 0, γ 5) := by
    unfold en264
    refine zIN (show ¬ (1 : Nat) = 0 by decide) (zIP (show (1 : Nat) = 1 by decide) (zLV (γ 1) rfl (zLV (ρ 0) rfl (zLV (ρ 11) rfl (zLV (ρ 12) rfl (zLE m1 (zLE m11 ?_)))))))
    refine zLE m16 (zIN w_0 (zLE m19 (zLE (show fn131 [ρ 11] (γ 1) = (0, ρ 22, γ 2) from l0.symm) (zLV (γ 2) rfl (zIN w_1 (zLE m20 (zIN w_2 ?_)))))))
    refine zLE m21 (zIN w_3 (zLE (show fn234 [ρ 22, ρ 0] (γ 2) = (0, 1, γ 3) from l1.symm) (zLV (γ 3) rfl (zIP zQ1_ (zLE (show fn238 [ρ 12, ρ 22, ρ 11] (γ 3) = (0, 0, γ 4) from l2.symm) (zLV (γ 4) rfl (zLE (show fn261 [] (γ 4) = (4, 0, γ 5) from l3.symm) ?_)))))))
    refine zLV (γ 5) rfl (zIN (show ¬ (4 : Nat) = 0 by decide) (zIN (show ¬ (4 : Nat) = 1 by decide) ?_))
    rfl
  exact zGoo_aend hJ hD
theorem yn264 {S : Nat → zSpc} (hS131 : zIm S 131 sn131) (hS234 : zIm S 234 sn234) (hS238 : zIm S 238 sn238) (hS261 : zIm S 261 sn261) : ∀ x g o v gz, zSem uW uT w264_.2.2.2.1 w264_.2.2.1.1.length S q264 (fun i => q264a.getD i []) (zNA a264_) x g o v gz → sn264 x g o v gz := by
  intro a g o v gz h
  exact zSem_all (l0 := q264) (las := q264a) (S := S) (J := (fun i vs g1 => jn264 a g i vs g1)) (P := sn264 a g) (fun _ => (show zAll _ [q264_0] from (zAll_c (vn264_0 hS131 hS234 hS238 hS261) zAll_n))) (fun _ => (show zAllI _ 0 [q264a0, q264a1] from ⟨(show zAll _ [q264a0_0, q264a0_1, q264a0_2] from (zAll_c (vn264a0_0 hS131 hS234 hS238 hS261) (zAll_c (vn264a0_1 hS131 hS234 hS238 hS261) (zAll_c (vn264a0_2 hS131 hS234 hS238 hS261) zAll_n)))), ⟨(show zAll _ [q264a1_0, q264a1_1, q264a1_2, q264a1_3, q264a1_4, q264a1_5, q264a1_6, q264a1_7, q264a1_8, q264a1_9, q264a1_10, q264a1_11, q264a1_12] from (zAll_c (vn264a1_0 hS131 hS234 hS238 hS261) (zAll_c (vn264a1_1 hS131 hS234 hS238 hS261) (zAll_c (vn264a1_2 hS131 hS234 hS238 hS261) (zAll_c (vn264a1_3 hS131 hS234 hS238 hS261) (zAll_c (vn264a1_4 hS131 hS234 hS238 hS261) (zAll_c (vn264a1_5 hS131 hS234 hS238 hS261) (zAll_c (vn264a1_6 hS131 hS234 hS238 hS261) (zAll_c (vn264a1_7 hS131 hS234 hS238 hS261) (zAll_c (vn264a1_8 hS131 hS234 hS238 hS261) (zAll_c (vn264a1_9 hS131 hS234 hS238 hS261) (zAll_c (vn264a1_10 hS131 hS234 hS238 hS261) (zAll_c (vn264a1_11 hS131 hS234 hS238 hS261) (zAll_c (vn264a1_12 hS131 hS234 hS238 hS261) zAll_n)))))))))))))), trivial⟩⟩)) h
theorem vn265_0 {S : Nat → zSpc} (hS163 : zIm S 163 sn163) (hS223 : zIm S 223 sn223) (hS235 : zIm S 235 sn235) (hS236 : zIm S 236 sn236) (hS263 : zIm S 263 sn263) (hS264 : zIm S 264 sn264) {a : List Int} {g : rHp} : ∀ (ρ : Nat → Int) (γ : Nat → rHp), zO 16 S a g q265_0 ρ γ → zGl (fun i vs g1 => jn265 a g i vs g1) (sn265 a g) q265_0 ρ γ := by
  intro ρ γ h
  obtain ⟨ha, hg, hr, hf, hm, hc, hl⟩ := h
  have ha : a = [ρ 0, ρ 1, ρ 2, ρ 3, ρ 4, ρ 5, ρ 6, ρ 7, ρ 8, ρ 9, ρ 10, ρ 11, ρ 12, ρ 13, ρ 14, ρ 15] := ha
  subst ha
  subst hg
  have l0 : sn163 [] (γ 0) 0 0 (γ 1) := hS163 _ _ _ _ _ (zAllA hl 0)
  have l1 : sn223 [ρ 1, ρ 2, ρ 4] (γ 1) 0 0 (γ 2) := hS223 _ _ _ _ _ (zAllA hl 1)
  show sn265 [ρ 0, ρ 1, ρ 2, ρ 3, ρ 4, ρ 5, ρ 6, ρ 7, ρ 8, ρ 9, ρ 10, ρ 11, ρ 12, ρ 13, ρ 14, ρ 15] (γ 0) 3 0 (γ 2)
  have hD : dn265 [] (γ 0) = .inr (3, 0, γ 2) := by
    unfold dn265
    refine zLE (show fn163 [] (γ 0) = (0, 0, γ 1) from l0.symm) (zLV (γ 1) rfl (zLE (show fn223 [] (γ 1) = (0, 0, γ 2) from l1.symm) (zLV (γ 2) rfl (zIN zQ0_ ?_))))
    rfl
  exact zGoo_end hD
theorem vn265_1 {S : Nat → zSpc} (hS163 : zIm S 163 sn163) (hS223 : zIm S 223 sn223) (hS235 : zIm S 235 sn235) (hS236 : zIm S 236 sn236) (hS263 : zIm S 263 sn263) (hS264 : zIm S 264 sn264) {a : List Int} {g : rHp} : ∀ (ρ : Nat → Int) (γ : Nat → rHp), zO 16 S a g q265_1 ρ γ → zGl (fun i vs g1 => jn265 a g i vs g1) (sn265 a g) q265_1 ρ γ := by
  intro ρ γ h
  obtain ⟨ha, hg, hr, hf, hm, hc, hl⟩ := h
  have ha : a = [ρ 0, ρ 1, ρ 2, ρ 3, ρ 4, ρ 5, ρ 6, ρ 7, ρ 8, ρ 9, ρ 10, ρ 11, ρ 12, ρ 13, ρ 14, ρ 15] := ha
  subst ha
  subst hg
  have l0 : sn163 [] (γ 0) 0 0 (γ 1) := hS163 _ _ _ _ _ (zAllA hl 0)
  have l1 : sn223 [ρ 1, ρ 2, ρ 4] (γ 1) 0 1 (γ 2) := hS223 _ _ _ _ _ (zAllA hl 1)
  have l2 : sn236 [ρ 5, ρ 6] (γ 2) 0 0 (γ 3) := hS236 _ _ _ _ _ (zAllA hl 2)
  show jn265 [ρ 0, ρ 1, ρ 2, ρ 3, ρ 4, ρ 5, ρ 6, ρ 7, ρ 8, ρ 9, ρ 10, ρ 11, ρ 12, ρ 13, ρ 14, ρ 15] (γ 0) 0 [ρ 0, ρ 1, ρ 2, ρ 3, ρ 4, ρ 5, ρ 6, ρ 7, ρ 8, ρ 9, ρ 10, ρ 11, ρ 12, ρ 13, ρ 14, ρ 15, 0, 0, ρ 16, 0, 0, ρ 9, ρ 10, ρ 11, ρ 12, ρ 13, ρ 14, ρ 15] (γ 3)
  have hD : dn265 [] (γ 0) = .inl (0, [0, 0], γ 3) := by
    unfold dn265
    refine zLE (show fn163 [] (γ 0) = (0, 0, γ 1) from l0.symm) (zLV (γ 1) rfl (zLE (show fn223 [] (γ 1) = (0, 1, γ 2) from l1.symm) (zLV (γ 2) rfl (zIP zQ1_ (zLE (show fn236 [] (γ 2) = (0, 0, γ 3) from l2.symm) (zLV (γ 3) rfl ?_))))))
    rfl
  exact zGoo_to hD
theorem vn265a0_0 {S : Nat → zSpc} (hS163 : zIm S 163 sn163) (hS223 : zIm S 223 sn223) (hS235 : zIm S 235 sn235) (hS236 : zIm S 236 sn236) (hS263 : zIm S 263 sn263) (hS264 : zIm S 264 sn264) {a : List Int} {g : rHp} : ∀ (ρ : Nat → Int) (γ : Nat → rHp), jn265 a g 0 (zAg (zNA a265_ 0) ρ) (γ 1) → zO 16 S a g q265a0_0 ρ γ → zGl (fun i vs g1 => jn265 a g i vs g1) (sn265 a g) q265a0_0 ρ γ := by
  intro ρ γ hJ h
  obtain ⟨ha, hg, hr, hf, hm, hc, hl⟩ := h
  have ha : a = [ρ 0, ρ 1, ρ 2, ρ 3, ρ 4, ρ 5, ρ 6, ρ 7, ρ 8, ρ 9, ρ 10, ρ 11, ρ 12, ρ 13, ρ 14, ρ 15] := ha
  subst ha
  subst hg
  have hJ : jn265 [ρ 0, ρ 1, ρ 2, ρ 3, ρ 4, ρ 5, ρ 6, ρ 7, ρ 8, ρ 9, ρ 10, ρ 11, ρ 12, ρ 13, ρ 14, ρ 15] (γ 0) 0 [ρ 0, ρ 1, ρ 2, ρ 3, ρ 4, ρ 5, ρ 6, ρ 7, ρ 8, ρ 9, ρ 10, ρ 11, ρ 12, ρ 13, ρ 14, ρ 15, ρ 16, ρ 17, ρ 18, ρ 19, ρ 20, ρ 21, ρ 22, ρ 23, ρ 24, ρ 25, ρ 26, ρ 27] (γ 1) := hJ
  have f0 : (0 : Int) ≤ -ρ 18 + ρ 16 := zAllA hf 0
  have w_0 : ρ 16 ≥ ρ 18 := by omega
  have m16 : γ 1 1 0 8 = ρ 18 := zAllA hm 16
  have m17 : γ 1 4 0 7 = ρ 19 := zAllA hm 17
  have m18 : γ 1 6 0 0 = ρ 20 := zAllA hm 18
  have c2 : γ 2 = rUp (γ 1) 0 0 9 (ρ 17) := And.right (zChA hc 2)
  have c3 : γ 3 = rUp (γ 2) 0 0 8 (ρ 20) := And.right (zChA hc 1)
  have c4 : γ 4 = rUp (γ 3) 0 0 7 1 := And.right (zChA hc 0)
  show sn265 [ρ 0, ρ 1, ρ 2, ρ 3, ρ 4, ρ 5, ρ 6, ρ 7, ρ 8, ρ 9, ρ 10, ρ 11, ρ 12, ρ 13, ρ 14, ρ 15] (γ 0) 0 (ρ 19) (γ 4)
  have hD : en265 (γ 0) (0, [ρ 16, ρ 17], γ 1) = .inr (0, ρ 19, γ 4) := by
    unfold en265
    refine zIP (show (0 : Nat) = 0 by decide) (zLV (γ 1) rfl (zLV (ρ 16) rfl (zLV (ρ 17) rfl (zLE m16 (zLE m17 (zLE m18 (zIP w_0 ?_)))))))
    refine zLE c2.symm (zLE c3.symm (zLE c4.symm ?_))
    rfl
  exact zGoo_aend hJ hD
theorem vn265a0_1 {S : Nat → zSpc} (hS163 : zIm S 163 sn163) (hS223 : zIm S 223 sn223) (hS235 : zIm S 235 sn235) (hS236 : zIm S 236 sn236) (hS263 : zIm S 263 sn263) (hS264 : zIm S 264 sn264) {a : List Int} {g : rHp} : ∀ (ρ : Nat → Int) (γ : Nat → rHp), jn265 a g 0 (zAg (zNA a265_ 0) ρ) (γ 1) → zO 16 S a g q265a0_1 ρ γ → zGl (fun i vs g1 => jn265 a g i vs g1) (sn265 a g) q265a0_1 ρ γ := by
  intro ρ γ hJ h
  obtain ⟨ha, hg, hr, hf, hm, hc, hl⟩ := h
  have ha : a = [ρ 0, ρ 1, ρ 2, ρ 3, ρ 4, ρ 5, ρ 6, ρ 7, ρ 8, ρ 9, ρ 10, ρ 11, ρ 12, ρ 13, ρ 14, ρ 15] := ha
  subst ha
  subst hg
  have hJ : jn265 [ρ 0, ρ 1, ρ 2, ρ 3, ρ 4, ρ 5, ρ 6, ρ 7, ρ 8, ρ 9, ρ 10, ρ 11, ρ 12, ρ 13, ρ 14, ρ 15] (γ 0) 0 [ρ 0, ρ 1, ρ 2, ρ 3, ρ 4, ρ 5, ρ 6, ρ 7, ρ 8, ρ 9, ρ 10, ρ 11, ρ 12, ρ 13, ρ 14, ρ 15, ρ 16, ρ 17, ρ 18, ρ 19, ρ 20, ρ 21, ρ 22, ρ 23, ρ 24, ρ 25, ρ 26, ρ 27] (γ 1) := hJ
  have f9 : (0 : Int) ≤ ρ 18 + -ρ 16 + (-1) := zAllA hf 9
  have w_0 : ¬ (ρ 16 ≥ ρ 18) := by omega
  have m16 : γ 1 1 0 8 = ρ 18 := zAllA hm 16
  have m17 : γ 1 4 0 7 = ρ 19 := zAllA hm 17
  have m18 : γ 1 6 0 0 = ρ 20 := zAllA hm 18
  have l0 : sn235 [ρ 16, ρ 3, ρ 19] (γ 1) 0 0 (γ 2) := hS235 _ _ _ _ _ (zAllA hl 0)
  have l1 : sn263 [ρ 16, ρ 20, ρ 4, ρ 28, ρ 21, ρ 22, ρ 23, ρ 24, ρ 25, ρ 26, ρ 27] (γ 2) 0 0 (γ 3) := hS263 _ _ _ _ _ (zAllA hl 1)
  have l2 : sn264 [ρ 16, ρ 29, ρ 4, ρ 30, ρ 31, ρ 32, ρ 33, ρ 34, ρ 35, ρ 26, ρ 36] (γ 3) 0 (ρ 37) (γ 4) := hS264 _ _ _ _ _ (zAllA hl 2)
  have l3 : zOpP (.iadd) (γ 0) (γ 1) [ρ 17, ρ 37] (ρ 47) := zAllA hl 3
  show jn265 [ρ 0, ρ 1, ρ 2, ρ 3, ρ 4, ρ 5, ρ 6, ρ 7, ρ 8, ρ 9, ρ 10, ρ 11, ρ 12, ρ 13, ρ 14, ρ 15] (γ 0) 0 [ρ 0, ρ 1, ρ 2, ρ 3, ρ 4, ρ 5, ρ 6, ρ 7, ρ 8, ρ 9, ρ 10, ρ 11, ρ 12, ρ 13, ρ 14, ρ 15, ρ 16 + 1, ρ 47, ρ 18, ρ 39, ρ 38, ρ 40, ρ 41, ρ 42, ρ 43, ρ 44, ρ 45, ρ 46] (γ 4)
  have hD : en265 (γ 0) (0, [ρ 16, ρ 17], γ 1) = .inl (0, [ρ 16 + 1, ρ 47], γ 4) := by
    unfold en265
    refine zIP (show (0 : Nat) = 0 by decide) (zLV (γ 1) rfl (zLV (ρ 16) rfl (zLV (ρ 17) rfl (zLE m16 (zLE m17 (zLE m18 (zIN w_0 ?_)))))))
    refine zLE (show fn235 [ρ 16] (γ 1) = (0, 0, γ 2) from l0.symm) (zLV (γ 2) rfl (zIP (show (0 : Nat) = 0 by decide) (zLE (show fn263 [ρ 16] (γ 2) = (0, 0, γ 3) from l1.symm) (zLV (γ 3) rfl (zIP (show (0 : Nat) = 0 by decide) (zLE (show fn264 [ρ 16] (γ 3) = (0, ρ 37, γ 4) from l2.symm) (zLV (γ 4) rfl ?_)))))))
    refine zIP (show (0 : Nat) = 0 by decide) (zLV (ρ 37) rfl (zLE (zF2_ok l3) ?_))
    rfl
  exact zGoo_ato hJ hD
theorem vn265a0_2 {S : Nat → zSpc} (hS163 : zIm S 163 sn163) (hS223 : zIm S 223 sn223) (hS235 : zIm S 235 sn235) (hS236 : zIm S 236 sn236) (hS263 : zIm S 263 sn263) (hS264 : zIm S 264 sn264) {a : List Int} {g : rHp} : ∀ (ρ : Nat → Int) (γ : Nat → rHp), jn265 a g 0 (zAg (zNA a265_ 0) ρ) (γ 1) → zO 16 S a g q265a0_2 ρ γ → zGl (fun i vs g1 => jn265 a g i vs g1) (sn265 a g) q265a0_2 ρ γ := by
  intro ρ γ hJ h
  obtain ⟨ha, hg, hr, hf, hm, hc, hl⟩ := h
  have ha : a = [ρ 0, ρ 1, ρ 2, ρ 3, ρ 4, ρ 5, ρ 6, ρ 7, ρ 8, ρ 9, ρ 10, ρ 11, ρ 12, ρ 13, ρ 14, ρ 15] := ha
  subst ha
  subst hg
  have hJ : jn265 [ρ 0, ρ 1, ρ 2, ρ 3, ρ 4, ρ 5, ρ 6, ρ 7, ρ 8, ρ 9, ρ 10, ρ 11, ρ 12, ρ 13, ρ 14, ρ 15] (γ 0) 0 [ρ 0, ρ 1, ρ 2, ρ 3, ρ 4, ρ 5, ρ 6, ρ 7, ρ 8, ρ 9, ρ 10, ρ 11, ρ 12, ρ 13, ρ 14, ρ 15, ρ 16, ρ 17, ρ 18, ρ 19, ρ 20, ρ 21, ρ 22, ρ 23, ρ 24, ρ 25, ρ 26, ρ 27] (γ 1) := hJ
  have f11 : (0 : Int) ≤ ρ 18 + -ρ 16 + (-1) := zAllA hf 11
  have w_0 : ¬ (ρ 16 ≥ ρ 18) := by omega
  have m16 : γ 1 1 0 8 = ρ 18 := zAllA hm 16
  have m17 : γ 1 4 0 7 = ρ 19 := zAllA hm 17
  have m18 : γ 1 6 0 0 = ρ 20 := zAllA hm 18
  have l0 : sn235 [ρ 16, ρ 3, ρ 19] (γ 1) 0 0 (γ 2) := hS235 _ _ _ _ _ (zAllA hl 0)
  have l1 : sn263 [ρ 16, ρ 20, ρ 4, ρ 28, ρ 21, ρ 22, ρ 23, ρ 24, ρ 25, ρ 26, ρ 27] (γ 2) 0 0 (γ 3) := hS263 _ _ _ _ _ (zAllA hl 1)
  have l2 : sn264 [ρ 16, ρ 29, ρ 4, ρ 30, ρ 31, ρ 32, ρ 33, ρ 34, ρ 35, ρ 26, ρ 36] (γ 3) 1 0 (γ 4) := hS264 _ _ _ _ _ (zAllA hl 2)
  show sn265 [ρ 0, ρ 1, ρ 2, ρ 3, ρ 4, ρ 5, ρ 6, ρ 7, ρ 8, ρ 9, ρ 10, ρ 11, ρ 12, ρ 13, ρ 14, ρ 15] (γ 0) 1 0 (γ 4)
  have hD : en265 (γ 0) (0, [ρ 16, ρ 17], γ 1) = .inr (1, 0, γ 4) := by
    unfold en265
    refine zIP (show (0 : Nat) = 0 by decide) (zLV (γ 1) rfl (zLV (ρ 16) rfl (zLV (ρ 17) rfl (zLE m16 (zLE m17 (zLE m18 (zIN w_0 ?_)))))))
    refine zLE (show fn235 [ρ 16] (γ 1) = (0, 0, γ 2) from l0.symm) (zLV (γ 2) rfl (zIP (show (0 : Nat) = 0 by decide) (zLE (show fn263 [ρ 16] (γ 2) = (0, 0, γ 3) from l1.symm) (zLV (γ 3) rfl (zIP (show (0 : Nat) = 0 by decide) (zLE (show fn264 [ρ 16] (γ 3) = (1, 0, γ 4) from l2.symm) (zLV (γ 4) rfl ?_)))))))
    refine zIN (show ¬ (1 : Nat) = 0 by decide) (zIP (show (1 : Nat) = 1 by decide) ?_)
    rfl
  exact zGoo_aend hJ hD
theorem vn265a0_3 {S : Nat → zSpc} (hS163 : zIm S 163 sn163) (hS223 : zIm S 223 sn223) (hS235 : zIm S 235 sn235) (hS236 : zIm S 236 sn236) (hS263 : zIm S 263 sn263) (hS264 : zIm S 264 sn264) {a : List Int} {g : rHp} : ∀ (ρ : Nat → Int) (γ : Nat → rHp), jn265 a g 0 (zAg (zNA a265_ 0) ρ) (γ 1) → zO 16 S a g q265a0_3 ρ γ → zGl (fun i vs g1 => jn265 a g i vs g1) (sn265 a g) q265a0_3 ρ γ := by
  intro ρ γ hJ h
  obtain ⟨ha, hg, hr, hf, hm, hc, hl⟩ := h
  have ha : a = [ρ 0, ρ 1, ρ 2, ρ 3, ρ 4, ρ 5, ρ 6, ρ 7, ρ 8, ρ 9, ρ 10, ρ 11, ρ 12, ρ 13, ρ 14, ρ 15] := ha
  subst ha
  subst hg
  have hJ : jn265 [ρ 0, ρ 1, ρ 2, ρ 3, ρ 4, ρ 5, ρ 6, ρ 7, ρ 8, ρ 9, ρ 10, ρ 11, ρ 12, ρ 13, ρ 14, ρ 15] (γ 0) 0 [ρ 0, ρ 1, ρ 2, ρ 3, ρ 4, ρ 5, ρ 6, ρ 7, ρ 8, ρ 9, ρ 10, ρ 11, ρ 12, ρ 13, ρ 14, ρ 15, ρ 16, ρ 17, ρ 18, ρ 19, ρ 20, ρ 21, ρ 22, ρ 23, ρ 24, ρ 25, ρ 26, ρ 27] (γ 1) := hJ
  have f10 : (0 : Int) ≤ ρ 18 + -ρ 16 + (-1) := zAllA hf 10
  have w_0 : ¬ (ρ 16 ≥ ρ 18) := by omega
  have m16 : γ 1 1 0 8 = ρ 18 := zAllA hm 16
  have m17 : γ 1 4 0 7 = ρ 19 := zAllA hm 17
  have m18 : γ 1 6 0 0 = ρ 20 := zAllA hm 18
  have l0 : sn235 [ρ 16, ρ 3, ρ 19] (γ 1) 0 0 (γ 2) := hS235 _ _ _ _ _ (zAllA hl 0)
  have l1 : sn263 [ρ 16, ρ 20, ρ 4, ρ 28, ρ 21, ρ 22, ρ 23, ρ 24, ρ 25, ρ 26, ρ 27] (γ 2) 0 0 (γ 3) := hS263 _ _ _ _ _ (zAllA hl 1)
  have l2 : sn264 [ρ 16, ρ 29, ρ 4, ρ 30, ρ 31, ρ 32, ρ 33, ρ 34, ρ 35, ρ 26, ρ 36] (γ 3) 4 0 (γ 4) := hS264 _ _ _ _ _ (zAllA hl 2)
  show sn265 [ρ 0, ρ 1, ρ 2, ρ 3, ρ 4, ρ 5, ρ 6, ρ 7, ρ 8, ρ 9, ρ 10, ρ 11, ρ 12, ρ 13, ρ 14, ρ 15] (γ 0) 4 0 (γ 4)
  have hD : en265 (γ 0) (0, [ρ 16, ρ 17], γ 1) = .inr (4, 0, γ 4) := by
    unfold en265
    refine zIP (show (0 : Nat) = 0 by decide) (zLV (γ 1) rfl (zLV (ρ 16) rfl (zLV (ρ 17) rfl (zLE m16 (zLE m17 (zLE m18 (zIN w_0 ?_)))))))
    refine zLE (show fn235 [ρ 16] (γ 1) = (0, 0, γ 2) from l0.symm) (zLV (γ 2) rfl (zIP (show (0 : Nat) = 0 by decide) (zLE (show fn263 [ρ 16] (γ 2) = (0, 0, γ 3) from l1.symm) (zLV (γ 3) rfl (zIP (show (0 : Nat) = 0 by decide) (zLE (show fn264 [ρ 16] (γ 3) = (4, 0, γ 4) from l2.symm) (zLV (γ 4) rfl ?_)))))))
    refine zIN (show ¬ (4 : Nat) = 0 by decide) (zIN (show ¬ (4 : Nat) = 1 by decide) ?_)
    rfl
  exact zGoo_aend hJ hD
theorem vn265a0_4 {S : Nat → zSpc} (hS163 : zIm S 163 sn163) (hS223 : zIm S 223 sn223) (hS235 : zIm S 235 sn235) (hS236 : zIm S 236 sn236) (hS263 : zIm S 263 sn263) (hS264 : zIm S 264 sn264) {a : List Int} {g : rHp} : ∀ (ρ : Nat → Int) (γ : Nat → rHp), jn265 a g 0 (zAg (zNA a265_ 0) ρ) (γ 1) → zO 16 S a g q265a0_4 ρ γ → zGl (fun i vs g1 => jn265 a g i vs g1) (sn265 a g) q265a0_4 ρ γ := by
  intro ρ γ hJ h
  obtain ⟨ha, hg, hr, hf, hm, hc, hl⟩ := h
  have ha : a = [ρ 0, ρ 1, ρ 2, ρ 3, ρ 4, ρ 5, ρ 6, ρ 7, ρ 8, ρ 9, ρ 10, ρ 11, ρ 12, ρ 13, ρ 14, ρ 15] := ha
  subst ha
  subst hg
  have hJ : jn265 [ρ 0, ρ 1, ρ 2, ρ 3, ρ 4, ρ 5, ρ 6, ρ 7, ρ 8, ρ 9, ρ 10, ρ 11, ρ 12, ρ 13, ρ 14, ρ 15] (γ 0) 0 [ρ 0, ρ 1, ρ 2, ρ 3, ρ 4, ρ 5, ρ 6, ρ 7, ρ 8, ρ 9, ρ 10, ρ 11, ρ 12, ρ 13, ρ 14, ρ 15, ρ 16, ρ 17, ρ 18, ρ 19, ρ 20, ρ 21, ρ 22, ρ 23, ρ 24, ρ 25, ρ 26, ρ 27] (γ 1) := hJ
  have f6 : (0 : Int) ≤ ρ 18 + -ρ 16 + (-1) := zAllA hf 6
  have w_0 : ¬ (ρ 16 ≥ ρ 18) := by omega
  have m16 : γ 1 1 0 8 = ρ 18 := zAllA hm 16
  have m17 : γ 1 4 0 7 = ρ 19 := zAllA hm 17
  have m18 : γ 1 6 0 0 = ρ 20 := zAllA hm 18
  have l0 : sn235 [ρ 16, ρ 3, ρ 19] (γ 1) 0 0 (γ 2) := hS235 _ _ _ _ _ (zAllA hl 0)
  have l1 : sn263 [ρ 16, ρ 20, ρ 4, ρ 28, ρ 21, ρ 22, ρ 23, ρ 24, ρ 25, ρ 26, ρ 27] (γ 2) 1 0 (γ 3) := hS263 _ _ _ _ _ (zAllA hl 1)
  show sn265 [ρ 0, ρ 1, ρ 2, ρ 3, ρ 4, ρ 5, ρ 6, ρ 7, ρ 8, ρ 9, ρ 10, ρ 11, ρ 12, ρ 13, ρ 14, ρ 15] (γ 0) 1 0 (γ 3)
  have hD : en265 (γ 0) (0, [ρ 16, ρ 17], γ 1) = .inr (1, 0, γ 3) := by
    unfold en265
    refine zIP (show (0 : Nat) = 0 by decide) (zLV (γ 1) rfl (zLV (ρ 16) rfl (zLV (ρ 17) rfl (zLE m16 (zLE m17 (zLE m18 (zIN w_0 ?_)))))))
    refine zLE (show fn235 [ρ 16] (γ 1) = (0, 0, γ 2) from l0.symm) (zLV (γ 2) rfl (zIP (show (0 : Nat) = 0 by decide) (zLE (show fn263 [ρ 16] (γ 2) = (1, 0, γ 3) from l1.symm) (zLV (γ 3) rfl (zIN (show ¬ (1 : Nat) = 0 by decide) (zIP (show (1 : Nat) = 1 by decide) ?_))))))
    rfl
  exact zGoo_aend hJ hD
theorem vn265a0_5 {S : Nat → zSpc} (hS163 : zIm S 163 sn163) (hS223 : zIm S 223 sn223) (hS235 : zIm S 235 sn235) (hS236 : zIm S 236 sn236) (hS263 : zIm S 263 sn263) (hS264 : zIm S 264 sn264) {a : List Int} {g : rHp} : ∀ (ρ : Nat → Int) (γ : Nat → rHp), jn265 a g 0 (zAg (zNA a265_ 0) ρ) (γ 1) → zO 16 S a g q265a0_5 ρ γ → zGl (fun i vs g1 => jn265 a g i vs g1) (sn265 a g) q265a0_5 ρ γ := by
  intro ρ γ hJ h
  obtain ⟨ha, hg, hr, hf, hm, hc, hl⟩ := h
  have ha : a = [ρ 0, ρ 1, ρ 2, ρ 3, ρ 4, ρ 5, ρ 6, ρ 7, ρ 8, ρ 9, ρ 10, ρ 11, ρ 12, ρ 13, ρ 14, ρ 15] := ha
  subst ha
  subst hg
  have hJ : jn265 [ρ 0, ρ 1, ρ 2, ρ 3, ρ 4, ρ 5, ρ 6, ρ 7, ρ 8, ρ 9, ρ 10, ρ 11, ρ 12, ρ 13, ρ 14, ρ 15] (γ 0) 0 [ρ 0, ρ 1, ρ 2, ρ 3, ρ 4, ρ 5, ρ 6, ρ 7, ρ 8, ρ 9, ρ 10, ρ 11, ρ 12, ρ 13, ρ 14, ρ 15, ρ 16, ρ 17, ρ 18, ρ 19, ρ 20, ρ 21, ρ 22, ρ 23, ρ 24, ρ 25, ρ 26, ρ 27] (γ 1) := hJ
  have f5 : (0 : Int) ≤ ρ 18 + -ρ 16 + (-1) := zAllA hf 5
  have w_0 : ¬ (ρ 16 ≥ ρ 18) := by omega
  have m16 : γ 1 1 0 8 = ρ 18 := zAllA hm 16
  have m17 : γ 1 4 0 7 = ρ 19 := zAllA hm 17
  have m18 : γ 1 6 0 0 = ρ 20 := zAllA hm 18
  have l0 : sn235 [ρ 16, ρ 3, ρ 19] (γ 1) 0 0 (γ 2) := hS235 _ _ _ _ _ (zAllA hl 0)
  have l1 : sn263 [ρ 16, ρ 20, ρ 4, ρ 28, ρ 21, ρ 22, ρ 23, ρ 24, ρ 25, ρ 26, ρ 27] (γ 2) 4 0 (γ 3) := hS263 _ _ _ _ _ (zAllA hl 1)
  show sn265 [ρ 0, ρ 1, ρ 2, ρ 3, ρ 4, ρ 5, ρ 6, ρ 7, ρ 8, ρ 9, ρ 10, ρ 11, ρ 12, ρ 13, ρ 14, ρ 15] (γ 0) 4 0 (γ 3)
  have hD : en265 (γ 0) (0, [ρ 16, ρ 17], γ 1) = .inr (4, 0, γ 3) := by
    unfold en265
    refine zIP (show (0 : Nat) = 0 by decide) (zLV (γ 1) rfl (zLV (ρ 16) rfl (zLV (ρ 17) rfl (zLE m16 (zLE m17 (zLE m18 (zIN w_0 ?_)))))))
    refine zLE (show fn235 [ρ 16] (γ 1) = (0, 0, γ 2) from l0.symm) (zLV (γ 2) rfl (zIP (show (0 : Nat) = 0 by decide) (zLE (show fn263 [ρ 16] (γ 2) = (4, 0, γ 3) from l1.symm) (zLV (γ 3) rfl (zIN (show ¬ (4 : Nat) = 0 by decide) (zIN (show ¬ (4 : Nat) = 1 by decide) ?_))))))
    rfl
  exact zGoo_aend hJ hD
theorem vn265a0_6 {S : Nat → zSpc} (hS163 : zIm S 163 sn163) (hS223 : zIm S 223 sn223) (hS235 : zIm S 235 sn235) (hS236 : zIm S 236 sn236) (hS263 : zIm S 263 sn263) (hS264 : zIm S 264 sn264) {a : List Int} {g : rHp} : ∀ (ρ : Nat → Int) (γ : Nat → rHp), jn265 a g 0 (zAg (zNA a265_ 0) ρ) (γ 1) → zO 16 S a g q265a0_6 ρ γ → zGl (fun i vs g1 => jn265 a g i vs g1) (sn265 a g) q265a0_6 ρ γ := by
  intro ρ γ hJ h
  obtain ⟨ha, hg, hr, hf, hm, hc, hl⟩ := h
  have ha : a = [ρ 0, ρ 1, ρ 2, ρ 3, ρ 4, ρ 5, ρ 6, ρ 7, ρ 8, ρ 9, ρ 10, ρ 11, ρ 12, ρ 13, ρ 14, ρ 15] := ha
  subst ha
  subst hg
  have hJ : jn265 [ρ 0, ρ 1, ρ 2, ρ 3, ρ 4, ρ 5, ρ 6, ρ 7, ρ 8, ρ 9, ρ 10, ρ 11, ρ 12, ρ 13, ρ 14, ρ 15] (γ 0) 0 [ρ 0, ρ 1, ρ 2, ρ 3, ρ 4, ρ 5, ρ 6, ρ 7, ρ 8, ρ 9, ρ 10, ρ 11, ρ 12, ρ 13, ρ 14, ρ 15, ρ 16, ρ 17, ρ 18, ρ 19, ρ 20, ρ 21, ρ 22, ρ 23, ρ 24, ρ 25, ρ 26, ρ 27] (γ 1) := hJ
  have f0 : (0 : Int) ≤ ρ 18 + -ρ 16 + (-1) := zAllA hf 0
  have w_0 : ¬ (ρ 16 ≥ ρ 18) := by omega
  have m16 : γ 1 1 0 8 = ρ 18 := zAllA hm 16
  have m17 : γ 1 4 0 7 = ρ 19 := zAllA hm 17
  have m18 : γ 1 6 0 0 = ρ 20 := zAllA hm 18
  have l0 : sn235 [ρ 16, ρ 3, ρ 19] (γ 1) 1 0 (γ 2) := hS235 _ _ _ _ _ (zAllA hl 0)
  show sn265 [ρ 0, ρ 1, ρ 2, ρ 3, ρ 4, ρ 5, ρ 6, ρ 7, ρ 8, ρ 9, ρ 10, ρ 11, ρ 12, ρ 13, ρ 14, ρ 15] (γ 0) 1 0 (γ 2)
  have hD : en265 (γ 0) (0, [ρ 16, ρ 17], γ 1) = .inr (1, 0, γ 2) := by
    unfold en265
    refine zIP (show (0 : Nat) = 0 by decide) (zLV (γ 1) rfl (zLV (ρ 16) rfl (zLV (ρ 17) rfl (zLE m16 (zLE m17 (zLE m18 (zIN w_0 ?_)))))))
    refine zLE (show fn235 [ρ 16] (γ 1) = (1, 0, γ 2) from l0.symm) (zLV (γ 2) rfl (zIN (show ¬ (1 : Nat) = 0 by decide) ?_))
    rfl
  exact zGoo_aend hJ hD
theorem yn265 {S : Nat → zSpc} (hS163 : zIm S 163 sn163) (hS223 : zIm S 223 sn223) (hS235 : zIm S 235 sn235) (hS236 : zIm S 236 sn236) (hS263 : zIm S 263 sn263) (hS264 : zIm S 264 sn264) : ∀ x g o v gz, zSem uW uT w265_.2.2.2.1 w265_.2.2.1.1.length S q265 (fun i => q265a.getD i []) (zNA a265_) x g o v gz → sn265 x g o v gz := by
  intro a g o v gz h
  exact zSem_all (l0 := q265) (las := q265a) (S := S) (J := (fun i vs g1 => jn265 a g i vs g1)) (P := sn265 a g) (fun _ => (show zAll _ [q265_0, q265_1] from (zAll_c (vn265_0 hS163 hS223 hS235 hS236 hS263 hS264) (zAll_c (vn265_1 hS163 hS223 hS235 hS236 hS263 hS264) zAll_n)))) (fun _ => (show zAllI _ 0 [q265a0] from ⟨(show zAll _ [q265a0_0, q265a0_1, q265a0_2, q265a0_3, q265a0_4, q265a0_5, q265a0_6] from (zAll_c (vn265a0_0 hS163 hS223 hS235 hS236 hS263 hS264) (zAll_c (vn265a0_1 hS163 hS223 hS235 hS236 hS263 hS264) (zAll_c (vn265a0_2 hS163 hS223 hS235 hS236 hS263 hS264) (zAll_c (vn265a0_3 hS163 hS223 hS235 hS236 hS263 hS264) (zAll_c (vn265a0_4 hS163 hS223 hS235 hS236 hS263 hS264) (zAll_c (vn265a0_5 hS163 hS223 hS235 hS236 hS263 hS264) (zAll_c (vn265a0_6 hS163 hS223 hS235 hS236 hS263 hS264) zAll_n)))))))), trivial⟩)) h
