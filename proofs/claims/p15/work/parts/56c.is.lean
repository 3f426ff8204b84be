/-! ===== the runs are the functions ===== -/
theorem vn27_0 {S : Nat → zSpc} (hS6 : zIm S 6 sn6) (hS7 : zIm S 7 sn7) (hS8 : zIm S 8 sn8) (hS20 : zIm S 20 sn20) (hS23 : zIm S 23 sn23) (hS24 : zIm S 24 sn24) (hS26 : zIm S 26 sn26) {a : List Int} {g : rHp} : ∀ (ρ : Nat → Int) (γ : Nat → rHp), zO 16 S a g q27_0 ρ γ → zGl (fun i vs g1 => jn27 a g i vs g1) (sn27 a g) q27_0 ρ γ := by
  intro ρ γ h
  obtain ⟨ha, hg, hr, hf, hm, hc, hl⟩ := h
  have ha : a = [ρ 0, ρ 1, ρ 2, ρ 3, ρ 4, ρ 5, ρ 6, ρ 7, ρ 8, ρ 9, ρ 10, ρ 11, ρ 12, ρ 13, ρ 14, ρ 15] := ha
  subst ha
  subst hg
  have l0 : sn23 [ρ 0, ρ 1, ρ 7, ρ 8, ρ 9] (γ 0) 0 0 (γ 1) := hS23 _ _ _ _ _ (zAllA hl 0)
  show sn27 [ρ 0, ρ 1, ρ 2, ρ 3, ρ 4, ρ 5, ρ 6, ρ 7, ρ 8, ρ 9, ρ 10, ρ 11, ρ 12, ρ 13, ρ 14, ρ 15] (γ 0) 0 0 (γ 1)
  have hD : dn27 [] (γ 0) = .inr (0, 0, γ 1) := by
    unfold dn27
    refine zLE (show fn23 [] (γ 0) = (0, 0, γ 1) from l0.symm) (zLV (γ 1) rfl (zIN zQ0_ ?_))
    rfl
  exact zGoo_end hD
theorem vn27_1 {S : Nat → zSpc} (hS6 : zIm S 6 sn6) (hS7 : zIm S 7 sn7) (hS8 : zIm S 8 sn8) (hS20 : zIm S 20 sn20) (hS23 : zIm S 23 sn23) (hS24 : zIm S 24 sn24) (hS26 : zIm S 26 sn26) {a : List Int} {g : rHp} : ∀ (ρ : Nat → Int) (γ : Nat → rHp), zO 16 S a g q27_1 ρ γ → zGl (fun i vs g1 => jn27 a g i vs g1) (sn27 a g) q27_1 ρ γ := by
  intro ρ γ h
  obtain ⟨ha, hg, hr, hf, hm, hc, hl⟩ := h
  have ha : a = [ρ 0, ρ 1, ρ 2, ρ 3, ρ 4, ρ 5, ρ 6, ρ 7, ρ 8, ρ 9, ρ 10, ρ 11, ρ 12, ρ 13, ρ 14, ρ 15] := ha
  subst ha
  subst hg
  have m18 : γ 1 15 0 37 = ρ 17 := zAllA hm 18
  have m19 : γ 1 15 0 38 = ρ 18 := zAllA hm 19
  have c2 : γ 2 = rUp (γ 1) 15 0 46 (ρ 17) := And.right (zChA hc 5)
  have c3 : γ 3 = rUp (γ 2) 15 0 47 (ρ 18) := And.right (zChA hc 4)
  have c4 : γ 4 = rUp (γ 3) 15 0 48 0 := And.right (zChA hc 3)
  have c5 : γ 5 = rUp (γ 4) 15 0 49 0 := And.right (zChA hc 2)
  have c6 : γ 6 = rUp (γ 5) 15 0 50 (-1) := And.right (zChA hc 1)
  have l0 : sn23 [ρ 0, ρ 1, ρ 7, ρ 8, ρ 9] (γ 0) 0 1 (γ 1) := hS23 _ _ _ _ _ (zAllA hl 0)
  have l1 : sn24 [40, ρ 16, ρ 1, ρ 7] (γ 6) 0 0 (γ 7) := hS24 _ _ _ _ _ (zAllA hl 1)
  show sn27 [ρ 0, ρ 1, ρ 2, ρ 3, ρ 4, ρ 5, ρ 6, ρ 7, ρ 8, ρ 9, ρ 10, ρ 11, ρ 12, ρ 13, ρ 14, ρ 15] (γ 0) 0 0 (γ 7)
  have hD : dn27 [] (γ 0) = .inr (0, 0, γ 7) := by
    unfold dn27
    refine zLE (show fn23 [] (γ 0) = (0, 1, γ 1) from l0.symm) (zLV (γ 1) rfl (zIP zQ1_ (zLE m18 (zLE m19 (zLE c2.symm (zLE c3.symm (zLE c4.symm ?_)))))))
    refine zLE c5.symm (zLE c6.symm (zLE (show fn24 [40] (γ 6) = (0, 0, γ 7) from l1.symm) (zLV (γ 7) rfl (zIN zQ0_ ?_))))
    rfl
  exact zGoo_end hD
theorem vn27_2 {S : Nat → zSpc} (hS6 : zIm S 6 sn6) (hS7 : zIm S 7 sn7) (hS8 : zIm S 8 sn8) (hS20 : zIm S 20 sn20) (hS23 : zIm S 23 sn23) (hS24 : zIm S 24 sn24) (hS26 : zIm S 26 sn26) {a : List Int} {g : rHp} : ∀ (ρ : Nat → Int) (γ : Nat → rHp), zO 16 S a g q27_2 ρ γ → zGl (fun i vs g1 => jn27 a g i vs g1) (sn27 a g) q27_2 ρ γ := by
  intro ρ γ h
  obtain ⟨ha, hg, hr, hf, hm, hc, hl⟩ := h
  have ha : a = [ρ 0, ρ 1, ρ 2, ρ 3, ρ 4, ρ 5, ρ 6, ρ 7, ρ 8, ρ 9, ρ 10, ρ 11, ρ 12, ρ 13, ρ 14, ρ 15] := ha
  subst ha
  subst hg
  have m18 : γ 1 15 0 37 = ρ 17 := zAllA hm 18
  have m19 : γ 1 15 0 38 = ρ 18 := zAllA hm 19
  have c2 : γ 2 = rUp (γ 1) 15 0 46 (ρ 17) := And.right (zChA hc 5)
  have c3 : γ 3 = rUp (γ 2) 15 0 47 (ρ 18) := And.right (zChA hc 4)
  have c4 : γ 4 = rUp (γ 3) 15 0 48 0 := And.right (zChA hc 3)
  have c5 : γ 5 = rUp (γ 4) 15 0 49 0 := And.right (zChA hc 2)
  have c6 : γ 6 = rUp (γ 5) 15 0 50 (-1) := And.right (zChA hc 1)
  have l0 : sn23 [ρ 0, ρ 1, ρ 7, ρ 8, ρ 9] (γ 0) 0 1 (γ 1) := hS23 _ _ _ _ _ (zAllA hl 0)
  have l1 : sn24 [40, ρ 16, ρ 1, ρ 7] (γ 6) 0 1 (γ 7) := hS24 _ _ _ _ _ (zAllA hl 1)
  show jn27 [ρ 0, ρ 1, ρ 2, ρ 3, ρ 4, ρ 5, ρ 6, ρ 7, ρ 8, ρ 9, ρ 10, ρ 11, ρ 12, ρ 13, ρ 14, ρ 15] (γ 0) 0 [ρ 0, ρ 1, ρ 2, ρ 3, ρ 4, ρ 5, ρ 6, ρ 7, ρ 8, ρ 9, ρ 10, ρ 11, ρ 12, ρ 13, ρ 14, ρ 15, 1, ρ 19, ρ 2, ρ 3, ρ 4, 0, (-1), ρ 17, ρ 18, ρ 10, ρ 17, ρ 18, 0] (γ 7)
  have hD : dn27 [] (γ 0) = .inl (0, [1], γ 7) := by
    unfold dn27
    refine zLE (show fn23 [] (γ 0) = (0, 1, γ 1) from l0.symm) (zLV (γ 1) rfl (zIP zQ1_ (zLE m18 (zLE m19 (zLE c2.symm (zLE c3.symm (zLE c4.symm ?_)))))))
    refine zLE c5.symm (zLE c6.symm (zLE (show fn24 [40] (γ 6) = (0, 1, γ 7) from l1.symm) (zLV (γ 7) rfl (zIP zQ1_ ?_))))
    rfl
  exact zGoo_to hD
theorem vn27a0_0 {S : Nat → zSpc} (hS6 : zIm S 6 sn6) (hS7 : zIm S 7 sn7) (hS8 : zIm S 8 sn8) (hS20 : zIm S 20 sn20) (hS23 : zIm S 23 sn23) (hS24 : zIm S 24 sn24) (hS26 : zIm S 26 sn26) {a : List Int} {g : rHp} : ∀ (ρ : Nat → Int) (γ : Nat → rHp), jn27 a g 0 (zAg (zNA a27_ 0) ρ) (γ 1) → zO 16 S a g q27a0_0 ρ γ → zGl (fun i vs g1 => jn27 a g i vs g1) (sn27 a g) q27a0_0 ρ γ := by
  intro ρ γ hJ h
  obtain ⟨ha, hg, hr, hf, hm, hc, hl⟩ := h
  have ha : a = [ρ 0, ρ 1, ρ 2, ρ 3, ρ 4, ρ 5, ρ 6, ρ 7, ρ 8, ρ 9, ρ 10, ρ 11, ρ 12, ρ 13, ρ 14, ρ 15] := ha
  subst ha
  subst hg
  have hJ : jn27 [ρ 0, ρ 1, ρ 2, ρ 3, ρ 4, ρ 5, ρ 6, ρ 7, ρ 8, ρ 9, ρ 10, ρ 11, ρ 12, ρ 13, ρ 14, ρ 15] (γ 0) 0 [ρ 0, ρ 1, ρ 2, ρ 3, ρ 4, ρ 5, ρ 6, ρ 7, ρ 8, ρ 9, ρ 10, ρ 11, ρ 12, ρ 13, ρ 14, ρ 15, ρ 16, ρ 17, ρ 18, ρ 19, ρ 20, ρ 21, ρ 22, ρ 23, ρ 24, ρ 25, ρ 26, ρ 27, ρ 28] (γ 1) := hJ
  have r16 : (0 : Int) ≤ ρ 16 ∧ ρ 16 ≤ 0 := zRnA hr 16
  have w_0 : ρ 16 = 0 := by omega
  have m1 : γ 0 15 0 34 = ρ 1 := zAllA hm 1
  have m28 : γ 1 15 0 48 = ρ 28 := zAllA hm 28
  have l0 : sn24 [41, ρ 17, ρ 1, ρ 7] (γ 1) 0 0 (γ 2) := hS24 _ _ _ _ _ (zAllA hl 0)
  show sn27 [ρ 0, ρ 1, ρ 2, ρ 3, ρ 4, ρ 5, ρ 6, ρ 7, ρ 8, ρ 9, ρ 10, ρ 11, ρ 12, ρ 13, ρ 14, ρ 15] (γ 0) 0 0 (γ 2)
  have hD : en27 (γ 0) (0, [ρ 16], γ 1) = .inr (0, 0, γ 2) := by
    unfold en27
    refine zIP (show (0 : Nat) = 0 by decide) (zLV (γ 1) rfl (zLV (ρ 16) rfl (zLE m1 (zLE m28 (zIP w_0 (zLE (show fn24 [41] (γ 1) = (0, 0, γ 2) from l0.symm) (zLV (γ 2) rfl ?_)))))))
    refine zIN zQ0_ ?_
    rfl
  exact zGoo_aend hJ hD
theorem vn27a0_1 {S : Nat → zSpc} (hS6 : zIm S 6 sn6) (hS7 : zIm S 7 sn7) (hS8 : zIm S 8 sn8) (hS20 : zIm S 20 sn20) (hS23 : zIm S 23 sn23) (hS24 : zIm S 24 sn24) (hS26 : zIm S 26 sn26) {a : List Int} {g : rHp} : ∀ (ρ : Nat → Int) (γ : Nat → rHp), jn27 a g 0 (zAg (zNA a27_ 0) ρ) (γ 1) → zO 16 S a g q27a0_1 ρ γ → zGl (fun i vs g1 => jn27 a g i vs g1) (sn27 a g) q27a0_1 ρ γ := by
  intro ρ γ hJ h
  obtain ⟨ha, hg, hr, hf, hm, hc, hl⟩ := h
  have ha : a = [ρ 0, ρ 1, ρ 2, ρ 3, ρ 4, ρ 5, ρ 6, ρ 7, ρ 8, ρ 9, ρ 10, ρ 11, ρ 12, ρ 13, ρ 14, ρ 15] := ha
  subst ha
  subst hg
  have hJ : jn27 [ρ 0, ρ 1, ρ 2, ρ 3, ρ 4, ρ 5, ρ 6, ρ 7, ρ 8, ρ 9, ρ 10, ρ 11, ρ 12, ρ 13, ρ 14, ρ 15] (γ 0) 0 [ρ 0, ρ 1, ρ 2, ρ 3, ρ 4, ρ 5, ρ 6, ρ 7, ρ 8, ρ 9, ρ 10, ρ 11, ρ 12, ρ 13, ρ 14, ρ 15, ρ 16, ρ 17, ρ 18, ρ 19, ρ 20, ρ 21, ρ 22, ρ 23, ρ 24, ρ 25, ρ 26, ρ 27, ρ 28] (γ 1) := hJ
  have r16 : (0 : Int) ≤ ρ 16 ∧ ρ 16 ≤ 0 := zRnA hr 16
  have w_0 : ρ 16 = 0 := by omega
  have m1 : γ 0 15 0 34 = ρ 1 := zAllA hm 1
  have m28 : γ 1 15 0 48 = ρ 28 := zAllA hm 28
  have l0 : sn24 [41, ρ 17, ρ 1, ρ 7] (γ 1) 0 1 (γ 2) := hS24 _ _ _ _ _ (zAllA hl 0)
  show sn27 [ρ 0, ρ 1, ρ 2, ρ 3, ρ 4, ρ 5, ρ 6, ρ 7, ρ 8, ρ 9, ρ 10, ρ 11, ρ 12, ρ 13, ρ 14, ρ 15] (γ 0) 0 1 (γ 2)
  have hD : en27 (γ 0) (0, [ρ 16], γ 1) = .inr (0, 1, γ 2) := by
    unfold en27
    refine zIP (show (0 : Nat) = 0 by decide) (zLV (γ 1) rfl (zLV (ρ 16) rfl (zLE m1 (zLE m28 (zIP w_0 (zLE (show fn24 [41] (γ 1) = (0, 1, γ 2) from l0.symm) (zLV (γ 2) rfl ?_)))))))
    refine zIP zQ1_ ?_
    rfl
  exact zGoo_aend hJ hD
theorem vn27a0_2 {S : Nat → zSpc} (hS6 : zIm S 6 sn6) (hS7 : zIm S 7 sn7) (hS8 : zIm S 8 sn8) (hS20 : zIm S 20 sn20) (hS23 : zIm S 23 sn23) (hS24 : zIm S 24 sn24) (hS26 : zIm S 26 sn26) {a : List Int} {g : rHp} : ∀ (ρ : Nat → Int) (γ : Nat → rHp), jn27 a g 0 (zAg (zNA a27_ 0) ρ) (γ 1) → zO 16 S a g q27a0_2 ρ γ → zGl (fun i vs g1 => jn27 a g i vs g1) (sn27 a g) q27a0_2 ρ γ := by
  intro ρ γ hJ h
  obtain ⟨ha, hg, hr, hf, hm, hc, hl⟩ := h
  have ha : a = [ρ 0, ρ 1, ρ 2, ρ 3, ρ 4, ρ 5, ρ 6, ρ 7, ρ 8, ρ 9, ρ 10, ρ 11, ρ 12, ρ 13, ρ 14, ρ 15] := ha
  subst ha
  subst hg
  have hJ : jn27 [ρ 0, ρ 1, ρ 2, ρ 3, ρ 4, ρ 5, ρ 6, ρ 7, ρ 8, ρ 9, ρ 10, ρ 11, ρ 12, ρ 13, ρ 14, ρ 15] (γ 0) 0 [ρ 0, ρ 1, ρ 2, ρ 3, ρ 4, ρ 5, ρ 6, ρ 7, ρ 8, ρ 9, ρ 10, ρ 11, ρ 12, ρ 13, ρ 14, ρ 15, ρ 16, ρ 17, ρ 18, ρ 19, ρ 20, ρ 21, ρ 22, ρ 23, ρ 24, ρ 25, ρ 26, ρ 27, ρ 28] (γ 1) := hJ
  have r16 : (1 : Int) ≤ ρ 16 ∧ ρ 16 ≤ 1 := zRnA hr 16
  have r28 : (0 : Int) ≤ ρ 28 ∧ ρ 28 ≤ 3 := zRnA hr 28
  have r30 : ((-128) : Int) ≤ ρ 30 ∧ ρ 30 ≤ 127 := zRnA hr 30
  have f6 : (0 : Int) ≤ -ρ 29 + ρ 1 + (-1) := zAllA hf 6
  obtain ⟨w_0, w_1, w_2⟩ : (¬ (ρ 16 = 0)) ∧ (ρ 28 ≠ 4) ∧ (0 ≤ -ρ 29 + ρ 1 + (-1)) := ⟨by omega, by omega, by omega⟩
  have m1 : γ 0 15 0 34 = ρ 1 := zAllA hm 1
  have m28 : γ 1 15 0 48 = ρ 28 := zAllA hm 28
  have m29 : γ 2 15 0 35 = ρ 29 := zAllA hm 29
  have c3 : γ 3 = rUp (γ 2) 86 0 (ρ 28) (ρ 29) := And.right (zChA hc 2)
  have l0 : sn7 [ρ 17, ρ 1] (γ 1) 0 0 (γ 2) := hS7 _ _ _ _ _ (zAllA hl 0)
  have l1 : sn6 [ρ 29, ρ 1] (γ 3) 0 (ρ 30) (γ 4) := hS6 _ _ _ _ _ (zAllA hl 1)
  have l2 : ρ 30 ≠ 35 := zAllA hl 2
  have l3 : sn20 [0, ρ 29, ρ 1, ρ 18, ρ 19, ρ 31, ρ 25, ρ 7, ρ 23, ρ 24, ρ 11] (γ 4) 0 0 (γ 5) := hS20 _ _ _ _ _ (zAllA hl 3)
  have wl_0 : ρ 30 ≠ 35 := by omega
  show sn27 [ρ 0, ρ 1, ρ 2, ρ 3, ρ 4, ρ 5, ρ 6, ρ 7, ρ 8, ρ 9, ρ 10, ρ 11, ρ 12, ρ 13, ρ 14, ρ 15] (γ 0) 0 0 (γ 5)
  have hD : en27 (γ 0) (0, [ρ 16], γ 1) = .inr (0, 0, γ 5) := by
    unfold en27
    refine zIP (show (0 : Nat) = 0 by decide) (zLV (γ 1) rfl (zLV (ρ 16) rfl (zLE m1 (zLE m28 (zIN w_0 (zLE (show fn7 [] (γ 1) = (0, 0, γ 2) from l0.symm) (zLV (γ 2) rfl ?_)))))))
    refine zLE m29 (zIP w_1 (zLE c3.symm (zLE (show fn6 [ρ 29] (γ 3) = (0, ρ 30, γ 4) from l1.symm) (zLV (γ 4) rfl (zIP w_2 (zLV (ρ 30) rfl (zIP wl_0 ?_)))))))
    refine zLE (show fn20 [0] (γ 4) = (0, 0, γ 5) from l3.symm) (zLV (γ 5) rfl (zIN zQ0_ ?_))
    rfl
  exact zGoo_aend hJ hD
theorem vn27a0_3 {S : Nat → zSpc} (hS6 : zIm S 6 sn6) (hS7 : zIm S 7 sn7) (hS8 : zIm S 8 sn8) (hS20 : zIm S 20 sn20) (hS23 : zIm S 23 sn23) (hS24 : zIm S 24 sn24) (hS26 : zIm S 26 sn26) {a : List Int} {g : rHp} : ∀ (ρ : Nat → Int) (γ : Nat → rHp), jn27 a g 0 (zAg (zNA a27_ 0) ρ) (γ 1) → zO 16 S a g q27a0_3 ρ γ → zGl (fun i vs g1 => jn27 a g i vs g1) (sn27 a g) q27a0_3 ρ γ := by
  intro ρ γ hJ h
  obtain ⟨ha, hg, hr, hf, hm, hc, hl⟩ := h
  have ha : a = [ρ 0, ρ 1, ρ 2, ρ 3, ρ 4, ρ 5, ρ 6, ρ 7, ρ 8, ρ 9, ρ 10, ρ 11, ρ 12, ρ 13, ρ 14, ρ 15] := ha
  subst ha
  subst hg
  have hJ : jn27 [ρ 0, ρ 1, ρ 2, ρ 3, ρ 4, ρ 5, ρ 6, ρ 7, ρ 8, ρ 9, ρ 10, ρ 11, ρ 12, ρ 13, ρ 14, ρ 15] (γ 0) 0 [ρ 0, ρ 1, ρ 2, ρ 3, ρ 4, ρ 5, ρ 6, ρ 7, ρ 8, ρ 9, ρ 10, ρ 11, ρ 12, ρ 13, ρ 14, ρ 15, ρ 16, ρ 17, ρ 18, ρ 19, ρ 20, ρ 21, ρ 22, ρ 23, ρ 24, ρ 25, ρ 26, ρ 27, ρ 28] (γ 1) := hJ
  have r16 : (1 : Int) ≤ ρ 16 ∧ ρ 16 ≤ 1 := zRnA hr 16
  have r28 : (0 : Int) ≤ ρ 28 ∧ ρ 28 ≤ 3 := zRnA hr 28
  have r30 : ((-128) : Int) ≤ ρ 30 ∧ ρ 30 ≤ 127 := zRnA hr 30
  have r40 : ((-128) : Int) ≤ ρ 40 ∧ ρ 40 ≤ 127 := zRnA hr 40
  have f0 : (0 : Int) ≤ -ρ 39 + ρ 1 + (-1) := zAllA hf 0
  have f10 : (0 : Int) ≤ -ρ 29 + ρ 1 + (-1) := zAllA hf 10
  obtain ⟨w_0, w_1, w_2, w_3⟩ : (¬ (ρ 16 = 0)) ∧ (ρ 28 ≠ 4) ∧ (0 ≤ -ρ 29 + ρ 1 + (-1)) ∧ (0 ≤ -ρ 39 + ρ 1 + (-1)) := ⟨by omega, by omega, by omega, by omega⟩
  have m1 : γ 0 15 0 34 = ρ 1 := zAllA hm 1
  have m28 : γ 1 15 0 48 = ρ 28 := zAllA hm 28
  have m29 : γ 2 15 0 35 = ρ 29 := zAllA hm 29
  have m34 : γ 5 15 0 39 = ρ 35 := zAllA hm 34
  have m35 : γ 5 15 0 40 = ρ 36 := zAllA hm 35
  have m39 : γ 9 15 0 35 = ρ 39 := zAllA hm 39
  have c3 : γ 3 = rUp (γ 2) 86 0 (ρ 28) (ρ 29) := And.right (zChA hc 7)
  have c6 : γ 6 = rUp (γ 5) 85 0 (ρ 28) (ρ 36) := And.right (zChA hc 4)
  have c7 : γ 7 = rUp (γ 6) 87 0 (ρ 28) (ρ 35) := And.right (zChA hc 3)
  have c8 : γ 8 = rUp (γ 7) 15 0 48 (ρ 28 + 1) := And.right (zChA hc 2)
  have l0 : sn7 [ρ 17, ρ 1] (γ 1) 0 0 (γ 2) := hS7 _ _ _ _ _ (zAllA hl 0)
  have l1 : sn6 [ρ 29, ρ 1] (γ 3) 0 (ρ 30) (γ 4) := hS6 _ _ _ _ _ (zAllA hl 1)
  have l2 : ρ 30 ≠ 35 := zAllA hl 2
  have l3 : sn20 [0, ρ 29, ρ 1, ρ 18, ρ 19, ρ 31, ρ 25, ρ 7, ρ 23, ρ 24, ρ 11] (γ 4) 0 1 (γ 5) := hS20 _ _ _ _ _ (zAllA hl 3)
  have l4 : sn7 [ρ 32, ρ 1] (γ 8) 0 0 (γ 9) := hS7 _ _ _ _ _ (zAllA hl 4)
  have l5 : sn6 [ρ 39, ρ 1] (γ 9) 0 (ρ 40) (γ 10) := hS6 _ _ _ _ _ (zAllA hl 5)
  have l6 : ρ 40 ≠ 44 := zAllA hl 6
  obtain ⟨wl_0, wl_1⟩ : (ρ 30 ≠ 35) ∧ (ρ 40 ≠ 44) := ⟨by omega, by omega⟩
  show jn27 [ρ 0, ρ 1, ρ 2, ρ 3, ρ 4, ρ 5, ρ 6, ρ 7, ρ 8, ρ 9, ρ 10, ρ 11, ρ 12, ρ 13, ρ 14, ρ 15] (γ 0) 0 [ρ 0, ρ 1, ρ 2, ρ 3, ρ 4, ρ 5, ρ 6, ρ 7, ρ 8, ρ 9, ρ 10, ρ 11, ρ 12, ρ 13, ρ 14, ρ 15, 0, ρ 39, ρ 33, ρ 34, ρ 20, ρ 21, ρ 22, ρ 37, ρ 38, ρ 36, ρ 26, ρ 27, ρ 28 + 1] (γ 10)
  have hD : en27 (γ 0) (0, [ρ 16], γ 1) = .inl (0, [0], γ 10) := by
    unfold en27
    refine zIP (show (0 : Nat) = 0 by decide) (zLV (γ 1) rfl (zLV (ρ 16) rfl (zLE m1 (zLE m28 (zIN w_0 (zLE (show fn7 [] (γ 1) = (0, 0, γ 2) from l0.symm) (zLV (γ 2) rfl ?_)))))))
    refine zLE m29 (zIP w_1 (zLE c3.symm (zLE (show fn6 [ρ 29] (γ 3) = (0, ρ 30, γ 4) from l1.symm) (zLV (γ 4) rfl (zIP w_2 (zLV (ρ 30) rfl (zIP wl_0 ?_)))))))
    refine zLE (show fn20 [0] (γ 4) = (0, 1, γ 5) from l3.symm) (zLV (γ 5) rfl (zIP zQ1_ (zLE m34 (zLE m35 (zLE c6.symm (zLE c7.symm (zLE c8.symm ?_)))))))
    refine zLE (show fn7 [] (γ 8) = (0, 0, γ 9) from l4.symm) (zLV (γ 9) rfl (zLE m39 (zLE (show fn6 [ρ 39] (γ 9) = (0, ρ 40, γ 10) from l5.symm) (zLV (γ 10) rfl (zIP w_3 (zLV (ρ 40) rfl (zIP wl_1 ?_)))))))
    rfl
  exact zGoo_ato hJ hD
theorem vn27a0_4 {S : Nat → zSpc} (hS6 : zIm S 6 sn6) (hS7 : zIm S 7 sn7) (hS8 : zIm S 8 sn8) (hS20 : zIm S 20 sn20) (hS23 : zIm S 23 sn23) (hS24 : zIm S 24 sn24) (hS26 : zIm S 26 sn26) {a : List Int} {g : rHp} : ∀ (ρ : Nat → Int) (γ : Nat → rHp), jn27 a g 0 (zAg (zNA a27_ 0) ρ) (γ 1) → zO 16 S a g q27a0_4 ρ γ → zGl (fun i vs g1 => jn27 a g i vs g1) (sn27 a g) q27a0_4 ρ γ := by
  intro ρ γ hJ h
  obtain ⟨ha, hg, hr, hf, hm, hc, hl⟩ := h
  have ha : a = [ρ 0, ρ 1, ρ 2, ρ 3, ρ 4, ρ 5, ρ 6, ρ 7, ρ 8, ρ 9, ρ 10, ρ 11, ρ 12, ρ 13, ρ 14, ρ 15] := ha
  subst ha
  subst hg
  have hJ : jn27 [ρ 0, ρ 1, ρ 2, ρ 3, ρ 4, ρ 5, ρ 6, ρ 7, ρ 8, ρ 9, ρ 10, ρ 11, ρ 12, ρ 13, ρ 14, ρ 15] (γ 0) 0 [ρ 0, ρ 1, ρ 2, ρ 3, ρ 4, ρ 5, ρ 6, ρ 7, ρ 8, ρ 9, ρ 10, ρ 11, ρ 12, ρ 13, ρ 14, ρ 15, ρ 16, ρ 17, ρ 18, ρ 19, ρ 20, ρ 21, ρ 22, ρ 23, ρ 24, ρ 25, ρ 26, ρ 27, ρ 28] (γ 1) := hJ
  have r16 : (1 : Int) ≤ ρ 16 ∧ ρ 16 ≤ 1 := zRnA hr 16
  have r28 : (0 : Int) ≤ ρ 28 ∧ ρ 28 ≤ 3 := zRnA hr 28
  have r30 : ((-128) : Int) ≤ ρ 30 ∧ ρ 30 ≤ 127 := zRnA hr 30
  have r40 : (44 : Int) ≤ ρ 40 ∧ ρ 40 ≤ 44 := zRnA hr 40
  have f0 : (0 : Int) ≤ -ρ 39 + ρ 1 + (-1) := zAllA hf 0
  have f10 : (0 : Int) ≤ -ρ 29 + ρ 1 + (-1) := zAllA hf 10
  obtain ⟨w_0, w_1, w_2, w_3, w_4⟩ : (¬ (ρ 16 = 0)) ∧ (ρ 28 ≠ 4) ∧ (0 ≤ -ρ 29 + ρ 1 + (-1)) ∧ (0 ≤ -ρ 39 + ρ 1 + (-1)) ∧ (¬ (ρ 40 ≠ 44)) := ⟨by omega, by omega, by omega, by omega, by omega⟩
  have m1 : γ 0 15 0 34 = ρ 1 := zAllA hm 1
  have m28 : γ 1 15 0 48 = ρ 28 := zAllA hm 28
  have m29 : γ 2 15 0 35 = ρ 29 := zAllA hm 29
  have m34 : γ 5 15 0 39 = ρ 35 := zAllA hm 34
  have m35 : γ 5 15 0 40 = ρ 36 := zAllA hm 35
  have m39 : γ 9 15 0 35 = ρ 39 := zAllA hm 39
  have c3 : γ 3 = rUp (γ 2) 86 0 (ρ 28) (ρ 29) := And.right (zChA hc 8)
  have c6 : γ 6 = rUp (γ 5) 85 0 (ρ 28) (ρ 36) := And.right (zChA hc 5)
  have c7 : γ 7 = rUp (γ 6) 87 0 (ρ 28) (ρ 35) := And.right (zChA hc 4)
  have c8 : γ 8 = rUp (γ 7) 15 0 48 (ρ 28 + 1) := And.right (zChA hc 3)
  have c11 : γ 11 = rUp (γ 10) 15 0 35 (ρ 39 + 1) := And.right (zChA hc 0)
  have l0 : sn7 [ρ 17, ρ 1] (γ 1) 0 0 (γ 2) := hS7 _ _ _ _ _ (zAllA hl 0)
  have l1 : sn6 [ρ 29, ρ 1] (γ 3) 0 (ρ 30) (γ 4) := hS6 _ _ _ _ _ (zAllA hl 1)
  have l2 : ρ 30 ≠ 35 := zAllA hl 2
  have l3 : sn20 [0, ρ 29, ρ 1, ρ 18, ρ 19, ρ 31, ρ 25, ρ 7, ρ 23, ρ 24, ρ 11] (γ 4) 0 1 (γ 5) := hS20 _ _ _ _ _ (zAllA hl 3)
  have l4 : sn7 [ρ 32, ρ 1] (γ 8) 0 0 (γ 9) := hS7 _ _ _ _ _ (zAllA hl 4)
  have l5 : sn6 [ρ 39, ρ 1] (γ 9) 0 (ρ 40) (γ 10) := hS6 _ _ _ _ _ (zAllA hl 5)
  have wl_0 : ρ 30 ≠ 35 := by omega
  show jn27 [ρ 0, ρ 1, ρ 2, ρ 3, ρ 4, ρ 5, ρ 6, ρ 7, ρ 8, ρ 9, ρ 10, ρ 11, ρ 12, ρ 13, ρ 14, ρ 15] (γ 0) 0 [ρ 0, ρ 1, ρ 2, ρ 3, ρ 4, ρ 5, ρ 6, ρ 7, ρ 8, ρ 9, ρ 10, ρ 11, ρ 12, ρ 13, ρ 14, ρ 15, 1, ρ 39 + 1, ρ 33, ρ 34, ρ 20, ρ 21, ρ 22, ρ 37, ρ 38, ρ 36, ρ 26, ρ 27, ρ 28 + 1] (γ 11)
  have hD : en27 (γ 0) (0, [ρ 16], γ 1) = .inl (0, [1], γ 11) := by
    unfold en27
    refine zIP (show (0 : Nat) = 0 by decide) (zLV (γ 1) rfl (zLV (ρ 16) rfl (zLE m1 (zLE m28 (zIN w_0 (zLE (show fn7 [] (γ 1) = (0, 0, γ 2) from l0.symm) (zLV (γ 2) rfl ?_)))))))
    refine zLE m29 (zIP w_1 (zLE c3.symm (zLE (show fn6 [ρ 29] (γ 3) = (0, ρ 30, γ 4) from l1.symm) (zLV (γ 4) rfl (zIP w_2 (zLV (ρ 30) rfl (zIP wl_0 ?_)))))))
    refine zLE (show fn20 [0] (γ 4) = (0, 1, γ 5) from l3.symm) (zLV (γ 5) rfl (zIP zQ1_ (zLE m34 (zLE m35 (zLE c6.symm (zLE c7.symm (zLE c8.symm ?_)))))))
    refine zLE (show fn7 [] (γ 8) = (0, 0, γ 9) from l4.symm) (zLV (γ 9) rfl (zLE m39 (zLE (show fn6 [ρ 39] (γ 9) = (0, ρ 40, γ 10) from l5.symm) (zLV (γ 10) rfl (zIP w_3 (zLV (ρ 40) rfl (zIN w_4 ?_)))))))
    refine zLE c11.symm ?_
    rfl
  exact zGoo_ato hJ hD
theorem vn27a0_5 {S : Nat → zSpc} (hS6 : zIm S 6 sn6) (hS7 : zIm S 7 sn7) (hS8 : zIm S 8 sn8) (hS20 : zIm S 20 sn20) (hS23 : zIm S 23 sn23) (hS24 : zIm S 24 sn24) (hS26 : zIm S 26 sn26) {a : List Int} {g : rHp} : ∀ (ρ : Nat → Int) (γ : Nat → rHp), jn27 a g 0 (zAg (zNA a27_ 0) ρ) (γ 1) → zO 16 S a g q27a0_5 ρ γ → zGl (fun i vs g1 => jn27 a g i vs g1) (sn27 a g) q27a0_5 ρ γ := by
  intro ρ γ hJ h
  obtain ⟨ha, hg, hr, hf, hm, hc, hl⟩ := h
  have ha : a = [ρ 0, ρ 1, ρ 2, ρ 3, ρ 4, ρ 5, ρ 6, ρ 7, ρ 8, ρ 9, ρ 10, ρ 11, ρ 12, ρ 13, ρ 14, ρ 15] := ha
  subst ha
  subst hg
  have hJ : jn27 [ρ 0, ρ 1, ρ 2, ρ 3, ρ 4, ρ 5, ρ 6, ρ 7, ρ 8, ρ 9, ρ 10, ρ 11, ρ 12, ρ 13, ρ 14, ρ 15] (γ 0) 0 [ρ 0, ρ 1, ρ 2, ρ 3, ρ 4, ρ 5, ρ 6, ρ 7, ρ 8, ρ 9, ρ 10, ρ 11, ρ 12, ρ 13, ρ 14, ρ 15, ρ 16, ρ 17, ρ 18, ρ 19, ρ 20, ρ 21, ρ 22, ρ 23, ρ 24, ρ 25, ρ 26, ρ 27, ρ 28] (γ 1) := hJ
  have r16 : (1 : Int) ≤ ρ 16 ∧ ρ 16 ≤ 1 := zRnA hr 16
  have r28 : (0 : Int) ≤ ρ 28 ∧ ρ 28 ≤ 3 := zRnA hr 28
  have r30 : ((-128) : Int) ≤ ρ 30 ∧ ρ 30 ≤ 127 := zRnA hr 30
  have f0 : (0 : Int) ≤ ρ 39 + -ρ 1 := zAllA hf 0
  have f10 : (0 : Int) ≤ -ρ 29 + ρ 1 + (-1) := zAllA hf 10
  obtain ⟨w_0, w_1, w_2, w_3⟩ : (¬ (ρ 16 = 0)) ∧ (ρ 28 ≠ 4) ∧ (0 ≤ -ρ 29 + ρ 1 + (-1)) ∧ (¬ (0 ≤ -ρ 39 + ρ 1 + (-1))) := ⟨by omega, by omega, by omega, by omega⟩
  have m1 : γ 0 15 0 34 = ρ 1 := zAllA hm 1
  have m28 : γ 1 15 0 48 = ρ 28 := zAllA hm 28
  have m29 : γ 2 15 0 35 = ρ 29 := zAllA hm 29
  have m34 : γ 5 15 0 39 = ρ 35 := zAllA hm 34
  have m35 : γ 5 15 0 40 = ρ 36 := zAllA hm 35
  have m39 : γ 9 15 0 35 = ρ 39 := zAllA hm 39
  have c3 : γ 3 = rUp (γ 2) 86 0 (ρ 28) (ρ 29) := And.right (zChA hc 7)
  have c6 : γ 6 = rUp (γ 5) 85 0 (ρ 28) (ρ 36) := And.right (zChA hc 4)
  have c7 : γ 7 = rUp (γ 6) 87 0 (ρ 28) (ρ 35) := And.right (zChA hc 3)
  have c8 : γ 8 = rUp (γ 7) 15 0 48 (ρ 28 + 1) := And.right (zChA hc 2)
  have l0 : sn7 [ρ 17, ρ 1] (γ 1) 0 0 (γ 2) := hS7 _ _ _ _ _ (zAllA hl 0)
  have l1 : sn6 [ρ 29, ρ 1] (γ 3) 0 (ρ 30) (γ 4) := hS6 _ _ _ _ _ (zAllA hl 1)
  have l2 : ρ 30 ≠ 35 := zAllA hl 2
  have l3 : sn20 [0, ρ 29, ρ 1, ρ 18, ρ 19, ρ 31, ρ 25, ρ 7, ρ 23, ρ 24, ρ 11] (γ 4) 0 1 (γ 5) := hS20 _ _ _ _ _ (zAllA hl 3)
  have l4 : sn7 [ρ 32, ρ 1] (γ 8) 0 0 (γ 9) := hS7 _ _ _ _ _ (zAllA hl 4)
  have l5 : sn6 [ρ 39, ρ 1] (γ 9) 0 (-1) (γ 10) := hS6 _ _ _ _ _ (zAllA hl 5)
  have wl_0 : ρ 30 ≠ 35 := by omega
  show jn27 [ρ 0, ρ 1, ρ 2, ρ 3, ρ 4, ρ 5, ρ 6, ρ 7, ρ 8, ρ 9, ρ 10, ρ 11, ρ 12, ρ 13, ρ 14, ρ 15] (γ 0) 0 [ρ 0, ρ 1, ρ 2, ρ 3, ρ 4, ρ 5, ρ 6, ρ 7, ρ 8, ρ 9, ρ 10, ρ 11, ρ 12, ρ 13, ρ 14, ρ 15, 0, ρ 39, ρ 33, ρ 34, ρ 20, ρ 21, ρ 22, ρ 37, ρ 38, ρ 36, ρ 26, ρ 27, ρ 28 + 1] (γ 10)
  have hD : en27 (γ 0) (0, [ρ 16], γ 1) = .inl (0, [0], γ 10) := by
    unfold en27
    refine zIP (show (0 : Nat) = 0 by decide) (zLV (γ 1) rfl (zLV (ρ 16) rfl (zLE m1 (zLE m28 (zIN w_0 (zLE (show fn7 [] (γ 1) = (0, 0, γ 2) from l0.symm) (zLV (γ 2) rfl ?_)))))))
    refine zLE m29 (zIP w_1 (zLE c3.symm (zLE (show fn6 [ρ 29] (γ 3) = (0, ρ 30, γ 4) from l1.symm) (zLV (γ 4) rfl (zIP w_2 (zLV (ρ 30) rfl (zIP wl_0 ?_)))))))
    refine zLE (show fn20 [0] (γ 4) = (0, 1, γ 5) from l3.symm) (zLV (γ 5) rfl (zIP zQ1_ (zLE m34 (zLE m35 (zLE c6.symm (zLE c7.symm (zLE c8.symm ?_)))))))
    refine zLE (show fn7 [] (γ 8) = (0, 0, γ 9) from l4.symm) (zLV (γ 9) rfl (zLE m39 (zLE (show fn6 [ρ 39] (γ 9) = (0, (-1), γ 10) from l5.symm) (zLV (γ 10) rfl (zIN w_3 ?_)))))
    rfl
  exact zGoo_ato hJ hD
theorem vn27a0_6 {S : Nat → zSpc} (hS6 : zIm S 6 sn6) (hS7 : zIm S 7 sn7) (hS8 : zIm S 8 sn8) (hS20 : zIm S 20 sn20) (hS23 : zIm S 23 sn23) (hS24 : zIm S 24 sn24) (hS26 : zIm S 26 sn26) {a : List Int} {g : rHp} : ∀ (ρ : Nat → Int) (γ : Nat → rHp), jn27 a g 0 (zAg (zNA a27_ 0) ρ) (γ 1) → zO 16 S a g q27a0_6 ρ γ → zGl (fun i vs g1 => jn27 a g i vs g1) (sn27 a g) q27a0_6 ρ γ := by
  intro ρ γ hJ h
  obtain ⟨ha, hg, hr, hf, hm, hc, hl⟩ := h
  have ha : a = [ρ 0, ρ 1, ρ 2, ρ 3, ρ 4, ρ 5, ρ 6, ρ 7, ρ 8, ρ 9, ρ 10, ρ 11, ρ 12, ρ 13, ρ 14, ρ 15] := ha
  subst ha
  subst hg
  have hJ : jn27 [ρ 0, ρ 1, ρ 2, ρ 3, ρ 4, ρ 5, ρ 6, ρ 7, ρ 8, ρ 9, ρ 10, ρ 11, ρ 12, ρ 13, ρ 14, ρ 15] (γ 0) 0 [ρ 0, ρ 1, ρ 2, ρ 3, ρ 4, ρ 5, ρ 6, ρ 7, ρ 8, ρ 9, ρ 10, ρ 11, ρ 12, ρ 13, ρ 14, ρ 15, ρ 16, ρ 17, ρ 18, ρ 19, ρ 20, ρ 21, ρ 22, ρ 23, ρ 24, ρ 25, ρ 26, ρ 27, ρ 28] (γ 1) := hJ
  have r16 : (1 : Int) ≤ ρ 16 ∧ ρ 16 ≤ 1 := zRnA hr 16
  have r28 : (0 : Int) ≤ ρ 28 ∧ ρ 28 ≤ 3 := zRnA hr 28
  have r30 : (35 : Int) ≤ ρ 30 ∧ ρ 30 ≤ 35 := zRnA hr 30
  have f2 : (0 : Int) ≤ -ρ 29 + ρ 1 + (-1) := zAllA hf 2
  obtain ⟨w_0, w_1, w_2, w_3⟩ : (¬ (ρ 16 = 0)) ∧ (ρ 28 ≠ 4) ∧ (0 ≤ -ρ 29 + ρ 1 + (-1)) ∧ (¬ (ρ 30 ≠ 35)) := ⟨by omega, by omega, by omega, by omega⟩
  have m1 : γ 0 15 0 34 = ρ 1 := zAllA hm 1
  have m28 : γ 1 15 0 48 = ρ 28 := zAllA hm 28
  have m29 : γ 2 15 0 35 = ρ 29 := zAllA hm 29
  have c3 : γ 3 = rUp (γ 2) 86 0 (ρ 28) (ρ 29) := And.right (zChA hc 2)
  have l0 : sn7 [ρ 17, ρ 1] (γ 1) 0 0 (γ 2) := hS7 _ _ _ _ _ (zAllA hl 0)
  have l1 : sn6 [ρ 29, ρ 1] (γ 3) 0 (ρ 30) (γ 4) := hS6 _ _ _ _ _ (zAllA hl 1)
  have l2 : sn26 [ρ 29, ρ 1, ρ 18, ρ 19, ρ 20, ρ 21, ρ 22, ρ 7, ρ 23, ρ 24, ρ 25, ρ 11, ρ 12] (γ 4) 0 0 (γ 5) := hS26 _ _ _ _ _ (zAllA hl 2)
  show sn27 [ρ 0, ρ 1, ρ 2, ρ 3, ρ 4, ρ 5, ρ 6, ρ 7, ρ 8, ρ 9, ρ 10, ρ 11, ρ 12, ρ 13, ρ 14, ρ 15] (γ 0) 0 0 (γ 5)
  have hD : en27 (γ 0) (0, [ρ 16], γ 1) = .inr (0, 0, γ 5) := by
    unfold en27
    refine zIP (show (0 : Nat) = 0 by decide) (zLV (γ 1) rfl (zLV (ρ 16) rfl (zLE m1 (zLE m28 (zIN w_0 (zLE (show fn7 [] (γ 1) = (0, 0, γ 2) from l0.symm) (zLV (γ 2) rfl ?_)))))))
    refine zLE m29 (zIP w_1 (zLE c3.symm (zLE (show fn6 [ρ 29] (γ 3) = (0, ρ 30, γ 4) from l1.symm) (zLV (γ 4) rfl (zIP w_2 (zLV (ρ 30) rfl (zIN w_3 ?_)))))))
    refine zLE (show fn26 [] (γ 4) = (0, 0, γ 5) from l2.symm) (zLV (γ 5) rfl (zIN zQ0_ ?_))
    rfl
  exact zGoo_aend hJ hD
theorem vn27a0_7 {S : Nat → zSpc} (hS6 : zIm S 6 sn6) (hS7 : zIm S 7 sn7) (hS8 : zIm S 8 sn8) (hS20 : zIm S 20 sn20) (hS23 : zIm S 23 sn23) (hS24 : zIm S 24 sn24) (hS26 : zIm S 26 sn26) {a : List Int} {g : rHp} : ∀ (ρ : Nat → Int) (γ : Nat → rHp), jn27 a g 0 (zAg (zNA a27_ 0) ρ) (γ 1) → zO 16 S a g q27a0_7 ρ γ → zGl (fun i vs g1 => jn27 a g i vs g1) (sn27 a g) q27a0_7 ρ γ := by
  intro ρ γ hJ h
  obtain ⟨ha, hg, hr, hf, hm, hc, hl⟩ := h
  have ha : a = [ρ 0, ρ 1, ρ 2, ρ 3, ρ 4, ρ 5, ρ 6, ρ 7, ρ 8, ρ 9, ρ 10, ρ 11, ρ 12, ρ 13, ρ 14, ρ 15] := ha
  subst ha
  subst hg
  have hJ : jn27 [ρ 0, ρ 1, ρ 2, ρ 3, ρ 4, ρ 5, ρ 6, ρ 7, ρ 8, ρ 9, ρ 10, ρ 11, ρ 12, ρ 13, ρ 14, ρ 15] (γ 0) 0 [ρ 0, ρ 1, ρ 2, ρ 3, ρ 4, ρ 5, ρ 6, ρ 7, ρ 8, ρ 9, ρ 10, ρ 11, ρ 12, ρ 13, ρ 14, ρ 15, ρ 16, ρ 17, ρ 18, ρ 19, ρ 20, ρ 21, ρ 22, ρ 23, ρ 24, ρ 25, ρ 26, ρ 27, ρ 28] (γ 1) := hJ
  have r16 : (1 : Int) ≤ ρ 16 ∧ ρ 16 ≤ 1 := zRnA hr 16
  have r28 : (0 : Int) ≤ ρ 28 ∧ ρ 28 ≤ 3 := zRnA hr 28
  have r30 : (35 : Int) ≤ ρ 30 ∧ ρ 30 ≤ 35 := zRnA hr 30
  have r39 : ((-128) : Int) ≤ ρ 39 ∧ ρ 39 ≤ 127 := zRnA hr 39
  have f0 : (0 : Int) ≤ -ρ 38 + ρ 1 + (-1) := zAllA hf 0
  have f6 : (0 : Int) ≤ -ρ 29 + ρ 1 + (-1) := zAllA hf 6
  obtain ⟨w_0, w_1, w_2, w_3, w_4⟩ : (¬ (ρ 16 = 0)) ∧ (ρ 28 ≠ 4) ∧ (0 ≤ -ρ 29 + ρ 1 + (-1)) ∧ (¬ (ρ 30 ≠ 35)) ∧ (0 ≤ -ρ 38 + ρ 1 + (-1)) := ⟨by omega, by omega, by omega, by omega, by omega⟩
  have m1 : γ 0 15 0 34 = ρ 1 := zAllA hm 1
  have m28 : γ 1 15 0 48 = ρ 28 := zAllA hm 28
  have m29 : γ 2 15 0 35 = ρ 29 := zAllA hm 29
  have m38 : γ 5 15 0 39 = ρ 37 := zAllA hm 38
  have m39 : γ 9 15 0 35 = ρ 38 := zAllA hm 39
  have c3 : γ 3 = rUp (γ 2) 86 0 (ρ 28) (ρ 29) := And.right (zChA hc 7)
  have c6 : γ 6 = rUp (γ 5) 85 0 (ρ 28) 3 := And.right (zChA hc 4)
  have c7 : γ 7 = rUp (γ 6) 87 0 (ρ 28) (ρ 37) := And.right (zChA hc 3)
  have c8 : γ 8 = rUp (γ 7) 15 0 48 (ρ 28 + 1) := And.right (zChA hc 2)
  have l0 : sn7 [ρ 17, ρ 1] (γ 1) 0 0 (γ 2) := hS7 _ _ _ _ _ (zAllA hl 0)
  have l1 : sn6 [ρ 29, ρ 1] (γ 3) 0 (ρ 30) (γ 4) := hS6 _ _ _ _ _ (zAllA hl 1)
  have l2 : sn26 [ρ 29, ρ 1, ρ 18, ρ 19, ρ 20, ρ 21, ρ 22, ρ 7, ρ 23, ρ 24, ρ 25, ρ 11, ρ 12] (γ 4) 0 1 (γ 5) := hS26 _ _ _ _ _ (zAllA hl 2)
  have l3 : sn7 [ρ 31, ρ 1] (γ 8) 0 0 (γ 9) := hS7 _ _ _ _ _ (zAllA hl 3)
  have l4 : sn6 [ρ 38, ρ 1] (γ 9) 0 (ρ 39) (γ 10) := hS6 _ _ _ _ _ (zAllA hl 4)
  have l5 : ρ 39 ≠ 44 := zAllA hl 5
  have wl_0 : ρ 39 ≠ 44 := by omega
  show jn27 [ρ 0, ρ 1, ρ 2, ρ 3, ρ 4, ρ 5, ρ 6, ρ 7, ρ 8, ρ 9, ρ 10, ρ 11, ρ 12, ρ 13, ρ 14, ρ 15] (γ 0) 0 [ρ 0, ρ 1, ρ 2, ρ 3, ρ 4, ρ 5, ρ 6, ρ 7, ρ 8, ρ 9, ρ 10, ρ 11, ρ 12, ρ 13, ρ 14, ρ 15, 0, ρ 38, ρ 18, ρ 19, ρ 32, ρ 33, ρ 34, ρ 35, ρ 36, 3, ρ 26, ρ 27, ρ 28 + 1] (γ 10)
  have hD : en27 (γ 0) (0, [ρ 16], γ 1) = .inl (0, [0], γ 10) := by
    unfold en27
    refine zIP (show (0 : Nat) = 0 by decide) (zLV (γ 1) rfl (zLV (ρ 16) rfl (zLE m1 (zLE m28 (zIN w_0 (zLE (show fn7 [] (γ 1) = (0, 0, γ 2) from l0.symm) (zLV (γ 2) rfl ?_)))))))
    refine zLE m29 (zIP w_1 (zLE c3.symm (zLE (show fn6 [ρ 29] (γ 3) = (0, ρ 30, γ 4) from l1.symm) (zLV (γ 4) rfl (zIP w_2 (zLV (ρ 30) rfl (zIN w_3 ?_)))))))
    refine zLE (show fn26 [] (γ 4) = (0, 1, γ 5) from l2.symm) (zLV (γ 5) rfl (zIP zQ1_ (zLE c6.symm (zLE m38 (zLE c7.symm (zLE c8.symm (zLE (show fn7 [] (γ 8) = (0, 0, γ 9) from l3.symm) ?_)))))))
    refine zLV (γ 9) rfl (zLE m39 (zLE (show fn6 [ρ 38] (γ 9) = (0, ρ 39, γ 10) from l4.symm) (zLV (γ 10) rfl (zIP w_4 (zLV (ρ 39) rfl (zIP wl_0 ?_))))))
    rfl
  exact zGoo_ato hJ hD
theorem vn27a0_8 {S : Nat → zSpc} (hS6 : zIm S 6 sn6) (hS7 : zIm S 7 sn7) (hS8 : zIm S 8 sn8) (hS20 : zIm S 20 sn20) (hS23 : zIm S 23 sn23) (hS24 : zIm S 24 sn24) (hS26 : zIm S 26 sn26) {a : List Int} {g : rHp} : ∀ (ρ : Nat → Int) (γ : Nat → rHp), jn27 a g 0 (zAg (zNA a27_ 0) ρ) (γ 1) → zO 16 S a g q27a0_8 ρ γ → zGl (fun i vs g1 => jn27 a g i vs g1) (sn27 a g) q27a0_8 ρ γ := by
  intro ρ γ hJ h
  obtain ⟨ha, hg, hr, hf, hm, hc, hl⟩ := h
  have ha : a = [ρ 0, ρ 1, ρ 2, ρ 3, ρ 4, ρ 5, ρ 6, ρ 7, ρ 8, ρ 9, ρ 10, ρ 11, ρ 12, ρ 13, ρ 14, ρ 15] := ha
  subst ha
  subst hg
  have hJ : jn27 [ρ 0, ρ 1, ρ 2, ρ 3, ρ 4, ρ 5, ρ 6, ρ 7, ρ 8, ρ 9, ρ 10, ρ 11, ρ 12, ρ 13, ρ 14, ρ 15] (γ 0) 0 [ρ 0, ρ 1, ρ 2, ρ 3, ρ 4, ρ 5, ρ 6, ρ 7, ρ 8, ρ 9, ρ 10, ρ 11, ρ 12, ρ 13, ρ 14, ρ 15, ρ 16, ρ 17, ρ 18, ρ 19, ρ 20, ρ 21, ρ 22, ρ 23, ρ 24, ρ 25, ρ 26, ρ 27, ρ 28] (γ 1) := hJ
  have r16 : (1 : Int) ≤ ρ 16 ∧ ρ 16 ≤ 1 := zRnA hr 16
  have r28 : (0 : Int) ≤ ρ 28 ∧ ρ 28 ≤ 3 := zRnA hr 28
  have r30 : (35 : Int) ≤ ρ 30 ∧ ρ 30 ≤ 35 := zRnA hr 30
  have r39 : (44 : Int) ≤ ρ 39 ∧ ρ 39 ≤ 44 := zRnA hr 39
  have f0 : (0 : Int) ≤ -ρ 38 + ρ 1 + (-1) := zAllA hf 0
  have f6 : (0 : Int) ≤ -ρ 29 + ρ 1 + (-1) := zAllA hf 6
  obtain ⟨w_0, w_1, w_2, w_3, w_4, w_5⟩ : (¬ (ρ 16 = 0)) ∧ (ρ 28 ≠ 4) ∧ (0 ≤ -ρ 29 + ρ 1 + (-1)) ∧ (¬ (ρ 30 ≠ 35)) ∧ (0 ≤ -ρ 38 + ρ 1 + (-1)) ∧ (¬ (ρ 39 ≠ 44)) := ⟨by omega, by omega, by omega, by omega, by omega, by omega⟩
  have m1 : γ 0 15 0 34 = ρ 1 := zAllA hm 1
  have m28 : γ 1 15 0 48 = ρ 28 := zAllA hm 28
  have m29 : γ 2 15 0 35 = ρ 29 := zAllA hm 29
  have m38 : γ 5 15 0 39 = ρ 37 := zAllA hm 38
  have m39 : γ 9 15 0 35 = ρ 38 := zAllA hm 39
  have c3 : γ 3 = rUp (γ 2) 86 0 (ρ 28) (ρ 29) := And.right (zChA hc 8)
  have c6 : γ 6 = rUp (γ 5) 85 0 (ρ 28) 3 := And.right (zChA hc 5)
  have c7 : γ 7 = rUp (γ 6) 87 0 (ρ 28) (ρ 37) := And.right (zChA hc 4)
  have c8 : γ 8 = rUp (γ 7) 15 0 48 (ρ 28 + 1) := And.right (zChA hc 3)
  have c11 : γ 11 = rUp (γ 10) 15 0 35 (ρ 38 + 1) := And.right (zChA hc 0)
  have l0 : sn7 [ρ 17, ρ 1] (γ 1) 0 0 (γ 2) := hS7 _ _ _ _ _ (zAllA hl 0)
  have l1 : sn6 [ρ 29, ρ 1] (γ 3) 0 (ρ 30) (γ 4) := hS6 _ _ _ _ _ (zAllA hl 1)
  have l2 : sn26 [ρ 29, ρ 1, ρ 18, ρ 19, ρ 20, ρ 21, ρ 22, ρ 7, ρ 23, ρ 24, ρ 25, ρ 11, ρ 12] (γ 4) 0 1 (γ 5) := hS26 _ _ _ _ _ (zAllA hl 2)
  have l3 : sn7 [ρ 31, ρ 1] (γ 8) 0 0 (γ 9) := hS7 _ _ _ _ _ (zAllA hl 3)
  have l4 : sn6 [ρ 38, ρ 1] (γ 9) 0 (ρ 39) (γ 10) := hS6 _ _ _ _ _ (zAllA hl 4)
  show jn27 [ρ 0, ρ 1, ρ 2, ρ 3, ρ 4, ρ 5, ρ 6, ρ 7, ρ 8, ρ 9, ρ 10, ρ 11, ρ 12, ρ 13, ρ 14, ρ 15] (γ 0) 0 [ρ 0, ρ 1, ρ 2, ρ 3, ρ 4, ρ 5, ρ 6, ρ 7, ρ 8, ρ 9, ρ 10, ρ 11, ρ 12, ρ 13, ρ 14, ρ 15, 1, ρ 38 + 1, ρ 18, ρ 19, ρ 32, ρ 33, ρ 34, ρ 35, ρ 36, 3, ρ 26, ρ 27, ρ 28 + 1] (γ 11)
  have hD : en27 (γ 0) (0, [ρ 16], γ 1) = .inl (0, [1], γ 11) := by
    unfold en27
    refine zIP (show (0 : Nat) = 0 by decide) (zLV (γ 1) rfl (zLV (ρ 16) rfl (zLE m1 (zLE m28 (zIN w_0 (zLE (show fn7 [] (γ 1) = (0, 0, γ 2) from l0.symm) (zLV (γ 2) rfl ?_)))))))
    refine zLE m29 (zIP w_1 (zLE c3.symm (zLE (show fn6 [ρ 29] (γ 3) = (0, ρ 30, γ 4) from l1.symm) (zLV (γ 4) rfl (zIP w_2 (zLV (ρ 30) rfl (zIN w_3 ?_)))))))
    refine zLE (show fn26 [] (γ 4) = (0, 1, γ 5) from l2.symm) (zLV (γ 5) rfl (zIP zQ1_ (zLE c6.symm (zLE m38 (zLE c7.symm (zLE c8.symm (zLE (show fn7 [] (γ 8) = (0, 0, γ 9) from l3.symm) ?_)))))))
    refine zLV (γ 9) rfl (zLE m39 (zLE (show fn6 [ρ 38] (γ 9) = (0, ρ 39, γ 10) from l4.symm) (zLV (γ 10) rfl (zIP w_4 (zLV (ρ 39) rfl (zIN w_5 (zLE c11.symm ?_)))))))
    rfl
  exact zGoo_ato hJ hD
theorem vn27a0_9 {S : Nat → zSpc} (hS6 : zIm S 6 sn6) (hS7 : zIm S 7 sn7) (hS8 : zIm S 8 sn8) (hS20 : zIm S 20 sn20) (hS23 : zIm S 23 sn23) (hS24 : zIm S 24 sn24) (hS26 : zIm S 26 sn26) {a : List Int} {g : rHp} : ∀ (ρ : Nat → Int) (γ : Nat → rHp), jn27 a g 0 (zAg (zNA a27_ 0) ρ) (γ 1) → zO 16 S a g q27a0_9 ρ γ → zGl (fun i vs g1 => jn27 a g i vs g1) (sn27 a g) q27a0_9 ρ γ := by
  intro ρ γ hJ h
  obtain ⟨ha, hg, hr, hf, hm, hc, hl⟩ := h
  have ha : a = [ρ 0, ρ 1, ρ 2, ρ 3, ρ 4, ρ 5, ρ 6, ρ 7, ρ 8, ρ 9, ρ 10, ρ 11, ρ 12, ρ 13, ρ 14, ρ 15] := ha
  subst ha
  subst hg
  have hJ : jn27 [ρ 0, ρ 1, ρ 2, ρ 3, ρ 4, ρ 5, ρ 6, ρ 7, ρ 8, ρ 9, ρ 10, ρ 11, ρ 12, ρ 13, ρ 14, ρ 15] (γ 0) 0 [ρ 0, ρ 1, ρ 2, ρ 3, ρ 4, ρ 5, ρ 6, ρ 7, ρ 8, ρ 9, ρ 10, ρ 11, ρ 12, ρ 13, ρ 14, ρ 15, ρ 16, ρ 17, ρ 18, ρ 19, ρ 20, ρ 21, ρ 22, ρ 23, ρ 24, ρ 25, ρ 26, ρ 27, ρ 28] (γ 1) := hJ
  have r16 : (1 : Int) ≤ ρ 16 ∧ ρ 16 ≤ 1 := zRnA hr 16
  have r28 : (0 : Int) ≤ ρ 28 ∧ ρ 28 ≤ 3 := zRnA hr 28
  have r30 : (35 : Int) ≤ ρ 30 ∧ ρ 30 ≤ 35 := zRnA hr 30
  have f0 : (0 : Int) ≤ ρ 38 + -ρ 1 := zAllA hf 0
  have f6 : (0 : Int) ≤ -ρ 29 + ρ 1 + (-1) := zAllA hf 6
  obtain ⟨w_0, w_1, w_2, w_3, w_4⟩ : (¬ (ρ 16 = 0)) ∧ (ρ 28 ≠ 4) ∧ (0 ≤ -ρ 29 + ρ 1 + (-1)) ∧ (¬ (ρ 30 ≠ 35)) ∧ (¬ (0 ≤ -ρ 38 + ρ 1 + (-1))) := ⟨by omega, by omega, by omega, by omega, by omega⟩
  have m1 : γ 0 15 0 34 = ρ 1 := zAllA hm 1
  have m28 : γ 1 15 0 48 = ρ 28 := zAllA hm 28
  have m29 : γ 2 15 0 35 = ρ 29 := zAllA hm 29
  have m38 : γ 5 15 0 39 = ρ 37 := zAllA hm 38
  have m39 : γ 9 15 0 35 = ρ 38 := zAllA hm 39
  have c3 : γ 3 = rUp (γ 2) 86 0 (ρ 28) (ρ 29) := And.right (zChA hc 7)
  have c6 : γ 6 = rUp (γ 5) 85 0 (ρ 28) 3 := And.right (zChA hc 4)
  have c7 : γ 7 = rUp (γ 6) 87 0 (ρ 28) (ρ 37) := And.right (zChA hc 3)
  have c8 : γ 8 = rUp (γ 7) 15 0 48 (ρ 28 + 1) := And.right (zChA hc 2)
  have l0 : sn7 [ρ 17, ρ 1] (γ 1) 0 0 (γ 2) := hS7 _ _ _ _ _ (zAllA hl 0)
  have l1 : sn6 [ρ 29, ρ 1] (γ 3) 0 (ρ 30) (γ 4) := hS6 _ _ _ _ _ (zAllA hl 1)
  have l2 : sn26 [ρ 29, ρ 1, ρ 18, ρ 19, ρ 20, ρ 21, ρ 22, ρ 7, ρ 23, ρ 24, ρ 25, ρ 11, ρ 12] (γ 4) 0 1 (γ 5) := hS26 _ _ _ _ _ (zAllA hl 2)
  have l3 : sn7 [ρ 31, ρ 1] (γ 8) 0 0 (γ 9) := hS7 _ _ _ _ _ (zAllA hl 3)
  have l4 : sn6 [ρ 38, ρ 1] (γ 9) 0 (-1) (γ 10) := hS6 _ _ _ _ _ (zAllA hl 4)
  show jn27 [ρ 0, ρ 1, ρ 2, ρ 3, ρ 4, ρ 5, ρ 6, ρ 7, ρ 8, ρ 9, ρ 10, ρ 11, ρ 12, ρ 13, ρ 14, ρ 15] (γ 0) 0 [ρ 0, ρ 1, ρ 2, ρ 3, ρ 4, ρ 5, ρ 6, ρ 7, ρ 8, ρ 9, ρ 10, ρ 11, ρ 12, ρ 13, ρ 14, ρ 15, 0, ρ 38, ρ 18, ρ 19, ρ 32, ρ 33, ρ 34, ρ 35, ρ 36, 3, ρ 26, ρ 27, ρ 28 + 1] (γ 10)
  have hD : en27 (γ 0) (0, [ρ 16], γ 1) = .inl (0, [0], γ 10) := by
    unfold en27
    refine zIP (show (0 : Nat) = 0 by decide) (zLV (γ 1) rfl (zLV (ρ 16) rfl (zLE m1 (zLE m28 (zIN w_0 (zLE (show fn7 [] (γ 1) = (0, 0, γ 2) from l0.symm) (zLV (γ 2) rfl ?_)))))))
    refine zLE m29 (zIP w_1 (zLE c3.symm (zLE (show fn6 [ρ 29] (γ 3) = (0, ρ 30, γ 4) from l1.symm) (zLV (γ 4) rfl (zIP w_2 (zLV (ρ 30) rfl (zIN w_3 ?_)))))))
    refine zLE (show fn26 [] (γ 4) = (0, 1, γ 5) from l2.symm) (zLV (γ 5) rfl (zIP zQ1_ (zLE c6.symm (zLE m38 (zLE c7.symm (zLE c8.symm (zLE (show fn7 [] (γ 8) = (0, 0, γ 9) from l3.symm) ?_)))))))
    refine zLV (γ 9) rfl (zLE m39 (zLE (show fn6 [ρ 38] (γ 9) = (0, (-1), γ 10) from l4.symm) (zLV (γ 10) rfl (zIN w_4 ?_))))
    rfl
  exact zGoo_ato hJ hD
theorem vn27a0_10 {S : Nat → zSpc} (hS6 : zIm S 6 sn6) (hS7 : zIm S 7 sn7) (hS8 : zIm S 8 sn8) (hS20 : zIm S 20 sn20) (hS23 : zIm S 23 sn23) (hS24 : zIm S 24 sn24) (hS26 : zIm S 26 sn26) {a : List Int} {g : rHp} : ∀ (ρ : Nat → Int) (γ : Nat → rHp), jn27 a g 0 (zAg (zNA a27_ 0) ρ) (γ 1) → zO 16 S a g q27a0_10 ρ γ → zGl (fun i vs g1 => jn27 a g i vs g1) (sn27 a g) q27a0_10 ρ γ := by
  intro ρ γ hJ h
  obtain ⟨ha, hg, hr, hf, hm, hc, hl⟩ := h
  have ha : a = [ρ 0, ρ 1, ρ 2, ρ 3, ρ 4, ρ 5, ρ 6, ρ 7, ρ 8, ρ 9, ρ 10, ρ 11, ρ 12, ρ 13, ρ 14, ρ 15] := ha
  subst ha
  subst hg
  have hJ : jn27 [ρ 0, ρ 1, ρ 2, ρ 3, ρ 4, ρ 5, ρ 6, ρ 7, ρ 8, ρ 9, ρ 10, ρ 11, ρ 12, ρ 13, ρ 14, ρ 15] (γ 0) 0 [ρ 0, ρ 1, ρ 2, ρ 3, ρ 4, ρ 5, ρ 6, ρ 7, ρ 8, ρ 9, ρ 10, ρ 11, ρ 12, ρ 13, ρ 14, ρ 15, ρ 16, ρ 17, ρ 18, ρ 19, ρ 20, ρ 21, ρ 22, ρ 23, ρ 24, ρ 25, ρ 26, ρ 27, ρ 28] (γ 1) := hJ
  have r16 : (1 : Int) ≤ ρ 16 ∧ ρ 16 ≤ 1 := zRnA hr 16
  have r28 : (0 : Int) ≤ ρ 28 ∧ ρ 28 ≤ 3 := zRnA hr 28
  have f6 : (0 : Int) ≤ ρ 29 + -ρ 1 := zAllA hf 6
  obtain ⟨w_0, w_1, w_2⟩ : (¬ (ρ 16 = 0)) ∧ (ρ 28 ≠ 4) ∧ (¬ (0 ≤ -ρ 29 + ρ 1 + (-1))) := ⟨by omega, by omega, by omega⟩
  have m1 : γ 0 15 0 34 = ρ 1 := zAllA hm 1
  have m28 : γ 1 15 0 48 = ρ 28 := zAllA hm 28
  have m29 : γ 2 15 0 35 = ρ 29 := zAllA hm 29
  have c3 : γ 3 = rUp (γ 2) 86 0 (ρ 28) (ρ 29) := And.right (zChA hc 2)
  have l0 : sn7 [ρ 17, ρ 1] (γ 1) 0 0 (γ 2) := hS7 _ _ _ _ _ (zAllA hl 0)
  have l1 : sn6 [ρ 29, ρ 1] (γ 3) 0 (-1) (γ 4) := hS6 _ _ _ _ _ (zAllA hl 1)
  have l2 : sn20 [0, ρ 29, ρ 1, ρ 18, ρ 19, ρ 30, ρ 25, ρ 7, ρ 23, ρ 24, ρ 11] (γ 4) 0 0 (γ 5) := hS20 _ _ _ _ _ (zAllA hl 2)
  show sn27 [ρ 0, ρ 1, ρ 2, ρ 3, ρ 4, ρ 5, ρ 6, ρ 7, ρ 8, ρ 9, ρ 10, ρ 11, ρ 12, ρ 13, ρ 14, ρ 15] (γ 0) 0 0 (γ 5)
  have hD : en27 (γ 0) (0, [ρ 16], γ 1) = .inr (0, 0, γ 5) := by
    unfold en27
    refine zIP (show (0 : Nat) = 0 by decide) (zLV (γ 1) rfl (zLV (ρ 16) rfl (zLE m1 (zLE m28 (zIN w_0 (zLE (show fn7 [] (γ 1) = (0, 0, γ 2) from l0.symm) (zLV (γ 2) rfl ?_)))))))
    refine zLE m29 (zIP w_1 (zLE c3.symm (zLE (show fn6 [ρ 29] (γ 3) = (0, (-1), γ 4) from l1.symm) (zLV (γ 4) rfl (zIN w_2 (zLE (show fn20 [0] (γ 4) = (0, 0, γ 5) from l2.symm) (zLV (γ 5) rfl ?_)))))))
    rfl
  exact zGoo_aend hJ hD
theorem vn27a0_11 {S : Nat → zSpc} (hS6 : zIm S 6 sn6) (hS7 : zIm S 7 sn7) (hS8 : zIm S 8 sn8) (hS20 : zIm S 20 sn20) (hS23 : zIm S 23 sn23) (hS24 : zIm S 24 sn24) (hS26 : zIm S 26 sn26) {a : List Int} {g : rHp} : ∀ (ρ : Nat → Int) (γ : Nat → rHp), jn27 a g 0 (zAg (zNA a27_ 0) ρ) (γ 1) → zO 16 S a g q27a0_11 ρ γ → zGl (fun i vs g1 => jn27 a g i vs g1) (sn27 a g) q27a0_11 ρ γ := by
  intro ρ γ hJ h
  obtain ⟨ha, hg, hr, hf, hm, hc, hl⟩ := h
  have ha : a = [ρ 0, ρ 1, ρ 2, ρ 3, ρ 4, ρ 5, ρ 6, ρ 7, ρ 8, ρ 9, ρ 10, ρ 11, ρ 12, ρ 13, ρ 14, ρ 15] := ha
  subst ha
  subst hg
  have hJ : jn27 [ρ 0, ρ 1, ρ 2, ρ 3, ρ 4, ρ 5, ρ 6, ρ 7, ρ 8, ρ 9, ρ 10, ρ 11, ρ 12, ρ 13, ρ 14, ρ 15] (γ 0) 0 [ρ 0, ρ 1, ρ 2, ρ 3, ρ 4, ρ 5, ρ 6, ρ 7, ρ 8, ρ 9, ρ 10, ρ 11, ρ 12, ρ 13, ρ 14, ρ 15, ρ 16, ρ 17, ρ 18, ρ 19, ρ 20, ρ 21, ρ 22, ρ 23, ρ 24, ρ 25, ρ 26, ρ 27, ρ 28] (γ 1) := hJ
  have r16 : (1 : Int) ≤ ρ 16 ∧ ρ 16 ≤ 1 := zRnA hr 16
  have r28 : (4 : Int) ≤ ρ 28 ∧ ρ 28 ≤ 4 := zRnA hr 28
  obtain ⟨w_0, w_1⟩ : (¬ (ρ 16 = 0)) ∧ (¬ (ρ 28 ≠ 4)) := ⟨by omega, by omega⟩
  have m1 : γ 0 15 0 34 = ρ 1 := zAllA hm 1
  have m28 : γ 1 15 0 48 = ρ 28 := zAllA hm 28
  have m29 : γ 2 15 0 35 = ρ 29 := zAllA hm 29
  have l0 : sn7 [ρ 17, ρ 1] (γ 1) 0 0 (γ 2) := hS7 _ _ _ _ _ (zAllA hl 0)
  have l1 : sn8 [ρ 29, ρ 1, ρ 7] (γ 2) 0 0 (γ 3) := hS8 _ _ _ _ _ (zAllA hl 1)
  show sn27 [ρ 0, ρ 1, ρ 2, ρ 3, ρ 4, ρ 5, ρ 6, ρ 7, ρ 8, ρ 9, ρ 10, ρ 11, ρ 12, ρ 13, ρ 14, ρ 15] (γ 0) 0 0 (γ 3)
  have hD : en27 (γ 0) (0, [ρ 16], γ 1) = .inr (0, 0, γ 3) := by
    unfold en27
    refine zIP (show (0 : Nat) = 0 by decide) (zLV (γ 1) rfl (zLV (ρ 16) rfl (zLE m1 (zLE m28 (zIN w_0 (zLE (show fn7 [] (γ 1) = (0, 0, γ 2) from l0.symm) (zLV (γ 2) rfl ?_)))))))
    refine zLE m29 (zIN w_1 (zLE (show fn8 [ρ 29] (γ 2) = (0, 0, γ 3) from l1.symm) (zLV (γ 3) rfl ?_)))
    rfl
  exact zGoo_aend hJ hD
theorem yn27 {S : Nat → zSpc} (hS6 : zIm S 6 sn6) (hS7 : zIm S 7 sn7) (hS8 : zIm S 8 sn8) (hS20 : zIm S 20 sn20) (hS23 : zIm S 23 sn23) (hS24 : zIm S 24 sn24) (hS26 : zIm S 26 sn26) : ∀ x g o v gz, zSem uW uT w27_.2.2.2.1 w27_.2.2.1.1.length S q27 (fun i => q27a.getD i []) (zNA a27_) x g o v gz → sn27 x g o v gz := by
  intro a g o v gz h
  exact zSem_all (l0 := q27) (las := q27a) (S := S) (J := (fun i vs g1 => jn27 a g i vs g1)) (P := sn27 a g) (fun _ => (show zAll _ [q27_0, q27_1, q27_2] from (zAll_c (vn27_0 hS6 hS7 hS8 hS20 hS23 hS24 hS26) (zAll_c (vn27_1 hS6 hS7 hS8 hS20 hS23 hS24 hS26) (zAll_c (vn27_2 hS6 hS7 hS8 hS20 hS23 hS24 hS26) zAll_n))))) (fun _ => (show zAllI _ 0 [q27a0] from ⟨(show zAll _ [q27a0_0, q27a0_1, q27a0_2, q27a0_3, q27a0_4, q27a0_5, q27a0_6, q27a0_7, q27a0_8, q27a0_9, q27a0_10, q27a0_11] from (zAll_c (vn27a0_0 hS6 hS7 hS8 hS20 hS23 hS24 hS26) (zAll_c (vn27a0_1 hS6 hS7 hS8 hS20 hS23 hS24 hS26) (zAll_c (vn27a0_2 hS6 hS7 hS8 hS20 hS23 hS24 hS26) (zAll_c (vn27a0_3 hS6 hS7 hS8 hS20 hS23 hS24 hS26) (zAll_c (vn27a0_4 hS6 hS7 hS8 hS20 hS23 hS24 hS26) (zAll_c (vn27a0_5 hS6 hS7 hS8 hS20 hS23 hS24 hS26) (zAll_c (vn27a0_6 hS6 hS7 hS8 hS20 hS23 hS24 hS26) (zAll_c (vn27a0_7 hS6 hS7 hS8 hS20 hS23 hS24 hS26) (zAll_c (vn27a0_8 hS6 hS7 hS8 hS20 hS23 hS24 hS26) (zAll_c (vn27a0_9 hS6 hS7 hS8 hS20 hS23 hS24 hS26) (zAll_c (vn27a0_10 hS6 hS7 hS8 hS20 hS23 hS24 hS26) (zAll_c (vn27a0_11 hS6 hS7 hS8 hS20 hS23 hS24 hS26) zAll_n))))))))))))), trivial⟩)) h
theorem vn28_0 {S : Nat → zSpc} (hS8 : zIm S 8 sn8) (hS18 : zIm S 18 sn18) {a : List Int} {g : rHp} : ∀ (ρ : Nat → Int) (γ : Nat → rHp), zO 4 S a g q28_0 ρ γ → zGl (fun i vs g1 => jn28 a g i vs g1) (sn28 a g) q28_0 ρ γ := by
  intro ρ γ h
  obtain ⟨ha, hg, hr, hf, hm, hc, hl⟩ := h
  have ha : a = [ρ 0, ρ 1, ρ 2, ρ 3] := ha
  subst ha
  subst hg
  show jn28 [ρ 0, ρ 1, ρ 2, ρ 3] (γ 0) 0 [ρ 0, ρ 1, ρ 2, ρ 3, 0] (γ 0)
  have hD : dn28 [] (γ 0) = .inl (0, [0], γ 0) := by
    unfold dn28
    rfl
  exact zGoo_to hD
theorem vn28a0_0 {S : Nat → zSpc} (hS8 : zIm S 8 sn8) (hS18 : zIm S 18 sn18) {a : List Int} {g : rHp} : ∀ (ρ : Nat → Int) (γ : Nat → rHp), jn28 a g 0 (zAg (zNA a28_ 0) ρ) (γ 1) → zO 4 S a g q28a0_0 ρ γ → zGl (fun i vs g1 => jn28 a g i vs g1) (sn28 a g) q28a0_0 ρ γ := by
  intro ρ γ hJ h
  obtain ⟨ha, hg, hr, hf, hm, hc, hl⟩ := h
  have ha : a = [ρ 0, ρ 1, ρ 2, ρ 3] := ha
  subst ha
  subst hg
  have hJ : jn28 [ρ 0, ρ 1, ρ 2, ρ 3] (γ 0) 0 [ρ 0, ρ 1, ρ 2, ρ 3, ρ 4] (γ 1) := hJ
  have f0 : (0 : Int) ≤ ρ 4 + -ρ 3 := zAllA hf 0
  have w_0 : ρ 4 ≥ ρ 3 := by omega
  have m3 : γ 0 15 0 58 = ρ 3 := zAllA hm 3
  show sn28 [ρ 0, ρ 1, ρ 2, ρ 3] (γ 0) 0 1 (γ 1)
  have hD : en28 (γ 0) (0, [ρ 4], γ 1) = .inr (0, 1, γ 1) := by
    unfold en28
    refine zIP (show (0 : Nat) = 0 by decide) (zLV (γ 1) rfl (zLV (ρ 4) rfl (zLE m3 (zIP w_0 ?_))))
    rfl
  exact zGoo_aend hJ hD
theorem vn28a0_1 {S : Nat → zSpc} (hS8 : zIm S 8 sn8) (hS18 : zIm S 18 sn18) {a : List Int} {g : rHp} : ∀ (ρ : Nat → Int) (γ : Nat → rHp), jn28 a g 0 (zAg (zNA a28_ 0) ρ) (γ 1) → zO 4 S a g q28a0_1 ρ γ → zGl (fun i vs g1 => jn28 a g i vs g1) (sn28 a g) q28a0_1 ρ γ := by
  intro ρ γ hJ h
  obtain ⟨ha, hg, hr, hf, hm, hc, hl⟩ := h
  have ha : a = [ρ 0, ρ 1, ρ 2, ρ 3] := ha
  subst ha
  subst hg
  have hJ : jn28 [ρ 0, ρ 1, ρ 2, ρ 3] (γ 0) 0 [ρ 0, ρ 1, ρ 2, ρ 3, ρ 4] (γ 1) := hJ
  have r5 : (0 : Int) ≤ ρ 5 ∧ ρ 5 ≤ 0 := zRnA hr 5
  have f2 : (0 : Int) ≤ -ρ 4 + ρ 3 + (-1) := zAllA hf 2
  obtain ⟨w_0, w_1⟩ : (¬ (ρ 4 ≥ ρ 3)) ∧ (ρ 5 = 0) := ⟨by omega, by omega⟩
  have m3 : γ 0 15 0 58 = ρ 3 := zAllA hm 3
  have m4 : γ 0 91 0 (ρ 4) = ρ 5 := zAllA hm 4
  have m5 : γ 0 89 0 (ρ 4) = ρ 6 := zAllA hm 5
  have m6 : γ 0 88 0 (ρ 4) = ρ 7 := zAllA hm 6
  have l0 : sn18 [ρ 6, ρ 2] (γ 1) 0 0 (γ 2) := hS18 _ _ _ _ _ (zAllA hl 0)
  have l1 : sn8 [ρ 7, ρ 0, ρ 1] (γ 2) 0 0 (γ 3) := hS8 _ _ _ _ _ (zAllA hl 1)
  show sn28 [ρ 0, ρ 1, ρ 2, ρ 3] (γ 0) 0 0 (γ 3)
  have hD : en28 (γ 0) (0, [ρ 4], γ 1) = .inr (0, 0, γ 3) := by
    unfold en28
    refine zIP (show (0 : Nat) = 0 by decide) (zLV (γ 1) rfl (zLV (ρ 4) rfl (zLE m3 (zIN w_0 (zLE m4 (zIP w_1 (zLE m5 ?_)))))))
    refine zLE (show fn18 [ρ 6] (γ 1) = (0, 0, γ 2) from l0.symm) (zLV (γ 2) rfl (zIN zQ0_ (zLE m6 (zLE (show fn8 [ρ 7] (γ 2) = (0, 0, γ 3) from l1.symm) (zLV (γ 3) rfl ?_)))))
    rfl
  exact zGoo_aend hJ hD
theorem vn28a0_2 {S : Nat → zSpc} (hS8 : zIm S 8 sn8) (hS18 : zIm S 18 sn18) {a : List Int} {g : rHp} : ∀ (ρ : Nat → Int) (γ : Nat → rHp), jn28 a g 0 (zAg (zNA a28_ 0) ρ) (γ 1) → zO 4 S a g q28a0_2 ρ γ → zGl (fun i vs g1 => jn28 a g i vs g1) (sn28 a g) q28a0_2 ρ γ := by
  intro ρ γ hJ h
  obtain ⟨ha, hg, hr, hf, hm, hc, hl⟩ := h
  have ha : a = [ρ 0, ρ 1, ρ 2, ρ 3] := ha
  subst ha
  subst hg
  have hJ : jn28 [ρ 0, ρ 1, ρ 2, ρ 3] (γ 0) 0 [ρ 0, ρ 1, ρ 2, ρ 3, ρ 4] (γ 1) := hJ
  have r5 : (0 : Int) ≤ ρ 5 ∧ ρ 5 ≤ 0 := zRnA hr 5
  have f0 : (0 : Int) ≤ -ρ 4 + ρ 3 + (-1) := zAllA hf 0
  obtain ⟨w_0, w_1⟩ : (¬ (ρ 4 ≥ ρ 3)) ∧ (ρ 5 = 0) := ⟨by omega, by omega⟩
  have m3 : γ 0 15 0 58 = ρ 3 := zAllA hm 3
  have m4 : γ 0 91 0 (ρ 4) = ρ 5 := zAllA hm 4
  have m5 : γ 0 89 0 (ρ 4) = ρ 6 := zAllA hm 5
  have l0 : sn18 [ρ 6, ρ 2] (γ 1) 0 1 (γ 2) := hS18 _ _ _ _ _ (zAllA hl 0)
  show jn28 [ρ 0, ρ 1, ρ 2, ρ 3] (γ 0) 0 [ρ 0, ρ 1, ρ 2, ρ 3, ρ 4 + 1] (γ 2)
  have hD : en28 (γ 0) (0, [ρ 4], γ 1) = .inl (0, [ρ 4 + 1], γ 2) := by
    unfold en28
    refine zIP (show (0 : Nat) = 0 by decide) (zLV (γ 1) rfl (zLV (ρ 4) rfl (zLE m3 (zIN w_0 (zLE m4 (zIP w_1 (zLE m5 ?_)))))))
    refine zLE (show fn18 [ρ 6] (γ 1) = (0, 1, γ 2) from l0.symm) (zLV (γ 2) rfl (zIP zQ1_ ?_))
    rfl
  exact zGoo_ato hJ hD
theorem vn28a0_3 {S : Nat → zSpc} (hS8 : zIm S 8 sn8) (hS18 : zIm S 18 sn18) {a : List Int} {g : rHp} : ∀ (ρ : Nat → Int) (γ : Nat → rHp), jn28 a g 0 (zAg (zNA a28_ 0) ρ) (γ 1) → zO 4 S a g q28a0_3 ρ γ → zGl (fun i vs g1 => jn28 a g i vs g1) (sn28 a g) q28a0_3 ρ γ := by
  intro ρ γ hJ h
  obtain ⟨ha, hg, hr, hf, hm, hc, hl⟩ := h
  have ha : a = [ρ 0, ρ 1, ρ 2, ρ 3] := ha
  subst ha
  subst hg
  have hJ : jn28 [ρ 0, ρ 1, ρ 2, ρ 3] (γ 0) 0 [ρ 0, ρ 1, ρ 2, ρ 3, ρ 4] (γ 1) := hJ
  have r5 : (1 : Int) ≤ ρ 5 ∧ ρ 5 ≤ 1 := zRnA hr 5
  have r9 : (1 : Int) ≤ ρ 9 ∧ ρ 9 ≤ 1 := zRnA hr 9
  have f0 : (0 : Int) ≤ -ρ 4 + ρ 3 + (-1) := zAllA hf 0
  obtain ⟨w_0, w_1, w_2⟩ : (¬ (ρ 4 ≥ ρ 3)) ∧ (¬ (ρ 5 = 0)) ∧ (ρ 9 = 1) := ⟨by omega, by omega, by omega⟩
  have m3 : γ 0 15 0 58 = ρ 3 := zAllA hm 3
  have m4 : γ 0 91 0 (ρ 4) = ρ 5 := zAllA hm 4
  have m5 : γ 0 90 0 (ρ 4) = ρ 6 := zAllA hm 5
  have m6 : γ 0 89 0 (ρ 4) = ρ 7 := zAllA hm 6
  have l0 : zOpP (.ishr) (γ 0) (γ 1) [ρ 6, ρ 7] (ρ 8) := zAllA hl 0
  have l1 : zOpP (.iand) (γ 0) (γ 1) [ρ 8, 1] (ρ 9) := zAllA hl 1
  show jn28 [ρ 0, ρ 1, ρ 2, ρ 3] (γ 0) 0 [ρ 0, ρ 1, ρ 2, ρ 3, ρ 4 + 1] (γ 1)
  have hD : en28 (γ 0) (0, [ρ 4], γ 1) = .inl (0, [ρ 4 + 1], γ 1) := by
    unfold en28
    refine zIP (show (0 : Nat) = 0 by decide) (zLV (γ 1) rfl (zLV (ρ 4) rfl (zLE m3 (zIN w_0 (zLE m4 (zIN w_1 (zLE m5 ?_)))))))
    refine zLE m6 (zLE (zF2_ok l0) (zLE (zF2_ok l1) (zIP w_2 ?_)))
    rfl
  exact zGoo_ato hJ hD
theorem vn28a0_4 {S : Nat → zSpc} (hS8 : zIm S 8 sn8) (hS18 : zIm S 18 sn18) {a : List Int} {g : rHp} : ∀ (ρ : Nat → Int) (γ : Nat → rHp), jn28 a g 0 (zAg (zNA a28_ 0) ρ) (γ 1) → zO 4 S a g q28a0_4 ρ γ → zGl (fun i vs g1 => jn28 a g i vs g1) (sn28 a g) q28a0_4 ρ γ := by
  intro ρ γ hJ h
  obtain ⟨ha, hg, hr, hf, hm, hc, hl⟩ := h
  have ha : a = [ρ 0, ρ 1, ρ 2, ρ 3] := ha
  subst ha
  subst hg
  have hJ : jn28 [ρ 0, ρ 1, ρ 2, ρ 3] (γ 0) 0 [ρ 0, ρ 1, ρ 2, ρ 3, ρ 4] (γ 1) := hJ
  have r5 : (1 : Int) ≤ ρ 5 ∧ ρ 5 ≤ 1 := zRnA hr 5
  have r9 : (0 : Int) ≤ ρ 9 ∧ ρ 9 ≤ 0 := zRnA hr 9
  have r10 : ((-2147483648) : Int) ≤ ρ 10 ∧ ρ 10 ≤ 2147483647 := zRnA hr 10
  have f2 : (0 : Int) ≤ -ρ 4 + ρ 3 + (-1) := zAllA hf 2
  obtain ⟨w_0, w_1, w_2⟩ : (¬ (ρ 4 ≥ ρ 3)) ∧ (¬ (ρ 5 = 0)) ∧ (¬ (ρ 9 = 1)) := ⟨by omega, by omega, by omega⟩
  have m3 : γ 0 15 0 58 = ρ 3 := zAllA hm 3
  have m4 : γ 0 91 0 (ρ 4) = ρ 5 := zAllA hm 4
  have m5 : γ 0 90 0 (ρ 4) = ρ 6 := zAllA hm 5
  have m6 : γ 0 89 0 (ρ 4) = ρ 7 := zAllA hm 6
  have m7 : γ 0 84 0 (ρ 7) = ρ 10 := zAllA hm 7
  have m8 : γ 0 88 0 (ρ 4) = ρ 11 := zAllA hm 8
  have l0 : zOpP (.ishr) (γ 0) (γ 1) [ρ 6, ρ 7] (ρ 8) := zAllA hl 0
  have l1 : zOpP (.iand) (γ 0) (γ 1) [ρ 8, 1] (ρ 9) := zAllA hl 1
  have l2 : ρ 10 ≠ 1 := zAllA hl 2
  have l3 : sn8 [ρ 11, ρ 0, ρ 1] (γ 1) 0 0 (γ 2) := hS8 _ _ _ _ _ (zAllA hl 3)
  have wl_0 : ρ 10 ≠ 1 := by omega
  show sn28 [ρ 0, ρ 1, ρ 2, ρ 3] (γ 0) 0 0 (γ 2)
  have hD : en28 (γ 0) (0, [ρ 4], γ 1) = .inr (0, 0, γ 2) := by
    unfold en28
    refine zIP (show (0 : Nat) = 0 by decide) (zLV (γ 1) rfl (zLV (ρ 4) rfl (zLE m3 (zIN w_0 (zLE m4 (zIN w_1 (zLE m5 ?_)))))))
    refine zLE m6 (zLE (zF2_ok l0) (zLE (zF2_ok l1) (zIN w_2 (zLE m7 (zIP wl_0 (zLE m8 (zLE (show fn8 [ρ 11] (γ 1) = (0, 0, γ 2) from l3.symm) ?_)))))))
    refine zLV (γ 2) rfl ?_
    rfl
  exact zGoo_aend hJ hD
theorem vn28a0_5 {S : Nat → zSpc} (hS8 : zIm S 8 sn8) (hS18 : zIm S 18 sn18) {a : List Int} {g : rHp} : ∀ (ρ : Nat → Int) (γ : Nat → rHp), jn28 a g 0 (zAg (zNA a28_ 0) ρ) (γ 1) → zO 4 S a g q28a0_5 ρ γ → zGl (fun i vs g1 => jn28 a g i vs g1) (sn28 a g) q28a0_5 ρ γ := by
  intro ρ γ hJ h
  obtain ⟨ha, hg, hr, hf, hm, hc, hl⟩ := h
  have ha : a = [ρ 0, ρ 1, ρ 2, ρ 3] := ha
  subst ha
  subst hg
  have hJ : jn28 [ρ 0, ρ 1, ρ 2, ρ 3] (γ 0) 0 [ρ 0, ρ 1, ρ 2, ρ 3, ρ 4] (γ 1) := hJ
  have r5 : (1 : Int) ≤ ρ 5 ∧ ρ 5 ≤ 1 := zRnA hr 5
  have r9 : (0 : Int) ≤ ρ 9 ∧ ρ 9 ≤ 0 := zRnA hr 9
  have r10 : (1 : Int) ≤ ρ 10 ∧ ρ 10 ≤ 1 := zRnA hr 10
  have f0 : (0 : Int) ≤ -ρ 4 + ρ 3 + (-1) := zAllA hf 0
  obtain ⟨w_0, w_1, w_2, w_3⟩ : (¬ (ρ 4 ≥ ρ 3)) ∧ (¬ (ρ 5 = 0)) ∧ (¬ (ρ 9 = 1)) ∧ (¬ (ρ 10 ≠ 1)) := ⟨by omega, by omega, by omega, by omega⟩
  have m3 : γ 0 15 0 58 = ρ 3 := zAllA hm 3
  have m4 : γ 0 91 0 (ρ 4) = ρ 5 := zAllA hm 4
  have m5 : γ 0 90 0 (ρ 4) = ρ 6 := zAllA hm 5
  have m6 : γ 0 89 0 (ρ 4) = ρ 7 := zAllA hm 6
  have m7 : γ 0 84 0 (ρ 7) = ρ 10 := zAllA hm 7
  have l0 : zOpP (.ishr) (γ 0) (γ 1) [ρ 6, ρ 7] (ρ 8) := zAllA hl 0
  have l1 : zOpP (.iand) (γ 0) (γ 1) [ρ 8, 1] (ρ 9) := zAllA hl 1
  show jn28 [ρ 0, ρ 1, ρ 2, ρ 3] (γ 0) 0 [ρ 0, ρ 1, ρ 2, ρ 3, ρ 4 + 1] (γ 1)
  have hD : en28 (γ 0) (0, [ρ 4], γ 1) = .inl (0, [ρ 4 + 1], γ 1) := by
    unfold en28
    refine zIP (show (0 : Nat) = 0 by decide) (zLV (γ 1) rfl (zLV (ρ 4) rfl (zLE m3 (zIN w_0 (zLE m4 (zIN w_1 (zLE m5 ?_)))))))
    refine zLE m6 (zLE (zF2_ok l0) (zLE (zF2_ok l1) (zIN w_2 (zLE m7 (zIN w_3 ?_)))))
    rfl
  exact zGoo_ato hJ hD
theorem yn28 {S : Nat → zSpc} (hS8 : zIm S 8 sn8) (hS18 : zIm S 18 sn18) : ∀ x g o v gz, zSem uW uT w28_.2.2.2.1 w28_.2.2.1.1.length S q28 (fun i => q28a.getD i []) (zNA a28_) x g o v gz → sn28 x g o v gz := by
  intro a g o v gz h
  exact zSem_all (l0 := q28) (las := q28a) (S := S) (J := (fun i vs g1 => jn28 a g i vs g1)) (P := sn28 a g) (fun _ => (show zAll _ [q28_0] from (zAll_c (vn28_0 hS8 hS18) zAll_n))) (fun _ => (show zAllI _ 0 [q28a0] from ⟨(show zAll _ [q28a0_0, q28a0_1, q28a0_2, q28a0_3, q28a0_4, q28a0_5] from (zAll_c (vn28a0_0 hS8 hS18) (zAll_c (vn28a0_1 hS8 hS18) (zAll_c (vn28a0_2 hS8 hS18) (zAll_c (vn28a0_3 hS8 hS18) (zAll_c (vn28a0_4 hS8 hS18) (zAll_c (vn28a0_5 hS8 hS18) zAll_n))))))), trivial⟩)) h
theorem vn29_0 {S : Nat → zSpc}  {a : List Int} {g : rHp} : ∀ (ρ : Nat → Int) (γ : Nat → rHp), zO 1 S a g q29_0 ρ γ → zGl (fun _ _ _ => True) (sn29 a g) q29_0 ρ γ := by
  intro ρ γ h
  obtain ⟨ha, hg, hr, hf, hm, hc, hl⟩ := h
  have ha : a = [ρ 0] := ha
  subst ha
  subst hg
  have m0 : γ 0 88 0 (ρ 0) = ρ 1 := zAllA hm 0
  have m1 : γ 0 89 0 (ρ 0) = ρ 2 := zAllA hm 1
  have m2 : γ 0 90 0 (ρ 0) = ρ 3 := zAllA hm 2
  have m3 : γ 0 91 0 (ρ 0) = ρ 4 := zAllA hm 3
  have m4 : γ 0 88 0 (ρ 0 + (-1)) = ρ 5 := zAllA hm 4
  have m5 : γ 0 89 0 (ρ 0 + (-1)) = ρ 6 := zAllA hm 5
  have m6 : γ 0 90 0 (ρ 0 + (-1)) = ρ 7 := zAllA hm 6
  have m7 : γ 0 91 0 (ρ 0 + (-1)) = ρ 8 := zAllA hm 7
  have c1 : γ 1 = rUp (γ 0) 88 0 (ρ 0) (ρ 5) := And.right (zChA hc 7)
  have c2 : γ 2 = rUp (γ 1) 89 0 (ρ 0) (ρ 6) := And.right (zChA hc 6)
  have c3 : γ 3 = rUp (γ 2) 90 0 (ρ 0) (ρ 7) := And.right (zChA hc 5)
  have c4 : γ 4 = rUp (γ 3) 91 0 (ρ 0) (ρ 8) := And.right (zChA hc 4)
  have c5 : γ 5 = rUp (γ 4) 88 0 (ρ 0 + (-1)) (ρ 1) := And.right (zChA hc 3)
  have c6 : γ 6 = rUp (γ 5) 89 0 (ρ 0 + (-1)) (ρ 2) := And.right (zChA hc 2)
  have c7 : γ 7 = rUp (γ 6) 90 0 (ρ 0 + (-1)) (ρ 3) := And.right (zChA hc 1)
  have c8 : γ 8 = rUp (γ 7) 91 0 (ρ 0 + (-1)) (ρ 4) := And.right (zChA hc 0)
  show sn29 [ρ 0] (γ 0) 0 0 (γ 8)
  refine Eq.symm ?_
  show fn29 [ρ 0] (γ 0) = _
  unfold fn29
  refine zLV (ρ 0) rfl (zLE m0 (zLE m1 (zLE m2 (zLE m3 (zLE m4 (zLE c1.symm (zLE m5 ?_)))))))
  refine zLE c2.symm (zLE m6 (zLE c3.symm (zLE m7 (zLE c4.symm (zLE c5.symm (zLE c6.symm (zLE c7.symm ?_)))))))
  refine zLE c8.symm ?_
  rfl
theorem yn29 {S : Nat → zSpc}  : ∀ x g o v gz, zSem uW uT w29_.2.2.2.1 w29_.2.2.1.1.length S q29 (fun i => q29a.getD i []) (zNA a29_) x g o v gz → sn29 x g o v gz := by
  intro a g o v gz h
  exact zSem_all (l0 := q29) (las := q29a) (S := S) (J := (fun _ _ _ => True)) (P := sn29 a g) (fun _ => (show zAll _ [q29_0] from (zAll_c (vn29_0 ) zAll_n))) (fun _ => (show zAllI _ 0 [] from trivial)) h
theorem vn30_0 {S : Nat → zSpc} (hS29 : zIm S 29 sn29) {a : List Int} {g : rHp} : ∀ (ρ : Nat → Int) (γ : Nat → rHp), zO 1 S a g q30_0 ρ γ → zGl (fun i vs g1 => jn30 a g i vs g1) (sn30 a g) q30_0 ρ γ := by
  intro ρ γ h
  obtain ⟨ha, hg, hr, hf, hm, hc, hl⟩ := h
  have ha : a = [ρ 0] := ha
  subst ha
  subst hg
  show jn30 [ρ 0] (γ 0) 0 [ρ 0, 1] (γ 0)
  have hD : dn30 [] (γ 0) = .inl (0, [1], γ 0) := by
    unfold dn30
    rfl
  exact zGoo_to hD
theorem vn30a0_0 {S : Nat → zSpc} (hS29 : zIm S 29 sn29) {a : List Int} {g : rHp} : ∀ (ρ : Nat → Int) (γ : Nat → rHp), jn30 a g 0 (zAg (zNA a30_ 0) ρ) (γ 1) → zO 1 S a g q30a0_0 ρ γ → zGl (fun i vs g1 => jn30 a g i vs g1) (sn30 a g) q30a0_0 ρ γ := by
  intro ρ γ hJ h
  obtain ⟨ha, hg, hr, hf, hm, hc, hl⟩ := h
  have ha : a = [ρ 0] := ha
  subst ha
  subst hg
  have hJ : jn30 [ρ 0] (γ 0) 0 [ρ 0, ρ 1] (γ 1) := hJ
  have f0 : (0 : Int) ≤ ρ 1 + -ρ 0 := zAllA hf 0
  have w_0 : ρ 1 ≥ ρ 0 := by omega
  have m0 : γ 0 15 0 58 = ρ 0 := zAllA hm 0
  show sn30 [ρ 0] (γ 0) 0 0 (γ 1)
  have hD : en30 (γ 0) (0, [ρ 1], γ 1) = .inr (0, 0, γ 1) := by
    unfold en30
    refine zIP (show (0 : Nat) = 0 by decide) (zLV (γ 1) rfl (zLV (ρ 1) rfl (zLE m0 (zIP w_0 ?_))))
    rfl
  exact zGoo_aend hJ hD
theorem vn30a0_1 {S : Nat → zSpc} (hS29 : zIm S 29 sn29) {a : List Int} {g : rHp} : ∀ (ρ : Nat → Int) (γ : Nat → rHp), jn30 a g 0 (zAg (zNA a30_ 0) ρ) (γ 1) → zO 1 S a g q30a0_1 ρ γ → zGl (fun i vs g1 => jn30 a g i vs g1) (sn30 a g) q30a0_1 ρ γ := by
  intro ρ γ hJ h
  obtain ⟨ha, hg, hr, hf, hm, hc, hl⟩ := h
  have ha : a = [ρ 0] := ha
  subst ha
  subst hg
  have hJ : jn30 [ρ 0] (γ 0) 0 [ρ 0, ρ 1] (γ 1) := hJ
  have f0 : (0 : Int) ≤ -ρ 1 + ρ 0 + (-1) := zAllA hf 0
  have w_0 : ¬ (ρ 1 ≥ ρ 0) := by omega
  have m0 : γ 0 15 0 58 = ρ 0 := zAllA hm 0
  show jn30 [ρ 0] (γ 0) 1 [ρ 0, ρ 1, ρ 1] (γ 1)
  have hD : en30 (γ 0) (0, [ρ 1], γ 1) = .inl (1, [ρ 1, ρ 1], γ 1) := by
    unfold en30
    refine zIP (show (0 : Nat) = 0 by decide) (zLV (γ 1) rfl (zLV (ρ 1) rfl (zLE m0 (zIN w_0 ?_))))
    rfl
  exact zGoo_ato hJ hD
theorem vn30a1_0 {S : Nat → zSpc} (hS29 : zIm S 29 sn29) {a : List Int} {g : rHp} : ∀ (ρ : Nat → Int) (γ : Nat → rHp), jn30 a g 1 (zAg (zNA a30_ 1) ρ) (γ 1) → zO 1 S a g q30a1_0 ρ γ → zGl (fun i vs g1 => jn30 a g i vs g1) (sn30 a g) q30a1_0 ρ γ := by
  intro ρ γ hJ h
  obtain ⟨ha, hg, hr, hf, hm, hc, hl⟩ := h
  have ha : a = [ρ 0] := ha
  subst ha
  subst hg
  have hJ : jn30 [ρ 0] (γ 0) 1 [ρ 0, ρ 1, ρ 2] (γ 1) := hJ
  have r1 : (0 : Int) ≤ ρ 1 ∧ ρ 1 ≤ 0 := zRnA hr 1
  have w_0 : ρ 1 ≤ 0 := by omega
  show jn30 [ρ 0] (γ 0) 0 [ρ 0, ρ 2 + 1] (γ 1)
  have hD : en30 (γ 0) (1, [ρ 1, ρ 2], γ 1) = .inl (0, [ρ 2 + 1], γ 1) := by
    unfold en30
    refine zIN (show ¬ (1 : Nat) = 0 by decide) (zIP (show (1 : Nat) = 1 by decide) (zLV (γ 1) rfl (zLV (ρ 1) rfl (zLV (ρ 2) rfl (zIP w_0 ?_)))))
    rfl
  exact zGoo_ato hJ hD
theorem vn30a1_1 {S : Nat → zSpc} (hS29 : zIm S 29 sn29) {a : List Int} {g : rHp} : ∀ (ρ : Nat → Int) (γ : Nat → rHp), jn30 a g 1 (zAg (zNA a30_ 1) ρ) (γ 1) → zO 1 S a g q30a1_1 ρ γ → zGl (fun i vs g1 => jn30 a g i vs g1) (sn30 a g) q30a1_1 ρ γ := by
  intro ρ γ hJ h
  obtain ⟨ha, hg, hr, hf, hm, hc, hl⟩ := h
  have ha : a = [ρ 0] := ha
  subst ha
  subst hg
  have hJ : jn30 [ρ 0] (γ 0) 1 [ρ 0, ρ 1, ρ 2] (γ 1) := hJ
  have r1 : (1 : Int) ≤ ρ 1 ∧ ρ 1 ≤ 63 := zRnA hr 1
  have f0 : (0 : Int) ≤ ρ 4 + -ρ 3 := zAllA hf 0
  obtain ⟨w_0, w_1⟩ : (¬ (ρ 1 ≤ 0)) ∧ (ρ 3 ≤ ρ 4) := ⟨by omega, by omega⟩
  have m1 : γ 1 88 0 (ρ 1 + (-1)) = ρ 3 := zAllA hm 1
  have m2 : γ 1 88 0 (ρ 1) = ρ 4 := zAllA hm 2
  show jn30 [ρ 0] (γ 0) 0 [ρ 0, ρ 2 + 1] (γ 1)
  have hD : en30 (γ 0) (1, [ρ 1, ρ 2], γ 1) = .inl (0, [ρ 2 + 1], γ 1) := by
    unfold en30
    refine zIN (show ¬ (1 : Nat) = 0 by decide) (zIP (show (1 : Nat) = 1 by decide) (zLV (γ 1) rfl (zLV (ρ 1) rfl (zLV (ρ 2) rfl (zIN w_0 (zLE m1 (zLE m2 ?_)))))))
    refine zIP w_1 ?_
    rfl
  exact zGoo_ato hJ hD
theorem vn30a1_2 {S : Nat → zSpc} (hS29 : zIm S 29 sn29) {a : List Int} {g : rHp} : ∀ (ρ : Nat → Int) (γ : Nat → rHp), jn30 a g 1 (zAg (zNA a30_ 1) ρ) (γ 1) → zO 1 S a g q30a1_2 ρ γ → zGl (fun i vs g1 => jn30 a g i vs g1) (sn30 a g) q30a1_2 ρ γ := by
  intro ρ γ hJ h
  obtain ⟨ha, hg, hr, hf, hm, hc, hl⟩ := h
  have ha : a = [ρ 0] := ha
  subst ha
  subst hg
  have hJ : jn30 [ρ 0] (γ 0) 1 [ρ 0, ρ 1, ρ 2] (γ 1) := hJ
  have r1 : (1 : Int) ≤ ρ 1 ∧ ρ 1 ≤ 63 := zRnA hr 1
  have f0 : (0 : Int) ≤ -ρ 4 + ρ 3 + (-1) := zAllA hf 0
  obtain ⟨w_0, w_1⟩ : (¬ (ρ 1 ≤ 0)) ∧ (¬ (ρ 3 ≤ ρ 4)) := ⟨by omega, by omega⟩
  have m1 : γ 1 88 0 (ρ 1 + (-1)) = ρ 3 := zAllA hm 1
  have m2 : γ 1 88 0 (ρ 1) = ρ 4 := zAllA hm 2
  have l0 : sn29 [ρ 1] (γ 1) 0 0 (γ 2) := hS29 _ _ _ _ _ (zAllA hl 0)
  show jn30 [ρ 0] (γ 0) 1 [ρ 0, ρ 1 + (-1), ρ 2] (γ 2)
  have hD : en30 (γ 0) (1, [ρ 1, ρ 2], γ 1) = .inl (1, [ρ 1 + (-1), ρ 2], γ 2) := by
    unfold en30
    refine zIN (show ¬ (1 : Nat) = 0 by decide) (zIP (show (1 : Nat) = 1 by decide) (zLV (γ 1) rfl (zLV (ρ 1) rfl (zLV (ρ 2) rfl (zIN w_0 (zLE m1 (zLE m2 ?_)))))))
    refine zIN w_1 (zLE (show fn29 [ρ 1] (γ 1) = (0, 0, γ 2) from l0.symm) (zLV (γ 2) rfl ?_))
    rfl
  exact zGoo_ato hJ hD
theorem yn30 {S : Nat → zSpc} (hS29 : zIm S 29 sn29) : ∀ x g o v gz, zSem uW uT w30_.2.2.2.1 w30_.2.2.1.1.length S q30 (fun i => q30a.getD i []) (zNA a30_) x g o v gz → sn30 x g o v gz := by
  intro a g o v gz h
  exact zSem_all (l0 := q30) (las := q30a) (S := S) (J := (fun i vs g1 => jn30 a g i vs g1)) (P := sn30 a g) (fun _ => (show zAll _ [q30_0] from (zAll_c (vn30_0 hS29) zAll_n))) (fun _ => (show zAllI _ 0 [q30a0, q30a1] from ⟨(show zAll _ [q30a0_0, q30a0_1] from (zAll_c (vn30a0_0 hS29) (zAll_c (vn30a0_1 hS29) zAll_n))), ⟨(show zAll _ [q30a1_0, q30a1_1, q30a1_2] from (zAll_c (vn30a1_0 hS29) (zAll_c (vn30a1_1 hS29) (zAll_c (vn30a1_2 hS29) zAll_n)))), trivial⟩⟩)) h
theorem vn31_0 {S : Nat → zSpc} (hS8 : zIm S 8 sn8) {a : List Int} {g : rHp} : ∀ (ρ : Nat → Int) (γ : Nat → rHp), zO 3 S a g q31_0 ρ γ → zGl (fun i vs g1 => jn31 a g i vs g1) (sn31 a g) q31_0 ρ γ := by
  intro ρ γ h
  obtain ⟨ha, hg, hr, hf, hm, hc, hl⟩ := h
  have ha : a = [ρ 0, ρ 1, ρ 2] := ha
  subst ha
  subst hg
  show jn31 [ρ 0, ρ 1, ρ 2] (γ 0) 0 [ρ 0, ρ 1, ρ 2, 0] (γ 0)
  have hD : dn31 [] (γ 0) = .inl (0, [0], γ 0) := by
    unfold dn31
    rfl
  exact zGoo_to hD
theorem vn31a0_0 {S : Nat → zSpc} (hS8 : zIm S 8 sn8) {a : List Int} {g : rHp} : ∀ (ρ : Nat → Int) (γ : Nat → rHp), jn31 a g 0 (zAg (zNA a31_ 0) ρ) (γ 1) → zO 3 S a g q31a0_0 ρ γ → zGl (fun i vs g1 => jn31 a g i vs g1) (sn31 a g) q31a0_0 ρ γ := by
  intro ρ γ hJ h
  obtain ⟨ha, hg, hr, hf, hm, hc, hl⟩ := h
  have ha : a = [ρ 0, ρ 1, ρ 2] := ha
  subst ha
  subst hg
  have hJ : jn31 [ρ 0, ρ 1, ρ 2] (γ 0) 0 [ρ 0, ρ 1, ρ 2, ρ 3] (γ 1) := hJ
  have f0 : (0 : Int) ≤ ρ 3 + -ρ 2 := zAllA hf 0
  have w_0 : ρ 3 ≥ ρ 2 := by omega
  have m2 : γ 0 15 0 48 = ρ 2 := zAllA hm 2
  show sn31 [ρ 0, ρ 1, ρ 2] (γ 0) 0 1 (γ 1)
  have hD : en31 (γ 0) (0, [ρ 3], γ 1) = .inr (0, 1, γ 1) := by
    unfold en31
    refine zIP (show (0 : Nat) = 0 by decide) (zLV (γ 1) rfl (zLV (ρ 3) rfl (zLE m2 (zIP w_0 ?_))))
    rfl
  exact zGoo_aend hJ hD
theorem vn31a0_1 {S : Nat → zSpc} (hS8 : zIm S 8 sn8) {a : List Int} {g : rHp} : ∀ (ρ : Nat → Int) (γ : Nat → rHp), jn31 a g 0 (zAg (zNA a31_ 0) ρ) (γ 1) → zO 3 S a g q31a0_1 ρ γ → zGl (fun i vs g1 => jn31 a g i vs g1) (sn31 a g) q31a0_1 ρ γ := by
  intro ρ γ hJ h
  obtain ⟨ha, hg, hr, hf, hm, hc, hl⟩ := h
  have ha : a = [ρ 0, ρ 1, ρ 2] := ha
  subst ha
  subst hg
  have hJ : jn31 [ρ 0, ρ 1, ρ 2] (γ 0) 0 [ρ 0, ρ 1, ρ 2, ρ 3] (γ 1) := hJ
  have r4 : (0 : Int) ≤ ρ 4 ∧ ρ 4 ≤ 0 := zRnA hr 4
  have f0 : (0 : Int) ≤ -ρ 3 + ρ 2 + (-1) := zAllA hf 0
  obtain ⟨w_0, w_1⟩ : (¬ (ρ 3 ≥ ρ 2)) ∧ (ρ 4 = 0) := ⟨by omega, by omega⟩
  have m2 : γ 0 15 0 48 = ρ 2 := zAllA hm 2
  have m3 : γ 0 85 0 (ρ 3) = ρ 4 := zAllA hm 3
  show jn31 [ρ 0, ρ 1, ρ 2] (γ 0) 0 [ρ 0, ρ 1, ρ 2, ρ 3 + 1] (γ 1)
  have hD : en31 (γ 0) (0, [ρ 3], γ 1) = .inl (0, [ρ 3 + 1], γ 1) := by
    unfold en31
    refine zIP (show (0 : Nat) = 0 by decide) (zLV (γ 1) rfl (zLV (ρ 3) rfl (zLE m2 (zIN w_0 (zLE m3 (zIP w_1 ?_))))))
    rfl
  exact zGoo_ato hJ hD
theorem vn31a0_2 {S : Nat → zSpc} (hS8 : zIm S 8 sn8) {a : List Int} {g : rHp} : ∀ (ρ : Nat → Int) (γ : Nat → rHp), jn31 a g 0 (zAg (zNA a31_ 0) ρ) (γ 1) → zO 3 S a g q31a0_2 ρ γ → zGl (fun i vs g1 => jn31 a g i vs g1) (sn31 a g) q31a0_2 ρ γ := by
  intro ρ γ hJ h
  obtain ⟨ha, hg, hr, hf, hm, hc, hl⟩ := h
  have ha : a = [ρ 0, ρ 1, ρ 2] := ha
  subst ha
  subst hg
  have hJ : jn31 [ρ 0, ρ 1, ρ 2] (γ 0) 0 [ρ 0, ρ 1, ρ 2, ρ 3] (γ 1) := hJ
  have r4 : (1 : Int) ≤ ρ 4 ∧ ρ 4 ≤ 3 := zRnA hr 4
  have f2 : (0 : Int) ≤ -ρ 3 + ρ 2 + (-1) := zAllA hf 2
  obtain ⟨w_0, w_1⟩ : (¬ (ρ 3 ≥ ρ 2)) ∧ (¬ (ρ 4 = 0)) := ⟨by omega, by omega⟩
  have m2 : γ 0 15 0 48 = ρ 2 := zAllA hm 2
  have m3 : γ 0 85 0 (ρ 3) = ρ 4 := zAllA hm 3
  have m4 : γ 0 86 0 (ρ 3) = ρ 5 := zAllA hm 4
  have l0 : sn8 [ρ 5, ρ 0, ρ 1] (γ 1) 0 0 (γ 2) := hS8 _ _ _ _ _ (zAllA hl 0)
  show sn31 [ρ 0, ρ 1, ρ 2] (γ 0) 0 0 (γ 2)
  have hD : en31 (γ 0) (0, [ρ 3], γ 1) = .inr (0, 0, γ 2) := by
    unfold en31
    refine zIP (show (0 : Nat) = 0 by decide) (zLV (γ 1) rfl (zLV (ρ 3) rfl (zLE m2 (zIN w_0 (zLE m3 (zIN w_1 (zLE m4 ?_)))))))
    refine zLE (show fn8 [ρ 5] (γ 1) = (0, 0, γ 2) from l0.symm) (zLV (γ 2) rfl ?_)
    rfl
  exact zGoo_aend hJ hD
theorem yn31 {S : Nat → zSpc} (hS8 : zIm S 8 sn8) : ∀ x g o v gz, zSem uW uT w31_.2.2.2.1 w31_.2.2.1.1.length S q31 (fun i => q31a.getD i []) (zNA a31_) x g o v gz → sn31 x g o v gz := by
  intro a g o v gz h
  exact zSem_all (l0 := q31) (las := q31a) (S := S) (J := (fun i vs g1 => jn31 a g i vs g1)) (P := sn31 a g) (fun _ => (show zAll _ [q31_0] from (zAll_c (vn31_0 hS8) zAll_n))) (fun _ => (show zAllI _ 0 [q31a0] from ⟨(show zAll _ [q31a0_0, q31a0_1, q31a0_2] from (zAll_c (vn31a0_0 hS8) (zAll_c (vn31a0_1 hS8) (zAll_c (vn31a0_2 hS8) zAll_n)))), trivial⟩)) h
theorem vn32_0 {S : Nat → zSpc}  {a : List Int} {g : rHp} : ∀ (ρ : Nat → Int) (γ : Nat → rHp), zO 4 S a g q32_0 ρ γ → zGl (fun _ _ _ => True) (sn32 a g) q32_0 ρ γ := by
  intro ρ γ h
  obtain ⟨ha, hg, hr, hf, hm, hc, hl⟩ := h
  have ha : a = [ρ 0, ρ 1, ρ 2, ρ 3] := ha
  subst ha
  subst hg
  have c1 : γ 1 = rUp (γ 0) 15 0 44 (ρ 0) := And.right (zChA hc 4)
  have c2 : γ 2 = rUp (γ 1) 73 0 (ρ 0) 0 := And.right (zChA hc 3)
  have c3 : γ 3 = rUp (γ 2) 74 0 (ρ 0) 0 := And.right (zChA hc 2)
  have c4 : γ 4 = rUp (γ 3) 15 0 45 0 := And.right (zChA hc 1)
  have c5 : γ 5 = rUp (γ 4) 15 0 58 0 := And.right (zChA hc 0)
  show sn32 [ρ 0, ρ 1, ρ 2, ρ 3] (γ 0) 0 0 (γ 5)
  refine Eq.symm ?_
  show fn32 [ρ 0] (γ 0) = _
  unfold fn32
  refine zLV (ρ 0) rfl (zLE c1.symm (zLE c2.symm (zLE c3.symm (zLE c4.symm (zLE c5.symm ?_)))))
  rfl
theorem yn32 {S : Nat → zSpc}  : ∀ x g o v gz, zSem uW uT w32_.2.2.2.1 w32_.2.2.1.1.length S q32 (fun i => q32a.getD i []) (zNA a32_) x g o v gz → sn32 x g o v gz := by
  intro a g o v gz h
  exact zSem_all (l0 := q32) (las := q32a) (S := S) (J := (fun _ _ _ => True)) (P := sn32 a g) (fun _ => (show zAll _ [q32_0] from (zAll_c (vn32_0 ) zAll_n))) (fun _ => (show zAllI _ 0 [] from trivial)) h
theorem vn33_0 {S : Nat → zSpc}  {a : List Int} {g : rHp} : ∀ (ρ : Nat → Int) (γ : Nat → rHp), zO 2 S a g q33_0 ρ γ → zGl (fun _ _ _ => True) (sn33 a g) q33_0 ρ γ := by
  intro ρ γ h
  obtain ⟨ha, hg, hr, hf, hm, hc, hl⟩ := h
  have ha : a = [ρ 0, ρ 1] := ha
  subst ha
  subst hg
  have m0 : γ 0 15 0 44 = ρ 0 := zAllA hm 0
  have m1 : γ 0 73 0 (ρ 0) = ρ 1 := zAllA hm 1
  show sn33 [ρ 0, ρ 1] (γ 0) 0 (ρ 1 + 8 * ρ 0) (γ 0)
  refine Eq.symm ?_
  show fn33 [] (γ 0) = _
  unfold fn33
  refine zLE m0 (zLE m1 ?_)
  rfl
theorem yn33 {S : Nat → zSpc}  : ∀ x g o v gz, zSem uW uT w33_.2.2.2.1 w33_.2.2.1.1.length S q33 (fun i => q33a.getD i []) (zNA a33_) x g o v gz → sn33 x g o v gz := by
  intro a g o v gz h
  exact zSem_all (l0 := q33) (las := q33a) (S := S) (J := (fun _ _ _ => True)) (P := sn33 a g) (fun _ => (show zAll _ [q33_0] from (zAll_c (vn33_0 ) zAll_n))) (fun _ => (show zAllI _ 0 [] from trivial)) h
theorem vn34_0 {S : Nat → zSpc} (hS7 : zIm S 7 sn7) (hS8 : zIm S 8 sn8) (hS19 : zIm S 19 sn19) (hS20 : zIm S 20 sn20) (hS33 : zIm S 33 sn33) {a : List Int} {g : rHp} : ∀ (ρ : Nat → Int) (γ : Nat → rHp), zO 14 S a g q34_0 ρ γ → zGl (fun _ _ _ => True) (sn34 a g) q34_0 ρ γ := by
  intro ρ γ h
  obtain ⟨ha, hg, hr, hf, hm, hc, hl⟩ := h
  have ha : a = [ρ 0, ρ 1, ρ 2, ρ 3, ρ 4, ρ 5, ρ 6, ρ 7, ρ 8, ρ 9, ρ 10, ρ 11, ρ 12, ρ 13] := ha
  subst ha
  subst hg
  have m4 : γ 0 15 0 44 = ρ 5 := zAllA hm 4
  have m5 : γ 0 73 0 (ρ 5) = ρ 6 := zAllA hm 5
  have m13 : γ 1 15 0 35 = ρ 14 := zAllA hm 13
  have l0 : sn7 [ρ 1, ρ 2] (γ 0) 0 0 (γ 1) := hS7 _ _ _ _ _ (zAllA hl 0)
  have l1 : sn20 [0, ρ 14, ρ 2, ρ 3, ρ 4, ρ 15, ρ 12, ρ 9, ρ 10, ρ 11, ρ 5] (γ 1) 0 0 (γ 2) := hS20 _ _ _ _ _ (zAllA hl 1)
  show sn34 [ρ 0, ρ 1, ρ 2, ρ 3, ρ 4, ρ 5, ρ 6, ρ 7, ρ 8, ρ 9, ρ 10, ρ 11, ρ 12, ρ 13] (γ 0) 0 0 (γ 2)
  refine Eq.symm ?_
  show fn34 [ρ 0] (γ 0) = _
  unfold fn34
  refine zLV (ρ 0) rfl (zLE m4 (zLE m5 (zLE (show fn7 [] (γ 0) = (0, 0, γ 1) from l0.symm) (zLV (γ 1) rfl (zLE m13 (zLE (show fn20 [0] (γ 1) = (0, 0, γ 2) from l1.symm) (zLV (γ 2) rfl ?_)))))))
  refine zIN zQ0_ ?_
  rfl
theorem vn34_1 {S : Nat → zSpc} (hS7 : zIm S 7 sn7) (hS8 : zIm S 8 sn8) (hS19 : zIm S 19 sn19) (hS20 : zIm S 20 sn20) (hS33 : zIm S 33 sn33) {a : List Int} {g : rHp} : ∀ (ρ : Nat → Int) (γ : Nat → rHp), zO 14 S a g q34_1 ρ γ → zGl (fun _ _ _ => True) (sn34 a g) q34_1 ρ γ := by
  intro ρ γ h
  obtain ⟨ha, hg, hr, hf, hm, hc, hl⟩ := h
  have ha : a = [ρ 0, ρ 1, ρ 2, ρ 3, ρ 4, ρ 5, ρ 6, ρ 7, ρ 8, ρ 9, ρ 10, ρ 11, ρ 12, ρ 13] := ha
  subst ha
  subst hg
  have r20 : (0 : Int) ≤ ρ 20 ∧ ρ 20 ≤ 2 := zRnA hr 20
  have m4 : γ 0 15 0 44 = ρ 5 := zAllA hm 4
  have m5 : γ 0 73 0 (ρ 5) = ρ 6 := zAllA hm 5
  have m13 : γ 1 15 0 35 = ρ 14 := zAllA hm 13
  have m18 : γ 2 15 0 39 = ρ 19 := zAllA hm 18
  have m19 : γ 2 15 0 40 = ρ 20 := zAllA hm 19
  have c4 : γ 4 = rUp (γ 3) 80 0 (4 * ρ 6 + (32 * ρ 5 + ρ 0)) (ρ 20) := And.right (zChA hc 2)
  have c6 : γ 6 = rUp (γ 5) 81 0 (4 * ρ 6 + (32 * ρ 5 + ρ 0)) (ρ 19) := And.right (zChA hc 0)
  have l0 : sn7 [ρ 1, ρ 2] (γ 0) 0 0 (γ 1) := hS7 _ _ _ _ _ (zAllA hl 0)
  have l1 : sn20 [0, ρ 14, ρ 2, ρ 3, ρ 4, ρ 15, ρ 12, ρ 9, ρ 10, ρ 11, ρ 5] (γ 1) 0 1 (γ 2) := hS20 _ _ _ _ _ (zAllA hl 1)
  have l2 : ρ 20 ≠ 1 := zAllA hl 2
  have l3 : sn33 [ρ 5, ρ 6] (γ 2) 0 (ρ 6 + 8 * ρ 5) (γ 3) := hS33 _ _ _ _ _ (zAllA hl 3)
  have l4 : sn33 [ρ 5, ρ 6] (γ 4) 0 (ρ 6 + 8 * ρ 5) (γ 5) := hS33 _ _ _ _ _ (zAllA hl 4)
  have wl_0 : ρ 20 ≠ 1 := by omega
  show sn34 [ρ 0, ρ 1, ρ 2, ρ 3, ρ 4, ρ 5, ρ 6, ρ 7, ρ 8, ρ 9, ρ 10, ρ 11, ρ 12, ρ 13] (γ 0) 0 1 (γ 6)
  refine Eq.symm ?_
  show fn34 [ρ 0] (γ 0) = _
  unfold fn34
  refine zLV (ρ 0) rfl (zLE m4 (zLE m5 (zLE (show fn7 [] (γ 0) = (0, 0, γ 1) from l0.symm) (zLV (γ 1) rfl (zLE m13 (zLE (show fn20 [0] (γ 1) = (0, 1, γ 2) from l1.symm) (zLV (γ 2) rfl ?_)))))))
  refine zIP zQ1_ (zLE m18 (zLE m19 (zIP wl_0 (zLE (show fn33 [] (γ 2) = (0, ρ 6 + 8 * ρ 5, γ 3) from l3.symm) (zLV (γ 3) rfl (zLE c4.symm (zLE (show fn33 [] (γ 4) = (0, ρ 6 + 8 * ρ 5, γ 5) from l4.symm) ?_)))))))
  refine zLV (γ 5) rfl (zLE c6.symm ?_)
  rfl
theorem vn34_2 {S : Nat → zSpc} (hS7 : zIm S 7 sn7) (hS8 : zIm S 8 sn8) (hS19 : zIm S 19 sn19) (hS20 : zIm S 20 sn20) (hS33 : zIm S 33 sn33) {a : List Int} {g : rHp} : ∀ (ρ : Nat → Int) (γ : Nat → rHp), zO 14 S a g q34_2 ρ γ → zGl (fun _ _ _ => True) (sn34 a g) q34_2 ρ γ := by
  intro ρ γ h
  obtain ⟨ha, hg, hr, hf, hm, hc, hl⟩ := h
  have ha : a = [ρ 0, ρ 1, ρ 2, ρ 3, ρ 4, ρ 5, ρ 6, ρ 7, ρ 8, ρ 9, ρ 10, ρ 11, ρ 12, ρ 13] := ha
  subst ha
  subst hg
  have r20 : (1 : Int) ≤ ρ 20 ∧ ρ 20 ≤ 1 := zRnA hr 20
  have w_0 : ¬ (ρ 20 ≠ 1) := by omega
  have m4 : γ 0 15 0 44 = ρ 5 := zAllA hm 4
  have m5 : γ 0 73 0 (ρ 5) = ρ 6 := zAllA hm 5
  have m13 : γ 1 15 0 35 = ρ 14 := zAllA hm 13
  have m18 : γ 2 15 0 39 = ρ 19 := zAllA hm 18
  have m19 : γ 2 15 0 40 = ρ 20 := zAllA hm 19
  have l0 : sn7 [ρ 1, ρ 2] (γ 0) 0 0 (γ 1) := hS7 _ _ _ _ _ (zAllA hl 0)
  have l1 : sn20 [0, ρ 14, ρ 2, ρ 3, ρ 4, ρ 15, ρ 12, ρ 9, ρ 10, ρ 11, ρ 5] (γ 1) 0 1 (γ 2) := hS20 _ _ _ _ _ (zAllA hl 1)
  have l2 : sn19 [ρ 19, ρ 13] (γ 2) 0 0 (γ 3) := hS19 _ _ _ _ _ (zAllA hl 2)
  have l3 : sn8 [ρ 14, ρ 2, ρ 9] (γ 3) 0 0 (γ 4) := hS8 _ _ _ _ _ (zAllA hl 3)
  show sn34 [ρ 0, ρ 1, ρ 2, ρ 3, ρ 4, ρ 5, ρ 6, ρ 7, ρ 8, ρ 9, ρ 10, ρ 11, ρ 12, ρ 13] (γ 0) 0 0 (γ 4)
  refine Eq.symm ?_
  show fn34 [ρ 0] (γ 0) = _
  unfold fn34
  refine zLV (ρ 0) rfl (zLE m4 (zLE m5 (zLE (show fn7 [] (γ 0) = (0, 0, γ 1) from l0.symm) (zLV (γ 1) rfl (zLE m13 (zLE (show fn20 [0] (γ 1) = (0, 1, γ 2) from l1.symm) (zLV (γ 2) rfl ?_)))))))
  refine zIP zQ1_ (zLE m18 (zLE m19 (zIN w_0 (zLE (show fn19 [ρ 19] (γ 2) = (0, 0, γ 3) from l2.symm) (zLV (γ 3) rfl (zIN zQ0_ (zLE (show fn8 [ρ 14] (γ 3) = (0, 0, γ 4) from l3.symm) ?_)))))))
  refine zLV (γ 4) rfl ?_
  rfl
theorem vn34_3 {S : Nat → zSpc} (hS7 : zIm S 7 sn7) (hS8 : zIm S 8 sn8) (hS19 : zIm S 19 sn19) (hS20 : zIm S 20 sn20) (hS33 : zIm S 33 sn33) {a : List Int} {g : rHp} : ∀ (ρ : Nat → Int) (γ : Nat → rHp), zO 14 S a g q34_3 ρ γ → zGl (fun _ _ _ => True) (sn34 a g) q34_3 ρ γ := by
  intro ρ γ h
  obtain ⟨ha, hg, hr, hf, hm, hc, hl⟩ := h
  have ha : a = [ρ 0, ρ 1, ρ 2, ρ 3, ρ 4, ρ 5, ρ 6, ρ 7, ρ 8, ρ 9, ρ 10, ρ 11, ρ 12, ρ 13] := ha
  subst ha
  subst hg
  have r20 : (1 : Int) ≤ ρ 20 ∧ ρ 20 ≤ 1 := zRnA hr 20
  have w_0 : ¬ (ρ 20 ≠ 1) := by omega
  have m4 : γ 0 15 0 44 = ρ 5 := zAllA hm 4
  have m5 : γ 0 73 0 (ρ 5) = ρ 6 := zAllA hm 5
  have m13 : γ 1 15 0 35 = ρ 14 := zAllA hm 13
  have m18 : γ 2 15 0 39 = ρ 19 := zAllA hm 18
  have m19 : γ 2 15 0 40 = ρ 20 := zAllA hm 19
  have c5 : γ 5 = rUp (γ 4) 80 0 (4 * ρ 6 + (32 * ρ 5 + ρ 0)) (ρ 20) := And.right (zChA hc 2)
  have c7 : γ 7 = rUp (γ 6) 81 0 (4 * ρ 6 + (32 * ρ 5 + ρ 0)) (ρ 19) := And.right (zChA hc 0)
  have l0 : sn7 [ρ 1, ρ 2] (γ 0) 0 0 (γ 1) := hS7 _ _ _ _ _ (zAllA hl 0)
  have l1 : sn20 [0, ρ 14, ρ 2, ρ 3, ρ 4, ρ 15, ρ 12, ρ 9, ρ 10, ρ 11, ρ 5] (γ 1) 0 1 (γ 2) := hS20 _ _ _ _ _ (zAllA hl 1)
  have l2 : sn19 [ρ 19, ρ 13] (γ 2) 0 1 (γ 3) := hS19 _ _ _ _ _ (zAllA hl 2)
  have l3 : sn33 [ρ 5, ρ 6] (γ 3) 0 (ρ 6 + 8 * ρ 5) (γ 4) := hS33 _ _ _ _ _ (zAllA hl 3)
  have l4 : sn33 [ρ 5, ρ 6] (γ 5) 0 (ρ 6 + 8 * ρ 5) (γ 6) := hS33 _ _ _ _ _ (zAllA hl 4)
  show sn34 [ρ 0, ρ 1, ρ 2, ρ 3, ρ 4, ρ 5, ρ 6, ρ 7, ρ 8, ρ 9, ρ 10, ρ 11, ρ 12, ρ 13] (γ 0) 0 1 (γ 7)
  refine Eq.symm ?_
  show fn34 [ρ 0] (γ 0) = _
  unfold fn34
  refine zLV (ρ 0) rfl (zLE m4 (zLE m5 (zLE (show fn7 [] (γ 0) = (0, 0, γ 1) from l0.symm) (zLV (γ 1) rfl (zLE m13 (zLE (show fn20 [0] (γ 1) = (0, 1, γ 2) from l1.symm) (zLV (γ 2) rfl ?_)))))))
  refine zIP zQ1_ (zLE m18 (zLE m19 (zIN w_0 (zLE (show fn19 [ρ 19] (γ 2) = (0, 1, γ 3) from l2.symm) (zLV (γ 3) rfl (zIP zQ1_ (zLE (show fn33 [] (γ 3) = (0, ρ 6 + 8 * ρ 5, γ 4) from l3.symm) ?_)))))))
  refine zLV (γ 4) rfl (zLE c5.symm (zLE (show fn33 [] (γ 5) = (0, ρ 6 + 8 * ρ 5, γ 6) from l4.symm) (zLV (γ 6) rfl (zLE c7.symm ?_))))
  rfl
theorem yn34 {S : Nat → zSpc} (hS7 : zIm S 7 sn7) (hS8 : zIm S 8 sn8) (hS19 : zIm S 19 sn19) (hS20 : zIm S 20 sn20) (hS33 : zIm S 33 sn33) : ∀ x g o v gz, zSem uW uT w34_.2.2.2.1 w34_.2.2.1.1.length S q34 (fun i => q34a.getD i []) (zNA a34_) x g o v gz → sn34 x g o v gz := by
  intro a g o v gz h
  exact zSem_all (l0 := q34) (las := q34a) (S := S) (J := (fun _ _ _ => True)) (P := sn34 a g) (fun _ => (show zAll _ [q34_0, q34_1, q34_2, q34_3] from (zAll_c (vn34_0 hS7 hS8 hS19 hS20 hS33) (zAll_c (vn34_1 hS7 hS8 hS19 hS20 hS33) (zAll_c (vn34_2 hS7 hS8 hS19 hS20 hS33) (zAll_c (vn34_3 hS7 hS8 hS19 hS20 hS33) zAll_n)))))) (fun _ => (show zAllI _ 0 [] from trivial)) h
theorem vn35_0 {S : Nat → zSpc} (hS6 : zIm S 6 sn6) (hS7 : zIm S 7 sn7) (hS8 : zIm S 8 sn8) (hS19 : zIm S 19 sn19) (hS33 : zIm S 33 sn33) (hS34 : zIm S 34 sn34) {a : List Int} {g : rHp} : ∀ (ρ : Nat → Int) (γ : Nat → rHp), zO 14 S a g q35_0 ρ γ → zGl (fun _ _ _ => True) (sn35 a g) q35_0 ρ γ := by
  intro ρ γ h
  obtain ⟨ha, hg, hr, hf, hm, hc, hl⟩ := h
  have ha : a = [ρ 0, ρ 1, ρ 2, ρ 3, ρ 4, ρ 5, ρ 6, ρ 7, ρ 8, ρ 9, ρ 10, ρ 11, ρ 12, ρ 13] := ha
  subst ha
  subst hg
  have r15 : (60 : Int) ≤ ρ 15 ∧ ρ 15 ≤ 60 := zRnA hr 15
  have r16 : ((-128) : Int) ≤ ρ 16 ∧ ρ 16 ≤ 127 := zRnA hr 16
  have r17 : (0 : Int) ≤ ρ 17 ∧ ρ 17 ≤ 3 := zRnA hr 17
  have f2 : (0 : Int) ≤ -ρ 14 + ρ 2 + (-1) := zAllA hf 2
  have f10 : (0 : Int) ≤ -ρ 14 + ρ 2 + (-2) := zAllA hf 10
  obtain ⟨w_0, w_1, w_2⟩ : (0 ≤ -ρ 14 + ρ 2 + (-1)) ∧ (ρ 15 = 60) ∧ (0 ≤ -ρ 14 + ρ 2 + (-2)) := ⟨by omega, by omega, by omega⟩
  have m1 : γ 0 15 0 34 = ρ 2 := zAllA hm 1
  have m4 : γ 0 15 0 44 = ρ 5 := zAllA hm 4
  have m5 : γ 0 73 0 (ρ 5) = ρ 6 := zAllA hm 5
  have m7 : γ 0 81 0 (4 * ρ 6 + 32 * ρ 5) = ρ 8 := zAllA hm 7
  have m13 : γ 2 15 0 35 = ρ 14 := zAllA hm 13
  have m14 : γ 0 80 0 (4 * ρ 6 + 32 * ρ 5) = ρ 17 := zAllA hm 14
  have c4 : γ 4 = rUp (γ 3) 15 0 35 (ρ 14 + 1) := And.right (zChA hc 3)
  have c5 : γ 5 = rUp (γ 4) 77 0 (ρ 6 + 8 * ρ 5) 2 := And.right (zChA hc 2)
  have l0 : sn33 [ρ 5, ρ 6] (γ 0) 0 (ρ 6 + 8 * ρ 5) (γ 1) := hS33 _ _ _ _ _ (zAllA hl 0)
  have l1 : sn7 [ρ 1, ρ 2] (γ 1) 0 0 (γ 2) := hS7 _ _ _ _ _ (zAllA hl 1)
  have l2 : sn6 [ρ 14, ρ 2] (γ 2) 0 (ρ 15) (γ 3) := hS6 _ _ _ _ _ (zAllA hl 2)
  have l3 : sn6 [ρ 14 + 1, ρ 2] (γ 5) 0 (ρ 16) (γ 6) := hS6 _ _ _ _ _ (zAllA hl 3)
  have l4 : ρ 16 ≠ 62 := zAllA hl 4
  have l5 : ρ 17 ≠ 1 := zAllA hl 5
  have l6 : sn34 [1, ρ 14 + 1, ρ 2, ρ 3, ρ 4, ρ 5, ρ 6, 2, ρ 8, ρ 9, ρ 10, ρ 11, ρ 12, ρ 13] (γ 6) 0 0 (γ 7) := hS34 _ _ _ _ _ (zAllA hl 6)
  obtain ⟨wl_0, wl_1⟩ : (ρ 16 ≠ 62) ∧ (ρ 17 ≠ 1) := ⟨by omega, by omega⟩
  show sn35 [ρ 0, ρ 1, ρ 2, ρ 3, ρ 4, ρ 5, ρ 6, ρ 7, ρ 8, ρ 9, ρ 10, ρ 11, ρ 12, ρ 13] (γ 0) 0 0 (γ 7)
  refine Eq.symm ?_
  show fn35 [ρ 0] (γ 0) = _
  unfold fn35
  refine zLV (ρ 0) rfl (zLE m1 (zLE m4 (zLE m5 (zLE m7 (zLE (show fn33 [] (γ 0) = (0, ρ 6 + 8 * ρ 5, γ 1) from l0.symm) (zLV (γ 1) rfl (zLE (show fn7 [] (γ 1) = (0, 0, γ 2) from l1.symm) ?_)))))))
  refine zLV (γ 2) rfl (zLE m13 (zLE (show fn6 [ρ 14] (γ 2) = (0, ρ 15, γ 3) from l2.symm) (zLV (γ 3) rfl (zIP w_0 (zLV (ρ 15) rfl (zIP w_1 (zLE c4.symm ?_)))))))
  refine zLE c5.symm (zLE (show fn6 [ρ 14 + 1] (γ 5) = (0, ρ 16, γ 6) from l3.symm) (zLV (γ 6) rfl (zIP w_2 (zLV (ρ 16) rfl (zIP wl_0 (zLE m14 (zIP wl_1 ?_)))))))
  refine zLE (show fn34 [1] (γ 6) = (0, 0, γ 7) from l6.symm) (zLV (γ 7) rfl (zIN zQ0_ ?_))
  rfl
theorem vn35_1 {S : Nat → zSpc} (hS6 : zIm S 6 sn6) (hS7 : zIm S 7 sn7) (hS8 : zIm S 8 sn8) (hS19 : zIm S 19 sn19) (hS33 : zIm S 33 sn33) (hS34 : zIm S 34 sn34) {a : List Int} {g : rHp} : ∀ (ρ : Nat → Int) (γ : Nat → rHp), zO 14 S a g q35_1 ρ γ → zGl (fun _ _ _ => True) (sn35 a g) q35_1 ρ γ := by
  intro ρ γ h
  obtain ⟨ha, hg, hr, hf, hm, hc, hl⟩ := h
  have ha : a = [ρ 0, ρ 1, ρ 2, ρ 3, ρ 4, ρ 5, ρ 6, ρ 7, ρ 8, ρ 9, ρ 10, ρ 11, ρ 12, ρ 13] := ha
  subst ha
  subst hg
  have r15 : (60 : Int) ≤ ρ 15 ∧ ρ 15 ≤ 60 := zRnA hr 15
  have r16 : ((-128) : Int) ≤ ρ 16 ∧ ρ 16 ≤ 127 := zRnA hr 16
  have r17 : (0 : Int) ≤ ρ 17 ∧ ρ 17 ≤ 3 := zRnA hr 17
  have f2 : (0 : Int) ≤ -ρ 14 + ρ 2 + (-1) := zAllA hf 2
  have f7 : (0 : Int) ≤ -ρ 14 + ρ 2 + (-2) := zAllA hf 7
  obtain ⟨w_0, w_1, w_2⟩ : (0 ≤ -ρ 14 + ρ 2 + (-1)) ∧ (ρ 15 = 60) ∧ (0 ≤ -ρ 14 + ρ 2 + (-2)) := ⟨by omega, by omega, by omega⟩
  have m1 : γ 0 15 0 34 = ρ 2 := zAllA hm 1
  have m4 : γ 0 15 0 44 = ρ 5 := zAllA hm 4
  have m5 : γ 0 73 0 (ρ 5) = ρ 6 := zAllA hm 5
  have m7 : γ 0 81 0 (4 * ρ 6 + 32 * ρ 5) = ρ 8 := zAllA hm 7
  have m13 : γ 2 15 0 35 = ρ 14 := zAllA hm 13
  have m14 : γ 0 80 0 (4 * ρ 6 + 32 * ρ 5) = ρ 17 := zAllA hm 14
  have c4 : γ 4 = rUp (γ 3) 15 0 35 (ρ 14 + 1) := And.right (zChA hc 3)
  have c5 : γ 5 = rUp (γ 4) 77 0 (ρ 6 + 8 * ρ 5) 2 := And.right (zChA hc 2)
  have l0 : sn33 [ρ 5, ρ 6] (γ 0) 0 (ρ 6 + 8 * ρ 5) (γ 1) := hS33 _ _ _ _ _ (zAllA hl 0)
  have l1 : sn7 [ρ 1, ρ 2] (γ 1) 0 0 (γ 2) := hS7 _ _ _ _ _ (zAllA hl 1)
  have l2 : sn6 [ρ 14, ρ 2] (γ 2) 0 (ρ 15) (γ 3) := hS6 _ _ _ _ _ (zAllA hl 2)
  have l3 : sn6 [ρ 14 + 1, ρ 2] (γ 5) 0 (ρ 16) (γ 6) := hS6 _ _ _ _ _ (zAllA hl 3)
  have l4 : ρ 16 ≠ 62 := zAllA hl 4
  have l5 : ρ 17 ≠ 1 := zAllA hl 5
  have l6 : sn34 [1, ρ 14 + 1, ρ 2, ρ 3, ρ 4, ρ 5, ρ 6, 2, ρ 8, ρ 9, ρ 10, ρ 11, ρ 12, ρ 13] (γ 6) 0 1 (γ 7) := hS34 _ _ _ _ _ (zAllA hl 6)
  obtain ⟨wl_0, wl_1⟩ : (ρ 16 ≠ 62) ∧ (ρ 17 ≠ 1) := ⟨by omega, by omega⟩
  show sn35 [ρ 0, ρ 1, ρ 2, ρ 3, ρ 4, ρ 5, ρ 6, ρ 7, ρ 8, ρ 9, ρ 10, ρ 11, ρ 12, ρ 13] (γ 0) 0 1 (γ 7)
  refine Eq.symm ?_
  show fn35 [ρ 0] (γ 0) = _
  unfold fn35
  refine zLV (ρ 0) rfl (zLE m1 (zLE m4 (zLE m5 (zLE m7 (zLE (show fn33 [] (γ 0) = (0, ρ 6 + 8 * ρ 5, γ 1) from l0.symm) (zLV (γ 1) rfl (zLE (show fn7 [] (γ 1) = (0, 0, γ 2) from l1.symm) ?_)))))))
  refine zLV (γ 2) rfl (zLE m13 (zLE (show fn6 [ρ 14] (γ 2) = (0, ρ 15, γ 3) from l2.symm) (zLV (γ 3) rfl (zIP w_0 (zLV (ρ 15) rfl (zIP w_1 (zLE c4.symm ?_)))))))
  refine zLE c5.symm (zLE (show fn6 [ρ 14 + 1] (γ 5) = (0, ρ 16, γ 6) from l3.symm) (zLV (γ 6) rfl (zIP w_2 (zLV (ρ 16) rfl (zIP wl_0 (zLE m14 (zIP wl_1 ?_)))))))
  refine zLE (show fn34 [1] (γ 6) = (0, 1, γ 7) from l6.symm) (zLV (γ 7) rfl (zIP zQ1_ ?_))
  rfl
theorem vn35_2 {S : Nat → zSpc} (hS6 : zIm S 6 sn6) (hS7 : zIm S 7 sn7) (hS8 : zIm S 8 sn8) (hS19 : zIm S 19 sn19) (hS33 : zIm S 33 sn33) (hS34 : zIm S 34 sn34) {a : List Int} {g : rHp} : ∀ (ρ : Nat → Int) (γ : Nat → rHp), zO 14 S a g q35_2 ρ γ → zGl (fun _ _ _ => True) (sn35 a g) q35_2 ρ γ := by
  intro ρ γ h
  obtain ⟨ha, hg, hr, hf, hm, hc, hl⟩ := h
  have ha : a = [ρ 0, ρ 1, ρ 2, ρ 3, ρ 4, ρ 5, ρ 6, ρ 7, ρ 8, ρ 9, ρ 10, ρ 11, ρ 12, ρ 13] := ha
  subst ha
  subst hg
  have r15 : (60 : Int) ≤ ρ 15 ∧ ρ 15 ≤ 60 := zRnA hr 15
  have r16 : ((-128) : Int) ≤ ρ 16 ∧ ρ 16 ≤ 127 := zRnA hr 16
  have r17 : (1 : Int) ≤ ρ 17 ∧ ρ 17 ≤ 1 := zRnA hr 17
  have f2 : (0 : Int) ≤ -ρ 14 + ρ 2 + (-2) := zAllA hf 2
  obtain ⟨w_0, w_1, w_2, w_3⟩ : (0 ≤ -ρ 14 + ρ 2 + (-1)) ∧ (ρ 15 = 60) ∧ (0 ≤ -ρ 14 + ρ 2 + (-2)) ∧ (¬ (ρ 17 ≠ 1)) := ⟨by omega, by omega, by omega, by omega⟩
  have m1 : γ 0 15 0 34 = ρ 2 := zAllA hm 1
  have m4 : γ 0 15 0 44 = ρ 5 := zAllA hm 4
  have m5 : γ 0 73 0 (ρ 5) = ρ 6 := zAllA hm 5
  have m7 : γ 0 81 0 (4 * ρ 6 + 32 * ρ 5) = ρ 8 := zAllA hm 7
  have m13 : γ 2 15 0 35 = ρ 14 := zAllA hm 13
  have m14 : γ 0 80 0 (4 * ρ 6 + 32 * ρ 5) = ρ 17 := zAllA hm 14
  have c4 : γ 4 = rUp (γ 3) 15 0 35 (ρ 14 + 1) := And.right (zChA hc 4)
  have c5 : γ 5 = rUp (γ 4) 77 0 (ρ 6 + 8 * ρ 5) 2 := And.right (zChA hc 3)
  have l0 : sn33 [ρ 5, ρ 6] (γ 0) 0 (ρ 6 + 8 * ρ 5) (γ 1) := hS33 _ _ _ _ _ (zAllA hl 0)
  have l1 : sn7 [ρ 1, ρ 2] (γ 1) 0 0 (γ 2) := hS7 _ _ _ _ _ (zAllA hl 1)
  have l2 : sn6 [ρ 14, ρ 2] (γ 2) 0 (ρ 15) (γ 3) := hS6 _ _ _ _ _ (zAllA hl 2)
  have l3 : sn6 [ρ 14 + 1, ρ 2] (γ 5) 0 (ρ 16) (γ 6) := hS6 _ _ _ _ _ (zAllA hl 3)
  have l4 : ρ 16 ≠ 62 := zAllA hl 4
  have l5 : sn19 [ρ 8, ρ 13] (γ 6) 0 0 (γ 7) := hS19 _ _ _ _ _ (zAllA hl 5)
  have l6 : sn8 [ρ 0, ρ 2, ρ 9] (γ 7) 0 0 (γ 8) := hS8 _ _ _ _ _ (zAllA hl 6)
  have wl_0 : ρ 16 ≠ 62 := by omega
  show sn35 [ρ 0, ρ 1, ρ 2, ρ 3, ρ 4, ρ 5, ρ 6, ρ 7, ρ 8, ρ 9, ρ 10, ρ 11, ρ 12, ρ 13] (γ 0) 0 0 (γ 8)
  refine Eq.symm ?_
  show fn35 [ρ 0] (γ 0) = _
  unfold fn35
  refine zLV (ρ 0) rfl (zLE m1 (zLE m4 (zLE m5 (zLE m7 (zLE (show fn33 [] (γ 0) = (0, ρ 6 + 8 * ρ 5, γ 1) from l0.symm) (zLV (γ 1) rfl (zLE (show fn7 [] (γ 1) = (0, 0, γ 2) from l1.symm) ?_)))))))
  refine zLV (γ 2) rfl (zLE m13 (zLE (show fn6 [ρ 14] (γ 2) = (0, ρ 15, γ 3) from l2.symm) (zLV (γ 3) rfl (zIP w_0 (zLV (ρ 15) rfl (zIP w_1 (zLE c4.symm ?_)))))))
  refine zLE c5.symm (zLE (show fn6 [ρ 14 + 1] (γ 5) = (0, ρ 16, γ 6) from l3.symm) (zLV (γ 6) rfl (zIP w_2 (zLV (ρ 16) rfl (zIP wl_0 (zLE m14 (zIN w_3 ?_)))))))
  refine zLE (show fn19 [ρ 8] (γ 6) = (0, 0, γ 7) from l5.symm) (zLV (γ 7) rfl (zIN zQ0_ (zLE (show fn8 [ρ 0] (γ 7) = (0, 0, γ 8) from l6.symm) (zLV (γ 8) rfl ?_))))
  rfl
theorem vn35_3 {S : Nat → zSpc} (hS6 : zIm S 6 sn6) (hS7 : zIm S 7 sn7) (hS8 : zIm S 8 sn8) (hS19 : zIm S 19 sn19) (hS33 : zIm S 33 sn33) (hS34 : zIm S 34 sn34) {a : List Int} {g : rHp} : ∀ (ρ : Nat → Int) (γ : Nat → rHp), zO 14 S a g q35_3 ρ γ → zGl (fun _ _ _ => True) (sn35 a g) q35_3 ρ γ := by
  intro ρ γ h
  obtain ⟨ha, hg, hr, hf, hm, hc, hl⟩ := h
  have ha : a = [ρ 0, ρ 1, ρ 2, ρ 3, ρ 4, ρ 5, ρ 6, ρ 7, ρ 8, ρ 9, ρ 10, ρ 11, ρ 12, ρ 13] := ha
  subst ha
  subst hg
  have r15 : (60 : Int) ≤ ρ 15 ∧ ρ 15 ≤ 60 := zRnA hr 15
  have r16 : ((-128) : Int) ≤ ρ 16 ∧ ρ 16 ≤ 127 := zRnA hr 16
  have r17 : (1 : Int) ≤ ρ 17 ∧ ρ 17 ≤ 1 := zRnA hr 17
  have f2 : (0 : Int) ≤ -ρ 14 + ρ 2 + (-1) := zAllA hf 2
  have f10 : (0 : Int) ≤ -ρ 14 + ρ 2 + (-2) := zAllA hf 10
  obtain ⟨w_0, w_1, w_2, w_3⟩ : (0 ≤ -ρ 14 + ρ 2 + (-1)) ∧ (ρ 15 = 60) ∧ (0 ≤ -ρ 14 + ρ 2 + (-2)) ∧ (¬ (ρ 17 ≠ 1)) := ⟨by omega, by omega, by omega, by omega⟩
  have m1 : γ 0 15 0 34 = ρ 2 := zAllA hm 1
  have m4 : γ 0 15 0 44 = ρ 5 := zAllA hm 4
  have m5 : γ 0 73 0 (ρ 5) = ρ 6 := zAllA hm 5
  have m7 : γ 0 81 0 (4 * ρ 6 + 32 * ρ 5) = ρ 8 := zAllA hm 7
  have m13 : γ 2 15 0 35 = ρ 14 := zAllA hm 13
  have m14 : γ 0 80 0 (4 * ρ 6 + 32 * ρ 5) = ρ 17 := zAllA hm 14
  have c4 : γ 4 = rUp (γ 3) 15 0 35 (ρ 14 + 1) := And.right (zChA hc 4)
  have c5 : γ 5 = rUp (γ 4) 77 0 (ρ 6 + 8 * ρ 5) 2 := And.right (zChA hc 3)
  have l0 : sn33 [ρ 5, ρ 6] (γ 0) 0 (ρ 6 + 8 * ρ 5) (γ 1) := hS33 _ _ _ _ _ (zAllA hl 0)
  have l1 : sn7 [ρ 1, ρ 2] (γ 1) 0 0 (γ 2) := hS7 _ _ _ _ _ (zAllA hl 1)
  have l2 : sn6 [ρ 14, ρ 2] (γ 2) 0 (ρ 15) (γ 3) := hS6 _ _ _ _ _ (zAllA hl 2)
  have l3 : sn6 [ρ 14 + 1, ρ 2] (γ 5) 0 (ρ 16) (γ 6) := hS6 _ _ _ _ _ (zAllA hl 3)
  have l4 : ρ 16 ≠ 62 := zAllA hl 4
  have l5 : sn19 [ρ 8, ρ 13] (γ 6) 0 1 (γ 7) := hS19 _ _ _ _ _ (zAllA hl 5)
  have l6 : sn34 [1, ρ 14 + 1, ρ 2, ρ 3, ρ 4, ρ 5, ρ 6, 2, ρ 8, ρ 9, ρ 10, ρ 11, ρ 12, ρ 13] (γ 7) 0 0 (γ 8) := hS34 _ _ _ _ _ (zAllA hl 6)
  have wl_0 : ρ 16 ≠ 62 := by omega
  show sn35 [ρ 0, ρ 1, ρ 2, ρ 3, ρ 4, ρ 5, ρ 6, ρ 7, ρ 8, ρ 9, ρ 10, ρ 11, ρ 12, ρ 13] (γ 0) 0 0 (γ 8)
  refine Eq.symm ?_
  show fn35 [ρ 0] (γ 0) = _
  unfold fn35
  refine zLV (ρ 0) rfl (zLE m1 (zLE m4 (zLE m5 (zLE m7 (zLE (show fn33 [] (γ 0) = (0, ρ 6 + 8 * ρ 5, γ 1) from l0.symm) (zLV (γ 1) rfl (zLE (show fn7 [] (γ 1) = (0, 0, γ 2) from l1.symm) ?_)))))))
  refine zLV (γ 2) rfl (zLE m13 (zLE (show fn6 [ρ 14] (γ 2) = (0, ρ 15, γ 3) from l2.symm) (zLV (γ 3) rfl (zIP w_0 (zLV (ρ 15) rfl (zIP w_1 (zLE c4.symm ?_)))))))
  refine zLE c5.symm (zLE (show fn6 [ρ 14 + 1] (γ 5) = (0, ρ 16, γ 6) from l3.symm) (zLV (γ 6) rfl (zIP w_2 (zLV (ρ 16) rfl (zIP wl_0 (zLE m14 (zIN w_3 ?_)))))))
  refine zLE (show fn19 [ρ 8] (γ 6) = (0, 1, γ 7) from l5.symm) (zLV (γ 7) rfl (zIP zQ1_ (zLE (show fn34 [1] (γ 7) = (0, 0, γ 8) from l6.symm) (zLV (γ 8) rfl (zIN zQ0_ ?_)))))
  rfl
theorem vn35_4 {S : Nat → zSpc} (hS6 : zIm S 6 sn6) (hS7 : zIm S 7 sn7) (hS8 : zIm S 8 sn8) (hS19 : zIm S 19 sn19) (hS33 : zIm S 33 sn33) (hS34 : zIm S 34 sn34) {a : List Int} {g : rHp} : ∀ (ρ : Nat → Int) (γ : Nat → rHp), zO 14 S a g q35_4 ρ γ → zGl (fun _ _ _ => True) (sn35 a g) q35_4 ρ γ := by
  intro ρ γ h
  obtain ⟨ha, hg, hr, hf, hm, hc, hl⟩ := h
  have ha : a = [ρ 0, ρ 1, ρ 2, ρ 3, ρ 4, ρ 5, ρ 6, ρ 7, ρ 8, ρ 9, ρ 10, ρ 11, ρ 12, ρ 13] := ha
  subst ha
  subst hg
  have r15 : (60 : Int) ≤ ρ 15 ∧ ρ 15 ≤ 60 := zRnA hr 15
  have r16 : ((-128) : Int) ≤ ρ 16 ∧ ρ 16 ≤ 127 := zRnA hr 16
  have r17 : (1 : Int) ≤ ρ 17 ∧ ρ 17 ≤ 1 := zRnA hr 17
  have f2 : (0 : Int) ≤ -ρ 14 + ρ 2 + (-1) := zAllA hf 2
  have f7 : (0 : Int) ≤ -ρ 14 + ρ 2 + (-2) := zAllA hf 7
  obtain ⟨w_0, w_1, w_2, w_3⟩ : (0 ≤ -ρ 14 + ρ 2 + (-1)) ∧ (ρ 15 = 60) ∧ (0 ≤ -ρ 14 + ρ 2 + (-2)) ∧ (¬ (ρ 17 ≠ 1)) := ⟨by omega, by omega, by omega, by omega⟩
  have m1 : γ 0 15 0 34 = ρ 2 := zAllA hm 1
  have m4 : γ 0 15 0 44 = ρ 5 := zAllA hm 4
  have m5 : γ 0 73 0 (ρ 5) = ρ 6 := zAllA hm 5
  have m7 : γ 0 81 0 (4 * ρ 6 + 32 * ρ 5) = ρ 8 := zAllA hm 7
  have m13 : γ 2 15 0 35 = ρ 14 := zAllA hm 13
  have m14 : γ 0 80 0 (4 * ρ 6 + 32 * ρ 5) = ρ 17 := zAllA hm 14
  have c4 : γ 4 = rUp (γ 3) 15 0 35 (ρ 14 + 1) := And.right (zChA hc 4)
  have c5 : γ 5 = rUp (γ 4) 77 0 (ρ 6 + 8 * ρ 5) 2 := And.right (zChA hc 3)
  have l0 : sn33 [ρ 5, ρ 6] (γ 0) 0 (ρ 6 + 8 * ρ 5) (γ 1) := hS33 _ _ _ _ _ (zAllA hl 0)
  have l1 : sn7 [ρ 1, ρ 2] (γ 1) 0 0 (γ 2) := hS7 _ _ _ _ _ (zAllA hl 1)
  have l2 : sn6 [ρ 14, ρ 2] (γ 2) 0 (ρ 15) (γ 3) := hS6 _ _ _ _ _ (zAllA hl 2)
  have l3 : sn6 [ρ 14 + 1, ρ 2] (γ 5) 0 (ρ 16) (γ 6) := hS6 _ _ _ _ _ (zAllA hl 3)
  have l4 : ρ 16 ≠ 62 := zAllA hl 4
  have l5 : sn19 [ρ 8, ρ 13] (γ 6) 0 1 (γ 7) := hS19 _ _ _ _ _ (zAllA hl 5)
  have l6 : sn34 [1, ρ 14 + 1, ρ 2, ρ 3, ρ 4, ρ 5, ρ 6, 2, ρ 8, ρ 9, ρ 10, ρ 11, ρ 12, ρ 13] (γ 7) 0 1 (γ 8) := hS34 _ _ _ _ _ (zAllA hl 6)
  have wl_0 : ρ 16 ≠ 62 := by omega
  show sn35 [ρ 0, ρ 1, ρ 2, ρ 3, ρ 4, ρ 5, ρ 6, ρ 7, ρ 8, ρ 9, ρ 10, ρ 11, ρ 12, ρ 13] (γ 0) 0 1 (γ 8)
  refine Eq.symm ?_
  show fn35 [ρ 0] (γ 0) = _
  unfold fn35
  refine zLV (ρ 0) rfl (zLE m1 (zLE m4 (zLE m5 (zLE m7 (zLE (show fn33 [] (γ 0) = (0, ρ 6 + 8 * ρ 5, γ 1) from l0.symm) (zLV (γ 1) rfl (zLE (show fn7 [] (γ 1) = (0, 0, γ 2) from l1.symm) ?_)))))))
  refine zLV (γ 2) rfl (zLE m13 (zLE (show fn6 [ρ 14] (γ 2) = (0, ρ 15, γ 3) from l2.symm) (zLV (γ 3) rfl (zIP w_0 (zLV (ρ 15) rfl (zIP w_1 (zLE c4.symm ?_)))))))
  refine zLE c5.symm (zLE (show fn6 [ρ 14 + 1] (γ 5) = (0, ρ 16, γ 6) from l3.symm) (zLV (γ 6) rfl (zIP w_2 (zLV (ρ 16) rfl (zIP wl_0 (zLE m14 (zIN w_3 ?_)))))))
  refine zLE (show fn19 [ρ 8] (γ 6) = (0, 1, γ 7) from l5.symm) (zLV (γ 7) rfl (zIP zQ1_ (zLE (show fn34 [1] (γ 7) = (0, 1, γ 8) from l6.symm) (zLV (γ 8) rfl (zIP zQ1_ ?_)))))
  rfl
theorem vn35_5 {S : Nat → zSpc} (hS6 : zIm S 6 sn6) (hS7 : zIm S 7 sn7) (hS8 : zIm S 8 sn8) (hS19 : zIm S 19 sn19) (hS33 : zIm S 33 sn33) (hS34 : zIm S 34 sn34) {a : List Int} {g : rHp} : ∀ (ρ : Nat → Int) (γ : Nat → rHp), zO 14 S a g q35_5 ρ γ → zGl (fun _ _ _ => True) (sn35 a g) q35_5 ρ γ := by
  intro ρ γ h
  obtain ⟨ha, hg, hr, hf, hm, hc, hl⟩ := h
  have ha : a = [ρ 0, ρ 1, ρ 2, ρ 3, ρ 4, ρ 5, ρ 6, ρ 7, ρ 8, ρ 9, ρ 10, ρ 11, ρ 12, ρ 13] := ha
  subst ha
  subst hg
  have r15 : (60 : Int) ≤ ρ 15 ∧ ρ 15 ≤ 60 := zRnA hr 15
  have r16 : (62 : Int) ≤ ρ 16 ∧ ρ 16 ≤ 62 := zRnA hr 16
  have r17 : (0 : Int) ≤ ρ 17 ∧ ρ 17 ≤ 3 := zRnA hr 17
  have f2 : (0 : Int) ≤ -ρ 14 + ρ 2 + (-2) := zAllA hf 2
  obtain ⟨w_0, w_1, w_2, w_3⟩ : (0 ≤ -ρ 14 + ρ 2 + (-1)) ∧ (ρ 15 = 60) ∧ (0 ≤ -ρ 14 + ρ 2 + (-2)) ∧ (¬ (ρ 16 ≠ 62)) := ⟨by omega, by omega, by omega, by omega⟩
  have m1 : γ 0 15 0 34 = ρ 2 := zAllA hm 1
  have m4 : γ 0 15 0 44 = ρ 5 := zAllA hm 4
  have m5 : γ 0 73 0 (ρ 5) = ρ 6 := zAllA hm 5
  have m7 : γ 0 81 0 (4 * ρ 6 + 32 * ρ 5) = ρ 8 := zAllA hm 7
  have m13 : γ 2 15 0 35 = ρ 14 := zAllA hm 13
  have m14 : γ 0 80 0 (4 * ρ 6 + 32 * ρ 5) = ρ 17 := zAllA hm 14
  have c4 : γ 4 = rUp (γ 3) 15 0 35 (ρ 14 + 1) := And.right (zChA hc 5)
  have c5 : γ 5 = rUp (γ 4) 77 0 (ρ 6 + 8 * ρ 5) 2 := And.right (zChA hc 4)
  have c7 : γ 7 = rUp (γ 6) 15 0 35 (ρ 14 + 2) := And.right (zChA hc 2)
  have c8 : γ 8 = rUp (γ 7) 77 0 (ρ 6 + 8 * ρ 5) 4 := And.right (zChA hc 1)
  have l0 : sn33 [ρ 5, ρ 6] (γ 0) 0 (ρ 6 + 8 * ρ 5) (γ 1) := hS33 _ _ _ _ _ (zAllA hl 0)
  have l1 : sn7 [ρ 1, ρ 2] (γ 1) 0 0 (γ 2) := hS7 _ _ _ _ _ (zAllA hl 1)
  have l2 : sn6 [ρ 14, ρ 2] (γ 2) 0 (ρ 15) (γ 3) := hS6 _ _ _ _ _ (zAllA hl 2)
  have l3 : sn6 [ρ 14 + 1, ρ 2] (γ 5) 0 (ρ 16) (γ 6) := hS6 _ _ _ _ _ (zAllA hl 3)
  have l4 : ρ 17 ≠ 1 := zAllA hl 4
  have l5 : sn34 [1, ρ 14 + 2, ρ 2, ρ 3, ρ 4, ρ 5, ρ 6, 4, ρ 8, ρ 9, ρ 10, ρ 11, ρ 12, ρ 13] (γ 8) 0 0 (γ 9) := hS34 _ _ _ _ _ (zAllA hl 5)
  have wl_0 : ρ 17 ≠ 1 := by omega
  show sn35 [ρ 0, ρ 1, ρ 2, ρ 3, ρ 4, ρ 5, ρ 6, ρ 7, ρ 8, ρ 9, ρ 10, ρ 11, ρ 12, ρ 13] (γ 0) 0 0 (γ 9)
  refine Eq.symm ?_
  show fn35 [ρ 0] (γ 0) = _
  unfold fn35
  refine zLV (ρ 0) rfl (zLE m1 (zLE m4 (zLE m5 (zLE m7 (zLE (show fn33 [] (γ 0) = (0, ρ 6 + 8 * ρ 5, γ 1) from l0.symm) (zLV (γ 1) rfl (zLE (show fn7 [] (γ 1) = (0, 0, γ 2) from l1.symm) ?_)))))))
  refine zLV (γ 2) rfl (zLE m13 (zLE (show fn6 [ρ 14] (γ 2) = (0, ρ 15, γ 3) from l2.symm) (zLV (γ 3) rfl (zIP w_0 (zLV (ρ 15) rfl (zIP w_1 (zLE c4.symm ?_)))))))
  refine zLE c5.symm (zLE (show fn6 [ρ 14 + 1] (γ 5) = (0, ρ 16, γ 6) from l3.symm) (zLV (γ 6) rfl (zIP w_2 (zLV (ρ 16) rfl (zIN w_3 (zLE c7.symm (zLE c8.symm ?_)))))))
  refine zLE m14 (zIP wl_0 (zLE (show fn34 [1] (γ 8) = (0, 0, γ 9) from l5.symm) (zLV (γ 9) rfl (zIN zQ0_ ?_))))
  rfl
theorem vn35_6 {S : Nat → zSpc} (hS6 : zIm S 6 sn6) (hS7 : zIm S 7 sn7) (hS8 : zIm S 8 sn8) (hS19 : zIm S 19 sn19) (hS33 : zIm S 33 sn33) (hS34 : zIm S 34 sn34) {a : List Int} {g : rHp} : ∀ (ρ : Nat → Int) (γ : Nat → rHp), zO 14 S a g q35_6 ρ γ → zGl (fun _ _ _ => True) (sn35 a g) q35_6 ρ γ := by
  intro ρ γ h
  obtain ⟨ha, hg, hr, hf, hm, hc, hl⟩ := h
  have ha : a = [ρ 0, ρ 1, ρ 2, ρ 3, ρ 4, ρ 5, ρ 6, ρ 7, ρ 8, ρ 9, ρ 10, ρ 11, ρ 12, ρ 13] := ha
  subst ha
  subst hg
  have r15 : (60 : Int) ≤ ρ 15 ∧ ρ 15 ≤ 60 := zRnA hr 15
  have r16 : (62 : Int) ≤ ρ 16 ∧ ρ 16 ≤ 62 := zRnA hr 16
  have r17 : (0 : Int) ≤ ρ 17 ∧ ρ 17 ≤ 3 := zRnA hr 17
  have f2 : (0 : Int) ≤ -ρ 14 + ρ 2 + (-2) := zAllA hf 2
  obtain ⟨w_0, w_1, w_2, w_3⟩ : (0 ≤ -ρ 14 + ρ 2 + (-1)) ∧ (ρ 15 = 60) ∧ (0 ≤ -ρ 14 + ρ 2 + (-2)) ∧ (¬ (ρ 16 ≠ 62)) := ⟨by omega, by omega, by omega, by omega⟩
  have m1 : γ 0 15 0 34 = ρ 2 := zAllA hm 1
  have m4 : γ 0 15 0 44 = ρ 5 := zAllA hm 4
  have m5 : γ 0 73 0 (ρ 5) = ρ 6 := zAllA hm 5
  have m7 : γ 0 81 0 (4 * ρ 6 + 32 * ρ 5) = ρ 8 := zAllA hm 7
  have m13 : γ 2 15 0 35 = ρ 14 := zAllA hm 13
  have m14 : γ 0 80 0 (4 * ρ 6 + 32 * ρ 5) = ρ 17 := zAllA hm 14
  have c4 : γ 4 = rUp (γ 3) 15 0 35 (ρ 14 + 1) := And.right (zChA hc 5)
  have c5 : γ 5 = rUp (γ 4) 77 0 (ρ 6 + 8 * ρ 5) 2 := And.right (zChA hc 4)
  have c7 : γ 7 = rUp (γ 6) 15 0 35 (ρ 14 + 2) := And.right (zChA hc 2)
  have c8 : γ 8 = rUp (γ 7) 77 0 (ρ 6 + 8 * ρ 5) 4 := And.right (zChA hc 1)
  have l0 : sn33 [ρ 5, ρ 6] (γ 0) 0 (ρ 6 + 8 * ρ 5) (γ 1) := hS33 _ _ _ _ _ (zAllA hl 0)
  have l1 : sn7 [ρ 1, ρ 2] (γ 1) 0 0 (γ 2) := hS7 _ _ _ _ _ (zAllA hl 1)
  have l2 : sn6 [ρ 14, ρ 2] (γ 2) 0 (ρ 15) (γ 3) := hS6 _ _ _ _ _ (zAllA hl 2)
  have l3 : sn6 [ρ 14 + 1, ρ 2] (γ 5) 0 (ρ 16) (γ 6) := hS6 _ _ _ _ _ (zAllA hl 3)
  have l4 : ρ 17 ≠ 1 := zAllA hl 4
  have l5 : sn34 [1, ρ 14 + 2, ρ 2, ρ 3, ρ 4, ρ 5, ρ 6, 4, ρ 8, ρ 9, ρ 10, ρ 11, ρ 12, ρ 13] (γ 8) 0 1 (γ 9) := hS34 _ _ _ _ _ (zAllA hl 5)
  have wl_0 : ρ 17 ≠ 1 := by omega
  show sn35 [ρ 0, ρ 1, ρ 2, ρ 3, ρ 4, ρ 5, ρ 6, ρ 7, ρ 8, ρ 9, ρ 10, ρ 11, ρ 12, ρ 13] (γ 0) 0 1 (γ 9)
  refine Eq.symm ?_
  show fn35 [ρ 0] (γ 0) = _
  unfold fn35
  refine zLV (ρ 0) rfl (zLE m1 (zLE m4 (zLE m5 (zLE m7 (zLE (show fn33 [] (γ 0) = (0, ρ 6 + 8 * ρ 5, γ 1) from l0.symm) (zLV (γ 1) rfl (zLE (show fn7 [] (γ 1) = (0, 0, γ 2) from l1.symm) ?_)))))))
  refine zLV (γ 2) rfl (zLE m13 (zLE (show fn6 [ρ 14] (γ 2) = (0, ρ 15, γ 3) from l2.symm) (zLV (γ 3) rfl (zIP w_0 (zLV (ρ 15) rfl (zIP w_1 (zLE c4.symm ?_)))))))
  refine zLE c5.symm (zLE (show fn6 [ρ 14 + 1] (γ 5) = (0, ρ 16, γ 6) from l3.symm) (zLV (γ 6) rfl (zIP w_2 (zLV (ρ 16) rfl (zIN w_3 (zLE c7.symm (zLE c8.symm ?_)))))))
  refine zLE m14 (zIP wl_0 (zLE (show fn34 [1] (γ 8) = (0, 1, γ 9) from l5.symm) (zLV (γ 9) rfl (zIP zQ1_ ?_))))
  rfl
theorem vn35_7 {S : Nat → zSpc} (hS6 : zIm S 6 sn6) (hS7 : zIm S 7 sn7) (hS8 : zIm S 8 sn8) (hS19 : zIm S 19 sn19) (hS33 : zIm S 33 sn33) (hS34 : zIm S 34 sn34) {a : List Int} {g : rHp} : ∀ (ρ : Nat → Int) (γ : Nat → rHp), zO 14 S a g q35_7 ρ γ → zGl (fun _ _ _ => True) (sn35 a g) q35_7 ρ γ := by
  intro ρ γ h
  obtain ⟨ha, hg, hr, hf, hm, hc, hl⟩ := h
  have ha : a = [ρ 0, ρ 1, ρ 2, ρ 3, ρ 4, ρ 5, ρ 6, ρ 7, ρ 8, ρ 9, ρ 10, ρ 11, ρ 12, ρ 13] := ha
  subst ha
  subst hg
  have r15 : (60 : Int) ≤ ρ 15 ∧ ρ 15 ≤ 60 := zRnA hr 15
  have r16 : (62 : Int) ≤ ρ 16 ∧ ρ 16 ≤ 62 := zRnA hr 16
  have r17 : (1 : Int) ≤ ρ 17 ∧ ρ 17 ≤ 1 := zRnA hr 17
  have f2 : (0 : Int) ≤ -ρ 14 + ρ 2 + (-2) := zAllA hf 2
  obtain ⟨w_0, w_1, w_2, w_3, w_4⟩ : (0 ≤ -ρ 14 + ρ 2 + (-1)) ∧ (ρ 15 = 60) ∧ (0 ≤ -ρ 14 + ρ 2 + (-2)) ∧ (¬ (ρ 16 ≠ 62)) ∧ (¬ (ρ 17 ≠ 1)) := ⟨by omega, by omega, by omega, by omega, by omega⟩
  have m1 : γ 0 15 0 34 = ρ 2 := zAllA hm 1
  have m4 : γ 0 15 0 44 = ρ 5 := zAllA hm 4
  have m5 : γ 0 73 0 (ρ 5) = ρ 6 := zAllA hm 5
  have m7 : γ 0 81 0 (4 * ρ 6 + 32 * ρ 5) = ρ 8 := zAllA hm 7
  have m13 : γ 2 15 0 35 = ρ 14 := zAllA hm 13
  have m14 : γ 0 80 0 (4 * ρ 6 + 32 * ρ 5) = ρ 17 := zAllA hm 14
  have c4 : γ 4 = rUp (γ 3) 15 0 35 (ρ 14 + 1) := And.right (zChA hc 6)
  have c5 : γ 5 = rUp (γ 4) 77 0 (ρ 6 + 8 * ρ 5) 2 := And.right (zChA hc 5)
  have c7 : γ 7 = rUp (γ 6) 15 0 35 (ρ 14 + 2) := And.right (zChA hc 3)
  have c8 : γ 8 = rUp (γ 7) 77 0 (ρ 6 + 8 * ρ 5) 4 := And.right (zChA hc 2)
  have l0 : sn33 [ρ 5, ρ 6] (γ 0) 0 (ρ 6 + 8 * ρ 5) (γ 1) := hS33 _ _ _ _ _ (zAllA hl 0)
  have l1 : sn7 [ρ 1, ρ 2] (γ 1) 0 0 (γ 2) := hS7 _ _ _ _ _ (zAllA hl 1)
  have l2 : sn6 [ρ 14, ρ 2] (γ 2) 0 (ρ 15) (γ 3) := hS6 _ _ _ _ _ (zAllA hl 2)
  have l3 : sn6 [ρ 14 + 1, ρ 2] (γ 5) 0 (ρ 16) (γ 6) := hS6 _ _ _ _ _ (zAllA hl 3)
  have l4 : sn19 [ρ 8, ρ 13] (γ 8) 0 0 (γ 9) := hS19 _ _ _ _ _ (zAllA hl 4)
  have l5 : sn8 [ρ 0, ρ 2, ρ 9] (γ 9) 0 0 (γ 10) := hS8 _ _ _ _ _ (zAllA hl 5)
  show sn35 [ρ 0, ρ 1, ρ 2, ρ 3, ρ 4, ρ 5, ρ 6, ρ 7, ρ 8, ρ 9, ρ 10, ρ 11, ρ 12, ρ 13] (γ 0) 0 0 (γ 10)
  refine Eq.symm ?_
  show fn35 [ρ 0] (γ 0) = _
  unfold fn35
  refine zLV (ρ 0) rfl (zLE m1 (zLE m4 (zLE m5 (zLE m7 (zLE (show fn33 [] (γ 0) = (0, ρ 6 + 8 * ρ 5, γ 1) from l0.symm) (zLV (γ 1) rfl (zLE (show fn7 [] (γ 1) = (0, 0, γ 2) from l1.symm) ?_)))))))
  refine zLV (γ 2) rfl (zLE m13 (zLE (show fn6 [ρ 14] (γ 2) = (0, ρ 15, γ 3) from l2.symm) (zLV (γ 3) rfl (zIP w_0 (zLV (ρ 15) rfl (zIP w_1 (zLE c4.symm ?_)))))))
  refine zLE c5.symm (zLE (show fn6 [ρ 14 + 1] (γ 5) = (0, ρ 16, γ 6) from l3.symm) (zLV (γ 6) rfl (zIP w_2 (zLV (ρ 16) rfl (zIN w_3 (zLE c7.symm (zLE c8.symm ?_)))))))
  refine zLE m14 (zIN w_4 (zLE (show fn19 [ρ 8] (γ 8) = (0, 0, γ 9) from l4.symm) (zLV (γ 9) rfl (zIN zQ0_ (zLE (show fn8 [ρ 0] (γ 9) = (0, 0, γ 10) from l5.symm) (zLV (γ 10) rfl ?_))))))
  rfl
theorem vn35_8 {S : Nat → zSpc} (hS6 : zIm S 6 sn6) (hS7 : zIm S 7 sn7) (hS8 : zIm S 8 sn8) (hS19 : zIm S 19 sn19) (hS33 : zIm S 33 sn33) (hS34 : zIm S 34 sn34) {a : List Int} {g : rHp} : ∀ (ρ : Nat → Int) (γ : Nat → rHp), zO 14 S a g q35_8 ρ γ → zGl (fun _ _ _ => True) (sn35 a g) q35_8 ρ γ := by
  intro ρ γ h
  obtain ⟨ha, hg, hr, hf, hm, hc, hl⟩ := h
  have ha : a = [ρ 0, ρ 1, ρ 2, ρ 3, ρ 4, ρ 5, ρ 6, ρ 7, ρ 8, ρ 9, ρ 10, ρ 11, ρ 12, ρ 13] := ha
  subst ha
  subst hg
  have r15 : (60 : Int) ≤ ρ 15 ∧ ρ 15 ≤ 60 := zRnA hr 15
  have r16 : (62 : Int) ≤ ρ 16 ∧ ρ 16 ≤ 62 := zRnA hr 16
  have r17 : (1 : Int) ≤ ρ 17 ∧ ρ 17 ≤ 1 := zRnA hr 17
  have f2 : (0 : Int) ≤ -ρ 14 + ρ 2 + (-2) := zAllA hf 2
  obtain ⟨w_0, w_1, w_2, w_3, w_4⟩ : (0 ≤ -ρ 14 + ρ 2 + (-1)) ∧ (ρ 15 = 60) ∧ (0 ≤ -ρ 14 + ρ 2 + (-2)) ∧ (¬ (ρ 16 ≠ 62)) ∧ (¬ (ρ 17 ≠ 1)) := ⟨by omega, by omega, by omega, by omega, by omega⟩
  have m1 : γ 0 15 0 34 = ρ 2 := zAllA hm 1
  have m4 : γ 0 15 0 44 = ρ 5 := zAllA hm 4
  have m5 : γ 0 73 0 (ρ 5) = ρ 6 := zAllA hm 5
  have m7 : γ 0 81 0 (4 * ρ 6 + 32 * ρ 5) = ρ 8 := zAllA hm 7
  have m13 : γ 2 15 0 35 = ρ 14 := zAllA hm 13
  have m14 : γ 0 80 0 (4 * ρ 6 + 32 * ρ 5) = ρ 17 := zAllA hm 14
  have c4 : γ 4 = rUp (γ 3) 15 0 35 (ρ 14 + 1) := And.right (zChA hc 6)
  have c5 : γ 5 = rUp (γ 4) 77 0 (ρ 6 + 8 * ρ 5) 2 := And.right (zChA hc 5)
  have c7 : γ 7 = rUp (γ 6) 15 0 35 (ρ 14 + 2) := And.right (zChA hc 3)
  have c8 : γ 8 = rUp (γ 7) 77 0 (ρ 6 + 8 * ρ 5) 4 := And.right (zChA hc 2)
  have l0 : sn33 [ρ 5, ρ 6] (γ 0) 0 (ρ 6 + 8 * ρ 5) (γ 1) := hS33 _ _ _ _ _ (zAllA hl 0)
  have l1 : sn7 [ρ 1, ρ 2] (γ 1) 0 0 (γ 2) := hS7 _ _ _ _ _ (zAllA hl 1)
  have l2 : sn6 [ρ 14, ρ 2] (γ 2) 0 (ρ 15) (γ 3) := hS6 _ _ _ _ _ (zAllA hl 2)
  have l3 : sn6 [ρ 14 + 1, ρ 2] (γ 5) 0 (ρ 16) (γ 6) := hS6 _ _ _ _ _ (zAllA hl 3)
  have l4 : sn19 [ρ 8, ρ 13] (γ 8) 0 1 (γ 9) := hS19 _ _ _ _ _ (zAllA hl 4)
  have l5 : sn34 [1, ρ 14 + 2, ρ 2, ρ 3, ρ 4, ρ 5, ρ 6, 4, ρ 8, ρ 9, ρ 10, ρ 11, ρ 12, ρ 13] (γ 9) 0 0 (γ 10) := hS34 _ _ _ _ _ (zAllA hl 5)
  show sn35 [ρ 0, ρ 1, ρ 2, ρ 3, ρ 4, ρ 5, ρ 6, ρ 7, ρ 8, ρ 9, ρ 10, ρ 11, ρ 12, ρ 13] (γ 0) 0 0 (γ 10)
  refine Eq.symm ?_
  show fn35 [ρ 0] (γ 0) = _
  unfold fn35
  refine zLV (ρ 0) rfl (zLE m1 (zLE m4 (zLE m5 (zLE m7 (zLE (show fn33 [] (γ 0) = (0, ρ 6 + 8 * ρ 5, γ 1) from l0.symm) (zLV (γ 1) rfl (zLE (show fn7 [] (γ 1) = (0, 0, γ 2) from l1.symm) ?_)))))))
  refine zLV (γ 2) rfl (zLE m13 (zLE (show fn6 [ρ 14] (γ 2) = (0, ρ 15, γ 3) from l2.symm) (zLV (γ 3) rfl (zIP w_0 (zLV (ρ 15) rfl (zIP w_1 (zLE c4.symm ?_)))))))
  refine zLE c5.symm (zLE (show fn6 [ρ 14 + 1] (γ 5) = (0, ρ 16, γ 6) from l3.symm) (zLV (γ 6) rfl (zIP w_2 (zLV (ρ 16) rfl (zIN w_3 (zLE c7.symm (zLE c8.symm ?_)))))))
  refine zLE m14 (zIN w_4 (zLE (show fn19 [ρ 8] (γ 8) = (0, 1, γ 9) from l4.symm) (zLV (γ 9) rfl (zIP zQ1_ (zLE (show fn34 [1] (γ 9) = (0, 0, γ 10) from l5.symm) (zLV (γ 10) rfl (zIN zQ0_ ?_)))))))
  rfl
theorem vn35_9 {S : Nat → zSpc} (hS6 : zIm S 6 sn6) (hS7 : zIm S 7 sn7) (hS8 : zIm S 8 sn8) (hS19 : zIm S 19 sn19) (hS33 : zIm S 33 sn33) (hS34 : zIm S 34 sn34) {a : List Int} {g : rHp} : ∀ (ρ : Nat → Int) (γ : Nat → rHp), zO 14 S a g q35_9 ρ γ → zGl (fun _ _ _ => True) (sn35 a g) q35_9 ρ γ := by
  intro ρ γ h
  obtain ⟨ha, hg, hr, hf, hm, hc, hl⟩ := h
  have ha : a = [ρ 0, ρ 1, ρ 2, ρ 3, ρ 4, ρ 5, ρ 6, ρ 7, ρ 8, ρ 9, ρ 10, ρ 11, ρ 12, ρ 13] := ha
  subst ha
  subst hg
  have r15 : (60 : Int) ≤ ρ 15 ∧ ρ 15 ≤ 60 := zRnA hr 15
  have r16 : (62 : Int) ≤ ρ 16 ∧ ρ 16 ≤ 62 := zRnA hr 16
  have r17 : (1 : Int) ≤ ρ 17 ∧ ρ 17 ≤ 1 := zRnA hr 17
  have f2 : (0 : Int) ≤ -ρ 14 + ρ 2 + (-2) := zAllA hf 2
  obtain ⟨w_0, w_1, w_2, w_3, w_4⟩ : (0 ≤ -ρ 14 + ρ 2 + (-1)) ∧ (ρ 15 = 60) ∧ (0 ≤ -ρ 14 + ρ 2 + (-2)) ∧ (¬ (ρ 16 ≠ 62)) ∧ (¬ (ρ 17 ≠ 1)) := ⟨by omega, by omega, by omega, by omega, by omega⟩
  have m1 : γ 0 15 0 34 = ρ 2 := zAllA hm 1
  have m4 : γ 0 15 0 44 = ρ 5 := zAllA hm 4
  have m5 : γ 0 73 0 (ρ 5) = ρ 6 := zAllA hm 5
  have m7 : γ 0 81 0 (4 * ρ 6 + 32 * ρ 5) = ρ 8 := zAllA hm 7
  have m13 : γ 2 15 0 35 = ρ 14 := zAllA hm 13
  have m14 : γ 0 80 0 (4 * ρ 6 + 32 * ρ 5) = ρ 17 := zAllA hm 14
  have c4 : γ 4 = rUp (γ 3) 15 0 35 (ρ 14 + 1) := And.right (zChA hc 6)
  have c5 : γ 5 = rUp (γ 4) 77 0 (ρ 6 + 8 * ρ 5) 2 := And.right (zChA hc 5)
  have c7 : γ 7 = rUp (γ 6) 15 0 35 (ρ 14 + 2) := And.right (zChA hc 3)
  have c8 : γ 8 = rUp (γ 7) 77 0 (ρ 6 + 8 * ρ 5) 4 := And.right (zChA hc 2)
  have l0 : sn33 [ρ 5, ρ 6] (γ 0) 0 (ρ 6 + 8 * ρ 5) (γ 1) := hS33 _ _ _ _ _ (zAllA hl 0)
  have l1 : sn7 [ρ 1, ρ 2] (γ 1) 0 0 (γ 2) := hS7 _ _ _ _ _ (zAllA hl 1)
  have l2 : sn6 [ρ 14, ρ 2] (γ 2) 0 (ρ 15) (γ 3) := hS6 _ _ _ _ _ (zAllA hl 2)
  have l3 : sn6 [ρ 14 + 1, ρ 2] (γ 5) 0 (ρ 16) (γ 6) := hS6 _ _ _ _ _ (zAllA hl 3)
  have l4 : sn19 [ρ 8, ρ 13] (γ 8) 0 1 (γ 9) := hS19 _ _ _ _ _ (zAllA hl 4)
  have l5 : sn34 [1, ρ 14 + 2, ρ 2, ρ 3, ρ 4, ρ 5, ρ 6, 4, ρ 8, ρ 9, ρ 10, ρ 11, ρ 12, ρ 13] (γ 9) 0 1 (γ 10) := hS34 _ _ _ _ _ (zAllA hl 5)
  show sn35 [ρ 0, ρ 1, ρ 2, ρ 3, ρ 4, ρ 5, ρ 6, ρ 7, ρ 8, ρ 9, ρ 10, ρ 11, ρ 12, ρ 13] (γ 0) 0 1 (γ 10)
  refine Eq.symm ?_
  show fn35 [ρ 0] (γ 0) = _
  unfold fn35
  refine zLV (ρ 0) rfl (zLE m1 (zLE m4 (zLE m5 (zLE m7 (zLE (show fn33 [] (γ 0) = (0, ρ 6 + 8 * ρ 5, γ 1) from l0.symm) (zLV (γ 1) rfl (zLE (show fn7 [] (γ 1) = (0, 0, γ 2) from l1.symm) ?_)))))))
  refine zLV (γ 2) rfl (zLE m13 (zLE (show fn6 [ρ 14] (γ 2) = (0, ρ 15, γ 3) from l2.symm) (zLV (γ 3) rfl (zIP w_0 (zLV (ρ 15) rfl (zIP w_1 (zLE c4.symm ?_)))))))
  refine zLE c5.symm (zLE (show fn6 [ρ 14 + 1] (γ 5) = (0, ρ 16, γ 6) from l3.symm) (zLV (γ 6) rfl (zIP w_2 (zLV (ρ 16) rfl (zIN w_3 (zLE c7.symm (zLE c8.symm ?_)))))))
  refine zLE m14 (zIN w_4 (zLE (show fn19 [ρ 8] (γ 8) = (0, 1, γ 9) from l4.symm) (zLV (γ 9) rfl (zIP zQ1_ (zLE (show fn34 [1] (γ 9) = (0, 1, γ 10) from l5.symm) (zLV (γ 10) rfl (zIP zQ1_ ?_)))))))
  rfl
theorem vn35_10 {S : Nat → zSpc} (hS6 : zIm S 6 sn6) (hS7 : zIm S 7 sn7) (hS8 : zIm S 8 sn8) (hS19 : zIm S 19 sn19) (hS33 : zIm S 33 sn33) (hS34 : zIm S 34 sn34) {a : List Int} {g : rHp} : ∀ (ρ : Nat → Int) (γ : Nat → rHp), zO 14 S a g q35_10 ρ γ → zGl (fun _ _ _ => True) (sn35 a g) q35_10 ρ γ := by
  intro ρ γ h
  obtain ⟨ha, hg, hr, hf, hm, hc, hl⟩ := h
  have ha : a = [ρ 0, ρ 1, ρ 2, ρ 3, ρ 4, ρ 5, ρ 6, ρ 7, ρ 8, ρ 9, ρ 10, ρ 11, ρ 12, ρ 13] := ha
  subst ha
  subst hg
  have r15 : (60 : Int) ≤ ρ 15 ∧ ρ 15 ≤ 60 := zRnA hr 15
  have r16 : (0 : Int) ≤ ρ 16 ∧ ρ 16 ≤ 3 := zRnA hr 16
  have f2 : (0 : Int) ≤ -ρ 14 + ρ 2 + (-1) := zAllA hf 2
  have f10 : (0 : Int) ≤ ρ 14 + -ρ 2 + 1 := zAllA hf 10
  obtain ⟨w_0, w_1, w_2⟩ : (0 ≤ -ρ 14 + ρ 2 + (-1)) ∧ (ρ 15 = 60) ∧ (¬ (0 ≤ -ρ 14 + ρ 2 + (-2))) := ⟨by omega, by omega, by omega⟩
  have m1 : γ 0 15 0 34 = ρ 2 := zAllA hm 1
  have m4 : γ 0 15 0 44 = ρ 5 := zAllA hm 4
  have m5 : γ 0 73 0 (ρ 5) = ρ 6 := zAllA hm 5
  have m7 : γ 0 81 0 (4 * ρ 6 + 32 * ρ 5) = ρ 8 := zAllA hm 7
  have m13 : γ 2 15 0 35 = ρ 14 := zAllA hm 13
  have m14 : γ 0 80 0 (4 * ρ 6 + 32 * ρ 5) = ρ 16 := zAllA hm 14
  have c4 : γ 4 = rUp (γ 3) 15 0 35 (ρ 14 + 1) := And.right (zChA hc 3)
  have c5 : γ 5 = rUp (γ 4) 77 0 (ρ 6 + 8 * ρ 5) 2 := And.right (zChA hc 2)
  have l0 : sn33 [ρ 5, ρ 6] (γ 0) 0 (ρ 6 + 8 * ρ 5) (γ 1) := hS33 _ _ _ _ _ (zAllA hl 0)
  have l1 : sn7 [ρ 1, ρ 2] (γ 1) 0 0 (γ 2) := hS7 _ _ _ _ _ (zAllA hl 1)
  have l2 : sn6 [ρ 14, ρ 2] (γ 2) 0 (ρ 15) (γ 3) := hS6 _ _ _ _ _ (zAllA hl 2)
  have l3 : sn6 [ρ 14 + 1, ρ 2] (γ 5) 0 (-1) (γ 6) := hS6 _ _ _ _ _ (zAllA hl 3)
  have l4 : ρ 16 ≠ 1 := zAllA hl 4
  have l5 : sn34 [1, ρ 14 + 1, ρ 2, ρ 3, ρ 4, ρ 5, ρ 6, 2, ρ 8, ρ 9, ρ 10, ρ 11, ρ 12, ρ 13] (γ 6) 0 0 (γ 7) := hS34 _ _ _ _ _ (zAllA hl 5)
  have wl_0 : ρ 16 ≠ 1 := by omega
  show sn35 [ρ 0, ρ 1, ρ 2, ρ 3, ρ 4, ρ 5, ρ 6, ρ 7, ρ 8, ρ 9, ρ 10, ρ 11, ρ 12, ρ 13] (γ 0) 0 0 (γ 7)
  refine Eq.symm ?_
  show fn35 [ρ 0] (γ 0) = _
  unfold fn35
  refine zLV (ρ 0) rfl (zLE m1 (zLE m4 (zLE m5 (zLE m7 (zLE (show fn33 [] (γ 0) = (0, ρ 6 + 8 * ρ 5, γ 1) from l0.symm) (zLV (γ 1) rfl (zLE (show fn7 [] (γ 1) = (0, 0, γ 2) from l1.symm) ?_)))))))
  refine zLV (γ 2) rfl (zLE m13 (zLE (show fn6 [ρ 14] (γ 2) = (0, ρ 15, γ 3) from l2.symm) (zLV (γ 3) rfl (zIP w_0 (zLV (ρ 15) rfl (zIP w_1 (zLE c4.symm ?_)))))))
  refine zLE c5.symm (zLE (show fn6 [ρ 14 + 1] (γ 5) = (0, (-1), γ 6) from l3.symm) (zLV (γ 6) rfl (zIN w_2 (zLE m14 (zIP wl_0 (zLE (show fn34 [1] (γ 6) = (0, 0, γ 7) from l5.symm) (zLV (γ 7) rfl ?_)))))))
  rfl
theorem vn35_11 {S : Nat → zSpc} (hS6 : zIm S 6 sn6) (hS7 : zIm S 7 sn7) (hS8 : zIm S 8 sn8) (hS19 : zIm S 19 sn19) (hS33 : zIm S 33 sn33) (hS34 : zIm S 34 sn34) {a : List Int} {g : rHp} : ∀ (ρ : Nat → Int) (γ : Nat → rHp), zO 14 S a g q35_11 ρ γ → zGl (fun _ _ _ => True) (sn35 a g) q35_11 ρ γ := by
  intro ρ γ h
  obtain ⟨ha, hg, hr, hf, hm, hc, hl⟩ := h
  have ha : a = [ρ 0, ρ 1, ρ 2, ρ 3, ρ 4, ρ 5, ρ 6, ρ 7, ρ 8, ρ 9, ρ 10, ρ 11, ρ 12, ρ 13] := ha
  subst ha
  subst hg
  have r15 : (60 : Int) ≤ ρ 15 ∧ ρ 15 ≤ 60 := zRnA hr 15
  have r16 : (1 : Int) ≤ ρ 16 ∧ ρ 16 ≤ 1 := zRnA hr 16
  have f2 : (0 : Int) ≤ ρ 14 + -ρ 2 + 1 := zAllA hf 2
  have f3 : (0 : Int) ≤ -ρ 14 + ρ 2 + (-1) := zAllA hf 3
  obtain ⟨w_0, w_1, w_2, w_3⟩ : (0 ≤ -ρ 14 + ρ 2 + (-1)) ∧ (ρ 15 = 60) ∧ (¬ (0 ≤ -ρ 14 + ρ 2 + (-2))) ∧ (¬ (ρ 16 ≠ 1)) := ⟨by omega, by omega, by omega, by omega⟩
  have m1 : γ 0 15 0 34 = ρ 2 := zAllA hm 1
  have m4 : γ 0 15 0 44 = ρ 5 := zAllA hm 4
  have m5 : γ 0 73 0 (ρ 5) = ρ 6 := zAllA hm 5
  have m7 : γ 0 81 0 (4 * ρ 6 + 32 * ρ 5) = ρ 8 := zAllA hm 7
  have m13 : γ 2 15 0 35 = ρ 14 := zAllA hm 13
  have m14 : γ 0 80 0 (4 * ρ 6 + 32 * ρ 5) = ρ 16 := zAllA hm 14
  have c4 : γ 4 = rUp (γ 3) 15 0 35 (ρ 14 + 1) := And.right (zChA hc 4)
  have c5 : γ 5 = rUp (γ 4) 77 0 (ρ 6 + 8 * ρ 5) 2 := And.right (zChA hc 3)
  have l0 : sn33 [ρ 5, ρ 6] (γ 0) 0 (ρ 6 + 8 * ρ 5) (γ 1) := hS33 _ _ _ _ _ (zAllA hl 0)
  have l1 : sn7 [ρ 1, ρ 2] (γ 1) 0 0 (γ 2) := hS7 _ _ _ _ _ (zAllA hl 1)
  have l2 : sn6 [ρ 14, ρ 2] (γ 2) 0 (ρ 15) (γ 3) := hS6 _ _ _ _ _ (zAllA hl 2)
  have l3 : sn6 [ρ 14 + 1, ρ 2] (γ 5) 0 (-1) (γ 6) := hS6 _ _ _ _ _ (zAllA hl 3)
  have l4 : sn19 [ρ 8, ρ 13] (γ 6) 0 0 (γ 7) := hS19 _ _ _ _ _ (zAllA hl 4)
  have l5 : sn8 [ρ 0, ρ 2, ρ 9] (γ 7) 0 0 (γ 8) := hS8 _ _ _ _ _ (zAllA hl 5)
  show sn35 [ρ 0, ρ 1, ρ 2, ρ 3, ρ 4, ρ 5, ρ 6, ρ 7, ρ 8, ρ 9, ρ 10, ρ 11, ρ 12, ρ 13] (γ 0) 0 0 (γ 8)
  refine Eq.symm ?_
  show fn35 [ρ 0] (γ 0) = _
  unfold fn35
  refine zLV (ρ 0) rfl (zLE m1 (zLE m4 (zLE m5 (zLE m7 (zLE (show fn33 [] (γ 0) = (0, ρ 6 + 8 * ρ 5, γ 1) from l0.symm) (zLV (γ 1) rfl (zLE (show fn7 [] (γ 1) = (0, 0, γ 2) from l1.symm) ?_)))))))
  refine zLV (γ 2) rfl (zLE m13 (zLE (show fn6 [ρ 14] (γ 2) = (0, ρ 15, γ 3) from l2.symm) (zLV (γ 3) rfl (zIP w_0 (zLV (ρ 15) rfl (zIP w_1 (zLE c4.symm ?_)))))))
  refine zLE c5.symm (zLE (show fn6 [ρ 14 + 1] (γ 5) = (0, (-1), γ 6) from l3.symm) (zLV (γ 6) rfl (zIN w_2 (zLE m14 (zIN w_3 (zLE (show fn19 [ρ 8] (γ 6) = (0, 0, γ 7) from l4.symm) (zLV (γ 7) rfl ?_)))))))
  refine zIN zQ0_ (zLE (show fn8 [ρ 0] (γ 7) = (0, 0, γ 8) from l5.symm) (zLV (γ 8) rfl ?_))
  rfl
theorem vn35_12 {S : Nat → zSpc} (hS6 : zIm S 6 sn6) (hS7 : zIm S 7 sn7) (hS8 : zIm S 8 sn8) (hS19 : zIm S 19 sn19) (hS33 : zIm S 33 sn33) (hS34 : zIm S 34 sn34) {a : List Int} {g : rHp} : ∀ (ρ : Nat → Int) (γ : Nat → rHp), zO 14 S a g q35_12 ρ γ → zGl (fun _ _ _ => True) (sn35 a g) q35_12 ρ γ := by
  intro ρ γ h
  obtain ⟨ha, hg, hr, hf, hm, hc, hl⟩ := h
  have ha : a = [ρ 0, ρ 1, ρ 2, ρ 3, ρ 4, ρ 5, ρ 6, ρ 7, ρ 8, ρ 9, ρ 10, ρ 11, ρ 12, ρ 13] := ha
  subst ha
  subst hg
  have r15 : (60 : Int) ≤ ρ 15 ∧ ρ 15 ≤ 60 := zRnA hr 15
  have r16 : (1 : Int) ≤ ρ 16 ∧ ρ 16 ≤ 1 := zRnA hr 16
  have f2 : (0 : Int) ≤ -ρ 14 + ρ 2 + (-1) := zAllA hf 2
  have f10 : (0 : Int) ≤ ρ 14 + -ρ 2 + 1 := zAllA hf 10
  obtain ⟨w_0, w_1, w_2, w_3⟩ : (0 ≤ -ρ 14 + ρ 2 + (-1)) ∧ (ρ 15 = 60) ∧ (¬ (0 ≤ -ρ 14 + ρ 2 + (-2))) ∧ (¬ (ρ 16 ≠ 1)) := ⟨by omega, by omega, by omega, by omega⟩
  have m1 : γ 0 15 0 34 = ρ 2 := zAllA hm 1
  have m4 : γ 0 15 0 44 = ρ 5 := zAllA hm 4
  have m5 : γ 0 73 0 (ρ 5) = ρ 6 := zAllA hm 5
  have m7 : γ 0 81 0 (4 * ρ 6 + 32 * ρ 5) = ρ 8 := zAllA hm 7
  have m13 : γ 2 15 0 35 = ρ 14 := zAllA hm 13
  have m14 : γ 0 80 0 (4 * ρ 6 + 32 * ρ 5) = ρ 16 := zAllA hm 14
  have c4 : γ 4 = rUp (γ 3) 15 0 35 (ρ 14 + 1) := And.right (zChA hc 4)
  have c5 : γ 5 = rUp (γ 4) 77 0 (ρ 6 + 8 * ρ 5) 2 := And.right (zChA hc 3)
  have l0 : sn33 [ρ 5, ρ 6] (γ 0) 0 (ρ 6 + 8 * ρ 5) (γ 1) := hS33 _ _ _ _ _ (zAllA hl 0)
  have l1 : sn7 [ρ 1, ρ 2] (γ 1) 0 0 (γ 2) := hS7 _ _ _ _ _ (zAllA hl 1)
  have l2 : sn6 [ρ 14, ρ 2] (γ 2) 0 (ρ 15) (γ 3) := hS6 _ _ _ _ _ (zAllA hl 2)
  have l3 : sn6 [ρ 14 + 1, ρ 2] (γ 5) 0 (-1) (γ 6) := hS6 _ _ _ _ _ (zAllA hl 3)
  have l4 : sn19 [ρ 8, ρ 13] (γ 6) 0 1 (γ 7) := hS19 _ _ _ _ _ (zAllA hl 4)
  have l5 : sn34 [1, ρ 14 + 1, ρ 2, ρ 3, ρ 4, ρ 5, ρ 6, 2, ρ 8, ρ 9, ρ 10, ρ 11, ρ 12, ρ 13] (γ 7) 0 0 (γ 8) := hS34 _ _ _ _ _ (zAllA hl 5)
  show sn35 [ρ 0, ρ 1, ρ 2, ρ 3, ρ 4, ρ 5, ρ 6, ρ 7, ρ 8, ρ 9, ρ 10, ρ 11, ρ 12, ρ 13] (γ 0) 0 0 (γ 8)
  refine Eq.symm ?_
  show fn35 [ρ 0] (γ 0) = _
  unfold fn35
  refine zLV (ρ 0) rfl (zLE m1 (zLE m4 (zLE m5 (zLE m7 (zLE (show fn33 [] (γ 0) = (0, ρ 6 + 8 * ρ 5, γ 1) from l0.symm) (zLV (γ 1) rfl (zLE (show fn7 [] (γ 1) = (0, 0, γ 2) from l1.symm) ?_)))))))
  refine zLV (γ 2) rfl (zLE m13 (zLE (show fn6 [ρ 14] (γ 2) = (0, ρ 15, γ 3) from l2.symm) (zLV (γ 3) rfl (zIP w_0 (zLV (ρ 15) rfl (zIP w_1 (zLE c4.symm ?_)))))))
  refine zLE c5.symm (zLE (show fn6 [ρ 14 + 1] (γ 5) = (0, (-1), γ 6) from l3.symm) (zLV (γ 6) rfl (zIN w_2 (zLE m14 (zIN w_3 (zLE (show fn19 [ρ 8] (γ 6) = (0, 1, γ 7) from l4.symm) (zLV (γ 7) rfl ?_)))))))
  refine zIP zQ1_ (zLE (show fn34 [1] (γ 7) = (0, 0, γ 8) from l5.symm) (zLV (γ 8) rfl ?_))
  rfl
theorem vn35_13 {S : Nat → zSpc} (hS6 : zIm S 6 sn6) (hS7 : zIm S 7 sn7) (hS8 : zIm S 8 sn8) (hS19 : zIm S 19 sn19) (hS33 : zIm S 33 sn33) (hS34 : zIm S 34 sn34) {a : List Int} {g : rHp} : ∀ (ρ : Nat → Int) (γ : Nat → rHp), zO 14 S a g q35_13 ρ γ → zGl (fun _ _ _ => True) (sn35 a g) q35_13 ρ γ := by
  intro ρ γ h
  obtain ⟨ha, hg, hr, hf, hm, hc, hl⟩ := h
  have ha : a = [ρ 0, ρ 1, ρ 2, ρ 3, ρ 4, ρ 5, ρ 6, ρ 7, ρ 8, ρ 9, ρ 10, ρ 11, ρ 12, ρ 13] := ha
  subst ha
  subst hg
  have r15 : (61 : Int) ≤ ρ 15 ∧ ρ 15 ≤ 61 := zRnA hr 15
  have r16 : (0 : Int) ≤ ρ 16 ∧ ρ 16 ≤ 3 := zRnA hr 16
  have f2 : (0 : Int) ≤ -ρ 14 + ρ 2 + (-1) := zAllA hf 2
  obtain ⟨w_0, w_1, w_2⟩ : (0 ≤ -ρ 14 + ρ 2 + (-1)) ∧ (¬ (ρ 15 = 60)) ∧ (ρ 15 = 61) := ⟨by omega, by omega, by omega⟩
  have m1 : γ 0 15 0 34 = ρ 2 := zAllA hm 1
  have m4 : γ 0 15 0 44 = ρ 5 := zAllA hm 4
  have m5 : γ 0 73 0 (ρ 5) = ρ 6 := zAllA hm 5
  have m7 : γ 0 81 0 (4 * ρ 6 + 32 * ρ 5) = ρ 8 := zAllA hm 7
  have m13 : γ 2 15 0 35 = ρ 14 := zAllA hm 13
  have m14 : γ 0 80 0 (4 * ρ 6 + 32 * ρ 5) = ρ 16 := zAllA hm 14
  have c4 : γ 4 = rUp (γ 3) 15 0 35 (ρ 14 + 1) := And.right (zChA hc 2)
  have c5 : γ 5 = rUp (γ 4) 77 0 (ρ 6 + 8 * ρ 5) 3 := And.right (zChA hc 1)
  have l0 : sn33 [ρ 5, ρ 6] (γ 0) 0 (ρ 6 + 8 * ρ 5) (γ 1) := hS33 _ _ _ _ _ (zAllA hl 0)
  have l1 : sn7 [ρ 1, ρ 2] (γ 1) 0 0 (γ 2) := hS7 _ _ _ _ _ (zAllA hl 1)
  have l2 : sn6 [ρ 14, ρ 2] (γ 2) 0 (ρ 15) (γ 3) := hS6 _ _ _ _ _ (zAllA hl 2)
  have l3 : ρ 15 ≠ 60 := zAllA hl 3
  have l4 : ρ 16 ≠ 1 := zAllA hl 4
  have l5 : sn34 [1, ρ 14 + 1, ρ 2, ρ 3, ρ 4, ρ 5, ρ 6, 3, ρ 8, ρ 9, ρ 10, ρ 11, ρ 12, ρ 13] (γ 5) 0 0 (γ 6) := hS34 _ _ _ _ _ (zAllA hl 5)
  have wl_0 : ρ 16 ≠ 1 := by omega
  show sn35 [ρ 0, ρ 1, ρ 2, ρ 3, ρ 4, ρ 5, ρ 6, ρ 7, ρ 8, ρ 9, ρ 10, ρ 11, ρ 12, ρ 13] (γ 0) 0 0 (γ 6)
  refine Eq.symm ?_
  show fn35 [ρ 0] (γ 0) = _
  unfold fn35
  refine zLV (ρ 0) rfl (zLE m1 (zLE m4 (zLE m5 (zLE m7 (zLE (show fn33 [] (γ 0) = (0, ρ 6 + 8 * ρ 5, γ 1) from l0.symm) (zLV (γ 1) rfl (zLE (show fn7 [] (γ 1) = (0, 0, γ 2) from l1.symm) ?_)))))))
  refine zLV (γ 2) rfl (zLE m13 (zLE (show fn6 [ρ 14] (γ 2) = (0, ρ 15, γ 3) from l2.symm) (zLV (γ 3) rfl (zIP w_0 (zLV (ρ 15) rfl (zIN w_1 (zIP w_2 ?_)))))))
  refine zLE c4.symm (zLE c5.symm (zLE m14 (zIP wl_0 (zLE (show fn34 [1] (γ 5) = (0, 0, γ 6) from l5.symm) (zLV (γ 6) rfl (zIN zQ0_ ?_))))))
  rfl
theorem vn35_14 {S : Nat → zSpc} (hS6 : zIm S 6 sn6) (hS7 : zIm S 7 sn7) (hS8 : zIm S 8 sn8) (hS19 : zIm S 19 sn19) (hS33 : zIm S 33 sn33) (hS34 : zIm S 34 sn34) {a : List Int} {g : rHp} : ∀ (ρ : Nat → Int) (γ : Nat → rHp), zO 14 S a g q35_14 ρ γ → zGl (fun _ _ _ => True) (sn35 a g) q35_14 ρ γ := by
  intro ρ γ h
  obtain ⟨ha, hg, hr, hf, hm, hc, hl⟩ := h
  have ha : a = [ρ 0, ρ 1, ρ 2, ρ 3, ρ 4, ρ 5, ρ 6, ρ 7, ρ 8, ρ 9, ρ 10, ρ 11, ρ 12, ρ 13] := ha
  subst ha
  subst hg
  have r15 : (61 : Int) ≤ ρ 15 ∧ ρ 15 ≤ 61 := zRnA hr 15
  have r16 : (0 : Int) ≤ ρ 16 ∧ ρ 16 ≤ 3 := zRnA hr 16
  have f2 : (0 : Int) ≤ -ρ 14 + ρ 2 + (-1) := zAllA hf 2
  obtain ⟨w_0, w_1, w_2⟩ : (0 ≤ -ρ 14 + ρ 2 + (-1)) ∧ (¬ (ρ 15 = 60)) ∧ (ρ 15 = 61) := ⟨by omega, by omega, by omega⟩
  have m1 : γ 0 15 0 34 = ρ 2 := zAllA hm 1
  have m4 : γ 0 15 0 44 = ρ 5 := zAllA hm 4
  have m5 : γ 0 73 0 (ρ 5) = ρ 6 := zAllA hm 5
  have m7 : γ 0 81 0 (4 * ρ 6 + 32 * ρ 5) = ρ 8 := zAllA hm 7
  have m13 : γ 2 15 0 35 = ρ 14 := zAllA hm 13
  have m14 : γ 0 80 0 (4 * ρ 6 + 32 * ρ 5) = ρ 16 := zAllA hm 14
  have c4 : γ 4 = rUp (γ 3) 15 0 35 (ρ 14 + 1) := And.right (zChA hc 2)
  have c5 : γ 5 = rUp (γ 4) 77 0 (ρ 6 + 8 * ρ 5) 3 := And.right (zChA hc 1)
  have l0 : sn33 [ρ 5, ρ 6] (γ 0) 0 (ρ 6 + 8 * ρ 5) (γ 1) := hS33 _ _ _ _ _ (zAllA hl 0)
  have l1 : sn7 [ρ 1, ρ 2] (γ 1) 0 0 (γ 2) := hS7 _ _ _ _ _ (zAllA hl 1)
  have l2 : sn6 [ρ 14, ρ 2] (γ 2) 0 (ρ 15) (γ 3) := hS6 _ _ _ _ _ (zAllA hl 2)
  have l3 : ρ 15 ≠ 60 := zAllA hl 3
  have l4 : ρ 16 ≠ 1 := zAllA hl 4
  have l5 : sn34 [1, ρ 14 + 1, ρ 2, ρ 3, ρ 4, ρ 5, ρ 6, 3, ρ 8, ρ 9, ρ 10, ρ 11, ρ 12, ρ 13] (γ 5) 0 1 (γ 6) := hS34 _ _ _ _ _ (zAllA hl 5)
  have wl_0 : ρ 16 ≠ 1 := by omega
  show sn35 [ρ 0, ρ 1, ρ 2, ρ 3, ρ 4, ρ 5, ρ 6, ρ 7, ρ 8, ρ 9, ρ 10, ρ 11, ρ 12, ρ 13] (γ 0) 0 1 (γ 6)
  refine Eq.symm ?_
  show fn35 [ρ 0] (γ 0) = _
  unfold fn35
  refine zLV (ρ 0) rfl (zLE m1 (zLE m4 (zLE m5 (zLE m7 (zLE (show fn33 [] (γ 0) = (0, ρ 6 + 8 * ρ 5, γ 1) from l0.symm) (zLV (γ 1) rfl (zLE (show fn7 [] (γ 1) = (0, 0, γ 2) from l1.symm) ?_)))))))
  refine zLV (γ 2) rfl (zLE m13 (zLE (show fn6 [ρ 14] (γ 2) = (0, ρ 15, γ 3) from l2.symm) (zLV (γ 3) rfl (zIP w_0 (zLV (ρ 15) rfl (zIN w_1 (zIP w_2 ?_)))))))
  refine zLE c4.symm (zLE c5.symm (zLE m14 (zIP wl_0 (zLE (show fn34 [1] (γ 5) = (0, 1, γ 6) from l5.symm) (zLV (γ 6) rfl (zIP zQ1_ ?_))))))
  rfl
theorem vn35_15 {S : Nat → zSpc} (hS6 : zIm S 6 sn6) (hS7 : zIm S 7 sn7) (hS8 : zIm S 8 sn8) (hS19 : zIm S 19 sn19) (hS33 : zIm S 33 sn33) (hS34 : zIm S 34 sn34) {a : List Int} {g : rHp} : ∀ (ρ : Nat → Int) (γ : Nat → rHp), zO 14 S a g q35_15 ρ γ → zGl (fun _ _ _ => True) (sn35 a g) q35_15 ρ γ := by
  intro ρ γ h
  obtain ⟨ha, hg, hr, hf, hm, hc, hl⟩ := h
  have ha : a = [ρ 0, ρ 1, ρ 2, ρ 3, ρ 4, ρ 5, ρ 6, ρ 7, ρ 8, ρ 9, ρ 10, ρ 11, ρ 12, ρ 13] := ha
  subst ha
  subst hg
  have r15 : (61 : Int) ≤ ρ 15 ∧ ρ 15 ≤ 61 := zRnA hr 15
  have r16 : (1 : Int) ≤ ρ 16 ∧ ρ 16 ≤ 1 := zRnA hr 16
  have f2 : (0 : Int) ≤ -ρ 14 + ρ 2 + (-1) := zAllA hf 2
  obtain ⟨w_0, w_1, w_2, w_3⟩ : (0 ≤ -ρ 14 + ρ 2 + (-1)) ∧ (¬ (ρ 15 = 60)) ∧ (ρ 15 = 61) ∧ (¬ (ρ 16 ≠ 1)) := ⟨by omega, by omega, by omega, by omega⟩
  have m1 : γ 0 15 0 34 = ρ 2 := zAllA hm 1
  have m4 : γ 0 15 0 44 = ρ 5 := zAllA hm 4
  have m5 : γ 0 73 0 (ρ 5) = ρ 6 := zAllA hm 5
  have m7 : γ 0 81 0 (4 * ρ 6 + 32 * ρ 5) = ρ 8 := zAllA hm 7
  have m13 : γ 2 15 0 35 = ρ 14 := zAllA hm 13
  have m14 : γ 0 80 0 (4 * ρ 6 + 32 * ρ 5) = ρ 16 := zAllA hm 14
  have c4 : γ 4 = rUp (γ 3) 15 0 35 (ρ 14 + 1) := And.right (zChA hc 3)
  have c5 : γ 5 = rUp (γ 4) 77 0 (ρ 6 + 8 * ρ 5) 3 := And.right (zChA hc 2)
  have l0 : sn33 [ρ 5, ρ 6] (γ 0) 0 (ρ 6 + 8 * ρ 5) (γ 1) := hS33 _ _ _ _ _ (zAllA hl 0)
  have l1 : sn7 [ρ 1, ρ 2] (γ 1) 0 0 (γ 2) := hS7 _ _ _ _ _ (zAllA hl 1)
  have l2 : sn6 [ρ 14, ρ 2] (γ 2) 0 (ρ 15) (γ 3) := hS6 _ _ _ _ _ (zAllA hl 2)
  have l3 : ρ 15 ≠ 60 := zAllA hl 3
  have l4 : sn19 [ρ 8, ρ 13] (γ 5) 0 0 (γ 6) := hS19 _ _ _ _ _ (zAllA hl 4)
  have l5 : sn8 [ρ 0, ρ 2, ρ 9] (γ 6) 0 0 (γ 7) := hS8 _ _ _ _ _ (zAllA hl 5)
  show sn35 [ρ 0, ρ 1, ρ 2, ρ 3, ρ 4, ρ 5, ρ 6, ρ 7, ρ 8, ρ 9, ρ 10, ρ 11, ρ 12, ρ 13] (γ 0) 0 0 (γ 7)
  refine Eq.symm ?_
  show fn35 [ρ 0] (γ 0) = _
  unfold fn35
  refine zLV (ρ 0) rfl (zLE m1 (zLE m4 (zLE m5 (zLE m7 (zLE (show fn33 [] (γ 0) = (0, ρ 6 + 8 * ρ 5, γ 1) from l0.symm) (zLV (γ 1) rfl (zLE (show fn7 [] (γ 1) = (0, 0, γ 2) from l1.symm) ?_)))))))
  refine zLV (γ 2) rfl (zLE m13 (zLE (show fn6 [ρ 14] (γ 2) = (0, ρ 15, γ 3) from l2.symm) (zLV (γ 3) rfl (zIP w_0 (zLV (ρ 15) rfl (zIN w_1 (zIP w_2 ?_)))))))
  refine zLE c4.symm (zLE c5.symm (zLE m14 (zIN w_3 (zLE (show fn19 [ρ 8] (γ 5) = (0, 0, γ 6) from l4.symm) (zLV (γ 6) rfl (zIN zQ0_ (zLE (show fn8 [ρ 0] (γ 6) = (0, 0, γ 7) from l5.symm) ?_)))))))
  refine zLV (γ 7) rfl ?_
  rfl
theorem vn35_16 {S : Nat → zSpc} (hS6 : zIm S 6 sn6) (hS7 : zIm S 7 sn7) (hS8 : zIm S 8 sn8) (hS19 : zIm S 19 sn19) (hS33 : zIm S 33 sn33) (hS34 : zIm S 34 sn34) {a : List Int} {g : rHp} : ∀ (ρ : Nat → Int) (γ : Nat → rHp), zO 14 S a g q35_16 ρ γ → zGl (fun _ _ _ => True) (sn35 a g) q35_16 ρ γ := by
  intro ρ γ h
  obtain ⟨ha, hg, hr, hf, hm, hc, hl⟩ := h
  have ha : a = [ρ 0, ρ 1, ρ 2, ρ 3, ρ 4, ρ 5, ρ 6, ρ 7, ρ 8, ρ 9, ρ 10, ρ 11, ρ 12, ρ 13] := ha
  subst ha
  subst hg
  have r15 : (61 : Int) ≤ ρ 15 ∧ ρ 15 ≤ 61 := zRnA hr 15
  have r16 : (1 : Int) ≤ ρ 16 ∧ ρ 16 ≤ 1 := zRnA hr 16
  have f2 : (0 : Int) ≤ -ρ 14 + ρ 2 + (-1) := zAllA hf 2
  obtain ⟨w_0, w_1, w_2, w_3⟩ : (0 ≤ -ρ 14 + ρ 2 + (-1)) ∧ (¬ (ρ 15 = 60)) ∧ (ρ 15 = 61) ∧ (¬ (ρ 16 ≠ 1)) := ⟨by omega, by omega, by omega, by omega⟩
  have m1 : γ 0 15 0 34 = ρ 2 := zAllA hm 1
  have m4 : γ 0 15 0 44 = ρ 5 := zAllA hm 4
  have m5 : γ 0 73 0 (ρ 5) = ρ 6 := zAllA hm 5
  have m7 : γ 0 81 0 (4 * ρ 6 + 32 * ρ 5) = ρ 8 := zAllA hm 7
  have m13 : γ 2 15 0 35 = ρ 14 := zAllA hm 13
  have m14 : γ 0 80 0 (4 * ρ 6 + 32 * ρ 5) = ρ 16 := zAllA hm 14
  have c4 : γ 4 = rUp (γ 3) 15 0 35 (ρ 14 + 1) := And.right (zChA hc 3)
  have c5 : γ 5 = rUp (γ 4) 77 0 (ρ 6 + 8 * ρ 5) 3 := And.right (zChA hc 2)
  have l0 : sn33 [ρ 5, ρ 6] (γ 0) 0 (ρ 6 + 8 * ρ 5) (γ 1) := hS33 _ _ _ _ _ (zAllA hl 0)
  have l1 : sn7 [ρ 1, ρ 2] (γ 1) 0 0 (γ 2) := hS7 _ _ _ _ _ (zAllA hl 1)
  have l2 : sn6 [ρ 14, ρ 2] (γ 2) 0 (ρ 15) (γ 3) := hS6 _ _ _ _ _ (zAllA hl 2)
  have l3 : ρ 15 ≠ 60 := zAllA hl 3
  have l4 : sn19 [ρ 8, ρ 13] (γ 5) 0 1 (γ 6) := hS19 _ _ _ _ _ (zAllA hl 4)
  have l5 : sn34 [1, ρ 14 + 1, ρ 2, ρ 3, ρ 4, ρ 5, ρ 6, 3, ρ 8, ρ 9, ρ 10, ρ 11, ρ 12, ρ 13] (γ 6) 0 0 (γ 7) := hS34 _ _ _ _ _ (zAllA hl 5)
  show sn35 [ρ 0, ρ 1, ρ 2, ρ 3, ρ 4, ρ 5, ρ 6, ρ 7, ρ 8, ρ 9, ρ 10, ρ 11, ρ 12, ρ 13] (γ 0) 0 0 (γ 7)
  refine Eq.symm ?_
  show fn35 [ρ 0] (γ 0) = _
  unfold fn35
  refine zLV (ρ 0) rfl (zLE m1 (zLE m4 (zLE m5 (zLE m7 (zLE (show fn33 [] (γ 0) = (0, ρ 6 + 8 * ρ 5, γ 1) from l0.symm) (zLV (γ 1) rfl (zLE (show fn7 [] (γ 1) = (0, 0, γ 2) from l1.symm) ?_)))))))
  refine zLV (γ 2) rfl (zLE m13 (zLE (show fn6 [ρ 14] (γ 2) = (0, ρ 15, γ 3) from l2.symm) (zLV (γ 3) rfl (zIP w_0 (zLV (ρ 15) rfl (zIN w_1 (zIP w_2 ?_)))))))
  refine zLE c4.symm (zLE c5.symm (zLE m14 (zIN w_3 (zLE (show fn19 [ρ 8] (γ 5) = (0, 1, γ 6) from l4.symm) (zLV (γ 6) rfl (zIP zQ1_ (zLE (show fn34 [1] (γ 6) = (0, 0, γ 7) from l5.symm) ?_)))))))
  refine zLV (γ 7) rfl (zIN zQ0_ ?_)
  rfl
theorem vn35_17 {S : Nat → zSpc} (hS6 : zIm S 6 sn6) (hS7 : zIm S 7 sn7) (hS8 : zIm S 8 sn8) (hS19 : zIm S 19 sn19) (hS33 : zIm S 33 sn33) (hS34 : zIm S 34 sn34) {a : List Int} {g : rHp} : ∀ (ρ : Nat → Int) (γ : Nat → rHp), zO 14 S a g q35_17 ρ γ → zGl (fun _ _ _ => True) (sn35 a g) q35_17 ρ γ := by
  intro ρ γ h
  obtain ⟨ha, hg, hr, hf, hm, hc, hl⟩ := h
  have ha : a = [ρ 0, ρ 1, ρ 2, ρ 3, ρ 4, ρ 5, ρ 6, ρ 7, ρ 8, ρ 9, ρ 10, ρ 11, ρ 12, ρ 13] := ha
  subst ha
  subst hg
  have r15 : (61 : Int) ≤ ρ 15 ∧ ρ 15 ≤ 61 := zRnA hr 15
  have r16 : (1 : Int) ≤ ρ 16 ∧ ρ 16 ≤ 1 := zRnA hr 16
  have f2 : (0 : Int) ≤ -ρ 14 + ρ 2 + (-1) := zAllA hf 2
  obtain ⟨w_0, w_1, w_2, w_3⟩ : (0 ≤ -ρ 14 + ρ 2 + (-1)) ∧ (¬ (ρ 15 = 60)) ∧ (ρ 15 = 61) ∧ (¬ (ρ 16 ≠ 1)) := ⟨by omega, by omega, by omega, by omega⟩
  have m1 : γ 0 15 0 34 = ρ 2 := zAllA hm 1
  have m4 : γ 0 15 0 44 = ρ 5 := zAllA hm 4
  have m5 : γ 0 73 0 (ρ 5) = ρ 6 := zAllA hm 5
  have m7 : γ 0 81 0 (4 * ρ 6 + 32 * ρ 5) = ρ 8 := zAllA hm 7
  have m13 : γ 2 15 0 35 = ρ 14 := zAllA hm 13
  have m14 : γ 0 80 0 (4 * ρ 6 + 32 * ρ 5) = ρ 16 := zAllA hm 14
  have c4 : γ 4 = rUp (γ 3) 15 0 35 (ρ 14 + 1) := And.right (zChA hc 3)
  have c5 : γ 5 = rUp (γ 4) 77 0 (ρ 6 + 8 * ρ 5) 3 := And.right (zChA hc 2)
  have l0 : sn33 [ρ 5, ρ 6] (γ 0) 0 (ρ 6 + 8 * ρ 5) (γ 1) := hS33 _ _ _ _ _ (zAllA hl 0)
  have l1 : sn7 [ρ 1, ρ 2] (γ 1) 0 0 (γ 2) := hS7 _ _ _ _ _ (zAllA hl 1)
  have l2 : sn6 [ρ 14, ρ 2] (γ 2) 0 (ρ 15) (γ 3) := hS6 _ _ _ _ _ (zAllA hl 2)
  have l3 : ρ 15 ≠ 60 := zAllA hl 3
  have l4 : sn19 [ρ 8, ρ 13] (γ 5) 0 1 (γ 6) := hS19 _ _ _ _ _ (zAllA hl 4)
  have l5 : sn34 [1, ρ 14 + 1, ρ 2, ρ 3, ρ 4, ρ 5, ρ 6, 3, ρ 8, ρ 9, ρ 10, ρ 11, ρ 12, ρ 13] (γ 6) 0 1 (γ 7) := hS34 _ _ _ _ _ (zAllA hl 5)
  show sn35 [ρ 0, ρ 1, ρ 2, ρ 3, ρ 4, ρ 5, ρ 6, ρ 7, ρ 8, ρ 9, ρ 10, ρ 11, ρ 12, ρ 13] (γ 0) 0 1 (γ 7)
  refine Eq.symm ?_
  show fn35 [ρ 0] (γ 0) = _
  unfold fn35
  refine zLV (ρ 0) rfl (zLE m1 (zLE m4 (zLE m5 (zLE m7 (zLE (show fn33 [] (γ 0) = (0, ρ 6 + 8 * ρ 5, γ 1) from l0.symm) (zLV (γ 1) rfl (zLE (show fn7 [] (γ 1) = (0, 0, γ 2) from l1.symm) ?_)))))))
  refine zLV (γ 2) rfl (zLE m13 (zLE (show fn6 [ρ 14] (γ 2) = (0, ρ 15, γ 3) from l2.symm) (zLV (γ 3) rfl (zIP w_0 (zLV (ρ 15) rfl (zIN w_1 (zIP w_2 ?_)))))))
  refine zLE c4.symm (zLE c5.symm (zLE m14 (zIN w_3 (zLE (show fn19 [ρ 8] (γ 5) = (0, 1, γ 6) from l4.symm) (zLV (γ 6) rfl (zIP zQ1_ (zLE (show fn34 [1] (γ 6) = (0, 1, γ 7) from l5.symm) ?_)))))))
  refine zLV (γ 7) rfl (zIP zQ1_ ?_)
  rfl
theorem vn35_18 {S : Nat → zSpc} (hS6 : zIm S 6 sn6) (hS7 : zIm S 7 sn7) (hS8 : zIm S 8 sn8) (hS19 : zIm S 19 sn19) (hS33 : zIm S 33 sn33) (hS34 : zIm S 34 sn34) {a : List Int} {g : rHp} : ∀ (ρ : Nat → Int) (γ : Nat → rHp), zO 14 S a g q35_18 ρ γ → zGl (fun _ _ _ => True) (sn35 a g) q35_18 ρ γ := by
  intro ρ γ h
  obtain ⟨ha, hg, hr, hf, hm, hc, hl⟩ := h
  have ha : a = [ρ 0, ρ 1, ρ 2, ρ 3, ρ 4, ρ 5, ρ 6, ρ 7, ρ 8, ρ 9, ρ 10, ρ 11, ρ 12, ρ 13] := ha
  subst ha
  subst hg
  have r15 : ((-128) : Int) ≤ ρ 15 ∧ ρ 15 ≤ 127 := zRnA hr 15
  have f2 : (0 : Int) ≤ -ρ 14 + ρ 2 + (-1) := zAllA hf 2
  have w_0 : 0 ≤ -ρ 14 + ρ 2 + (-1) := by omega
  have m1 : γ 0 15 0 34 = ρ 2 := zAllA hm 1
  have m4 : γ 0 15 0 44 = ρ 5 := zAllA hm 4
  have m5 : γ 0 73 0 (ρ 5) = ρ 6 := zAllA hm 5
  have m7 : γ 0 81 0 (4 * ρ 6 + 32 * ρ 5) = ρ 8 := zAllA hm 7
  have m13 : γ 2 15 0 35 = ρ 14 := zAllA hm 13
  have l0 : sn33 [ρ 5, ρ 6] (γ 0) 0 (ρ 6 + 8 * ρ 5) (γ 1) := hS33 _ _ _ _ _ (zAllA hl 0)
  have l1 : sn7 [ρ 1, ρ 2] (γ 1) 0 0 (γ 2) := hS7 _ _ _ _ _ (zAllA hl 1)
  have l2 : sn6 [ρ 14, ρ 2] (γ 2) 0 (ρ 15) (γ 3) := hS6 _ _ _ _ _ (zAllA hl 2)
  have l3 : ρ 15 ≠ 60 := zAllA hl 3
  have l4 : ρ 15 ≠ 61 := zAllA hl 4
  have l5 : sn8 [ρ 14, ρ 2, ρ 9] (γ 3) 0 0 (γ 4) := hS8 _ _ _ _ _ (zAllA hl 5)
  obtain ⟨wl_0, wl_1⟩ : (¬ (ρ 15 = 60)) ∧ (¬ (ρ 15 = 61)) := ⟨by omega, by omega⟩
  show sn35 [ρ 0, ρ 1, ρ 2, ρ 3, ρ 4, ρ 5, ρ 6, ρ 7, ρ 8, ρ 9, ρ 10, ρ 11, ρ 12, ρ 13] (γ 0) 0 0 (γ 4)
  refine Eq.symm ?_
  show fn35 [ρ 0] (γ 0) = _
  unfold fn35
  refine zLV (ρ 0) rfl (zLE m1 (zLE m4 (zLE m5 (zLE m7 (zLE (show fn33 [] (γ 0) = (0, ρ 6 + 8 * ρ 5, γ 1) from l0.symm) (zLV (γ 1) rfl (zLE (show fn7 [] (γ 1) = (0, 0, γ 2) from l1.symm) ?_)))))))
  refine zLV (γ 2) rfl (zLE m13 (zLE (show fn6 [ρ 14] (γ 2) = (0, ρ 15, γ 3) from l2.symm) (zLV (γ 3) rfl (zIP w_0 (zLV (ρ 15) rfl (zIN wl_0 (zIN wl_1 ?_)))))))
  refine zLE (show fn8 [ρ 14] (γ 3) = (0, 0, γ 4) from l5.symm) (zLV (γ 4) rfl ?_)
  rfl
theorem vn35_19 {S : Nat → zSpc} (hS6 : zIm S 6 sn6) (hS7 : zIm S 7 sn7) (hS8 : zIm S 8 sn8) (hS19 : zIm S 19 sn19) (hS33 : zIm S 33 sn33) (hS34 : zIm S 34 sn34) {a : List Int} {g : rHp} : ∀ (ρ : Nat → Int) (γ : Nat → rHp), zO 14 S a g q35_19 ρ γ → zGl (fun _ _ _ => True) (sn35 a g) q35_19 ρ γ := by
  intro ρ γ h
  obtain ⟨ha, hg, hr, hf, hm, hc, hl⟩ := h
  have ha : a = [ρ 0, ρ 1, ρ 2, ρ 3, ρ 4, ρ 5, ρ 6, ρ 7, ρ 8, ρ 9, ρ 10, ρ 11, ρ 12, ρ 13] := ha
  subst ha
  subst hg
  have f2 : (0 : Int) ≤ ρ 14 + -ρ 2 := zAllA hf 2
  have w_0 : ¬ (0 ≤ -ρ 14 + ρ 2 + (-1)) := by omega
  have m1 : γ 0 15 0 34 = ρ 2 := zAllA hm 1
  have m4 : γ 0 15 0 44 = ρ 5 := zAllA hm 4
  have m5 : γ 0 73 0 (ρ 5) = ρ 6 := zAllA hm 5
  have m7 : γ 0 81 0 (4 * ρ 6 + 32 * ρ 5) = ρ 8 := zAllA hm 7
  have m13 : γ 2 15 0 35 = ρ 14 := zAllA hm 13
  have l0 : sn33 [ρ 5, ρ 6] (γ 0) 0 (ρ 6 + 8 * ρ 5) (γ 1) := hS33 _ _ _ _ _ (zAllA hl 0)
  have l1 : sn7 [ρ 1, ρ 2] (γ 1) 0 0 (γ 2) := hS7 _ _ _ _ _ (zAllA hl 1)
  have l2 : sn6 [ρ 14, ρ 2] (γ 2) 0 (-1) (γ 3) := hS6 _ _ _ _ _ (zAllA hl 2)
  have l3 : sn8 [ρ 14, ρ 2, ρ 9] (γ 3) 0 0 (γ 4) := hS8 _ _ _ _ _ (zAllA hl 3)
  show sn35 [ρ 0, ρ 1, ρ 2, ρ 3, ρ 4, ρ 5, ρ 6, ρ 7, ρ 8, ρ 9, ρ 10, ρ 11, ρ 12, ρ 13] (γ 0) 0 0 (γ 4)
  refine Eq.symm ?_
  show fn35 [ρ 0] (γ 0) = _
  unfold fn35
  refine zLV (ρ 0) rfl (zLE m1 (zLE m4 (zLE m5 (zLE m7 (zLE (show fn33 [] (γ 0) = (0, ρ 6 + 8 * ρ 5, γ 1) from l0.symm) (zLV (γ 1) rfl (zLE (show fn7 [] (γ 1) = (0, 0, γ 2) from l1.symm) ?_)))))))
  refine zLV (γ 2) rfl (zLE m13 (zLE (show fn6 [ρ 14] (γ 2) = (0, (-1), γ 3) from l2.symm) (zLV (γ 3) rfl (zIN w_0 (zLE (show fn8 [ρ 14] (γ 3) = (0, 0, γ 4) from l3.symm) (zLV (γ 4) rfl ?_))))))
  rfl
theorem yn35 {S : Nat → zSpc} (hS6 : zIm S 6 sn6) (hS7 : zIm S 7 sn7) (hS8 : zIm S 8 sn8) (hS19 : zIm S 19 sn19) (hS33 : zIm S 33 sn33) (hS34 : zIm S 34 sn34) : ∀ x g o v gz, zSem uW uT w35_.2.2.2.1 w35_.2.2.1.1.length S q35 (fun i => q35a.getD i []) (zNA a35_) x g o v gz → sn35 x g o v gz := by
  intro a g o v gz h
  exact zSem_all (l0 := q35) (las := q35a) (S := S) (J := (fun _ _ _ => True)) (P := sn35 a g) (fun _ => (show zAll _ [q35_0, q35_1, q35_2, q35_3, q35_4, q35_5, q35_6, q35_7, q35_8, q35_9, q35_10, q35_11, q35_12, q35_13, q35_14, q35_15, q35_16, q35_17, q35_18, q35_19] from (zAll_c (vn35_0 hS6 hS7 hS8 hS19 hS33 hS34) (zAll_c (vn35_1 hS6 hS7 hS8 hS19 hS33 hS34) (zAll_c (vn35_2 hS6 hS7 hS8 hS19 hS33 hS34) (zAll_c (vn35_3 hS6 hS7 hS8 hS19 hS33 hS34) (zAll_c (vn35_4 hS6 hS7 hS8 hS19 hS33 hS34) (zAll_c (vn35_5 hS6 hS7 hS8 hS19 hS33 hS34) (zAll_c (vn35_6 hS6 hS7 hS8 hS19 hS33 hS34) (zAll_c (vn35_7 hS6 hS7 hS8 hS19 hS33 hS34) (zAll_c (vn35_8 hS6 hS7 hS8 hS19 hS33 hS34) (zAll_c (vn35_9 hS6 hS7 hS8 hS19 hS33 hS34) (zAll_c (vn35_10 hS6 hS7 hS8 hS19 hS33 hS34) (zAll_c (vn35_11 hS6 hS7 hS8 hS19 hS33 hS34) (zAll_c (vn35_12 hS6 hS7 hS8 hS19 hS33 hS34) (zAll_c (vn35_13 hS6 hS7 hS8 hS19 hS33 hS34) (zAll_c (vn35_14 hS6 hS7 hS8 hS19 hS33 hS34) (zAll_c (vn35_15 hS6 hS7 hS8 hS19 hS33 hS34) (zAll_c (vn35_16 hS6 hS7 hS8 hS19 hS33 hS34) (zAll_c (vn35_17 hS6 hS7 hS8 hS19 hS33 hS34) (zAll_c (vn35_18 hS6 hS7 hS8 hS19 hS33 hS34) (zAll_c (vn35_19 hS6 hS7 hS8 hS19 hS33 hS34) zAll_n)))))))))))))))))))))) (fun _ => (show zAllI _ 0 [] from trivial)) h
