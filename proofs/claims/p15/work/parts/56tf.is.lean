/-! ===== the runs are the functions ===== -/
theorem vn78_0 {S : Nat → zSpc} (hS1 : zIm S 1 sn1) (hS76 : zIm S 76 sn76) (hS77 : zIm S 77 sn77) {a : List Int} {g : rHp} : ∀ (ρ : Nat → Int) (γ : Nat → rHp), zO 19 S a g q78_0 ρ γ → zGl (fun i vs g1 => jn78 a g i vs g1) (sn78 a g) q78_0 ρ γ := by
  intro ρ γ h
  obtain ⟨ha, hg, hr, hf, hm, hc, hl⟩ := h
  have ha : a = [ρ 0, ρ 1, ρ 2, ρ 3, ρ 4, ρ 5, ρ 6, ρ 7, ρ 8, ρ 9, ρ 10, ρ 11, ρ 12, ρ 13, ρ 14, ρ 15, ρ 16, ρ 17, ρ 18] := ha
  subst ha
  subst hg
  have m1 : γ 0 15 0 13 = ρ 1 := zAllA hm 1
  have c1 : γ 1 = rUp (γ 0) 15 0 93 0 := And.right (zChA hc 3)
  have c3 : γ 3 = rUp (γ 2) 15 0 59 0 := And.right (zChA hc 1)
  have c4 : γ 4 = rUp (γ 3) 15 0 0 1 := And.right (zChA hc 0)
  have l0 : sn77 [ρ 0, ρ 1, ρ 6, ρ 19, ρ 20, ρ 21, ρ 22, ρ 23, ρ 24, ρ 25, ρ 26, ρ 27, ρ 28, ρ 29, ρ 30, ρ 31, ρ 32, ρ 33, ρ 34, ρ 35, ρ 36, ρ 37, ρ 38, ρ 39] (γ 1) 0 0 (γ 2) := hS77 _ _ _ _ _ (zAllA hl 0)
  show sn78 [ρ 0, ρ 1, ρ 2, ρ 3, ρ 4, ρ 5, ρ 6, ρ 7, ρ 8, ρ 9, ρ 10, ρ 11, ρ 12, ρ 13, ρ 14, ρ 15, ρ 16, ρ 17, ρ 18] (γ 0) 0 0 (γ 4)
  have hD : dn78 [] (γ 0) = .inr (0, 0, γ 4) := by
    unfold dn78
    refine zLE m1 (zLE c1.symm (zLE (show fn77 [] (γ 1) = (0, 0, γ 2) from l0.symm) (zLV (γ 2) rfl (zIN zQ0_ (zLE c3.symm (zLE c4.symm ?_))))))
    rfl
  exact zGoo_end hD
theorem vn78_1 {S : Nat → zSpc} (hS1 : zIm S 1 sn1) (hS76 : zIm S 76 sn76) (hS77 : zIm S 77 sn77) {a : List Int} {g : rHp} : ∀ (ρ : Nat → Int) (γ : Nat → rHp), zO 19 S a g q78_1 ρ γ → zGl (fun i vs g1 => jn78 a g i vs g1) (sn78 a g) q78_1 ρ γ := by
  intro ρ γ h
  obtain ⟨ha, hg, hr, hf, hm, hc, hl⟩ := h
  have ha : a = [ρ 0, ρ 1, ρ 2, ρ 3, ρ 4, ρ 5, ρ 6, ρ 7, ρ 8, ρ 9, ρ 10, ρ 11, ρ 12, ρ 13, ρ 14, ρ 15, ρ 16, ρ 17, ρ 18] := ha
  subst ha
  subst hg
  have r1 : (0 : Int) ≤ ρ 1 ∧ ρ 1 ≤ 0 := zRnA hr 1
  have w_0 : 0 ≥ ρ 1 := by omega
  have m1 : γ 0 15 0 13 = ρ 1 := zAllA hm 1
  have c1 : γ 1 = rUp (γ 0) 15 0 93 0 := And.right (zChA hc 5)
  have c3 : γ 3 = rUp (γ 2) 15 0 71 0 := And.right (zChA hc 3)
  have c4 : γ 4 = rUp (γ 3) 15 0 72 0 := And.right (zChA hc 2)
  have c5 : γ 5 = rUp (γ 4) 15 0 73 0 := And.right (zChA hc 1)
  have c6 : γ 6 = rUp (γ 5) 15 0 77 0 := And.right (zChA hc 0)
  have l0 : sn77 [ρ 0, ρ 1, ρ 6, ρ 19, ρ 20, ρ 21, ρ 22, ρ 23, ρ 24, ρ 25, ρ 26, ρ 27, ρ 28, ρ 29, ρ 30, ρ 31, ρ 32, ρ 33, ρ 34, ρ 35, ρ 36, ρ 37, ρ 38, ρ 39] (γ 1) 0 1 (γ 2) := hS77 _ _ _ _ _ (zAllA hl 0)
  show jn78 [ρ 0, ρ 1, ρ 2, ρ 3, ρ 4, ρ 5, ρ 6, ρ 7, ρ 8, ρ 9, ρ 10, ρ 11, ρ 12, ρ 13, ρ 14, ρ 15, ρ 16, ρ 17, ρ 18] (γ 0) 0 [ρ 0, ρ 1, ρ 2, ρ 3, ρ 4, ρ 5, ρ 6, ρ 7, ρ 8, ρ 9, ρ 10, ρ 11, ρ 12, ρ 13, ρ 14, ρ 15, ρ 16, ρ 17, ρ 18, 0, 0, 0, 0, ρ 40, 0, ρ 12, ρ 13, ρ 14, ρ 15, ρ 16, 0] (γ 6)
  have hD : dn78 [] (γ 0) = .inl (0, [0], γ 6) := by
    unfold dn78
    refine zLE m1 (zLE c1.symm (zLE (show fn77 [] (γ 1) = (0, 1, γ 2) from l0.symm) (zLV (γ 2) rfl (zIP zQ1_ (zLE c3.symm (zLE c4.symm (zLE c5.symm ?_)))))))
    refine zLE c6.symm (zIP w_0 ?_)
    rfl
  exact zGoo_to hD
theorem vn78_2 {S : Nat → zSpc} (hS1 : zIm S 1 sn1) (hS76 : zIm S 76 sn76) (hS77 : zIm S 77 sn77) {a : List Int} {g : rHp} : ∀ (ρ : Nat → Int) (γ : Nat → rHp), zO 19 S a g q78_2 ρ γ → zGl (fun i vs g1 => jn78 a g i vs g1) (sn78 a g) q78_2 ρ γ := by
  intro ρ γ h
  obtain ⟨ha, hg, hr, hf, hm, hc, hl⟩ := h
  have ha : a = [ρ 0, ρ 1, ρ 2, ρ 3, ρ 4, ρ 5, ρ 6, ρ 7, ρ 8, ρ 9, ρ 10, ρ 11, ρ 12, ρ 13, ρ 14, ρ 15, ρ 16, ρ 17, ρ 18] := ha
  subst ha
  subst hg
  have r1 : (1 : Int) ≤ ρ 1 ∧ ρ 1 ≤ 1 := zRnA hr 1
  obtain ⟨w_0, w_1⟩ : (¬ (0 ≥ ρ 1)) ∧ (1 ≥ ρ 1) := ⟨by omega, by omega⟩
  have m1 : γ 0 15 0 13 = ρ 1 := zAllA hm 1
  have c1 : γ 1 = rUp (γ 0) 15 0 93 0 := And.right (zChA hc 6)
  have c3 : γ 3 = rUp (γ 2) 15 0 71 0 := And.right (zChA hc 4)
  have c4 : γ 4 = rUp (γ 3) 15 0 72 0 := And.right (zChA hc 3)
  have c5 : γ 5 = rUp (γ 4) 15 0 73 0 := And.right (zChA hc 2)
  have c6 : γ 6 = rUp (γ 5) 15 0 77 0 := And.right (zChA hc 1)
  have c7 : γ 7 = rUp (γ 6) 100 0 0 (-1) := And.right (zChA hc 0)
  have l0 : sn77 [ρ 0, ρ 1, ρ 6, ρ 19, ρ 20, ρ 21, ρ 22, ρ 23, ρ 24, ρ 25, ρ 26, ρ 27, ρ 28, ρ 29, ρ 30, ρ 31, ρ 32, ρ 33, ρ 34, ρ 35, ρ 36, ρ 37, ρ 38, ρ 39] (γ 1) 0 1 (γ 2) := hS77 _ _ _ _ _ (zAllA hl 0)
  show jn78 [ρ 0, ρ 1, ρ 2, ρ 3, ρ 4, ρ 5, ρ 6, ρ 7, ρ 8, ρ 9, ρ 10, ρ 11, ρ 12, ρ 13, ρ 14, ρ 15, ρ 16, ρ 17, ρ 18] (γ 0) 0 [ρ 0, ρ 1, ρ 2, ρ 3, ρ 4, ρ 5, ρ 6, ρ 7, ρ 8, ρ 9, ρ 10, ρ 11, ρ 12, ρ 13, ρ 14, ρ 15, ρ 16, ρ 17, ρ 18, 0, 0, 0, 0, ρ 40, 0, ρ 12, ρ 13, ρ 14, ρ 15, ρ 16, 0] (γ 7)
  have hD : dn78 [] (γ 0) = .inl (0, [0], γ 7) := by
    unfold dn78
    refine zLE m1 (zLE c1.symm (zLE (show fn77 [] (γ 1) = (0, 1, γ 2) from l0.symm) (zLV (γ 2) rfl (zIP zQ1_ (zLE c3.symm (zLE c4.symm (zLE c5.symm ?_)))))))
    refine zLE c6.symm (zIN w_0 (zLE c7.symm (zIP w_1 ?_)))
    rfl
  exact zGoo_to hD
theorem vn78_3 {S : Nat → zSpc} (hS1 : zIm S 1 sn1) (hS76 : zIm S 76 sn76) (hS77 : zIm S 77 sn77) {a : List Int} {g : rHp} : ∀ (ρ : Nat → Int) (γ : Nat → rHp), zO 19 S a g q78_3 ρ γ → zGl (fun i vs g1 => jn78 a g i vs g1) (sn78 a g) q78_3 ρ γ := by
  intro ρ γ h
  obtain ⟨ha, hg, hr, hf, hm, hc, hl⟩ := h
  have ha : a = [ρ 0, ρ 1, ρ 2, ρ 3, ρ 4, ρ 5, ρ 6, ρ 7, ρ 8, ρ 9, ρ 10, ρ 11, ρ 12, ρ 13, ρ 14, ρ 15, ρ 16, ρ 17, ρ 18] := ha
  subst ha
  subst hg
  have r1 : (2 : Int) ≤ ρ 1 ∧ ρ 1 ≤ 2 := zRnA hr 1
  obtain ⟨w_0, w_1, w_2⟩ : (¬ (0 ≥ ρ 1)) ∧ (¬ (1 ≥ ρ 1)) ∧ (2 ≥ ρ 1) := ⟨by omega, by omega, by omega⟩
  have m1 : γ 0 15 0 13 = ρ 1 := zAllA hm 1
  have c1 : γ 1 = rUp (γ 0) 15 0 93 0 := And.right (zChA hc 7)
  have c3 : γ 3 = rUp (γ 2) 15 0 71 0 := And.right (zChA hc 5)
  have c4 : γ 4 = rUp (γ 3) 15 0 72 0 := And.right (zChA hc 4)
  have c5 : γ 5 = rUp (γ 4) 15 0 73 0 := And.right (zChA hc 3)
  have c6 : γ 6 = rUp (γ 5) 15 0 77 0 := And.right (zChA hc 2)
  have c7 : γ 7 = rUp (γ 6) 100 0 0 (-1) := And.right (zChA hc 1)
  have c8 : γ 8 = rUp (γ 7) 100 0 1 (-1) := And.right (zChA hc 0)
  have l0 : sn77 [ρ 0, ρ 1, ρ 6, ρ 19, ρ 20, ρ 21, ρ 22, ρ 23, ρ 24, ρ 25, ρ 26, ρ 27, ρ 28, ρ 29, ρ 30, ρ 31, ρ 32, ρ 33, ρ 34, ρ 35, ρ 36, ρ 37, ρ 38, ρ 39] (γ 1) 0 1 (γ 2) := hS77 _ _ _ _ _ (zAllA hl 0)
  show jn78 [ρ 0, ρ 1, ρ 2, ρ 3, ρ 4, ρ 5, ρ 6, ρ 7, ρ 8, ρ 9, ρ 10, ρ 11, ρ 12, ρ 13, ρ 14, ρ 15, ρ 16, ρ 17, ρ 18] (γ 0) 0 [ρ 0, ρ 1, ρ 2, ρ 3, ρ 4, ρ 5, ρ 6, ρ 7, ρ 8, ρ 9, ρ 10, ρ 11, ρ 12, ρ 13, ρ 14, ρ 15, ρ 16, ρ 17, ρ 18, 0, 0, 0, 0, ρ 40, 0, ρ 12, ρ 13, ρ 14, ρ 15, ρ 16, 0] (γ 8)
  have hD : dn78 [] (γ 0) = .inl (0, [0], γ 8) := by
    unfold dn78
    refine zLE m1 (zLE c1.symm (zLE (show fn77 [] (γ 1) = (0, 1, γ 2) from l0.symm) (zLV (γ 2) rfl (zIP zQ1_ (zLE c3.symm (zLE c4.symm (zLE c5.symm ?_)))))))
    refine zLE c6.symm (zIN w_0 (zLE c7.symm (zIN w_1 (zLE c8.symm (zIP w_2 ?_)))))
    rfl
  exact zGoo_to hD
theorem vn78_4 {S : Nat → zSpc} (hS1 : zIm S 1 sn1) (hS76 : zIm S 76 sn76) (hS77 : zIm S 77 sn77) {a : List Int} {g : rHp} : ∀ (ρ : Nat → Int) (γ : Nat → rHp), zO 19 S a g q78_4 ρ γ → zGl (fun i vs g1 => jn78 a g i vs g1) (sn78 a g) q78_4 ρ γ := by
  intro ρ γ h
  obtain ⟨ha, hg, hr, hf, hm, hc, hl⟩ := h
  have ha : a = [ρ 0, ρ 1, ρ 2, ρ 3, ρ 4, ρ 5, ρ 6, ρ 7, ρ 8, ρ 9, ρ 10, ρ 11, ρ 12, ρ 13, ρ 14, ρ 15, ρ 16, ρ 17, ρ 18] := ha
  subst ha
  subst hg
  have r1 : (3 : Int) ≤ ρ 1 ∧ ρ 1 ≤ 3 := zRnA hr 1
  obtain ⟨w_0, w_1, w_2, w_3⟩ : (¬ (0 ≥ ρ 1)) ∧ (¬ (1 ≥ ρ 1)) ∧ (¬ (2 ≥ ρ 1)) ∧ (3 ≥ ρ 1) := ⟨by omega, by omega, by omega, by omega⟩
  have m1 : γ 0 15 0 13 = ρ 1 := zAllA hm 1
  have c1 : γ 1 = rUp (γ 0) 15 0 93 0 := And.right (zChA hc 8)
  have c3 : γ 3 = rUp (γ 2) 15 0 71 0 := And.right (zChA hc 6)
  have c4 : γ 4 = rUp (γ 3) 15 0 72 0 := And.right (zChA hc 5)
  have c5 : γ 5 = rUp (γ 4) 15 0 73 0 := And.right (zChA hc 4)
  have c6 : γ 6 = rUp (γ 5) 15 0 77 0 := And.right (zChA hc 3)
  have c7 : γ 7 = rUp (γ 6) 100 0 0 (-1) := And.right (zChA hc 2)
  have c8 : γ 8 = rUp (γ 7) 100 0 1 (-1) := And.right (zChA hc 1)
  have c9 : γ 9 = rUp (γ 8) 100 0 2 (-1) := And.right (zChA hc 0)
  have l0 : sn77 [ρ 0, ρ 1, ρ 6, ρ 19, ρ 20, ρ 21, ρ 22, ρ 23, ρ 24, ρ 25, ρ 26, ρ 27, ρ 28, ρ 29, ρ 30, ρ 31, ρ 32, ρ 33, ρ 34, ρ 35, ρ 36, ρ 37, ρ 38, ρ 39] (γ 1) 0 1 (γ 2) := hS77 _ _ _ _ _ (zAllA hl 0)
  show jn78 [ρ 0, ρ 1, ρ 2, ρ 3, ρ 4, ρ 5, ρ 6, ρ 7, ρ 8, ρ 9, ρ 10, ρ 11, ρ 12, ρ 13, ρ 14, ρ 15, ρ 16, ρ 17, ρ 18] (γ 0) 0 [ρ 0, ρ 1, ρ 2, ρ 3, ρ 4, ρ 5, ρ 6, ρ 7, ρ 8, ρ 9, ρ 10, ρ 11, ρ 12, ρ 13, ρ 14, ρ 15, ρ 16, ρ 17, ρ 18, 0, 0, 0, 0, ρ 40, 0, ρ 12, ρ 13, ρ 14, ρ 15, ρ 16, 0] (γ 9)
  have hD : dn78 [] (γ 0) = .inl (0, [0], γ 9) := by
    unfold dn78
    refine zLE m1 (zLE c1.symm (zLE (show fn77 [] (γ 1) = (0, 1, γ 2) from l0.symm) (zLV (γ 2) rfl (zIP zQ1_ (zLE c3.symm (zLE c4.symm (zLE c5.symm ?_)))))))
    refine zLE c6.symm (zIN w_0 (zLE c7.symm (zIN w_1 (zLE c8.symm (zIN w_2 (zLE c9.symm (zIP w_3 ?_)))))))
    rfl
  exact zGoo_to hD
theorem vn78_5 {S : Nat → zSpc} (hS1 : zIm S 1 sn1) (hS76 : zIm S 76 sn76) (hS77 : zIm S 77 sn77) {a : List Int} {g : rHp} : ∀ (ρ : Nat → Int) (γ : Nat → rHp), zO 19 S a g q78_5 ρ γ → zGl (fun i vs g1 => jn78 a g i vs g1) (sn78 a g) q78_5 ρ γ := by
  intro ρ γ h
  obtain ⟨ha, hg, hr, hf, hm, hc, hl⟩ := h
  have ha : a = [ρ 0, ρ 1, ρ 2, ρ 3, ρ 4, ρ 5, ρ 6, ρ 7, ρ 8, ρ 9, ρ 10, ρ 11, ρ 12, ρ 13, ρ 14, ρ 15, ρ 16, ρ 17, ρ 18] := ha
  subst ha
  subst hg
  have r1 : (4 : Int) ≤ ρ 1 ∧ ρ 1 ≤ 4 := zRnA hr 1
  obtain ⟨w_0, w_1, w_2, w_3, w_4⟩ : (¬ (0 ≥ ρ 1)) ∧ (¬ (1 ≥ ρ 1)) ∧ (¬ (2 ≥ ρ 1)) ∧ (¬ (3 ≥ ρ 1)) ∧ (4 ≥ ρ 1) := ⟨by omega, by omega, by omega, by omega, by omega⟩
  have m1 : γ 0 15 0 13 = ρ 1 := zAllA hm 1
  have c1 : γ 1 = rUp (γ 0) 15 0 93 0 := And.right (zChA hc 9)
  have c3 : γ 3 = rUp (γ 2) 15 0 71 0 := And.right (zChA hc 7)
  have c4 : γ 4 = rUp (γ 3) 15 0 72 0 := And.right (zChA hc 6)
  have c5 : γ 5 = rUp (γ 4) 15 0 73 0 := And.right (zChA hc 5)
  have c6 : γ 6 = rUp (γ 5) 15 0 77 0 := And.right (zChA hc 4)
  have c7 : γ 7 = rUp (γ 6) 100 0 0 (-1) := And.right (zChA hc 3)
  have c8 : γ 8 = rUp (γ 7) 100 0 1 (-1) := And.right (zChA hc 2)
  have c9 : γ 9 = rUp (γ 8) 100 0 2 (-1) := And.right (zChA hc 1)
  have c10 : γ 10 = rUp (γ 9) 100 0 3 (-1) := And.right (zChA hc 0)
  have l0 : sn77 [ρ 0, ρ 1, ρ 6, ρ 19, ρ 20, ρ 21, ρ 22, ρ 23, ρ 24, ρ 25, ρ 26, ρ 27, ρ 28, ρ 29, ρ 30, ρ 31, ρ 32, ρ 33, ρ 34, ρ 35, ρ 36, ρ 37, ρ 38, ρ 39] (γ 1) 0 1 (γ 2) := hS77 _ _ _ _ _ (zAllA hl 0)
  show jn78 [ρ 0, ρ 1, ρ 2, ρ 3, ρ 4, ρ 5, ρ 6, ρ 7, ρ 8, ρ 9, ρ 10, ρ 11, ρ 12, ρ 13, ρ 14, ρ 15, ρ 16, ρ 17, ρ 18] (γ 0) 0 [ρ 0, ρ 1, ρ 2, ρ 3, ρ 4, ρ 5, ρ 6, ρ 7, ρ 8, ρ 9, ρ 10, ρ 11, ρ 12, ρ 13, ρ 14, ρ 15, ρ 16, ρ 17, ρ 18, 0, 0, 0, 0, ρ 40, 0, ρ 12, ρ 13, ρ 14, ρ 15, ρ 16, 0] (γ 10)
  have hD : dn78 [] (γ 0) = .inl (0, [0], γ 10) := by
    unfold dn78
    refine zLE m1 (zLE c1.symm (zLE (show fn77 [] (γ 1) = (0, 1, γ 2) from l0.symm) (zLV (γ 2) rfl (zIP zQ1_ (zLE c3.symm (zLE c4.symm (zLE c5.symm ?_)))))))
    refine zLE c6.symm (zIN w_0 (zLE c7.symm (zIN w_1 (zLE c8.symm (zIN w_2 (zLE c9.symm (zIN w_3 ?_)))))))
    refine zLE c10.symm (zIP w_4 ?_)
    rfl
  exact zGoo_to hD
theorem vn78_6 {S : Nat → zSpc} (hS1 : zIm S 1 sn1) (hS76 : zIm S 76 sn76) (hS77 : zIm S 77 sn77) {a : List Int} {g : rHp} : ∀ (ρ : Nat → Int) (γ : Nat → rHp), zO 19 S a g q78_6 ρ γ → zGl (fun i vs g1 => jn78 a g i vs g1) (sn78 a g) q78_6 ρ γ := by
  intro ρ γ h
  obtain ⟨ha, hg, hr, hf, hm, hc, hl⟩ := h
  have ha : a = [ρ 0, ρ 1, ρ 2, ρ 3, ρ 4, ρ 5, ρ 6, ρ 7, ρ 8, ρ 9, ρ 10, ρ 11, ρ 12, ρ 13, ρ 14, ρ 15, ρ 16, ρ 17, ρ 18] := ha
  subst ha
  subst hg
  have r1 : (5 : Int) ≤ ρ 1 ∧ ρ 1 ≤ 5 := zRnA hr 1
  obtain ⟨w_0, w_1, w_2, w_3, w_4, w_5⟩ : (¬ (0 ≥ ρ 1)) ∧ (¬ (1 ≥ ρ 1)) ∧ (¬ (2 ≥ ρ 1)) ∧ (¬ (3 ≥ ρ 1)) ∧ (¬ (4 ≥ ρ 1)) ∧ (5 ≥ ρ 1) := ⟨by omega, by omega, by omega, by omega, by omega, by omega⟩
  have m1 : γ 0 15 0 13 = ρ 1 := zAllA hm 1
  have c1 : γ 1 = rUp (γ 0) 15 0 93 0 := And.right (zChA hc 10)
  have c3 : γ 3 = rUp (γ 2) 15 0 71 0 := And.right (zChA hc 8)
  have c4 : γ 4 = rUp (γ 3) 15 0 72 0 := And.right (zChA hc 7)
  have c5 : γ 5 = rUp (γ 4) 15 0 73 0 := And.right (zChA hc 6)
  have c6 : γ 6 = rUp (γ 5) 15 0 77 0 := And.right (zChA hc 5)
  have c7 : γ 7 = rUp (γ 6) 100 0 0 (-1) := And.right (zChA hc 4)
  have c8 : γ 8 = rUp (γ 7) 100 0 1 (-1) := And.right (zChA hc 3)
  have c9 : γ 9 = rUp (γ 8) 100 0 2 (-1) := And.right (zChA hc 2)
  have c10 : γ 10 = rUp (γ 9) 100 0 3 (-1) := And.right (zChA hc 1)
  have c11 : γ 11 = rUp (γ 10) 100 0 4 (-1) := And.right (zChA hc 0)
  have l0 : sn77 [ρ 0, ρ 1, ρ 6, ρ 19, ρ 20, ρ 21, ρ 22, ρ 23, ρ 24, ρ 25, ρ 26, ρ 27, ρ 28, ρ 29, ρ 30, ρ 31, ρ 32, ρ 33, ρ 34, ρ 35, ρ 36, ρ 37, ρ 38, ρ 39] (γ 1) 0 1 (γ 2) := hS77 _ _ _ _ _ (zAllA hl 0)
  show jn78 [ρ 0, ρ 1, ρ 2, ρ 3, ρ 4, ρ 5, ρ 6, ρ 7, ρ 8, ρ 9, ρ 10, ρ 11, ρ 12, ρ 13, ρ 14, ρ 15, ρ 16, ρ 17, ρ 18] (γ 0) 0 [ρ 0, ρ 1, ρ 2, ρ 3, ρ 4, ρ 5, ρ 6, ρ 7, ρ 8, ρ 9, ρ 10, ρ 11, ρ 12, ρ 13, ρ 14, ρ 15, ρ 16, ρ 17, ρ 18, 0, 0, 0, 0, ρ 40, 0, ρ 12, ρ 13, ρ 14, ρ 15, ρ 16, 0] (γ 11)
  have hD : dn78 [] (γ 0) = .inl (0, [0], γ 11) := by
    unfold dn78
    refine zLE m1 (zLE c1.symm (zLE (show fn77 [] (γ 1) = (0, 1, γ 2) from l0.symm) (zLV (γ 2) rfl (zIP zQ1_ (zLE c3.symm (zLE c4.symm (zLE c5.symm ?_)))))))
    refine zLE c6.symm (zIN w_0 (zLE c7.symm (zIN w_1 (zLE c8.symm (zIN w_2 (zLE c9.symm (zIN w_3 ?_)))))))
    refine zLE c10.symm (zIN w_4 (zLE c11.symm (zIP w_5 ?_)))
    rfl
  exact zGoo_to hD
theorem vn78_7 {S : Nat → zSpc} (hS1 : zIm S 1 sn1) (hS76 : zIm S 76 sn76) (hS77 : zIm S 77 sn77) {a : List Int} {g : rHp} : ∀ (ρ : Nat → Int) (γ : Nat → rHp), zO 19 S a g q78_7 ρ γ → zGl (fun i vs g1 => jn78 a g i vs g1) (sn78 a g) q78_7 ρ γ := by
  intro ρ γ h
  obtain ⟨ha, hg, hr, hf, hm, hc, hl⟩ := h
  have ha : a = [ρ 0, ρ 1, ρ 2, ρ 3, ρ 4, ρ 5, ρ 6, ρ 7, ρ 8, ρ 9, ρ 10, ρ 11, ρ 12, ρ 13, ρ 14, ρ 15, ρ 16, ρ 17, ρ 18] := ha
  subst ha
  subst hg
  have r1 : (6 : Int) ≤ ρ 1 ∧ ρ 1 ≤ 6 := zRnA hr 1
  obtain ⟨w_0, w_1, w_2, w_3, w_4, w_5, w_6⟩ : (¬ (0 ≥ ρ 1)) ∧ (¬ (1 ≥ ρ 1)) ∧ (¬ (2 ≥ ρ 1)) ∧ (¬ (3 ≥ ρ 1)) ∧ (¬ (4 ≥ ρ 1)) ∧ (¬ (5 ≥ ρ 1)) ∧ (6 ≥ ρ 1) := ⟨by omega, by omega, by omega, by omega, by omega, by omega, by omega⟩
  have m1 : γ 0 15 0 13 = ρ 1 := zAllA hm 1
  have c1 : γ 1 = rUp (γ 0) 15 0 93 0 := And.right (zChA hc 11)
  have c3 : γ 3 = rUp (γ 2) 15 0 71 0 := And.right (zChA hc 9)
  have c4 : γ 4 = rUp (γ 3) 15 0 72 0 := And.right (zChA hc 8)
  have c5 : γ 5 = rUp (γ 4) 15 0 73 0 := And.right (zChA hc 7)
  have c6 : γ 6 = rUp (γ 5) 15 0 77 0 := And.right (zChA hc 6)
  have c7 : γ 7 = rUp (γ 6) 100 0 0 (-1) := And.right (zChA hc 5)
  have c8 : γ 8 = rUp (γ 7) 100 0 1 (-1) := And.right (zChA hc 4)
  have c9 : γ 9 = rUp (γ 8) 100 0 2 (-1) := And.right (zChA hc 3)
  have c10 : γ 10 = rUp (γ 9) 100 0 3 (-1) := And.right (zChA hc 2)
  have c11 : γ 11 = rUp (γ 10) 100 0 4 (-1) := And.right (zChA hc 1)
  have c12 : γ 12 = rUp (γ 11) 100 0 5 (-1) := And.right (zChA hc 0)
  have l0 : sn77 [ρ 0, ρ 1, ρ 6, ρ 19, ρ 20, ρ 21, ρ 22, ρ 23, ρ 24, ρ 25, ρ 26, ρ 27, ρ 28, ρ 29, ρ 30, ρ 31, ρ 32, ρ 33, ρ 34, ρ 35, ρ 36, ρ 37, ρ 38, ρ 39] (γ 1) 0 1 (γ 2) := hS77 _ _ _ _ _ (zAllA hl 0)
  show jn78 [ρ 0, ρ 1, ρ 2, ρ 3, ρ 4, ρ 5, ρ 6, ρ 7, ρ 8, ρ 9, ρ 10, ρ 11, ρ 12, ρ 13, ρ 14, ρ 15, ρ 16, ρ 17, ρ 18] (γ 0) 0 [ρ 0, ρ 1, ρ 2, ρ 3, ρ 4, ρ 5, ρ 6, ρ 7, ρ 8, ρ 9, ρ 10, ρ 11, ρ 12, ρ 13, ρ 14, ρ 15, ρ 16, ρ 17, ρ 18, 0, 0, 0, 0, ρ 40, 0, ρ 12, ρ 13, ρ 14, ρ 15, ρ 16, 0] (γ 12)
  have hD : dn78 [] (γ 0) = .inl (0, [0], γ 12) := by
    unfold dn78
    refine zLE m1 (zLE c1.symm (zLE (show fn77 [] (γ 1) = (0, 1, γ 2) from l0.symm) (zLV (γ 2) rfl (zIP zQ1_ (zLE c3.symm (zLE c4.symm (zLE c5.symm ?_)))))))
    refine zLE c6.symm (zIN w_0 (zLE c7.symm (zIN w_1 (zLE c8.symm (zIN w_2 (zLE c9.symm (zIN w_3 ?_)))))))
    refine zLE c10.symm (zIN w_4 (zLE c11.symm (zIN w_5 (zLE c12.symm (zIP w_6 ?_)))))
    rfl
  exact zGoo_to hD
theorem vn78_8 {S : Nat → zSpc} (hS1 : zIm S 1 sn1) (hS76 : zIm S 76 sn76) (hS77 : zIm S 77 sn77) {a : List Int} {g : rHp} : ∀ (ρ : Nat → Int) (γ : Nat → rHp), zO 19 S a g q78_8 ρ γ → zGl (fun i vs g1 => jn78 a g i vs g1) (sn78 a g) q78_8 ρ γ := by
  intro ρ γ h
  obtain ⟨ha, hg, hr, hf, hm, hc, hl⟩ := h
  have ha : a = [ρ 0, ρ 1, ρ 2, ρ 3, ρ 4, ρ 5, ρ 6, ρ 7, ρ 8, ρ 9, ρ 10, ρ 11, ρ 12, ρ 13, ρ 14, ρ 15, ρ 16, ρ 17, ρ 18] := ha
  subst ha
  subst hg
  have r1 : (7 : Int) ≤ ρ 1 ∧ ρ 1 ≤ 7 := zRnA hr 1
  obtain ⟨w_0, w_1, w_2, w_3, w_4, w_5, w_6, w_7⟩ : (¬ (0 ≥ ρ 1)) ∧ (¬ (1 ≥ ρ 1)) ∧ (¬ (2 ≥ ρ 1)) ∧ (¬ (3 ≥ ρ 1)) ∧ (¬ (4 ≥ ρ 1)) ∧ (¬ (5 ≥ ρ 1)) ∧ (¬ (6 ≥ ρ 1)) ∧ (7 ≥ ρ 1) := ⟨by omega, by omega, by omega, by omega, by omega, by omega, by omega, by omega⟩
  have m1 : γ 0 15 0 13 = ρ 1 := zAllA hm 1
  have c1 : γ 1 = rUp (γ 0) 15 0 93 0 := And.right (zChA hc 12)
  have c3 : γ 3 = rUp (γ 2) 15 0 71 0 := And.right (zChA hc 10)
  have c4 : γ 4 = rUp (γ 3) 15 0 72 0 := And.right (zChA hc 9)
  have c5 : γ 5 = rUp (γ 4) 15 0 73 0 := And.right (zChA hc 8)
  have c6 : γ 6 = rUp (γ 5) 15 0 77 0 := And.right (zChA hc 7)
  have c7 : γ 7 = rUp (γ 6) 100 0 0 (-1) := And.right (zChA hc 6)
  have c8 : γ 8 = rUp (γ 7) 100 0 1 (-1) := And.right (zChA hc 5)
  have c9 : γ 9 = rUp (γ 8) 100 0 2 (-1) := And.right (zChA hc 4)
  have c10 : γ 10 = rUp (γ 9) 100 0 3 (-1) := And.right (zChA hc 3)
  have c11 : γ 11 = rUp (γ 10) 100 0 4 (-1) := And.right (zChA hc 2)
  have c12 : γ 12 = rUp (γ 11) 100 0 5 (-1) := And.right (zChA hc 1)
  have c13 : γ 13 = rUp (γ 12) 100 0 6 (-1) := And.right (zChA hc 0)
  have l0 : sn77 [ρ 0, ρ 1, ρ 6, ρ 19, ρ 20, ρ 21, ρ 22, ρ 23, ρ 24, ρ 25, ρ 26, ρ 27, ρ 28, ρ 29, ρ 30, ρ 31, ρ 32, ρ 33, ρ 34, ρ 35, ρ 36, ρ 37, ρ 38, ρ 39] (γ 1) 0 1 (γ 2) := hS77 _ _ _ _ _ (zAllA hl 0)
  show jn78 [ρ 0, ρ 1, ρ 2, ρ 3, ρ 4, ρ 5, ρ 6, ρ 7, ρ 8, ρ 9, ρ 10, ρ 11, ρ 12, ρ 13, ρ 14, ρ 15, ρ 16, ρ 17, ρ 18] (γ 0) 0 [ρ 0, ρ 1, ρ 2, ρ 3, ρ 4, ρ 5, ρ 6, ρ 7, ρ 8, ρ 9, ρ 10, ρ 11, ρ 12, ρ 13, ρ 14, ρ 15, ρ 16, ρ 17, ρ 18, 0, 0, 0, 0, ρ 40, 0, ρ 12, ρ 13, ρ 14, ρ 15, ρ 16, 0] (γ 13)
  have hD : dn78 [] (γ 0) = .inl (0, [0], γ 13) := by
    unfold dn78
    refine zLE m1 (zLE c1.symm (zLE (show fn77 [] (γ 1) = (0, 1, γ 2) from l0.symm) (zLV (γ 2) rfl (zIP zQ1_ (zLE c3.symm (zLE c4.symm (zLE c5.symm ?_)))))))
    refine zLE c6.symm (zIN w_0 (zLE c7.symm (zIN w_1 (zLE c8.symm (zIN w_2 (zLE c9.symm (zIN w_3 ?_)))))))
    refine zLE c10.symm (zIN w_4 (zLE c11.symm (zIN w_5 (zLE c12.symm (zIN w_6 (zLE c13.symm (zIP w_7 ?_)))))))
    rfl
  exact zGoo_to hD
theorem vn78_9 {S : Nat → zSpc} (hS1 : zIm S 1 sn1) (hS76 : zIm S 76 sn76) (hS77 : zIm S 77 sn77) {a : List Int} {g : rHp} : ∀ (ρ : Nat → Int) (γ : Nat → rHp), zO 19 S a g q78_9 ρ γ → zGl (fun i vs g1 => jn78 a g i vs g1) (sn78 a g) q78_9 ρ γ := by
  intro ρ γ h
  obtain ⟨ha, hg, hr, hf, hm, hc, hl⟩ := h
  have ha : a = [ρ 0, ρ 1, ρ 2, ρ 3, ρ 4, ρ 5, ρ 6, ρ 7, ρ 8, ρ 9, ρ 10, ρ 11, ρ 12, ρ 13, ρ 14, ρ 15, ρ 16, ρ 17, ρ 18] := ha
  subst ha
  subst hg
  have r1 : (8 : Int) ≤ ρ 1 ∧ ρ 1 ≤ 8 := zRnA hr 1
  obtain ⟨w_0, w_1, w_2, w_3, w_4, w_5, w_6, w_7, w_8⟩ : (¬ (0 ≥ ρ 1)) ∧ (¬ (1 ≥ ρ 1)) ∧ (¬ (2 ≥ ρ 1)) ∧ (¬ (3 ≥ ρ 1)) ∧ (¬ (4 ≥ ρ 1)) ∧ (¬ (5 ≥ ρ 1)) ∧ (¬ (6 ≥ ρ 1)) ∧ (¬ (7 ≥ ρ 1)) ∧ (8 ≥ ρ 1) := ⟨by omega, by omega, by omega, by omega, by omega, by omega, by omega, by omega, by omega⟩
  have m1 : γ 0 15 0 13 = ρ 1 := zAllA hm 1
  have c1 : γ 1 = rUp (γ 0) 15 0 93 0 := And.right (zChA hc 13)
  have c3 : γ 3 = rUp (γ 2) 15 0 71 0 := And.right (zChA hc 11)
  have c4 : γ 4 = rUp (γ 3) 15 0 72 0 := And.right (zChA hc 10)
  have c5 : γ 5 = rUp (γ 4) 15 0 73 0 := And.right (zChA hc 9)
  have c6 : γ 6 = rUp (γ 5) 15 0 77 0 := And.right (zChA hc 8)
  have c7 : γ 7 = rUp (γ 6) 100 0 0 (-1) := And.right (zChA hc 7)
  have c8 : γ 8 = rUp (γ 7) 100 0 1 (-1) := And.right (zChA hc 6)
  have c9 : γ 9 = rUp (γ 8) 100 0 2 (-1) := And.right (zChA hc 5)
  have c10 : γ 10 = rUp (γ 9) 100 0 3 (-1) := And.right (zChA hc 4)
  have c11 : γ 11 = rUp (γ 10) 100 0 4 (-1) := And.right (zChA hc 3)
  have c12 : γ 12 = rUp (γ 11) 100 0 5 (-1) := And.right (zChA hc 2)
  have c13 : γ 13 = rUp (γ 12) 100 0 6 (-1) := And.right (zChA hc 1)
  have c14 : γ 14 = rUp (γ 13) 100 0 7 (-1) := And.right (zChA hc 0)
  have l0 : sn77 [ρ 0, ρ 1, ρ 6, ρ 19, ρ 20, ρ 21, ρ 22, ρ 23, ρ 24, ρ 25, ρ 26, ρ 27, ρ 28, ρ 29, ρ 30, ρ 31, ρ 32, ρ 33, ρ 34, ρ 35, ρ 36, ρ 37, ρ 38, ρ 39] (γ 1) 0 1 (γ 2) := hS77 _ _ _ _ _ (zAllA hl 0)
  show jn78 [ρ 0, ρ 1, ρ 2, ρ 3, ρ 4, ρ 5, ρ 6, ρ 7, ρ 8, ρ 9, ρ 10, ρ 11, ρ 12, ρ 13, ρ 14, ρ 15, ρ 16, ρ 17, ρ 18] (γ 0) 0 [ρ 0, ρ 1, ρ 2, ρ 3, ρ 4, ρ 5, ρ 6, ρ 7, ρ 8, ρ 9, ρ 10, ρ 11, ρ 12, ρ 13, ρ 14, ρ 15, ρ 16, ρ 17, ρ 18, 0, 0, 0, 0, ρ 40, 0, ρ 12, ρ 13, ρ 14, ρ 15, ρ 16, 0] (γ 14)
  have hD : dn78 [] (γ 0) = .inl (0, [0], γ 14) := by
    unfold dn78
    refine zLE m1 (zLE c1.symm (zLE (show fn77 [] (γ 1) = (0, 1, γ 2) from l0.symm) (zLV (γ 2) rfl (zIP zQ1_ (zLE c3.symm (zLE c4.symm (zLE c5.symm ?_)))))))
    refine zLE c6.symm (zIN w_0 (zLE c7.symm (zIN w_1 (zLE c8.symm (zIN w_2 (zLE c9.symm (zIN w_3 ?_)))))))
    refine zLE c10.symm (zIN w_4 (zLE c11.symm (zIN w_5 (zLE c12.symm (zIN w_6 (zLE c13.symm (zIN w_7 ?_)))))))
    refine zLE c14.symm (zIP w_8 ?_)
    rfl
  exact zGoo_to hD
theorem vn78_10 {S : Nat → zSpc} (hS1 : zIm S 1 sn1) (hS76 : zIm S 76 sn76) (hS77 : zIm S 77 sn77) {a : List Int} {g : rHp} : ∀ (ρ : Nat → Int) (γ : Nat → rHp), zO 19 S a g q78_10 ρ γ → zGl (fun i vs g1 => jn78 a g i vs g1) (sn78 a g) q78_10 ρ γ := by
  intro ρ γ h
  obtain ⟨ha, hg, hr, hf, hm, hc, hl⟩ := h
  have ha : a = [ρ 0, ρ 1, ρ 2, ρ 3, ρ 4, ρ 5, ρ 6, ρ 7, ρ 8, ρ 9, ρ 10, ρ 11, ρ 12, ρ 13, ρ 14, ρ 15, ρ 16, ρ 17, ρ 18] := ha
  subst ha
  subst hg
  have r1 : (9 : Int) ≤ ρ 1 ∧ ρ 1 ≤ 9 := zRnA hr 1
  obtain ⟨w_0, w_1, w_2, w_3, w_4, w_5, w_6, w_7, w_8, w_9⟩ : (¬ (0 ≥ ρ 1)) ∧ (¬ (1 ≥ ρ 1)) ∧ (¬ (2 ≥ ρ 1)) ∧ (¬ (3 ≥ ρ 1)) ∧ (¬ (4 ≥ ρ 1)) ∧ (¬ (5 ≥ ρ 1)) ∧ (¬ (6 ≥ ρ 1)) ∧ (¬ (7 ≥ ρ 1)) ∧ (¬ (8 ≥ ρ 1)) ∧ (9 ≥ ρ 1) := ⟨by omega, by omega, by omega, by omega, by omega, by omega, by omega, by omega, by omega, by omega⟩
  have m1 : γ 0 15 0 13 = ρ 1 := zAllA hm 1
  have c1 : γ 1 = rUp (γ 0) 15 0 93 0 := And.right (zChA hc 14)
  have c3 : γ 3 = rUp (γ 2) 15 0 71 0 := And.right (zChA hc 12)
  have c4 : γ 4 = rUp (γ 3) 15 0 72 0 := And.right (zChA hc 11)
  have c5 : γ 5 = rUp (γ 4) 15 0 73 0 := And.right (zChA hc 10)
  have c6 : γ 6 = rUp (γ 5) 15 0 77 0 := And.right (zChA hc 9)
  have c7 : γ 7 = rUp (γ 6) 100 0 0 (-1) := And.right (zChA hc 8)
  have c8 : γ 8 = rUp (γ 7) 100 0 1 (-1) := And.right (zChA hc 7)
  have c9 : γ 9 = rUp (γ 8) 100 0 2 (-1) := And.right (zChA hc 6)
  have c10 : γ 10 = rUp (γ 9) 100 0 3 (-1) := And.right (zChA hc 5)
  have c11 : γ 11 = rUp (γ 10) 100 0 4 (-1) := And.right (zChA hc 4)
  have c12 : γ 12 = rUp (γ 11) 100 0 5 (-1) := And.right (zChA hc 3)
  have c13 : γ 13 = rUp (γ 12) 100 0 6 (-1) := And.right (zChA hc 2)
  have c14 : γ 14 = rUp (γ 13) 100 0 7 (-1) := And.right (zChA hc 1)
  have c15 : γ 15 = rUp (γ 14) 100 0 8 (-1) := And.right (zChA hc 0)
  have l0 : sn77 [ρ 0, ρ 1, ρ 6, ρ 19, ρ 20, ρ 21, ρ 22, ρ 23, ρ 24, ρ 25, ρ 26, ρ 27, ρ 28, ρ 29, ρ 30, ρ 31, ρ 32, ρ 33, ρ 34, ρ 35, ρ 36, ρ 37, ρ 38, ρ 39] (γ 1) 0 1 (γ 2) := hS77 _ _ _ _ _ (zAllA hl 0)
  show jn78 [ρ 0, ρ 1, ρ 2, ρ 3, ρ 4, ρ 5, ρ 6, ρ 7, ρ 8, ρ 9, ρ 10, ρ 11, ρ 12, ρ 13, ρ 14, ρ 15, ρ 16, ρ 17, ρ 18] (γ 0) 0 [ρ 0, ρ 1, ρ 2, ρ 3, ρ 4, ρ 5, ρ 6, ρ 7, ρ 8, ρ 9, ρ 10, ρ 11, ρ 12, ρ 13, ρ 14, ρ 15, ρ 16, ρ 17, ρ 18, 0, 0, 0, 0, ρ 40, 0, ρ 12, ρ 13, ρ 14, ρ 15, ρ 16, 0] (γ 15)
  have hD : dn78 [] (γ 0) = .inl (0, [0], γ 15) := by
    unfold dn78
    refine zLE m1 (zLE c1.symm (zLE (show fn77 [] (γ 1) = (0, 1, γ 2) from l0.symm) (zLV (γ 2) rfl (zIP zQ1_ (zLE c3.symm (zLE c4.symm (zLE c5.symm ?_)))))))
    refine zLE c6.symm (zIN w_0 (zLE c7.symm (zIN w_1 (zLE c8.symm (zIN w_2 (zLE c9.symm (zIN w_3 ?_)))))))
    refine zLE c10.symm (zIN w_4 (zLE c11.symm (zIN w_5 (zLE c12.symm (zIN w_6 (zLE c13.symm (zIN w_7 ?_)))))))
    refine zLE c14.symm (zIN w_8 (zLE c15.symm (zIP w_9 ?_)))
    rfl
  exact zGoo_to hD
theorem vn78_11 {S : Nat → zSpc} (hS1 : zIm S 1 sn1) (hS76 : zIm S 76 sn76) (hS77 : zIm S 77 sn77) {a : List Int} {g : rHp} : ∀ (ρ : Nat → Int) (γ : Nat → rHp), zO 19 S a g q78_11 ρ γ → zGl (fun i vs g1 => jn78 a g i vs g1) (sn78 a g) q78_11 ρ γ := by
  intro ρ γ h
  obtain ⟨ha, hg, hr, hf, hm, hc, hl⟩ := h
  have ha : a = [ρ 0, ρ 1, ρ 2, ρ 3, ρ 4, ρ 5, ρ 6, ρ 7, ρ 8, ρ 9, ρ 10, ρ 11, ρ 12, ρ 13, ρ 14, ρ 15, ρ 16, ρ 17, ρ 18] := ha
  subst ha
  subst hg
  have r1 : (10 : Int) ≤ ρ 1 ∧ ρ 1 ≤ 10 := zRnA hr 1
  obtain ⟨w_0, w_1, w_2, w_3, w_4, w_5, w_6, w_7, w_8, w_9, w_10⟩ : (¬ (0 ≥ ρ 1)) ∧ (¬ (1 ≥ ρ 1)) ∧ (¬ (2 ≥ ρ 1)) ∧ (¬ (3 ≥ ρ 1)) ∧ (¬ (4 ≥ ρ 1)) ∧ (¬ (5 ≥ ρ 1)) ∧ (¬ (6 ≥ ρ 1)) ∧ (¬ (7 ≥ ρ 1)) ∧ (¬ (8 ≥ ρ 1)) ∧ (¬ (9 ≥ ρ 1)) ∧ (10 ≥ ρ 1) := ⟨by omega, by omega, by omega, by omega, by omega, by omega, by omega, by omega, by omega, by omega, by omega⟩
  have m1 : γ 0 15 0 13 = ρ 1 := zAllA hm 1
  have c1 : γ 1 = rUp (γ 0) 15 0 93 0 := And.right (zChA hc 15)
  have c3 : γ 3 = rUp (γ 2) 15 0 71 0 := And.right (zChA hc 13)
  have c4 : γ 4 = rUp (γ 3) 15 0 72 0 := And.right (zChA hc 12)
  have c5 : γ 5 = rUp (γ 4) 15 0 73 0 := And.right (zChA hc 11)
  have c6 : γ 6 = rUp (γ 5) 15 0 77 0 := And.right (zChA hc 10)
  have c7 : γ 7 = rUp (γ 6) 100 0 0 (-1) := And.right (zChA hc 9)
  have c8 : γ 8 = rUp (γ 7) 100 0 1 (-1) := And.right (zChA hc 8)
  have c9 : γ 9 = rUp (γ 8) 100 0 2 (-1) := And.right (zChA hc 7)
  have c10 : γ 10 = rUp (γ 9) 100 0 3 (-1) := And.right (zChA hc 6)
  have c11 : γ 11 = rUp (γ 10) 100 0 4 (-1) := And.right (zChA hc 5)
  have c12 : γ 12 = rUp (γ 11) 100 0 5 (-1) := And.right (zChA hc 4)
  have c13 : γ 13 = rUp (γ 12) 100 0 6 (-1) := And.right (zChA hc 3)
  have c14 : γ 14 = rUp (γ 13) 100 0 7 (-1) := And.right (zChA hc 2)
  have c15 : γ 15 = rUp (γ 14) 100 0 8 (-1) := And.right (zChA hc 1)
  have c16 : γ 16 = rUp (γ 15) 100 0 9 (-1) := And.right (zChA hc 0)
  have l0 : sn77 [ρ 0, ρ 1, ρ 6, ρ 19, ρ 20, ρ 21, ρ 22, ρ 23, ρ 24, ρ 25, ρ 26, ρ 27, ρ 28, ρ 29, ρ 30, ρ 31, ρ 32, ρ 33, ρ 34, ρ 35, ρ 36, ρ 37, ρ 38, ρ 39] (γ 1) 0 1 (γ 2) := hS77 _ _ _ _ _ (zAllA hl 0)
  show jn78 [ρ 0, ρ 1, ρ 2, ρ 3, ρ 4, ρ 5, ρ 6, ρ 7, ρ 8, ρ 9, ρ 10, ρ 11, ρ 12, ρ 13, ρ 14, ρ 15, ρ 16, ρ 17, ρ 18] (γ 0) 0 [ρ 0, ρ 1, ρ 2, ρ 3, ρ 4, ρ 5, ρ 6, ρ 7, ρ 8, ρ 9, ρ 10, ρ 11, ρ 12, ρ 13, ρ 14, ρ 15, ρ 16, ρ 17, ρ 18, 0, 0, 0, 0, ρ 40, 0, ρ 12, ρ 13, ρ 14, ρ 15, ρ 16, 0] (γ 16)
  have hD : dn78 [] (γ 0) = .inl (0, [0], γ 16) := by
    unfold dn78
    refine zLE m1 (zLE c1.symm (zLE (show fn77 [] (γ 1) = (0, 1, γ 2) from l0.symm) (zLV (γ 2) rfl (zIP zQ1_ (zLE c3.symm (zLE c4.symm (zLE c5.symm ?_)))))))
    refine zLE c6.symm (zIN w_0 (zLE c7.symm (zIN w_1 (zLE c8.symm (zIN w_2 (zLE c9.symm (zIN w_3 ?_)))))))
    refine zLE c10.symm (zIN w_4 (zLE c11.symm (zIN w_5 (zLE c12.symm (zIN w_6 (zLE c13.symm (zIN w_7 ?_)))))))
    refine zLE c14.symm (zIN w_8 (zLE c15.symm (zIN w_9 (zLE c16.symm (zIP w_10 ?_)))))
    rfl
  exact zGoo_to hD
theorem vn78_12 {S : Nat → zSpc} (hS1 : zIm S 1 sn1) (hS76 : zIm S 76 sn76) (hS77 : zIm S 77 sn77) {a : List Int} {g : rHp} : ∀ (ρ : Nat → Int) (γ : Nat → rHp), zO 19 S a g q78_12 ρ γ → zGl (fun i vs g1 => jn78 a g i vs g1) (sn78 a g) q78_12 ρ γ := by
  intro ρ γ h
  obtain ⟨ha, hg, hr, hf, hm, hc, hl⟩ := h
  have ha : a = [ρ 0, ρ 1, ρ 2, ρ 3, ρ 4, ρ 5, ρ 6, ρ 7, ρ 8, ρ 9, ρ 10, ρ 11, ρ 12, ρ 13, ρ 14, ρ 15, ρ 16, ρ 17, ρ 18] := ha
  subst ha
  subst hg
  have r1 : (11 : Int) ≤ ρ 1 ∧ ρ 1 ≤ 11 := zRnA hr 1
  obtain ⟨w_0, w_1, w_2, w_3, w_4, w_5, w_6, w_7, w_8, w_9, w_10, w_11⟩ : (¬ (0 ≥ ρ 1)) ∧ (¬ (1 ≥ ρ 1)) ∧ (¬ (2 ≥ ρ 1)) ∧ (¬ (3 ≥ ρ 1)) ∧ (¬ (4 ≥ ρ 1)) ∧ (¬ (5 ≥ ρ 1)) ∧ (¬ (6 ≥ ρ 1)) ∧ (¬ (7 ≥ ρ 1)) ∧ (¬ (8 ≥ ρ 1)) ∧ (¬ (9 ≥ ρ 1)) ∧ (¬ (10 ≥ ρ 1)) ∧ (11 ≥ ρ 1) := ⟨by omega, by omega, by omega, by omega, by omega, by omega, by omega, by omega, by omega, by omega, by omega, by omega⟩
  have m1 : γ 0 15 0 13 = ρ 1 := zAllA hm 1
  have c1 : γ 1 = rUp (γ 0) 15 0 93 0 := And.right (zChA hc 16)
  have c3 : γ 3 = rUp (γ 2) 15 0 71 0 := And.right (zChA hc 14)
  have c4 : γ 4 = rUp (γ 3) 15 0 72 0 := And.right (zChA hc 13)
  have c5 : γ 5 = rUp (γ 4) 15 0 73 0 := And.right (zChA hc 12)
  have c6 : γ 6 = rUp (γ 5) 15 0 77 0 := And.right (zChA hc 11)
  have c7 : γ 7 = rUp (γ 6) 100 0 0 (-1) := And.right (zChA hc 10)
  have c8 : γ 8 = rUp (γ 7) 100 0 1 (-1) := And.right (zChA hc 9)
  have c9 : γ 9 = rUp (γ 8) 100 0 2 (-1) := And.right (zChA hc 8)
  have c10 : γ 10 = rUp (γ 9) 100 0 3 (-1) := And.right (zChA hc 7)
  have c11 : γ 11 = rUp (γ 10) 100 0 4 (-1) := And.right (zChA hc 6)
  have c12 : γ 12 = rUp (γ 11) 100 0 5 (-1) := And.right (zChA hc 5)
  have c13 : γ 13 = rUp (γ 12) 100 0 6 (-1) := And.right (zChA hc 4)
  have c14 : γ 14 = rUp (γ 13) 100 0 7 (-1) := And.right (zChA hc 3)
  have c15 : γ 15 = rUp (γ 14) 100 0 8 (-1) := And.right (zChA hc 2)
  have c16 : γ 16 = rUp (γ 15) 100 0 9 (-1) := And.right (zChA hc 1)
  have c17 : γ 17 = rUp (γ 16) 100 0 10 (-1) := And.right (zChA hc 0)
  have l0 : sn77 [ρ 0, ρ 1, ρ 6, ρ 19, ρ 20, ρ 21, ρ 22, ρ 23, ρ 24, ρ 25, ρ 26, ρ 27, ρ 28, ρ 29, ρ 30, ρ 31, ρ 32, ρ 33, ρ 34, ρ 35, ρ 36, ρ 37, ρ 38, ρ 39] (γ 1) 0 1 (γ 2) := hS77 _ _ _ _ _ (zAllA hl 0)
  show jn78 [ρ 0, ρ 1, ρ 2, ρ 3, ρ 4, ρ 5, ρ 6, ρ 7, ρ 8, ρ 9, ρ 10, ρ 11, ρ 12, ρ 13, ρ 14, ρ 15, ρ 16, ρ 17, ρ 18] (γ 0) 0 [ρ 0, ρ 1, ρ 2, ρ 3, ρ 4, ρ 5, ρ 6, ρ 7, ρ 8, ρ 9, ρ 10, ρ 11, ρ 12, ρ 13, ρ 14, ρ 15, ρ 16, ρ 17, ρ 18, 0, 0, 0, 0, ρ 40, 0, ρ 12, ρ 13, ρ 14, ρ 15, ρ 16, 0] (γ 17)
  have hD : dn78 [] (γ 0) = .inl (0, [0], γ 17) := by
    unfold dn78
    refine zLE m1 (zLE c1.symm (zLE (show fn77 [] (γ 1) = (0, 1, γ 2) from l0.symm) (zLV (γ 2) rfl (zIP zQ1_ (zLE c3.symm (zLE c4.symm (zLE c5.symm ?_)))))))
    refine zLE c6.symm (zIN w_0 (zLE c7.symm (zIN w_1 (zLE c8.symm (zIN w_2 (zLE c9.symm (zIN w_3 ?_)))))))
    refine zLE c10.symm (zIN w_4 (zLE c11.symm (zIN w_5 (zLE c12.symm (zIN w_6 (zLE c13.symm (zIN w_7 ?_)))))))
    refine zLE c14.symm (zIN w_8 (zLE c15.symm (zIN w_9 (zLE c16.symm (zIN w_10 (zLE c17.symm (zIP w_11 ?_)))))))
    rfl
  exact zGoo_to hD
theorem vn78_13 {S : Nat → zSpc} (hS1 : zIm S 1 sn1) (hS76 : zIm S 76 sn76) (hS77 : zIm S 77 sn77) {a : List Int} {g : rHp} : ∀ (ρ : Nat → Int) (γ : Nat → rHp), zO 19 S a g q78_13 ρ γ → zGl (fun i vs g1 => jn78 a g i vs g1) (sn78 a g) q78_13 ρ γ := by
  intro ρ γ h
  obtain ⟨ha, hg, hr, hf, hm, hc, hl⟩ := h
  have ha : a = [ρ 0, ρ 1, ρ 2, ρ 3, ρ 4, ρ 5, ρ 6, ρ 7, ρ 8, ρ 9, ρ 10, ρ 11, ρ 12, ρ 13, ρ 14, ρ 15, ρ 16, ρ 17, ρ 18] := ha
  subst ha
  subst hg
  have r1 : (12 : Int) ≤ ρ 1 ∧ ρ 1 ≤ 12 := zRnA hr 1
  obtain ⟨w_0, w_1, w_2, w_3, w_4, w_5, w_6, w_7, w_8, w_9, w_10, w_11, w_12⟩ : (¬ (0 ≥ ρ 1)) ∧ (¬ (1 ≥ ρ 1)) ∧ (¬ (2 ≥ ρ 1)) ∧ (¬ (3 ≥ ρ 1)) ∧ (¬ (4 ≥ ρ 1)) ∧ (¬ (5 ≥ ρ 1)) ∧ (¬ (6 ≥ ρ 1)) ∧ (¬ (7 ≥ ρ 1)) ∧ (¬ (8 ≥ ρ 1)) ∧ (¬ (9 ≥ ρ 1)) ∧ (¬ (10 ≥ ρ 1)) ∧ (¬ (11 ≥ ρ 1)) ∧ (12 ≥ ρ 1) := ⟨by omega, by omega, by omega, by omega, by omega, by omega, by omega, by omega, by omega, by omega, by omega, by omega, by omega⟩
  have m1 : γ 0 15 0 13 = ρ 1 := zAllA hm 1
  have c1 : γ 1 = rUp (γ 0) 15 0 93 0 := And.right (zChA hc 17)
  have c3 : γ 3 = rUp (γ 2) 15 0 71 0 := And.right (zChA hc 15)
  have c4 : γ 4 = rUp (γ 3) 15 0 72 0 := And.right (zChA hc 14)
  have c5 : γ 5 = rUp (γ 4) 15 0 73 0 := And.right (zChA hc 13)
  have c6 : γ 6 = rUp (γ 5) 15 0 77 0 := And.right (zChA hc 12)
  have c7 : γ 7 = rUp (γ 6) 100 0 0 (-1) := And.right (zChA hc 11)
  have c8 : γ 8 = rUp (γ 7) 100 0 1 (-1) := And.right (zChA hc 10)
  have c9 : γ 9 = rUp (γ 8) 100 0 2 (-1) := And.right (zChA hc 9)
  have c10 : γ 10 = rUp (γ 9) 100 0 3 (-1) := And.right (zChA hc 8)
  have c11 : γ 11 = rUp (γ 10) 100 0 4 (-1) := And.right (zChA hc 7)
  have c12 : γ 12 = rUp (γ 11) 100 0 5 (-1) := And.right (zChA hc 6)
  have c13 : γ 13 = rUp (γ 12) 100 0 6 (-1) := And.right (zChA hc 5)
  have c14 : γ 14 = rUp (γ 13) 100 0 7 (-1) := And.right (zChA hc 4)
  have c15 : γ 15 = rUp (γ 14) 100 0 8 (-1) := And.right (zChA hc 3)
  have c16 : γ 16 = rUp (γ 15) 100 0 9 (-1) := And.right (zChA hc 2)
  have c17 : γ 17 = rUp (γ 16) 100 0 10 (-1) := And.right (zChA hc 1)
  have c18 : γ 18 = rUp (γ 17) 100 0 11 (-1) := And.right (zChA hc 0)
  have l0 : sn77 [ρ 0, ρ 1, ρ 6, ρ 19, ρ 20, ρ 21, ρ 22, ρ 23, ρ 24, ρ 25, ρ 26, ρ 27, ρ 28, ρ 29, ρ 30, ρ 31, ρ 32, ρ 33, ρ 34, ρ 35, ρ 36, ρ 37, ρ 38, ρ 39] (γ 1) 0 1 (γ 2) := hS77 _ _ _ _ _ (zAllA hl 0)
  show jn78 [ρ 0, ρ 1, ρ 2, ρ 3, ρ 4, ρ 5, ρ 6, ρ 7, ρ 8, ρ 9, ρ 10, ρ 11, ρ 12, ρ 13, ρ 14, ρ 15, ρ 16, ρ 17, ρ 18] (γ 0) 0 [ρ 0, ρ 1, ρ 2, ρ 3, ρ 4, ρ 5, ρ 6, ρ 7, ρ 8, ρ 9, ρ 10, ρ 11, ρ 12, ρ 13, ρ 14, ρ 15, ρ 16, ρ 17, ρ 18, 0, 0, 0, 0, ρ 40, 0, ρ 12, ρ 13, ρ 14, ρ 15, ρ 16, 0] (γ 18)
  have hD : dn78 [] (γ 0) = .inl (0, [0], γ 18) := by
    unfold dn78
    refine zLE m1 (zLE c1.symm (zLE (show fn77 [] (γ 1) = (0, 1, γ 2) from l0.symm) (zLV (γ 2) rfl (zIP zQ1_ (zLE c3.symm (zLE c4.symm (zLE c5.symm ?_)))))))
    refine zLE c6.symm (zIN w_0 (zLE c7.symm (zIN w_1 (zLE c8.symm (zIN w_2 (zLE c9.symm (zIN w_3 ?_)))))))
    refine zLE c10.symm (zIN w_4 (zLE c11.symm (zIN w_5 (zLE c12.symm (zIN w_6 (zLE c13.symm (zIN w_7 ?_)))))))
    refine zLE c14.symm (zIN w_8 (zLE c15.symm (zIN w_9 (zLE c16.symm (zIN w_10 (zLE c17.symm (zIN w_11 ?_)))))))
    refine zLE c18.symm (zIP w_12 ?_)
    rfl
  exact zGoo_to hD
theorem vn78_14 {S : Nat → zSpc} (hS1 : zIm S 1 sn1) (hS76 : zIm S 76 sn76) (hS77 : zIm S 77 sn77) {a : List Int} {g : rHp} : ∀ (ρ : Nat → Int) (γ : Nat → rHp), zO 19 S a g q78_14 ρ γ → zGl (fun i vs g1 => jn78 a g i vs g1) (sn78 a g) q78_14 ρ γ := by
  intro ρ γ h
  obtain ⟨ha, hg, hr, hf, hm, hc, hl⟩ := h
  have ha : a = [ρ 0, ρ 1, ρ 2, ρ 3, ρ 4, ρ 5, ρ 6, ρ 7, ρ 8, ρ 9, ρ 10, ρ 11, ρ 12, ρ 13, ρ 14, ρ 15, ρ 16, ρ 17, ρ 18] := ha
  subst ha
  subst hg
  have r1 : (13 : Int) ≤ ρ 1 ∧ ρ 1 ≤ 13 := zRnA hr 1
  obtain ⟨w_0, w_1, w_2, w_3, w_4, w_5, w_6, w_7, w_8, w_9, w_10, w_11, w_12, w_13⟩ : (¬ (0 ≥ ρ 1)) ∧ (¬ (1 ≥ ρ 1)) ∧ (¬ (2 ≥ ρ 1)) ∧ (¬ (3 ≥ ρ 1)) ∧ (¬ (4 ≥ ρ 1)) ∧ (¬ (5 ≥ ρ 1)) ∧ (¬ (6 ≥ ρ 1)) ∧ (¬ (7 ≥ ρ 1)) ∧ (¬ (8 ≥ ρ 1)) ∧ (¬ (9 ≥ ρ 1)) ∧ (¬ (10 ≥ ρ 1)) ∧ (¬ (11 ≥ ρ 1)) ∧ (¬ (12 ≥ ρ 1)) ∧ (13 ≥ ρ 1) := ⟨by omega, by omega, by omega, by omega, by omega, by omega, by omega, by omega, by omega, by omega, by omega, by omega, by omega, by omega⟩
  have m1 : γ 0 15 0 13 = ρ 1 := zAllA hm 1
  have c1 : γ 1 = rUp (γ 0) 15 0 93 0 := And.right (zChA hc 18)
  have c3 : γ 3 = rUp (γ 2) 15 0 71 0 := And.right (zChA hc 16)
  have c4 : γ 4 = rUp (γ 3) 15 0 72 0 := And.right (zChA hc 15)
  have c5 : γ 5 = rUp (γ 4) 15 0 73 0 := And.right (zChA hc 14)
  have c6 : γ 6 = rUp (γ 5) 15 0 77 0 := And.right (zChA hc 13)
  have c7 : γ 7 = rUp (γ 6) 100 0 0 (-1) := And.right (zChA hc 12)
  have c8 : γ 8 = rUp (γ 7) 100 0 1 (-1) := And.right (zChA hc 11)
  have c9 : γ 9 = rUp (γ 8) 100 0 2 (-1) := And.right (zChA hc 10)
  have c10 : γ 10 = rUp (γ 9) 100 0 3 (-1) := And.right (zChA hc 9)
  have c11 : γ 11 = rUp (γ 10) 100 0 4 (-1) := And.right (zChA hc 8)
  have c12 : γ 12 = rUp (γ 11) 100 0 5 (-1) := And.right (zChA hc 7)
  have c13 : γ 13 = rUp (γ 12) 100 0 6 (-1) := And.right (zChA hc 6)
  have c14 : γ 14 = rUp (γ 13) 100 0 7 (-1) := And.right (zChA hc 5)
  have c15 : γ 15 = rUp (γ 14) 100 0 8 (-1) := And.right (zChA hc 4)
  have c16 : γ 16 = rUp (γ 15) 100 0 9 (-1) := And.right (zChA hc 3)
  have c17 : γ 17 = rUp (γ 16) 100 0 10 (-1) := And.right (zChA hc 2)
  have c18 : γ 18 = rUp (γ 17) 100 0 11 (-1) := And.right (zChA hc 1)
  have c19 : γ 19 = rUp (γ 18) 100 0 12 (-1) := And.right (zChA hc 0)
  have l0 : sn77 [ρ 0, ρ 1, ρ 6, ρ 19, ρ 20, ρ 21, ρ 22, ρ 23, ρ 24, ρ 25, ρ 26, ρ 27, ρ 28, ρ 29, ρ 30, ρ 31, ρ 32, ρ 33, ρ 34, ρ 35, ρ 36, ρ 37, ρ 38, ρ 39] (γ 1) 0 1 (γ 2) := hS77 _ _ _ _ _ (zAllA hl 0)
  show jn78 [ρ 0, ρ 1, ρ 2, ρ 3, ρ 4, ρ 5, ρ 6, ρ 7, ρ 8, ρ 9, ρ 10, ρ 11, ρ 12, ρ 13, ρ 14, ρ 15, ρ 16, ρ 17, ρ 18] (γ 0) 0 [ρ 0, ρ 1, ρ 2, ρ 3, ρ 4, ρ 5, ρ 6, ρ 7, ρ 8, ρ 9, ρ 10, ρ 11, ρ 12, ρ 13, ρ 14, ρ 15, ρ 16, ρ 17, ρ 18, 0, 0, 0, 0, ρ 40, 0, ρ 12, ρ 13, ρ 14, ρ 15, ρ 16, 0] (γ 19)
  have hD : dn78 [] (γ 0) = .inl (0, [0], γ 19) := by
    unfold dn78
    refine zLE m1 (zLE c1.symm (zLE (show fn77 [] (γ 1) = (0, 1, γ 2) from l0.symm) (zLV (γ 2) rfl (zIP zQ1_ (zLE c3.symm (zLE c4.symm (zLE c5.symm ?_)))))))
    refine zLE c6.symm (zIN w_0 (zLE c7.symm (zIN w_1 (zLE c8.symm (zIN w_2 (zLE c9.symm (zIN w_3 ?_)))))))
    refine zLE c10.symm (zIN w_4 (zLE c11.symm (zIN w_5 (zLE c12.symm (zIN w_6 (zLE c13.symm (zIN w_7 ?_)))))))
    refine zLE c14.symm (zIN w_8 (zLE c15.symm (zIN w_9 (zLE c16.symm (zIN w_10 (zLE c17.symm (zIN w_11 ?_)))))))
    refine zLE c18.symm (zIN w_12 (zLE c19.symm (zIP w_13 ?_)))
    rfl
  exact zGoo_to hD
theorem vn78_15 {S : Nat → zSpc} (hS1 : zIm S 1 sn1) (hS76 : zIm S 76 sn76) (hS77 : zIm S 77 sn77) {a : List Int} {g : rHp} : ∀ (ρ : Nat → Int) (γ : Nat → rHp), zO 19 S a g q78_15 ρ γ → zGl (fun i vs g1 => jn78 a g i vs g1) (sn78 a g) q78_15 ρ γ := by
  intro ρ γ h
  obtain ⟨ha, hg, hr, hf, hm, hc, hl⟩ := h
  have ha : a = [ρ 0, ρ 1, ρ 2, ρ 3, ρ 4, ρ 5, ρ 6, ρ 7, ρ 8, ρ 9, ρ 10, ρ 11, ρ 12, ρ 13, ρ 14, ρ 15, ρ 16, ρ 17, ρ 18] := ha
  subst ha
  subst hg
  have r1 : (14 : Int) ≤ ρ 1 ∧ ρ 1 ≤ 14 := zRnA hr 1
  obtain ⟨w_0, w_1, w_2, w_3, w_4, w_5, w_6, w_7, w_8, w_9, w_10, w_11, w_12, w_13, w_14⟩ : (¬ (0 ≥ ρ 1)) ∧ (¬ (1 ≥ ρ 1)) ∧ (¬ (2 ≥ ρ 1)) ∧ (¬ (3 ≥ ρ 1)) ∧ (¬ (4 ≥ ρ 1)) ∧ (¬ (5 ≥ ρ 1)) ∧ (¬ (6 ≥ ρ 1)) ∧ (¬ (7 ≥ ρ 1)) ∧ (¬ (8 ≥ ρ 1)) ∧ (¬ (9 ≥ ρ 1)) ∧ (¬ (10 ≥ ρ 1)) ∧ (¬ (11 ≥ ρ 1)) ∧ (¬ (12 ≥ ρ 1)) ∧ (¬ (13 ≥ ρ 1)) ∧ (14 ≥ ρ 1) := ⟨by omega, by omega, by omega, by omega, by omega, by omega, by omega, by omega, by omega, by omega, by omega, by omega, by omega, by omega, by omega⟩
  have m1 : γ 0 15 0 13 = ρ 1 := zAllA hm 1
  have c1 : γ 1 = rUp (γ 0) 15 0 93 0 := And.right (zChA hc 19)
  have c3 : γ 3 = rUp (γ 2) 15 0 71 0 := And.right (zChA hc 17)
  have c4 : γ 4 = rUp (γ 3) 15 0 72 0 := And.right (zChA hc 16)
  have c5 : γ 5 = rUp (γ 4) 15 0 73 0 := And.right (zChA hc 15)
  have c6 : γ 6 = rUp (γ 5) 15 0 77 0 := And.right (zChA hc 14)
  have c7 : γ 7 = rUp (γ 6) 100 0 0 (-1) := And.right (zChA hc 13)
  have c8 : γ 8 = rUp (γ 7) 100 0 1 (-1) := And.right (zChA hc 12)
  have c9 : γ 9 = rUp (γ 8) 100 0 2 (-1) := And.right (zChA hc 11)
  have c10 : γ 10 = rUp (γ 9) 100 0 3 (-1) := And.right (zChA hc 10)
  have c11 : γ 11 = rUp (γ 10) 100 0 4 (-1) := And.right (zChA hc 9)
  have c12 : γ 12 = rUp (γ 11) 100 0 5 (-1) := And.right (zChA hc 8)
  have c13 : γ 13 = rUp (γ 12) 100 0 6 (-1) := And.right (zChA hc 7)
  have c14 : γ 14 = rUp (γ 13) 100 0 7 (-1) := And.right (zChA hc 6)
  have c15 : γ 15 = rUp (γ 14) 100 0 8 (-1) := And.right (zChA hc 5)
  have c16 : γ 16 = rUp (γ 15) 100 0 9 (-1) := And.right (zChA hc 4)
  have c17 : γ 17 = rUp (γ 16) 100 0 10 (-1) := And.right (zChA hc 3)
  have c18 : γ 18 = rUp (γ 17) 100 0 11 (-1) := And.right (zChA hc 2)
  have c19 : γ 19 = rUp (γ 18) 100 0 12 (-1) := And.right (zChA hc 1)
  have c20 : γ 20 = rUp (γ 19) 100 0 13 (-1) := And.right (zChA hc 0)
  have l0 : sn77 [ρ 0, ρ 1, ρ 6, ρ 19, ρ 20, ρ 21, ρ 22, ρ 23, ρ 24, ρ 25, ρ 26, ρ 27, ρ 28, ρ 29, ρ 30, ρ 31, ρ 32, ρ 33, ρ 34, ρ 35, ρ 36, ρ 37, ρ 38, ρ 39] (γ 1) 0 1 (γ 2) := hS77 _ _ _ _ _ (zAllA hl 0)
  show jn78 [ρ 0, ρ 1, ρ 2, ρ 3, ρ 4, ρ 5, ρ 6, ρ 7, ρ 8, ρ 9, ρ 10, ρ 11, ρ 12, ρ 13, ρ 14, ρ 15, ρ 16, ρ 17, ρ 18] (γ 0) 0 [ρ 0, ρ 1, ρ 2, ρ 3, ρ 4, ρ 5, ρ 6, ρ 7, ρ 8, ρ 9, ρ 10, ρ 11, ρ 12, ρ 13, ρ 14, ρ 15, ρ 16, ρ 17, ρ 18, 0, 0, 0, 0, ρ 40, 0, ρ 12, ρ 13, ρ 14, ρ 15, ρ 16, 0] (γ 20)
  have hD : dn78 [] (γ 0) = .inl (0, [0], γ 20) := by
    unfold dn78
    refine zLE m1 (zLE c1.symm (zLE (show fn77 [] (γ 1) = (0, 1, γ 2) from l0.symm) (zLV (γ 2) rfl (zIP zQ1_ (zLE c3.symm (zLE c4.symm (zLE c5.symm ?_)))))))
    refine zLE c6.symm (zIN w_0 (zLE c7.symm (zIN w_1 (zLE c8.symm (zIN w_2 (zLE c9.symm (zIN w_3 ?_)))))))
    refine zLE c10.symm (zIN w_4 (zLE c11.symm (zIN w_5 (zLE c12.symm (zIN w_6 (zLE c13.symm (zIN w_7 ?_)))))))
    refine zLE c14.symm (zIN w_8 (zLE c15.symm (zIN w_9 (zLE c16.symm (zIN w_10 (zLE c17.symm (zIN w_11 ?_)))))))
    refine zLE c18.symm (zIN w_12 (zLE c19.symm (zIN w_13 (zLE c20.symm (zIP w_14 ?_)))))
    rfl
  exact zGoo_to hD
theorem vn78_16 {S : Nat → zSpc} (hS1 : zIm S 1 sn1) (hS76 : zIm S 76 sn76) (hS77 : zIm S 77 sn77) {a : List Int} {g : rHp} : ∀ (ρ : Nat → Int) (γ : Nat → rHp), zO 19 S a g q78_16 ρ γ → zGl (fun i vs g1 => jn78 a g i vs g1) (sn78 a g) q78_16 ρ γ := by
  intro ρ γ h
  obtain ⟨ha, hg, hr, hf, hm, hc, hl⟩ := h
  have ha : a = [ρ 0, ρ 1, ρ 2, ρ 3, ρ 4, ρ 5, ρ 6, ρ 7, ρ 8, ρ 9, ρ 10, ρ 11, ρ 12, ρ 13, ρ 14, ρ 15, ρ 16, ρ 17, ρ 18] := ha
  subst ha
  subst hg
  have r1 : (15 : Int) ≤ ρ 1 ∧ ρ 1 ≤ 15 := zRnA hr 1
  obtain ⟨w_0, w_1, w_2, w_3, w_4, w_5, w_6, w_7, w_8, w_9, w_10, w_11, w_12, w_13, w_14, w_15⟩ : (¬ (0 ≥ ρ 1)) ∧ (¬ (1 ≥ ρ 1)) ∧ (¬ (2 ≥ ρ 1)) ∧ (¬ (3 ≥ ρ 1)) ∧ (¬ (4 ≥ ρ 1)) ∧ (¬ (5 ≥ ρ 1)) ∧ (¬ (6 ≥ ρ 1)) ∧ (¬ (7 ≥ ρ 1)) ∧ (¬ (8 ≥ ρ 1)) ∧ (¬ (9 ≥ ρ 1)) ∧ (¬ (10 ≥ ρ 1)) ∧ (¬ (11 ≥ ρ 1)) ∧ (¬ (12 ≥ ρ 1)) ∧ (¬ (13 ≥ ρ 1)) ∧ (¬ (14 ≥ ρ 1)) ∧ (15 ≥ ρ 1) := ⟨by omega, by omega, by omega, by omega, by omega, by omega, by omega, by omega, by omega, by omega, by omega, by omega, by omega, by omega, by omega, by omega⟩
  have m1 : γ 0 15 0 13 = ρ 1 := zAllA hm 1
  have c1 : γ 1 = rUp (γ 0) 15 0 93 0 := And.right (zChA hc 20)
  have c3 : γ 3 = rUp (γ 2) 15 0 71 0 := And.right (zChA hc 18)
  have c4 : γ 4 = rUp (γ 3) 15 0 72 0 := And.right (zChA hc 17)
  have c5 : γ 5 = rUp (γ 4) 15 0 73 0 := And.right (zChA hc 16)
  have c6 : γ 6 = rUp (γ 5) 15 0 77 0 := And.right (zChA hc 15)
  have c7 : γ 7 = rUp (γ 6) 100 0 0 (-1) := And.right (zChA hc 14)
  have c8 : γ 8 = rUp (γ 7) 100 0 1 (-1) := And.right (zChA hc 13)
  have c9 : γ 9 = rUp (γ 8) 100 0 2 (-1) := And.right (zChA hc 12)
  have c10 : γ 10 = rUp (γ 9) 100 0 3 (-1) := And.right (zChA hc 11)
  have c11 : γ 11 = rUp (γ 10) 100 0 4 (-1) := And.right (zChA hc 10)
  have c12 : γ 12 = rUp (γ 11) 100 0 5 (-1) := And.right (zChA hc 9)
  have c13 : γ 13 = rUp (γ 12) 100 0 6 (-1) := And.right (zChA hc 8)
  have c14 : γ 14 = rUp (γ 13) 100 0 7 (-1) := And.right (zChA hc 7)
  have c15 : γ 15 = rUp (γ 14) 100 0 8 (-1) := And.right (zChA hc 6)
  have c16 : γ 16 = rUp (γ 15) 100 0 9 (-1) := And.right (zChA hc 5)
  have c17 : γ 17 = rUp (γ 16) 100 0 10 (-1) := And.right (zChA hc 4)
  have c18 : γ 18 = rUp (γ 17) 100 0 11 (-1) := And.right (zChA hc 3)
  have c19 : γ 19 = rUp (γ 18) 100 0 12 (-1) := And.right (zChA hc 2)
  have c20 : γ 20 = rUp (γ 19) 100 0 13 (-1) := And.right (zChA hc 1)
  have c21 : γ 21 = rUp (γ 20) 100 0 14 (-1) := And.right (zChA hc 0)
  have l0 : sn77 [ρ 0, ρ 1, ρ 6, ρ 19, ρ 20, ρ 21, ρ 22, ρ 23, ρ 24, ρ 25, ρ 26, ρ 27, ρ 28, ρ 29, ρ 30, ρ 31, ρ 32, ρ 33, ρ 34, ρ 35, ρ 36, ρ 37, ρ 38, ρ 39] (γ 1) 0 1 (γ 2) := hS77 _ _ _ _ _ (zAllA hl 0)
  show jn78 [ρ 0, ρ 1, ρ 2, ρ 3, ρ 4, ρ 5, ρ 6, ρ 7, ρ 8, ρ 9, ρ 10, ρ 11, ρ 12, ρ 13, ρ 14, ρ 15, ρ 16, ρ 17, ρ 18] (γ 0) 0 [ρ 0, ρ 1, ρ 2, ρ 3, ρ 4, ρ 5, ρ 6, ρ 7, ρ 8, ρ 9, ρ 10, ρ 11, ρ 12, ρ 13, ρ 14, ρ 15, ρ 16, ρ 17, ρ 18, 0, 0, 0, 0, ρ 40, 0, ρ 12, ρ 13, ρ 14, ρ 15, ρ 16, 0] (γ 21)
  have hD : dn78 [] (γ 0) = .inl (0, [0], γ 21) := by
    unfold dn78
    refine zLE m1 (zLE c1.symm (zLE (show fn77 [] (γ 1) = (0, 1, γ 2) from l0.symm) (zLV (γ 2) rfl (zIP zQ1_ (zLE c3.symm (zLE c4.symm (zLE c5.symm ?_)))))))
    refine zLE c6.symm (zIN w_0 (zLE c7.symm (zIN w_1 (zLE c8.symm (zIN w_2 (zLE c9.symm (zIN w_3 ?_)))))))
    refine zLE c10.symm (zIN w_4 (zLE c11.symm (zIN w_5 (zLE c12.symm (zIN w_6 (zLE c13.symm (zIN w_7 ?_)))))))
    refine zLE c14.symm (zIN w_8 (zLE c15.symm (zIN w_9 (zLE c16.symm (zIN w_10 (zLE c17.symm (zIN w_11 ?_)))))))
    refine zLE c18.symm (zIN w_12 (zLE c19.symm (zIN w_13 (zLE c20.symm (zIN w_14 (zLE c21.symm (zIP w_15 ?_)))))))
    rfl
  exact zGoo_to hD
theorem vn78_17 {S : Nat → zSpc} (hS1 : zIm S 1 sn1) (hS76 : zIm S 76 sn76) (hS77 : zIm S 77 sn77) {a : List Int} {g : rHp} : ∀ (ρ : Nat → Int) (γ : Nat → rHp), zO 19 S a g q78_17 ρ γ → zGl (fun i vs g1 => jn78 a g i vs g1) (sn78 a g) q78_17 ρ γ := by
  intro ρ γ h
  obtain ⟨ha, hg, hr, hf, hm, hc, hl⟩ := h
  have ha : a = [ρ 0, ρ 1, ρ 2, ρ 3, ρ 4, ρ 5, ρ 6, ρ 7, ρ 8, ρ 9, ρ 10, ρ 11, ρ 12, ρ 13, ρ 14, ρ 15, ρ 16, ρ 17, ρ 18] := ha
  subst ha
  subst hg
  have r1 : (16 : Int) ≤ ρ 1 ∧ ρ 1 ≤ 16 := zRnA hr 1
  obtain ⟨w_0, w_1, w_2, w_3, w_4, w_5, w_6, w_7, w_8, w_9, w_10, w_11, w_12, w_13, w_14, w_15, w_16⟩ : (¬ (0 ≥ ρ 1)) ∧ (¬ (1 ≥ ρ 1)) ∧ (¬ (2 ≥ ρ 1)) ∧ (¬ (3 ≥ ρ 1)) ∧ (¬ (4 ≥ ρ 1)) ∧ (¬ (5 ≥ ρ 1)) ∧ (¬ (6 ≥ ρ 1)) ∧ (¬ (7 ≥ ρ 1)) ∧ (¬ (8 ≥ ρ 1)) ∧ (¬ (9 ≥ ρ 1)) ∧ (¬ (10 ≥ ρ 1)) ∧ (¬ (11 ≥ ρ 1)) ∧ (¬ (12 ≥ ρ 1)) ∧ (¬ (13 ≥ ρ 1)) ∧ (¬ (14 ≥ ρ 1)) ∧ (¬ (15 ≥ ρ 1)) ∧ (16 ≥ ρ 1) := ⟨by omega, by omega, by omega, by omega, by omega, by omega, by omega, by omega, by omega, by omega, by omega, by omega, by omega, by omega, by omega, by omega, by omega⟩
  have m1 : γ 0 15 0 13 = ρ 1 := zAllA hm 1
  have c1 : γ 1 = rUp (γ 0) 15 0 93 0 := And.right (zChA hc 21)
  have c3 : γ 3 = rUp (γ 2) 15 0 71 0 := And.right (zChA hc 19)
  have c4 : γ 4 = rUp (γ 3) 15 0 72 0 := And.right (zChA hc 18)
  have c5 : γ 5 = rUp (γ 4) 15 0 73 0 := And.right (zChA hc 17)
  have c6 : γ 6 = rUp (γ 5) 15 0 77 0 := And.right (zChA hc 16)
  have c7 : γ 7 = rUp (γ 6) 100 0 0 (-1) := And.right (zChA hc 15)
  have c8 : γ 8 = rUp (γ 7) 100 0 1 (-1) := And.right (zChA hc 14)
  have c9 : γ 9 = rUp (γ 8) 100 0 2 (-1) := And.right (zChA hc 13)
  have c10 : γ 10 = rUp (γ 9) 100 0 3 (-1) := And.right (zChA hc 12)
  have c11 : γ 11 = rUp (γ 10) 100 0 4 (-1) := And.right (zChA hc 11)
  have c12 : γ 12 = rUp (γ 11) 100 0 5 (-1) := And.right (zChA hc 10)
  have c13 : γ 13 = rUp (γ 12) 100 0 6 (-1) := And.right (zChA hc 9)
  have c14 : γ 14 = rUp (γ 13) 100 0 7 (-1) := And.right (zChA hc 8)
  have c15 : γ 15 = rUp (γ 14) 100 0 8 (-1) := And.right (zChA hc 7)
  have c16 : γ 16 = rUp (γ 15) 100 0 9 (-1) := And.right (zChA hc 6)
  have c17 : γ 17 = rUp (γ 16) 100 0 10 (-1) := And.right (zChA hc 5)
  have c18 : γ 18 = rUp (γ 17) 100 0 11 (-1) := And.right (zChA hc 4)
  have c19 : γ 19 = rUp (γ 18) 100 0 12 (-1) := And.right (zChA hc 3)
  have c20 : γ 20 = rUp (γ 19) 100 0 13 (-1) := And.right (zChA hc 2)
  have c21 : γ 21 = rUp (γ 20) 100 0 14 (-1) := And.right (zChA hc 1)
  have c22 : γ 22 = rUp (γ 21) 100 0 15 (-1) := And.right (zChA hc 0)
  have l0 : sn77 [ρ 0, ρ 1, ρ 6, ρ 19, ρ 20, ρ 21, ρ 22, ρ 23, ρ 24, ρ 25, ρ 26, ρ 27, ρ 28, ρ 29, ρ 30, ρ 31, ρ 32, ρ 33, ρ 34, ρ 35, ρ 36, ρ 37, ρ 38, ρ 39] (γ 1) 0 1 (γ 2) := hS77 _ _ _ _ _ (zAllA hl 0)
  show jn78 [ρ 0, ρ 1, ρ 2, ρ 3, ρ 4, ρ 5, ρ 6, ρ 7, ρ 8, ρ 9, ρ 10, ρ 11, ρ 12, ρ 13, ρ 14, ρ 15, ρ 16, ρ 17, ρ 18] (γ 0) 0 [ρ 0, ρ 1, ρ 2, ρ 3, ρ 4, ρ 5, ρ 6, ρ 7, ρ 8, ρ 9, ρ 10, ρ 11, ρ 12, ρ 13, ρ 14, ρ 15, ρ 16, ρ 17, ρ 18, 0, 0, 0, 0, ρ 40, 0, ρ 12, ρ 13, ρ 14, ρ 15, ρ 16, 0] (γ 22)
  have hD : dn78 [] (γ 0) = .inl (0, [0], γ 22) := by
    unfold dn78
    refine zLE m1 (zLE c1.symm (zLE (show fn77 [] (γ 1) = (0, 1, γ 2) from l0.symm) (zLV (γ 2) rfl (zIP zQ1_ (zLE c3.symm (zLE c4.symm (zLE c5.symm ?_)))))))
    refine zLE c6.symm (zIN w_0 (zLE c7.symm (zIN w_1 (zLE c8.symm (zIN w_2 (zLE c9.symm (zIN w_3 ?_)))))))
    refine zLE c10.symm (zIN w_4 (zLE c11.symm (zIN w_5 (zLE c12.symm (zIN w_6 (zLE c13.symm (zIN w_7 ?_)))))))
    refine zLE c14.symm (zIN w_8 (zLE c15.symm (zIN w_9 (zLE c16.symm (zIN w_10 (zLE c17.symm (zIN w_11 ?_)))))))
    refine zLE c18.symm (zIN w_12 (zLE c19.symm (zIN w_13 (zLE c20.symm (zIN w_14 (zLE c21.symm (zIN w_15 ?_)))))))
    refine zLE c22.symm (zIP w_16 ?_)
    rfl
  exact zGoo_to hD
theorem vn78_18 {S : Nat → zSpc} (hS1 : zIm S 1 sn1) (hS76 : zIm S 76 sn76) (hS77 : zIm S 77 sn77) {a : List Int} {g : rHp} : ∀ (ρ : Nat → Int) (γ : Nat → rHp), zO 19 S a g q78_18 ρ γ → zGl (fun i vs g1 => jn78 a g i vs g1) (sn78 a g) q78_18 ρ γ := by
  intro ρ γ h
  obtain ⟨ha, hg, hr, hf, hm, hc, hl⟩ := h
  have ha : a = [ρ 0, ρ 1, ρ 2, ρ 3, ρ 4, ρ 5, ρ 6, ρ 7, ρ 8, ρ 9, ρ 10, ρ 11, ρ 12, ρ 13, ρ 14, ρ 15, ρ 16, ρ 17, ρ 18] := ha
  subst ha
  subst hg
  have r1 : (17 : Int) ≤ ρ 1 ∧ ρ 1 ≤ 17 := zRnA hr 1
  obtain ⟨w_0, w_1, w_2, w_3, w_4, w_5, w_6, w_7, w_8, w_9, w_10, w_11, w_12, w_13, w_14, w_15, w_16, w_17⟩ : (¬ (0 ≥ ρ 1)) ∧ (¬ (1 ≥ ρ 1)) ∧ (¬ (2 ≥ ρ 1)) ∧ (¬ (3 ≥ ρ 1)) ∧ (¬ (4 ≥ ρ 1)) ∧ (¬ (5 ≥ ρ 1)) ∧ (¬ (6 ≥ ρ 1)) ∧ (¬ (7 ≥ ρ 1)) ∧ (¬ (8 ≥ ρ 1)) ∧ (¬ (9 ≥ ρ 1)) ∧ (¬ (10 ≥ ρ 1)) ∧ (¬ (11 ≥ ρ 1)) ∧ (¬ (12 ≥ ρ 1)) ∧ (¬ (13 ≥ ρ 1)) ∧ (¬ (14 ≥ ρ 1)) ∧ (¬ (15 ≥ ρ 1)) ∧ (¬ (16 ≥ ρ 1)) ∧ (17 ≥ ρ 1) := ⟨by omega, by omega, by omega, by omega, by omega, by omega, by omega, by omega, by omega, by omega, by omega, by omega, by omega, by omega, by omega, by omega, by omega, by omega⟩
  have m1 : γ 0 15 0 13 = ρ 1 := zAllA hm 1
  have c1 : γ 1 = rUp (γ 0) 15 0 93 0 := And.right (zChA hc 22)
  have c3 : γ 3 = rUp (γ 2) 15 0 71 0 := And.right (zChA hc 20)
  have c4 : γ 4 = rUp (γ 3) 15 0 72 0 := And.right (zChA hc 19)
  have c5 : γ 5 = rUp (γ 4) 15 0 73 0 := And.right (zChA hc 18)
  have c6 : γ 6 = rUp (γ 5) 15 0 77 0 := And.right (zChA hc 17)
  have c7 : γ 7 = rUp (γ 6) 100 0 0 (-1) := And.right (zChA hc 16)
  have c8 : γ 8 = rUp (γ 7) 100 0 1 (-1) := And.right (zChA hc 15)
  have c9 : γ 9 = rUp (γ 8) 100 0 2 (-1) := And.right (zChA hc 14)
  have c10 : γ 10 = rUp (γ 9) 100 0 3 (-1) := And.right (zChA hc 13)
  have c11 : γ 11 = rUp (γ 10) 100 0 4 (-1) := And.right (zChA hc 12)
  have c12 : γ 12 = rUp (γ 11) 100 0 5 (-1) := And.right (zChA hc 11)
  have c13 : γ 13 = rUp (γ 12) 100 0 6 (-1) := And.right (zChA hc 10)
  have c14 : γ 14 = rUp (γ 13) 100 0 7 (-1) := And.right (zChA hc 9)
  have c15 : γ 15 = rUp (γ 14) 100 0 8 (-1) := And.right (zChA hc 8)
  have c16 : γ 16 = rUp (γ 15) 100 0 9 (-1) := And.right (zChA hc 7)
  have c17 : γ 17 = rUp (γ 16) 100 0 10 (-1) := And.right (zChA hc 6)
  have c18 : γ 18 = rUp (γ 17) 100 0 11 (-1) := And.right (zChA hc 5)
  have c19 : γ 19 = rUp (γ 18) 100 0 12 (-1) := And.right (zChA hc 4)
  have c20 : γ 20 = rUp (γ 19) 100 0 13 (-1) := And.right (zChA hc 3)
  have c21 : γ 21 = rUp (γ 20) 100 0 14 (-1) := And.right (zChA hc 2)
  have c22 : γ 22 = rUp (γ 21) 100 0 15 (-1) := And.right (zChA hc 1)
  have c23 : γ 23 = rUp (γ 22) 100 0 16 (-1) := And.right (zChA hc 0)
  have l0 : sn77 [ρ 0, ρ 1, ρ 6, ρ 19, ρ 20, ρ 21, ρ 22, ρ 23, ρ 24, ρ 25, ρ 26, ρ 27, ρ 28, ρ 29, ρ 30, ρ 31, ρ 32, ρ 33, ρ 34, ρ 35, ρ 36, ρ 37, ρ 38, ρ 39] (γ 1) 0 1 (γ 2) := hS77 _ _ _ _ _ (zAllA hl 0)
  show jn78 [ρ 0, ρ 1, ρ 2, ρ 3, ρ 4, ρ 5, ρ 6, ρ 7, ρ 8, ρ 9, ρ 10, ρ 11, ρ 12, ρ 13, ρ 14, ρ 15, ρ 16, ρ 17, ρ 18] (γ 0) 0 [ρ 0, ρ 1, ρ 2, ρ 3, ρ 4, ρ 5, ρ 6, ρ 7, ρ 8, ρ 9, ρ 10, ρ 11, ρ 12, ρ 13, ρ 14, ρ 15, ρ 16, ρ 17, ρ 18, 0, 0, 0, 0, ρ 40, 0, ρ 12, ρ 13, ρ 14, ρ 15, ρ 16, 0] (γ 23)
  have hD : dn78 [] (γ 0) = .inl (0, [0], γ 23) := by
    unfold dn78
    refine zLE m1 (zLE c1.symm (zLE (show fn77 [] (γ 1) = (0, 1, γ 2) from l0.symm) (zLV (γ 2) rfl (zIP zQ1_ (zLE c3.symm (zLE c4.symm (zLE c5.symm ?_)))))))
    refine zLE c6.symm (zIN w_0 (zLE c7.symm (zIN w_1 (zLE c8.symm (zIN w_2 (zLE c9.symm (zIN w_3 ?_)))))))
    refine zLE c10.symm (zIN w_4 (zLE c11.symm (zIN w_5 (zLE c12.symm (zIN w_6 (zLE c13.symm (zIN w_7 ?_)))))))
    refine zLE c14.symm (zIN w_8 (zLE c15.symm (zIN w_9 (zLE c16.symm (zIN w_10 (zLE c17.symm (zIN w_11 ?_)))))))
    refine zLE c18.symm (zIN w_12 (zLE c19.symm (zIN w_13 (zLE c20.symm (zIN w_14 (zLE c21.symm (zIN w_15 ?_)))))))
    refine zLE c22.symm (zIN w_16 (zLE c23.symm (zIP w_17 ?_)))
    rfl
  exact zGoo_to hD
theorem vn78_19 {S : Nat → zSpc} (hS1 : zIm S 1 sn1) (hS76 : zIm S 76 sn76) (hS77 : zIm S 77 sn77) {a : List Int} {g : rHp} : ∀ (ρ : Nat → Int) (γ : Nat → rHp), zO 19 S a g q78_19 ρ γ → zGl (fun i vs g1 => jn78 a g i vs g1) (sn78 a g) q78_19 ρ γ := by
  intro ρ γ h
  obtain ⟨ha, hg, hr, hf, hm, hc, hl⟩ := h
  have ha : a = [ρ 0, ρ 1, ρ 2, ρ 3, ρ 4, ρ 5, ρ 6, ρ 7, ρ 8, ρ 9, ρ 10, ρ 11, ρ 12, ρ 13, ρ 14, ρ 15, ρ 16, ρ 17, ρ 18] := ha
  subst ha
  subst hg
  have r1 : (18 : Int) ≤ ρ 1 ∧ ρ 1 ≤ 18 := zRnA hr 1
  obtain ⟨w_0, w_1, w_2, w_3, w_4, w_5, w_6, w_7, w_8, w_9, w_10, w_11, w_12, w_13, w_14, w_15, w_16, w_17, w_18⟩ : (¬ (0 ≥ ρ 1)) ∧ (¬ (1 ≥ ρ 1)) ∧ (¬ (2 ≥ ρ 1)) ∧ (¬ (3 ≥ ρ 1)) ∧ (¬ (4 ≥ ρ 1)) ∧ (¬ (5 ≥ ρ 1)) ∧ (¬ (6 ≥ ρ 1)) ∧ (¬ (7 ≥ ρ 1)) ∧ (¬ (8 ≥ ρ 1)) ∧ (¬ (9 ≥ ρ 1)) ∧ (¬ (10 ≥ ρ 1)) ∧ (¬ (11 ≥ ρ 1)) ∧ (¬ (12 ≥ ρ 1)) ∧ (¬ (13 ≥ ρ 1)) ∧ (¬ (14 ≥ ρ 1)) ∧ (¬ (15 ≥ ρ 1)) ∧ (¬ (16 ≥ ρ 1)) ∧ (¬ (17 ≥ ρ 1)) ∧ (18 ≥ ρ 1) := ⟨by omega, by omega, by omega, by omega, by omega, by omega, by omega, by omega, by omega, by omega, by omega, by omega, by omega, by omega, by omega, by omega, by omega, by omega, by omega⟩
  have m1 : γ 0 15 0 13 = ρ 1 := zAllA hm 1
  have c1 : γ 1 = rUp (γ 0) 15 0 93 0 := And.right (zChA hc 23)
  have c3 : γ 3 = rUp (γ 2) 15 0 71 0 := And.right (zChA hc 21)
  have c4 : γ 4 = rUp (γ 3) 15 0 72 0 := And.right (zChA hc 20)
  have c5 : γ 5 = rUp (γ 4) 15 0 73 0 := And.right (zChA hc 19)
  have c6 : γ 6 = rUp (γ 5) 15 0 77 0 := And.right (zChA hc 18)
  have c7 : γ 7 = rUp (γ 6) 100 0 0 (-1) := And.right (zChA hc 17)
  have c8 : γ 8 = rUp (γ 7) 100 0 1 (-1) := And.right (zChA hc 16)
  have c9 : γ 9 = rUp (γ 8) 100 0 2 (-1) := And.right (zChA hc 15)
  have c10 : γ 10 = rUp (γ 9) 100 0 3 (-1) := And.right (zChA hc 14)
  have c11 : γ 11 = rUp (γ 10) 100 0 4 (-1) := And.right (zChA hc 13)
  have c12 : γ 12 = rUp (γ 11) 100 0 5 (-1) := And.right (zChA hc 12)
  have c13 : γ 13 = rUp (γ 12) 100 0 6 (-1) := And.right (zChA hc 11)
  have c14 : γ 14 = rUp (γ 13) 100 0 7 (-1) := And.right (zChA hc 10)
  have c15 : γ 15 = rUp (γ 14) 100 0 8 (-1) := And.right (zChA hc 9)
  have c16 : γ 16 = rUp (γ 15) 100 0 9 (-1) := And.right (zChA hc 8)
  have c17 : γ 17 = rUp (γ 16) 100 0 10 (-1) := And.right (zChA hc 7)
  have c18 : γ 18 = rUp (γ 17) 100 0 11 (-1) := And.right (zChA hc 6)
  have c19 : γ 19 = rUp (γ 18) 100 0 12 (-1) := And.right (zChA hc 5)
  have c20 : γ 20 = rUp (γ 19) 100 0 13 (-1) := And.right (zChA hc 4)
  have c21 : γ 21 = rUp (γ 20) 100 0 14 (-1) := And.right (zChA hc 3)
  have c22 : γ 22 = rUp (γ 21) 100 0 15 (-1) := And.right (zChA hc 2)
  have c23 : γ 23 = rUp (γ 22) 100 0 16 (-1) := And.right (zChA hc 1)
  have c24 : γ 24 = rUp (γ 23) 100 0 17 (-1) := And.right (zChA hc 0)
  have l0 : sn77 [ρ 0, ρ 1, ρ 6, ρ 19, ρ 20, ρ 21, ρ 22, ρ 23, ρ 24, ρ 25, ρ 26, ρ 27, ρ 28, ρ 29, ρ 30, ρ 31, ρ 32, ρ 33, ρ 34, ρ 35, ρ 36, ρ 37, ρ 38, ρ 39] (γ 1) 0 1 (γ 2) := hS77 _ _ _ _ _ (zAllA hl 0)
  show jn78 [ρ 0, ρ 1, ρ 2, ρ 3, ρ 4, ρ 5, ρ 6, ρ 7, ρ 8, ρ 9, ρ 10, ρ 11, ρ 12, ρ 13, ρ 14, ρ 15, ρ 16, ρ 17, ρ 18] (γ 0) 0 [ρ 0, ρ 1, ρ 2, ρ 3, ρ 4, ρ 5, ρ 6, ρ 7, ρ 8, ρ 9, ρ 10, ρ 11, ρ 12, ρ 13, ρ 14, ρ 15, ρ 16, ρ 17, ρ 18, 0, 0, 0, 0, ρ 40, 0, ρ 12, ρ 13, ρ 14, ρ 15, ρ 16, 0] (γ 24)
  have hD : dn78 [] (γ 0) = .inl (0, [0], γ 24) := by
    unfold dn78
    refine zLE m1 (zLE c1.symm (zLE (show fn77 [] (γ 1) = (0, 1, γ 2) from l0.symm) (zLV (γ 2) rfl (zIP zQ1_ (zLE c3.symm (zLE c4.symm (zLE c5.symm ?_)))))))
    refine zLE c6.symm (zIN w_0 (zLE c7.symm (zIN w_1 (zLE c8.symm (zIN w_2 (zLE c9.symm (zIN w_3 ?_)))))))
    refine zLE c10.symm (zIN w_4 (zLE c11.symm (zIN w_5 (zLE c12.symm (zIN w_6 (zLE c13.symm (zIN w_7 ?_)))))))
    refine zLE c14.symm (zIN w_8 (zLE c15.symm (zIN w_9 (zLE c16.symm (zIN w_10 (zLE c17.symm (zIN w_11 ?_)))))))
    refine zLE c18.symm (zIN w_12 (zLE c19.symm (zIN w_13 (zLE c20.symm (zIN w_14 (zLE c21.symm (zIN w_15 ?_)))))))
    refine zLE c22.symm (zIN w_16 (zLE c23.symm (zIN w_17 (zLE c24.symm (zIP w_18 ?_)))))
    rfl
  exact zGoo_to hD
theorem vn78_20 {S : Nat → zSpc} (hS1 : zIm S 1 sn1) (hS76 : zIm S 76 sn76) (hS77 : zIm S 77 sn77) {a : List Int} {g : rHp} : ∀ (ρ : Nat → Int) (γ : Nat → rHp), zO 19 S a g q78_20 ρ γ → zGl (fun i vs g1 => jn78 a g i vs g1) (sn78 a g) q78_20 ρ γ := by
  intro ρ γ h
  obtain ⟨ha, hg, hr, hf, hm, hc, hl⟩ := h
  have ha : a = [ρ 0, ρ 1, ρ 2, ρ 3, ρ 4, ρ 5, ρ 6, ρ 7, ρ 8, ρ 9, ρ 10, ρ 11, ρ 12, ρ 13, ρ 14, ρ 15, ρ 16, ρ 17, ρ 18] := ha
  subst ha
  subst hg
  have r1 : (19 : Int) ≤ ρ 1 ∧ ρ 1 ≤ 19 := zRnA hr 1
  obtain ⟨w_0, w_1, w_2, w_3, w_4, w_5, w_6, w_7, w_8, w_9, w_10, w_11, w_12, w_13, w_14, w_15, w_16, w_17, w_18, w_19⟩ : (¬ (0 ≥ ρ 1)) ∧ (¬ (1 ≥ ρ 1)) ∧ (¬ (2 ≥ ρ 1)) ∧ (¬ (3 ≥ ρ 1)) ∧ (¬ (4 ≥ ρ 1)) ∧ (¬ (5 ≥ ρ 1)) ∧ (¬ (6 ≥ ρ 1)) ∧ (¬ (7 ≥ ρ 1)) ∧ (¬ (8 ≥ ρ 1)) ∧ (¬ (9 ≥ ρ 1)) ∧ (¬ (10 ≥ ρ 1)) ∧ (¬ (11 ≥ ρ 1)) ∧ (¬ (12 ≥ ρ 1)) ∧ (¬ (13 ≥ ρ 1)) ∧ (¬ (14 ≥ ρ 1)) ∧ (¬ (15 ≥ ρ 1)) ∧ (¬ (16 ≥ ρ 1)) ∧ (¬ (17 ≥ ρ 1)) ∧ (¬ (18 ≥ ρ 1)) ∧ (19 ≥ ρ 1) := ⟨by omega, by omega, by omega, by omega, by omega, by omega, by omega, by omega, by omega, by omega, by omega, by omega, by omega, by omega, by omega, by omega, by omega, by omega, by omega, by omega⟩
  have m1 : γ 0 15 0 13 = ρ 1 := zAllA hm 1
  have c1 : γ 1 = rUp (γ 0) 15 0 93 0 := And.right (zChA hc 24)
  have c3 : γ 3 = rUp (γ 2) 15 0 71 0 := And.right (zChA hc 22)
  have c4 : γ 4 = rUp (γ 3) 15 0 72 0 := And.right (zChA hc 21)
  have c5 : γ 5 = rUp (γ 4) 15 0 73 0 := And.right (zChA hc 20)
  have c6 : γ 6 = rUp (γ 5) 15 0 77 0 := And.right (zChA hc 19)
  have c7 : γ 7 = rUp (γ 6) 100 0 0 (-1) := And.right (zChA hc 18)
  have c8 : γ 8 = rUp (γ 7) 100 0 1 (-1) := And.right (zChA hc 17)
  have c9 : γ 9 = rUp (γ 8) 100 0 2 (-1) := And.right (zChA hc 16)
  have c10 : γ 10 = rUp (γ 9) 100 0 3 (-1) := And.right (zChA hc 15)
  have c11 : γ 11 = rUp (γ 10) 100 0 4 (-1) := And.right (zChA hc 14)
  have c12 : γ 12 = rUp (γ 11) 100 0 5 (-1) := And.right (zChA hc 13)
  have c13 : γ 13 = rUp (γ 12) 100 0 6 (-1) := And.right (zChA hc 12)
  have c14 : γ 14 = rUp (γ 13) 100 0 7 (-1) := And.right (zChA hc 11)
  have c15 : γ 15 = rUp (γ 14) 100 0 8 (-1) := And.right (zChA hc 10)
  have c16 : γ 16 = rUp (γ 15) 100 0 9 (-1) := And.right (zChA hc 9)
  have c17 : γ 17 = rUp (γ 16) 100 0 10 (-1) := And.right (zChA hc 8)
  have c18 : γ 18 = rUp (γ 17) 100 0 11 (-1) := And.right (zChA hc 7)
  have c19 : γ 19 = rUp (γ 18) 100 0 12 (-1) := And.right (zChA hc 6)
  have c20 : γ 20 = rUp (γ 19) 100 0 13 (-1) := And.right (zChA hc 5)
  have c21 : γ 21 = rUp (γ 20) 100 0 14 (-1) := And.right (zChA hc 4)
  have c22 : γ 22 = rUp (γ 21) 100 0 15 (-1) := And.right (zChA hc 3)
  have c23 : γ 23 = rUp (γ 22) 100 0 16 (-1) := And.right (zChA hc 2)
  have c24 : γ 24 = rUp (γ 23) 100 0 17 (-1) := And.right (zChA hc 1)
  have c25 : γ 25 = rUp (γ 24) 100 0 18 (-1) := And.right (zChA hc 0)
  have l0 : sn77 [ρ 0, ρ 1, ρ 6, ρ 19, ρ 20, ρ 21, ρ 22, ρ 23, ρ 24, ρ 25, ρ 26, ρ 27, ρ 28, ρ 29, ρ 30, ρ 31, ρ 32, ρ 33, ρ 34, ρ 35, ρ 36, ρ 37, ρ 38, ρ 39] (γ 1) 0 1 (γ 2) := hS77 _ _ _ _ _ (zAllA hl 0)
  show jn78 [ρ 0, ρ 1, ρ 2, ρ 3, ρ 4, ρ 5, ρ 6, ρ 7, ρ 8, ρ 9, ρ 10, ρ 11, ρ 12, ρ 13, ρ 14, ρ 15, ρ 16, ρ 17, ρ 18] (γ 0) 0 [ρ 0, ρ 1, ρ 2, ρ 3, ρ 4, ρ 5, ρ 6, ρ 7, ρ 8, ρ 9, ρ 10, ρ 11, ρ 12, ρ 13, ρ 14, ρ 15, ρ 16, ρ 17, ρ 18, 0, 0, 0, 0, ρ 40, 0, ρ 12, ρ 13, ρ 14, ρ 15, ρ 16, 0] (γ 25)
  have hD : dn78 [] (γ 0) = .inl (0, [0], γ 25) := by
    unfold dn78
    refine zLE m1 (zLE c1.symm (zLE (show fn77 [] (γ 1) = (0, 1, γ 2) from l0.symm) (zLV (γ 2) rfl (zIP zQ1_ (zLE c3.symm (zLE c4.symm (zLE c5.symm ?_)))))))
    refine zLE c6.symm (zIN w_0 (zLE c7.symm (zIN w_1 (zLE c8.symm (zIN w_2 (zLE c9.symm (zIN w_3 ?_)))))))
    refine zLE c10.symm (zIN w_4 (zLE c11.symm (zIN w_5 (zLE c12.symm (zIN w_6 (zLE c13.symm (zIN w_7 ?_)))))))
    refine zLE c14.symm (zIN w_8 (zLE c15.symm (zIN w_9 (zLE c16.symm (zIN w_10 (zLE c17.symm (zIN w_11 ?_)))))))
    refine zLE c18.symm (zIN w_12 (zLE c19.symm (zIN w_13 (zLE c20.symm (zIN w_14 (zLE c21.symm (zIN w_15 ?_)))))))
    refine zLE c22.symm (zIN w_16 (zLE c23.symm (zIN w_17 (zLE c24.symm (zIN w_18 (zLE c25.symm (zIP w_19 ?_)))))))
    rfl
  exact zGoo_to hD
theorem vn78_21 {S : Nat → zSpc} (hS1 : zIm S 1 sn1) (hS76 : zIm S 76 sn76) (hS77 : zIm S 77 sn77) {a : List Int} {g : rHp} : ∀ (ρ : Nat → Int) (γ : Nat → rHp), zO 19 S a g q78_21 ρ γ → zGl (fun i vs g1 => jn78 a g i vs g1) (sn78 a g) q78_21 ρ γ := by
  intro ρ γ h
  obtain ⟨ha, hg, hr, hf, hm, hc, hl⟩ := h
  have ha : a = [ρ 0, ρ 1, ρ 2, ρ 3, ρ 4, ρ 5, ρ 6, ρ 7, ρ 8, ρ 9, ρ 10, ρ 11, ρ 12, ρ 13, ρ 14, ρ 15, ρ 16, ρ 17, ρ 18] := ha
  subst ha
  subst hg
  have r1 : (20 : Int) ≤ ρ 1 ∧ ρ 1 ≤ 20 := zRnA hr 1
  obtain ⟨w_0, w_1, w_2, w_3, w_4, w_5, w_6, w_7, w_8, w_9, w_10, w_11, w_12, w_13, w_14, w_15, w_16, w_17, w_18, w_19⟩ : (¬ (0 ≥ ρ 1)) ∧ (¬ (1 ≥ ρ 1)) ∧ (¬ (2 ≥ ρ 1)) ∧ (¬ (3 ≥ ρ 1)) ∧ (¬ (4 ≥ ρ 1)) ∧ (¬ (5 ≥ ρ 1)) ∧ (¬ (6 ≥ ρ 1)) ∧ (¬ (7 ≥ ρ 1)) ∧ (¬ (8 ≥ ρ 1)) ∧ (¬ (9 ≥ ρ 1)) ∧ (¬ (10 ≥ ρ 1)) ∧ (¬ (11 ≥ ρ 1)) ∧ (¬ (12 ≥ ρ 1)) ∧ (¬ (13 ≥ ρ 1)) ∧ (¬ (14 ≥ ρ 1)) ∧ (¬ (15 ≥ ρ 1)) ∧ (¬ (16 ≥ ρ 1)) ∧ (¬ (17 ≥ ρ 1)) ∧ (¬ (18 ≥ ρ 1)) ∧ (¬ (19 ≥ ρ 1)) := ⟨by omega, by omega, by omega, by omega, by omega, by omega, by omega, by omega, by omega, by omega, by omega, by omega, by omega, by omega, by omega, by omega, by omega, by omega, by omega, by omega⟩
  have m1 : γ 0 15 0 13 = ρ 1 := zAllA hm 1
  have c1 : γ 1 = rUp (γ 0) 15 0 93 0 := And.right (zChA hc 25)
  have c3 : γ 3 = rUp (γ 2) 15 0 71 0 := And.right (zChA hc 23)
  have c4 : γ 4 = rUp (γ 3) 15 0 72 0 := And.right (zChA hc 22)
  have c5 : γ 5 = rUp (γ 4) 15 0 73 0 := And.right (zChA hc 21)
  have c6 : γ 6 = rUp (γ 5) 15 0 77 0 := And.right (zChA hc 20)
  have c7 : γ 7 = rUp (γ 6) 100 0 0 (-1) := And.right (zChA hc 19)
  have c8 : γ 8 = rUp (γ 7) 100 0 1 (-1) := And.right (zChA hc 18)
  have c9 : γ 9 = rUp (γ 8) 100 0 2 (-1) := And.right (zChA hc 17)
  have c10 : γ 10 = rUp (γ 9) 100 0 3 (-1) := And.right (zChA hc 16)
  have c11 : γ 11 = rUp (γ 10) 100 0 4 (-1) := And.right (zChA hc 15)
  have c12 : γ 12 = rUp (γ 11) 100 0 5 (-1) := And.right (zChA hc 14)
  have c13 : γ 13 = rUp (γ 12) 100 0 6 (-1) := And.right (zChA hc 13)
  have c14 : γ 14 = rUp (γ 13) 100 0 7 (-1) := And.right (zChA hc 12)
  have c15 : γ 15 = rUp (γ 14) 100 0 8 (-1) := And.right (zChA hc 11)
  have c16 : γ 16 = rUp (γ 15) 100 0 9 (-1) := And.right (zChA hc 10)
  have c17 : γ 17 = rUp (γ 16) 100 0 10 (-1) := And.right (zChA hc 9)
  have c18 : γ 18 = rUp (γ 17) 100 0 11 (-1) := And.right (zChA hc 8)
  have c19 : γ 19 = rUp (γ 18) 100 0 12 (-1) := And.right (zChA hc 7)
  have c20 : γ 20 = rUp (γ 19) 100 0 13 (-1) := And.right (zChA hc 6)
  have c21 : γ 21 = rUp (γ 20) 100 0 14 (-1) := And.right (zChA hc 5)
  have c22 : γ 22 = rUp (γ 21) 100 0 15 (-1) := And.right (zChA hc 4)
  have c23 : γ 23 = rUp (γ 22) 100 0 16 (-1) := And.right (zChA hc 3)
  have c24 : γ 24 = rUp (γ 23) 100 0 17 (-1) := And.right (zChA hc 2)
  have c25 : γ 25 = rUp (γ 24) 100 0 18 (-1) := And.right (zChA hc 1)
  have c26 : γ 26 = rUp (γ 25) 100 0 19 (-1) := And.right (zChA hc 0)
  have l0 : sn77 [ρ 0, ρ 1, ρ 6, ρ 19, ρ 20, ρ 21, ρ 22, ρ 23, ρ 24, ρ 25, ρ 26, ρ 27, ρ 28, ρ 29, ρ 30, ρ 31, ρ 32, ρ 33, ρ 34, ρ 35, ρ 36, ρ 37, ρ 38, ρ 39] (γ 1) 0 1 (γ 2) := hS77 _ _ _ _ _ (zAllA hl 0)
  show jn78 [ρ 0, ρ 1, ρ 2, ρ 3, ρ 4, ρ 5, ρ 6, ρ 7, ρ 8, ρ 9, ρ 10, ρ 11, ρ 12, ρ 13, ρ 14, ρ 15, ρ 16, ρ 17, ρ 18] (γ 0) 0 [ρ 0, ρ 1, ρ 2, ρ 3, ρ 4, ρ 5, ρ 6, ρ 7, ρ 8, ρ 9, ρ 10, ρ 11, ρ 12, ρ 13, ρ 14, ρ 15, ρ 16, ρ 17, ρ 18, 0, 0, 0, 0, ρ 40, 0, ρ 12, ρ 13, ρ 14, ρ 15, ρ 16, 0] (γ 26)
  have hD : dn78 [] (γ 0) = .inl (0, [0], γ 26) := by
    unfold dn78
    refine zLE m1 (zLE c1.symm (zLE (show fn77 [] (γ 1) = (0, 1, γ 2) from l0.symm) (zLV (γ 2) rfl (zIP zQ1_ (zLE c3.symm (zLE c4.symm (zLE c5.symm ?_)))))))
    refine zLE c6.symm (zIN w_0 (zLE c7.symm (zIN w_1 (zLE c8.symm (zIN w_2 (zLE c9.symm (zIN w_3 ?_)))))))
    refine zLE c10.symm (zIN w_4 (zLE c11.symm (zIN w_5 (zLE c12.symm (zIN w_6 (zLE c13.symm (zIN w_7 ?_)))))))
    refine zLE c14.symm (zIN w_8 (zLE c15.symm (zIN w_9 (zLE c16.symm (zIN w_10 (zLE c17.symm (zIN w_11 ?_)))))))
    refine zLE c18.symm (zIN w_12 (zLE c19.symm (zIN w_13 (zLE c20.symm (zIN w_14 (zLE c21.symm (zIN w_15 ?_)))))))
    refine zLE c22.symm (zIN w_16 (zLE c23.symm (zIN w_17 (zLE c24.symm (zIN w_18 (zLE c25.symm (zIN w_19 ?_)))))))
    refine zLE c26.symm ?_
    rfl
  exact zGoo_to hD
theorem vn78a0_0 {S : Nat → zSpc} (hS1 : zIm S 1 sn1) (hS76 : zIm S 76 sn76) (hS77 : zIm S 77 sn77) {a : List Int} {g : rHp} : ∀ (ρ : Nat → Int) (γ : Nat → rHp), jn78 a g 0 (zAg (zNA a78_ 0) ρ) (γ 1) → zO 19 S a g q78a0_0 ρ γ → zGl (fun i vs g1 => jn78 a g i vs g1) (sn78 a g) q78a0_0 ρ γ := by
  intro ρ γ hJ h
  obtain ⟨ha, hg, hr, hf, hm, hc, hl⟩ := h
  have ha : a = [ρ 0, ρ 1, ρ 2, ρ 3, ρ 4, ρ 5, ρ 6, ρ 7, ρ 8, ρ 9, ρ 10, ρ 11, ρ 12, ρ 13, ρ 14, ρ 15, ρ 16, ρ 17, ρ 18] := ha
  subst ha
  subst hg
  have hJ : jn78 [ρ 0, ρ 1, ρ 2, ρ 3, ρ 4, ρ 5, ρ 6, ρ 7, ρ 8, ρ 9, ρ 10, ρ 11, ρ 12, ρ 13, ρ 14, ρ 15, ρ 16, ρ 17, ρ 18] (γ 0) 0 [ρ 0, ρ 1, ρ 2, ρ 3, ρ 4, ρ 5, ρ 6, ρ 7, ρ 8, ρ 9, ρ 10, ρ 11, ρ 12, ρ 13, ρ 14, ρ 15, ρ 16, ρ 17, ρ 18, ρ 19, ρ 20, ρ 21, ρ 22, ρ 23, ρ 24, ρ 25, ρ 26, ρ 27, ρ 28, ρ 29, ρ 30] (γ 1) := hJ
  have r22 : (1 : Int) ≤ ρ 22 ∧ ρ 22 ≤ 3 := zRnA hr 22
  have f0 : (0 : Int) ≤ -ρ 23 + ρ 19 := zAllA hf 0
  obtain ⟨w_0, w_1⟩ : (ρ 19 ≥ ρ 23) ∧ (ρ 22 ≠ 0) := ⟨by omega, by omega⟩
  have m19 : γ 1 15 0 71 = ρ 20 := zAllA hm 19
  have m20 : γ 1 15 0 72 = ρ 21 := zAllA hm 20
  have m21 : γ 1 15 0 77 = ρ 22 := zAllA hm 21
  have m22 : γ 1 15 0 61 = ρ 23 := zAllA hm 22
  have m23 : γ 1 15 0 73 = ρ 24 := zAllA hm 23
  have c2 : γ 2 = rUp (γ 1) 15 0 59 0 := And.right (zChA hc 1)
  have l0 : sn1 [ρ 22, ρ 7] (γ 2) 0 1 (γ 3) := hS1 _ _ _ _ _ (zAllA hl 0)
  show sn78 [ρ 0, ρ 1, ρ 2, ρ 3, ρ 4, ρ 5, ρ 6, ρ 7, ρ 8, ρ 9, ρ 10, ρ 11, ρ 12, ρ 13, ρ 14, ρ 15, ρ 16, ρ 17, ρ 18] (γ 0) 0 0 (γ 3)
  have hD : en78 (γ 0) (0, [ρ 19], γ 1) = .inr (0, 0, γ 3) := by
    unfold en78
    refine zIP (show (0 : Nat) = 0 by decide) (zLV (γ 1) rfl (zLV (ρ 19) rfl (zLE m19 (zLE m20 (zLE m21 (zLE m22 (zLE m23 ?_)))))))
    refine zIP w_0 (zIP w_1 (zLE c2.symm (zLE (show fn1 [ρ 22] (γ 2) = (0, 1, γ 3) from l0.symm) (zLV (γ 3) rfl ?_))))
    rfl
  exact zGoo_aend hJ hD
theorem vn78a0_1 {S : Nat → zSpc} (hS1 : zIm S 1 sn1) (hS76 : zIm S 76 sn76) (hS77 : zIm S 77 sn77) {a : List Int} {g : rHp} : ∀ (ρ : Nat → Int) (γ : Nat → rHp), jn78 a g 0 (zAg (zNA a78_ 0) ρ) (γ 1) → zO 19 S a g q78a0_1 ρ γ → zGl (fun i vs g1 => jn78 a g i vs g1) (sn78 a g) q78a0_1 ρ γ := by
  intro ρ γ hJ h
  obtain ⟨ha, hg, hr, hf, hm, hc, hl⟩ := h
  have ha : a = [ρ 0, ρ 1, ρ 2, ρ 3, ρ 4, ρ 5, ρ 6, ρ 7, ρ 8, ρ 9, ρ 10, ρ 11, ρ 12, ρ 13, ρ 14, ρ 15, ρ 16, ρ 17, ρ 18] := ha
  subst ha
  subst hg
  have hJ : jn78 [ρ 0, ρ 1, ρ 2, ρ 3, ρ 4, ρ 5, ρ 6, ρ 7, ρ 8, ρ 9, ρ 10, ρ 11, ρ 12, ρ 13, ρ 14, ρ 15, ρ 16, ρ 17, ρ 18] (γ 0) 0 [ρ 0, ρ 1, ρ 2, ρ 3, ρ 4, ρ 5, ρ 6, ρ 7, ρ 8, ρ 9, ρ 10, ρ 11, ρ 12, ρ 13, ρ 14, ρ 15, ρ 16, ρ 17, ρ 18, ρ 19, ρ 20, ρ 21, ρ 22, ρ 23, ρ 24, ρ 25, ρ 26, ρ 27, ρ 28, ρ 29, ρ 30] (γ 1) := hJ
  have r22 : (0 : Int) ≤ ρ 22 ∧ ρ 22 ≤ 0 := zRnA hr 22
  have f0 : (0 : Int) ≤ -ρ 23 + ρ 19 := zAllA hf 0
  obtain ⟨w_0, w_1⟩ : (ρ 19 ≥ ρ 23) ∧ (¬ (ρ 22 ≠ 0)) := ⟨by omega, by omega⟩
  have m19 : γ 1 15 0 71 = ρ 20 := zAllA hm 19
  have m20 : γ 1 15 0 72 = ρ 21 := zAllA hm 20
  have m21 : γ 1 15 0 77 = ρ 22 := zAllA hm 21
  have m22 : γ 1 15 0 61 = ρ 23 := zAllA hm 22
  have m23 : γ 1 15 0 73 = ρ 24 := zAllA hm 23
  have c2 : γ 2 = rUp (γ 1) 15 0 59 1 := And.right (zChA hc 3)
  have c4 : γ 4 = rUp (γ 3) 15 0 74 (ρ 21) := And.right (zChA hc 1)
  have c5 : γ 5 = rUp (γ 4) 15 0 75 (ρ 24) := And.right (zChA hc 0)
  have l0 : sn1 [ρ 22, ρ 7] (γ 2) 0 0 (γ 3) := hS1 _ _ _ _ _ (zAllA hl 0)
  show sn78 [ρ 0, ρ 1, ρ 2, ρ 3, ρ 4, ρ 5, ρ 6, ρ 7, ρ 8, ρ 9, ρ 10, ρ 11, ρ 12, ρ 13, ρ 14, ρ 15, ρ 16, ρ 17, ρ 18] (γ 0) 0 (ρ 20) (γ 5)
  have hD : en78 (γ 0) (0, [ρ 19], γ 1) = .inr (0, ρ 20, γ 5) := by
    unfold en78
    refine zIP (show (0 : Nat) = 0 by decide) (zLV (γ 1) rfl (zLV (ρ 19) rfl (zLE m19 (zLE m20 (zLE m21 (zLE m22 (zLE m23 ?_)))))))
    refine zIP w_0 (zIN w_1 (zLE c2.symm (zLE (show fn1 [ρ 22] (γ 2) = (0, 0, γ 3) from l0.symm) (zLV (γ 3) rfl (zLE c4.symm (zLE c5.symm ?_))))))
    rfl
  exact zGoo_aend hJ hD
theorem vn78a0_2 {S : Nat → zSpc} (hS1 : zIm S 1 sn1) (hS76 : zIm S 76 sn76) (hS77 : zIm S 77 sn77) {a : List Int} {g : rHp} : ∀ (ρ : Nat → Int) (γ : Nat → rHp), jn78 a g 0 (zAg (zNA a78_ 0) ρ) (γ 1) → zO 19 S a g q78a0_2 ρ γ → zGl (fun i vs g1 => jn78 a g i vs g1) (sn78 a g) q78a0_2 ρ γ := by
  intro ρ γ hJ h
  obtain ⟨ha, hg, hr, hf, hm, hc, hl⟩ := h
  have ha : a = [ρ 0, ρ 1, ρ 2, ρ 3, ρ 4, ρ 5, ρ 6, ρ 7, ρ 8, ρ 9, ρ 10, ρ 11, ρ 12, ρ 13, ρ 14, ρ 15, ρ 16, ρ 17, ρ 18] := ha
  subst ha
  subst hg
  have hJ : jn78 [ρ 0, ρ 1, ρ 2, ρ 3, ρ 4, ρ 5, ρ 6, ρ 7, ρ 8, ρ 9, ρ 10, ρ 11, ρ 12, ρ 13, ρ 14, ρ 15, ρ 16, ρ 17, ρ 18] (γ 0) 0 [ρ 0, ρ 1, ρ 2, ρ 3, ρ 4, ρ 5, ρ 6, ρ 7, ρ 8, ρ 9, ρ 10, ρ 11, ρ 12, ρ 13, ρ 14, ρ 15, ρ 16, ρ 17, ρ 18, ρ 19, ρ 20, ρ 21, ρ 22, ρ 23, ρ 24, ρ 25, ρ 26, ρ 27, ρ 28, ρ 29, ρ 30] (γ 1) := hJ
  have r22 : (1 : Int) ≤ ρ 22 ∧ ρ 22 ≤ 3 := zRnA hr 22
  have f0 : (0 : Int) ≤ ρ 23 + -ρ 19 + (-1) := zAllA hf 0
  obtain ⟨w_0, w_1⟩ : (¬ (ρ 19 ≥ ρ 23)) ∧ (ρ 22 ≠ 0) := ⟨by omega, by omega⟩
  have m19 : γ 1 15 0 71 = ρ 20 := zAllA hm 19
  have m20 : γ 1 15 0 72 = ρ 21 := zAllA hm 20
  have m21 : γ 1 15 0 77 = ρ 22 := zAllA hm 21
  have m22 : γ 1 15 0 61 = ρ 23 := zAllA hm 22
  have m23 : γ 1 15 0 73 = ρ 24 := zAllA hm 23
  have c2 : γ 2 = rUp (γ 1) 15 0 59 0 := And.right (zChA hc 1)
  have l0 : sn1 [ρ 22, ρ 7] (γ 2) 0 1 (γ 3) := hS1 _ _ _ _ _ (zAllA hl 0)
  show sn78 [ρ 0, ρ 1, ρ 2, ρ 3, ρ 4, ρ 5, ρ 6, ρ 7, ρ 8, ρ 9, ρ 10, ρ 11, ρ 12, ρ 13, ρ 14, ρ 15, ρ 16, ρ 17, ρ 18] (γ 0) 0 0 (γ 3)
  have hD : en78 (γ 0) (0, [ρ 19], γ 1) = .inr (0, 0, γ 3) := by
    unfold en78
    refine zIP (show (0 : Nat) = 0 by decide) (zLV (γ 1) rfl (zLV (ρ 19) rfl (zLE m19 (zLE m20 (zLE m21 (zLE m22 (zLE m23 ?_)))))))
    refine zIN w_0 (zIP w_1 (zLE c2.symm (zLE (show fn1 [ρ 22] (γ 2) = (0, 1, γ 3) from l0.symm) (zLV (γ 3) rfl ?_))))
    rfl
  exact zGoo_aend hJ hD
theorem vn78a0_3 {S : Nat → zSpc} (hS1 : zIm S 1 sn1) (hS76 : zIm S 76 sn76) (hS77 : zIm S 77 sn77) {a : List Int} {g : rHp} : ∀ (ρ : Nat → Int) (γ : Nat → rHp), jn78 a g 0 (zAg (zNA a78_ 0) ρ) (γ 1) → zO 19 S a g q78a0_3 ρ γ → zGl (fun i vs g1 => jn78 a g i vs g1) (sn78 a g) q78a0_3 ρ γ := by
  intro ρ γ hJ h
  obtain ⟨ha, hg, hr, hf, hm, hc, hl⟩ := h
  have ha : a = [ρ 0, ρ 1, ρ 2, ρ 3, ρ 4, ρ 5, ρ 6, ρ 7, ρ 8, ρ 9, ρ 10, ρ 11, ρ 12, ρ 13, ρ 14, ρ 15, ρ 16, ρ 17, ρ 18] := ha
  subst ha
  subst hg
  have hJ : jn78 [ρ 0, ρ 1, ρ 2, ρ 3, ρ 4, ρ 5, ρ 6, ρ 7, ρ 8, ρ 9, ρ 10, ρ 11, ρ 12, ρ 13, ρ 14, ρ 15, ρ 16, ρ 17, ρ 18] (γ 0) 0 [ρ 0, ρ 1, ρ 2, ρ 3, ρ 4, ρ 5, ρ 6, ρ 7, ρ 8, ρ 9, ρ 10, ρ 11, ρ 12, ρ 13, ρ 14, ρ 15, ρ 16, ρ 17, ρ 18, ρ 19, ρ 20, ρ 21, ρ 22, ρ 23, ρ 24, ρ 25, ρ 26, ρ 27, ρ 28, ρ 29, ρ 30] (γ 1) := hJ
  have r22 : (0 : Int) ≤ ρ 22 ∧ ρ 22 ≤ 0 := zRnA hr 22
  have f6 : (0 : Int) ≤ ρ 23 + -ρ 19 + (-1) := zAllA hf 6
  obtain ⟨w_0, w_1⟩ : (¬ (ρ 19 ≥ ρ 23)) ∧ (¬ (ρ 22 ≠ 0)) := ⟨by omega, by omega⟩
  have m19 : γ 1 15 0 71 = ρ 20 := zAllA hm 19
  have m20 : γ 1 15 0 72 = ρ 21 := zAllA hm 20
  have m21 : γ 1 15 0 77 = ρ 22 := zAllA hm 21
  have m22 : γ 1 15 0 61 = ρ 23 := zAllA hm 22
  have m23 : γ 1 15 0 73 = ρ 24 := zAllA hm 23
  have l0 : sn76 [ρ 19, ρ 0, ρ 1, ρ 2, ρ 20, ρ 21, ρ 22, ρ 8, ρ 24, ρ 25, ρ 26, ρ 27, ρ 28, ρ 29, ρ 18] (γ 1) 0 0 (γ 2) := hS76 _ _ _ _ _ (zAllA hl 0)
  show jn78 [ρ 0, ρ 1, ρ 2, ρ 3, ρ 4, ρ 5, ρ 6, ρ 7, ρ 8, ρ 9, ρ 10, ρ 11, ρ 12, ρ 13, ρ 14, ρ 15, ρ 16, ρ 17, ρ 18] (γ 0) 0 [ρ 0, ρ 1, ρ 2, ρ 3, ρ 4, ρ 5, ρ 6, ρ 7, ρ 8, ρ 9, ρ 10, ρ 11, ρ 12, ρ 13, ρ 14, ρ 15, ρ 16, ρ 17, ρ 18, ρ 19 + 1, ρ 31, ρ 32, ρ 33, ρ 23, ρ 34, ρ 35, ρ 36, ρ 37, ρ 38, ρ 39, ρ 30] (γ 2)
  have hD : en78 (γ 0) (0, [ρ 19], γ 1) = .inl (0, [ρ 19 + 1], γ 2) := by
    unfold en78
    refine zIP (show (0 : Nat) = 0 by decide) (zLV (γ 1) rfl (zLV (ρ 19) rfl (zLE m19 (zLE m20 (zLE m21 (zLE m22 (zLE m23 ?_)))))))
    refine zIN w_0 (zIN w_1 (zLE (show fn76 [ρ 19] (γ 1) = (0, 0, γ 2) from l0.symm) (zLV (γ 2) rfl ?_)))
    rfl
  exact zGoo_ato hJ hD
theorem yn78 {S : Nat → zSpc} (hS1 : zIm S 1 sn1) (hS76 : zIm S 76 sn76) (hS77 : zIm S 77 sn77) : ∀ x g o v gz, zSem uW uT w78_.2.2.2.1 w78_.2.2.1.1.length S q78 (fun i => q78a.getD i []) (zNA a78_) x g o v gz → sn78 x g o v gz := by
  intro a g o v gz h
  exact zSem_all (l0 := q78) (las := q78a) (S := S) (J := (fun i vs g1 => jn78 a g i vs g1)) (P := sn78 a g) (fun _ => (show zAll _ [q78_0, q78_1, q78_2, q78_3, q78_4, q78_5, q78_6, q78_7, q78_8, q78_9, q78_10, q78_11, q78_12, q78_13, q78_14, q78_15, q78_16, q78_17, q78_18, q78_19, q78_20, q78_21] from (zAll_c (vn78_0 hS1 hS76 hS77) (zAll_c (vn78_1 hS1 hS76 hS77) (zAll_c (vn78_2 hS1 hS76 hS77) (zAll_c (vn78_3 hS1 hS76 hS77) (zAll_c (vn78_4 hS1 hS76 hS77) (zAll_c (vn78_5 hS1 hS76 hS77) (zAll_c (vn78_6 hS1 hS76 hS77) (zAll_c (vn78_7 hS1 hS76 hS77) (zAll_c (vn78_8 hS1 hS76 hS77) (zAll_c (vn78_9 hS1 hS76 hS77) (zAll_c (vn78_10 hS1 hS76 hS77) (zAll_c (vn78_11 hS1 hS76 hS77) (zAll_c (vn78_12 hS1 hS76 hS77) (zAll_c (vn78_13 hS1 hS76 hS77) (zAll_c (vn78_14 hS1 hS76 hS77) (zAll_c (vn78_15 hS1 hS76 hS77) (zAll_c (vn78_16 hS1 hS76 hS77) (zAll_c (vn78_17 hS1 hS76 hS77) (zAll_c (vn78_18 hS1 hS76 hS77) (zAll_c (vn78_19 hS1 hS76 hS77) (zAll_c (vn78_20 hS1 hS76 hS77) (zAll_c (vn78_21 hS1 hS76 hS77) zAll_n)))))))))))))))))))))))) (fun _ => (show zAllI _ 0 [q78a0] from ⟨(show zAll _ [q78a0_0, q78a0_1, q78a0_2, q78a0_3] from (zAll_c (vn78a0_0 hS1 hS76 hS77) (zAll_c (vn78a0_1 hS1 hS76 hS77) (zAll_c (vn78a0_2 hS1 hS76 hS77) (zAll_c (vn78a0_3 hS1 hS76 hS77) zAll_n))))), trivial⟩)) h
theorem vn172_0 {S : Nat → zSpc}  {a : List Int} {g : rHp} : ∀ (ρ : Nat → Int) (γ : Nat → rHp), zO 1 S a g q172_0 ρ γ → zGl (fun _ _ _ => True) (sn172 a g) q172_0 ρ γ := by
  intro ρ γ h
  obtain ⟨ha, hg, hr, hf, hm, hc, hl⟩ := h
  have ha : a = [ρ 0] := ha
  subst ha
  subst hg
  have r0 : (1099511627776 : Int) ≤ ρ 0 ∧ ρ 0 ≤ 9223372036854775807 := zRnA hr 0
  have w_0 : ρ 0 ≥ 1099511627776 := by omega
  show sn172 [ρ 0] (γ 0) 0 0 (γ 0)
  refine Eq.symm ?_
  show fn172 [ρ 0] (γ 0) = _
  unfold fn172
  refine zLV (ρ 0) rfl (zIP w_0 ?_)
  rfl
theorem vn172_1 {S : Nat → zSpc}  {a : List Int} {g : rHp} : ∀ (ρ : Nat → Int) (γ : Nat → rHp), zO 1 S a g q172_1 ρ γ → zGl (fun _ _ _ => True) (sn172 a g) q172_1 ρ γ := by
  intro ρ γ h
  obtain ⟨ha, hg, hr, hf, hm, hc, hl⟩ := h
  have ha : a = [ρ 0] := ha
  subst ha
  subst hg
  have r0 : ((-9223372036854775808) : Int) ≤ ρ 0 ∧ ρ 0 ≤ 1099511627775 := zRnA hr 0
  have w_0 : ¬ (ρ 0 ≥ 1099511627776) := by omega
  show sn172 [ρ 0] (γ 0) 0 1 (γ 0)
  refine Eq.symm ?_
  show fn172 [ρ 0] (γ 0) = _
  unfold fn172
  refine zLV (ρ 0) rfl (zIN w_0 ?_)
  rfl
theorem yn172 {S : Nat → zSpc}  : ∀ x g o v gz, zSem uW uT w172_.2.2.2.1 w172_.2.2.1.1.length S q172 (fun i => q172a.getD i []) (zNA a172_) x g o v gz → sn172 x g o v gz := by
  intro a g o v gz h
  exact zSem_all (l0 := q172) (las := q172a) (S := S) (J := (fun _ _ _ => True)) (P := sn172 a g) (fun _ => (show zAll _ [q172_0, q172_1] from (zAll_c (vn172_0 ) (zAll_c (vn172_1 ) zAll_n)))) (fun _ => (show zAllI _ 0 [] from trivial)) h
theorem vn186_0 {S : Nat → zSpc} (hS95 : zIm S 95 sn95) {a : List Int} {g : rHp} : ∀ (ρ : Nat → Int) (γ : Nat → rHp), zO 0 S a g q186_0 ρ γ → zGl (fun _ _ _ => True) (sn186 a g) q186_0 ρ γ := by
  intro ρ γ h
  obtain ⟨ha, hg, hr, hf, hm, hc, hl⟩ := h
  have ha : a = [] := ha
  subst ha
  subst hg
  have l0 : sn95 [(-1)] (γ 0) 0 0 (γ 1) := hS95 _ _ _ _ _ (zAllA hl 0)
  show sn186 [] (γ 0) 0 0 (γ 1)
  refine Eq.symm ?_
  show fn186 [] (γ 0) = _
  unfold fn186
  refine zLE (show fn95 [(-1)] (γ 0) = (0, 0, γ 1) from l0.symm) (zLV (γ 1) rfl ?_)
  rfl
theorem yn186 {S : Nat → zSpc} (hS95 : zIm S 95 sn95) : ∀ x g o v gz, zSem uW uT w186_.2.2.2.1 w186_.2.2.1.1.length S q186 (fun i => q186a.getD i []) (zNA a186_) x g o v gz → sn186 x g o v gz := by
  intro a g o v gz h
  exact zSem_all (l0 := q186) (las := q186a) (S := S) (J := (fun _ _ _ => True)) (P := sn186 a g) (fun _ => (show zAll _ [q186_0] from (zAll_c (vn186_0 hS95) zAll_n))) (fun _ => (show zAllI _ 0 [] from trivial)) h
theorem vn187_0 {S : Nat → zSpc}  {a : List Int} {g : rHp} : ∀ (ρ : Nat → Int) (γ : Nat → rHp), zO 1 S a g q187_0 ρ γ → zGl (fun _ _ _ => True) (sn187 a g) q187_0 ρ γ := by
  intro ρ γ h
  obtain ⟨ha, hg, hr, hf, hm, hc, hl⟩ := h
  have ha : a = [ρ 0] := ha
  subst ha
  subst hg
  have m0 : γ 0 47 0 (ρ 2) = ρ 3 := zAllA hm 0
  have l0 : zOpP (.lmul) (γ 0) (γ 1) [ρ 0, (-7046029254386353131)] (ρ 1) := zAllA hl 0
  have l1 : zOpP (.lushr) (γ 0) (γ 1) [ρ 1, 58] (ρ 2) := zAllA hl 1
  show sn187 [ρ 0] (γ 0) 0 (ρ 3) (γ 0)
  refine Eq.symm ?_
  show fn187 [ρ 0] (γ 0) = _
  unfold fn187
  refine zLV (ρ 0) rfl (zLE (zF2_ok l0) (zLE (zF2_ok l1) (zLE m0 ?_)))
  rfl
theorem yn187 {S : Nat → zSpc}  : ∀ x g o v gz, zSem uW uT w187_.2.2.2.1 w187_.2.2.1.1.length S q187 (fun i => q187a.getD i []) (zNA a187_) x g o v gz → sn187 x g o v gz := by
  intro a g o v gz h
  exact zSem_all (l0 := q187) (las := q187a) (S := S) (J := (fun _ _ _ => True)) (P := sn187 a g) (fun _ => (show zAll _ [q187_0] from (zAll_c (vn187_0 ) zAll_n))) (fun _ => (show zAllI _ 0 [] from trivial)) h
theorem vn188_0 {S : Nat → zSpc}  {a : List Int} {g : rHp} : ∀ (ρ : Nat → Int) (γ : Nat → rHp), zO 1 S a g q188_0 ρ γ → zGl (fun _ _ _ => True) (sn188 a g) q188_0 ρ γ := by
  intro ρ γ h
  obtain ⟨ha, hg, hr, hf, hm, hc, hl⟩ := h
  have ha : a = [ρ 0] := ha
  subst ha
  subst hg
  have r0 : ((-2147483648) : Int) ≤ ρ 0 ∧ ρ 0 ≤ (-1) := zRnA hr 0
  have w_0 : ρ 0 < 0 := by omega
  show sn188 [ρ 0] (γ 0) 0 (-1) (γ 0)
  refine Eq.symm ?_
  show fn188 [ρ 0] (γ 0) = _
  unfold fn188
  refine zLV (ρ 0) rfl (zIP w_0 ?_)
  rfl
theorem vn188_1 {S : Nat → zSpc}  {a : List Int} {g : rHp} : ∀ (ρ : Nat → Int) (γ : Nat → rHp), zO 1 S a g q188_1 ρ γ → zGl (fun _ _ _ => True) (sn188 a g) q188_1 ρ γ := by
  intro ρ γ h
  obtain ⟨ha, hg, hr, hf, hm, hc, hl⟩ := h
  have ha : a = [ρ 0] := ha
  subst ha
  subst hg
  have r0 : (2000 : Int) ≤ ρ 0 ∧ ρ 0 ≤ 2147483647 := zRnA hr 0
  obtain ⟨w_0, w_1⟩ : (¬ (ρ 0 < 0)) ∧ (ρ 0 ≥ 2000) := ⟨by omega, by omega⟩
  show sn188 [ρ 0] (γ 0) 0 (-1) (γ 0)
  refine Eq.symm ?_
  show fn188 [ρ 0] (γ 0) = _
  unfold fn188
  refine zLV (ρ 0) rfl (zIN w_0 (zIP w_1 ?_))
  rfl
theorem vn188_2 {S : Nat → zSpc}  {a : List Int} {g : rHp} : ∀ (ρ : Nat → Int) (γ : Nat → rHp), zO 1 S a g q188_2 ρ γ → zGl (fun _ _ _ => True) (sn188 a g) q188_2 ρ γ := by
  intro ρ γ h
  obtain ⟨ha, hg, hr, hf, hm, hc, hl⟩ := h
  have ha : a = [ρ 0] := ha
  subst ha
  subst hg
  have r0 : (0 : Int) ≤ ρ 0 ∧ ρ 0 ≤ 1999 := zRnA hr 0
  obtain ⟨w_0, w_1⟩ : (¬ (ρ 0 < 0)) ∧ (¬ (ρ 0 ≥ 2000)) := ⟨by omega, by omega⟩
  have m0 : γ 0 49 0 (ρ 0) = ρ 1 := zAllA hm 0
  show sn188 [ρ 0] (γ 0) 0 (ρ 1) (γ 0)
  refine Eq.symm ?_
  show fn188 [ρ 0] (γ 0) = _
  unfold fn188
  refine zLV (ρ 0) rfl (zIN w_0 (zIN w_1 (zLE m0 ?_)))
  rfl
theorem yn188 {S : Nat → zSpc}  : ∀ x g o v gz, zSem uW uT w188_.2.2.2.1 w188_.2.2.1.1.length S q188 (fun i => q188a.getD i []) (zNA a188_) x g o v gz → sn188 x g o v gz := by
  intro a g o v gz h
  exact zSem_all (l0 := q188) (las := q188a) (S := S) (J := (fun _ _ _ => True)) (P := sn188 a g) (fun _ => (show zAll _ [q188_0, q188_1, q188_2] from (zAll_c (vn188_0 ) (zAll_c (vn188_1 ) (zAll_c (vn188_2 ) zAll_n))))) (fun _ => (show zAllI _ 0 [] from trivial)) h
theorem vn189_0 {S : Nat → zSpc}  {a : List Int} {g : rHp} : ∀ (ρ : Nat → Int) (γ : Nat → rHp), zO 2 S a g q189_0 ρ γ → zGl (fun _ _ _ => True) (sn189 a g) q189_0 ρ γ := by
  intro ρ γ h
  obtain ⟨ha, hg, hr, hf, hm, hc, hl⟩ := h
  have ha : a = [ρ 0, ρ 1] := ha
  subst ha
  subst hg
  have r1 : ((-2147483648) : Int) ≤ ρ 1 ∧ ρ 1 ≤ (-1) := zRnA hr 1
  have w_0 : ρ 1 < 0 := by omega
  have l0 : zOpP (.lmul) (γ 0) (γ 1) [ρ 0, (-7046029254386353131)] (ρ 2) := zAllA hl 0
  have l1 : zOpP (.lushr) (γ 0) (γ 1) [ρ 2, 58] (ρ 3) := zAllA hl 1
  show sn189 [ρ 0, ρ 1] (γ 0) 0 0 (γ 0)
  refine Eq.symm ?_
  show fn189 [ρ 0, ρ 1] (γ 0) = _
  unfold fn189
  refine zLV (ρ 0) rfl (zLV (ρ 1) rfl (zLE (zF2_ok l0) (zLE (zF2_ok l1) (zIP w_0 ?_))))
  rfl
theorem vn189_1 {S : Nat → zSpc}  {a : List Int} {g : rHp} : ∀ (ρ : Nat → Int) (γ : Nat → rHp), zO 2 S a g q189_1 ρ γ → zGl (fun _ _ _ => True) (sn189 a g) q189_1 ρ γ := by
  intro ρ γ h
  obtain ⟨ha, hg, hr, hf, hm, hc, hl⟩ := h
  have ha : a = [ρ 0, ρ 1] := ha
  subst ha
  subst hg
  have r1 : (0 : Int) ≤ ρ 1 ∧ ρ 1 ≤ 1999 := zRnA hr 1
  have r4 : (0 : Int) ≤ ρ 4 ∧ ρ 4 ≤ 1999 := zRnA hr 4
  obtain ⟨w_0, w_1, w_2⟩ : (¬ (ρ 1 < 0)) ∧ (ρ 1 < 2000) ∧ (ρ 4 ≥ 0) := ⟨by omega, by omega, by omega⟩
  have m0 : γ 0 47 0 (ρ 3) = ρ 4 := zAllA hm 0
  have m1 : γ 0 48 0 (ρ 3) = ρ 5 := zAllA hm 1
  have c1 : γ 1 = rUp (γ 0) 49 0 (ρ 1) (-1) := And.right (zChA hc 2)
  have c2 : γ 2 = rUp (γ 1) 49 0 (ρ 5) (ρ 1) := And.right (zChA hc 1)
  have c3 : γ 3 = rUp (γ 2) 48 0 (ρ 3) (ρ 1) := And.right (zChA hc 0)
  have l0 : zOpP (.lmul) (γ 0) (γ 1) [ρ 0, (-7046029254386353131)] (ρ 2) := zAllA hl 0
  have l1 : zOpP (.lushr) (γ 0) (γ 1) [ρ 2, 58] (ρ 3) := zAllA hl 1
  show sn189 [ρ 0, ρ 1] (γ 0) 0 0 (γ 3)
  refine Eq.symm ?_
  show fn189 [ρ 0, ρ 1] (γ 0) = _
  unfold fn189
  refine zLV (ρ 0) rfl (zLV (ρ 1) rfl (zLE (zF2_ok l0) (zLE (zF2_ok l1) (zIN w_0 (zIP w_1 (zLE c1.symm (zLE m0 ?_)))))))
  refine zIP w_2 (zLE m1 (zLE c2.symm (zLE c3.symm ?_)))
  rfl
theorem vn189_2 {S : Nat → zSpc}  {a : List Int} {g : rHp} : ∀ (ρ : Nat → Int) (γ : Nat → rHp), zO 2 S a g q189_2 ρ γ → zGl (fun _ _ _ => True) (sn189 a g) q189_2 ρ γ := by
  intro ρ γ h
  obtain ⟨ha, hg, hr, hf, hm, hc, hl⟩ := h
  have ha : a = [ρ 0, ρ 1] := ha
  subst ha
  subst hg
  have r1 : (0 : Int) ≤ ρ 1 ∧ ρ 1 ≤ 1999 := zRnA hr 1
  have r4 : ((-1) : Int) ≤ ρ 4 ∧ ρ 4 ≤ (-1) := zRnA hr 4
  obtain ⟨w_0, w_1, w_2⟩ : (¬ (ρ 1 < 0)) ∧ (ρ 1 < 2000) ∧ (¬ (ρ 4 ≥ 0)) := ⟨by omega, by omega, by omega⟩
  have m0 : γ 0 47 0 (ρ 3) = ρ 4 := zAllA hm 0
  have c1 : γ 1 = rUp (γ 0) 49 0 (ρ 1) (-1) := And.right (zChA hc 2)
  have c2 : γ 2 = rUp (γ 1) 47 0 (ρ 3) (ρ 1) := And.right (zChA hc 1)
  have c3 : γ 3 = rUp (γ 2) 48 0 (ρ 3) (ρ 1) := And.right (zChA hc 0)
  have l0 : zOpP (.lmul) (γ 0) (γ 1) [ρ 0, (-7046029254386353131)] (ρ 2) := zAllA hl 0
  have l1 : zOpP (.lushr) (γ 0) (γ 1) [ρ 2, 58] (ρ 3) := zAllA hl 1
  show sn189 [ρ 0, ρ 1] (γ 0) 0 0 (γ 3)
  refine Eq.symm ?_
  show fn189 [ρ 0, ρ 1] (γ 0) = _
  unfold fn189
  refine zLV (ρ 0) rfl (zLV (ρ 1) rfl (zLE (zF2_ok l0) (zLE (zF2_ok l1) (zIN w_0 (zIP w_1 (zLE c1.symm (zLE m0 ?_)))))))
  refine zIN w_2 (zLE c2.symm (zLE c3.symm ?_))
  rfl
theorem vn189_3 {S : Nat → zSpc}  {a : List Int} {g : rHp} : ∀ (ρ : Nat → Int) (γ : Nat → rHp), zO 2 S a g q189_3 ρ γ → zGl (fun _ _ _ => True) (sn189 a g) q189_3 ρ γ := by
  intro ρ γ h
  obtain ⟨ha, hg, hr, hf, hm, hc, hl⟩ := h
  have ha : a = [ρ 0, ρ 1] := ha
  subst ha
  subst hg
  have r1 : (2000 : Int) ≤ ρ 1 ∧ ρ 1 ≤ 2147483647 := zRnA hr 1
  obtain ⟨w_0, w_1⟩ : (¬ (ρ 1 < 0)) ∧ (¬ (ρ 1 < 2000)) := ⟨by omega, by omega⟩
  have l0 : zOpP (.lmul) (γ 0) (γ 1) [ρ 0, (-7046029254386353131)] (ρ 2) := zAllA hl 0
  have l1 : zOpP (.lushr) (γ 0) (γ 1) [ρ 2, 58] (ρ 3) := zAllA hl 1
  show sn189 [ρ 0, ρ 1] (γ 0) 0 0 (γ 0)
  refine Eq.symm ?_
  show fn189 [ρ 0, ρ 1] (γ 0) = _
  unfold fn189
  refine zLV (ρ 0) rfl (zLV (ρ 1) rfl (zLE (zF2_ok l0) (zLE (zF2_ok l1) (zIN w_0 (zIN w_1 ?_)))))
  rfl
theorem yn189 {S : Nat → zSpc}  : ∀ x g o v gz, zSem uW uT w189_.2.2.2.1 w189_.2.2.1.1.length S q189 (fun i => q189a.getD i []) (zNA a189_) x g o v gz → sn189 x g o v gz := by
  intro a g o v gz h
  exact zSem_all (l0 := q189) (las := q189a) (S := S) (J := (fun _ _ _ => True)) (P := sn189 a g) (fun _ => (show zAll _ [q189_0, q189_1, q189_2, q189_3] from (zAll_c (vn189_0 ) (zAll_c (vn189_1 ) (zAll_c (vn189_2 ) (zAll_c (vn189_3 ) zAll_n)))))) (fun _ => (show zAllI _ 0 [] from trivial)) h
theorem vn190_0 {S : Nat → zSpc} (hS96 : zIm S 96 sn96) {a : List Int} {g : rHp} : ∀ (ρ : Nat → Int) (γ : Nat → rHp), zO 0 S a g q190_0 ρ γ → zGl (fun _ _ _ => True) (sn190 a g) q190_0 ρ γ := by
  intro ρ γ h
  obtain ⟨ha, hg, hr, hf, hm, hc, hl⟩ := h
  have ha : a = [] := ha
  subst ha
  subst hg
  have l0 : sn96 [(-1)] (γ 0) 0 0 (γ 1) := hS96 _ _ _ _ _ (zAllA hl 0)
  show sn190 [] (γ 0) 0 0 (γ 1)
  refine Eq.symm ?_
  show fn190 [] (γ 0) = _
  unfold fn190
  refine zLE (show fn96 [(-1)] (γ 0) = (0, 0, γ 1) from l0.symm) (zLV (γ 1) rfl ?_)
  rfl
theorem yn190 {S : Nat → zSpc} (hS96 : zIm S 96 sn96) : ∀ x g o v gz, zSem uW uT w190_.2.2.2.1 w190_.2.2.1.1.length S q190 (fun i => q190a.getD i []) (zNA a190_) x g o v gz → sn190 x g o v gz := by
  intro a g o v gz h
  exact zSem_all (l0 := q190) (las := q190a) (S := S) (J := (fun _ _ _ => True)) (P := sn190 a g) (fun _ => (show zAll _ [q190_0] from (zAll_c (vn190_0 hS96) zAll_n))) (fun _ => (show zAllI _ 0 [] from trivial)) h
theorem vn191_0 {S : Nat → zSpc}  {a : List Int} {g : rHp} : ∀ (ρ : Nat → Int) (γ : Nat → rHp), zO 1 S a g q191_0 ρ γ → zGl (fun _ _ _ => True) (sn191 a g) q191_0 ρ γ := by
  intro ρ γ h
  obtain ⟨ha, hg, hr, hf, hm, hc, hl⟩ := h
  have ha : a = [ρ 0] := ha
  subst ha
  subst hg
  have m0 : γ 0 50 0 (ρ 2) = ρ 3 := zAllA hm 0
  have l0 : zOpP (.lmul) (γ 0) (γ 1) [ρ 0, (-7046029254386353131)] (ρ 1) := zAllA hl 0
  have l1 : zOpP (.lushr) (γ 0) (γ 1) [ρ 1, 52] (ρ 2) := zAllA hl 1
  show sn191 [ρ 0] (γ 0) 0 (ρ 3) (γ 0)
  refine Eq.symm ?_
  show fn191 [ρ 0] (γ 0) = _
  unfold fn191
  refine zLV (ρ 0) rfl (zLE (zF2_ok l0) (zLE (zF2_ok l1) (zLE m0 ?_)))
  rfl
theorem yn191 {S : Nat → zSpc}  : ∀ x g o v gz, zSem uW uT w191_.2.2.2.1 w191_.2.2.1.1.length S q191 (fun i => q191a.getD i []) (zNA a191_) x g o v gz → sn191 x g o v gz := by
  intro a g o v gz h
  exact zSem_all (l0 := q191) (las := q191a) (S := S) (J := (fun _ _ _ => True)) (P := sn191 a g) (fun _ => (show zAll _ [q191_0] from (zAll_c (vn191_0 ) zAll_n))) (fun _ => (show zAllI _ 0 [] from trivial)) h
theorem vn192_0 {S : Nat → zSpc}  {a : List Int} {g : rHp} : ∀ (ρ : Nat → Int) (γ : Nat → rHp), zO 1 S a g q192_0 ρ γ → zGl (fun _ _ _ => True) (sn192 a g) q192_0 ρ γ := by
  intro ρ γ h
  obtain ⟨ha, hg, hr, hf, hm, hc, hl⟩ := h
  have ha : a = [ρ 0] := ha
  subst ha
  subst hg
  have r0 : ((-2147483648) : Int) ≤ ρ 0 ∧ ρ 0 ≤ (-1) := zRnA hr 0
  have w_0 : ρ 0 < 0 := by omega
  show sn192 [ρ 0] (γ 0) 0 (-1) (γ 0)
  refine Eq.symm ?_
  show fn192 [ρ 0] (γ 0) = _
  unfold fn192
  refine zLV (ρ 0) rfl (zIP w_0 ?_)
  rfl
theorem vn192_1 {S : Nat → zSpc}  {a : List Int} {g : rHp} : ∀ (ρ : Nat → Int) (γ : Nat → rHp), zO 1 S a g q192_1 ρ γ → zGl (fun _ _ _ => True) (sn192 a g) q192_1 ρ γ := by
  intro ρ γ h
  obtain ⟨ha, hg, hr, hf, hm, hc, hl⟩ := h
  have ha : a = [ρ 0] := ha
  subst ha
  subst hg
  have r0 : (8000 : Int) ≤ ρ 0 ∧ ρ 0 ≤ 2147483647 := zRnA hr 0
  obtain ⟨w_0, w_1⟩ : (¬ (ρ 0 < 0)) ∧ (ρ 0 ≥ 8000) := ⟨by omega, by omega⟩
  show sn192 [ρ 0] (γ 0) 0 (-1) (γ 0)
  refine Eq.symm ?_
  show fn192 [ρ 0] (γ 0) = _
  unfold fn192
  refine zLV (ρ 0) rfl (zIN w_0 (zIP w_1 ?_))
  rfl
theorem vn192_2 {S : Nat → zSpc}  {a : List Int} {g : rHp} : ∀ (ρ : Nat → Int) (γ : Nat → rHp), zO 1 S a g q192_2 ρ γ → zGl (fun _ _ _ => True) (sn192 a g) q192_2 ρ γ := by
  intro ρ γ h
  obtain ⟨ha, hg, hr, hf, hm, hc, hl⟩ := h
  have ha : a = [ρ 0] := ha
  subst ha
  subst hg
  have r0 : (0 : Int) ≤ ρ 0 ∧ ρ 0 ≤ 7999 := zRnA hr 0
  obtain ⟨w_0, w_1⟩ : (¬ (ρ 0 < 0)) ∧ (¬ (ρ 0 ≥ 8000)) := ⟨by omega, by omega⟩
  have m0 : γ 0 52 0 (ρ 0) = ρ 1 := zAllA hm 0
  show sn192 [ρ 0] (γ 0) 0 (ρ 1) (γ 0)
  refine Eq.symm ?_
  show fn192 [ρ 0] (γ 0) = _
  unfold fn192
  refine zLV (ρ 0) rfl (zIN w_0 (zIN w_1 (zLE m0 ?_)))
  rfl
theorem yn192 {S : Nat → zSpc}  : ∀ x g o v gz, zSem uW uT w192_.2.2.2.1 w192_.2.2.1.1.length S q192 (fun i => q192a.getD i []) (zNA a192_) x g o v gz → sn192 x g o v gz := by
  intro a g o v gz h
  exact zSem_all (l0 := q192) (las := q192a) (S := S) (J := (fun _ _ _ => True)) (P := sn192 a g) (fun _ => (show zAll _ [q192_0, q192_1, q192_2] from (zAll_c (vn192_0 ) (zAll_c (vn192_1 ) (zAll_c (vn192_2 ) zAll_n))))) (fun _ => (show zAllI _ 0 [] from trivial)) h
theorem vn193_0 {S : Nat → zSpc}  {a : List Int} {g : rHp} : ∀ (ρ : Nat → Int) (γ : Nat → rHp), zO 2 S a g q193_0 ρ γ → zGl (fun _ _ _ => True) (sn193 a g) q193_0 ρ γ := by
  intro ρ γ h
  obtain ⟨ha, hg, hr, hf, hm, hc, hl⟩ := h
  have ha : a = [ρ 0, ρ 1] := ha
  subst ha
  subst hg
  have r1 : ((-2147483648) : Int) ≤ ρ 1 ∧ ρ 1 ≤ (-1) := zRnA hr 1
  have w_0 : ρ 1 < 0 := by omega
  have l0 : zOpP (.lmul) (γ 0) (γ 1) [ρ 0, (-7046029254386353131)] (ρ 2) := zAllA hl 0
  have l1 : zOpP (.lushr) (γ 0) (γ 1) [ρ 2, 52] (ρ 3) := zAllA hl 1
  show sn193 [ρ 0, ρ 1] (γ 0) 0 0 (γ 0)
  refine Eq.symm ?_
  show fn193 [ρ 0, ρ 1] (γ 0) = _
  unfold fn193
  refine zLV (ρ 0) rfl (zLV (ρ 1) rfl (zLE (zF2_ok l0) (zLE (zF2_ok l1) (zIP w_0 ?_))))
  rfl
theorem vn193_1 {S : Nat → zSpc}  {a : List Int} {g : rHp} : ∀ (ρ : Nat → Int) (γ : Nat → rHp), zO 2 S a g q193_1 ρ γ → zGl (fun _ _ _ => True) (sn193 a g) q193_1 ρ γ := by
  intro ρ γ h
  obtain ⟨ha, hg, hr, hf, hm, hc, hl⟩ := h
  have ha : a = [ρ 0, ρ 1] := ha
  subst ha
  subst hg
  have r1 : (0 : Int) ≤ ρ 1 ∧ ρ 1 ≤ 7999 := zRnA hr 1
  have r4 : (0 : Int) ≤ ρ 4 ∧ ρ 4 ≤ 7999 := zRnA hr 4
  obtain ⟨w_0, w_1, w_2⟩ : (¬ (ρ 1 < 0)) ∧ (ρ 1 < 8000) ∧ (ρ 4 ≥ 0) := ⟨by omega, by omega, by omega⟩
  have m0 : γ 0 50 0 (ρ 3) = ρ 4 := zAllA hm 0
  have m1 : γ 0 51 0 (ρ 3) = ρ 5 := zAllA hm 1
  have c1 : γ 1 = rUp (γ 0) 52 0 (ρ 1) (-1) := And.right (zChA hc 2)
  have c2 : γ 2 = rUp (γ 1) 52 0 (ρ 5) (ρ 1) := And.right (zChA hc 1)
  have c3 : γ 3 = rUp (γ 2) 51 0 (ρ 3) (ρ 1) := And.right (zChA hc 0)
  have l0 : zOpP (.lmul) (γ 0) (γ 1) [ρ 0, (-7046029254386353131)] (ρ 2) := zAllA hl 0
  have l1 : zOpP (.lushr) (γ 0) (γ 1) [ρ 2, 52] (ρ 3) := zAllA hl 1
  show sn193 [ρ 0, ρ 1] (γ 0) 0 0 (γ 3)
  refine Eq.symm ?_
  show fn193 [ρ 0, ρ 1] (γ 0) = _
  unfold fn193
  refine zLV (ρ 0) rfl (zLV (ρ 1) rfl (zLE (zF2_ok l0) (zLE (zF2_ok l1) (zIN w_0 (zIP w_1 (zLE c1.symm (zLE m0 ?_)))))))
  refine zIP w_2 (zLE m1 (zLE c2.symm (zLE c3.symm ?_)))
  rfl
theorem vn193_2 {S : Nat → zSpc}  {a : List Int} {g : rHp} : ∀ (ρ : Nat → Int) (γ : Nat → rHp), zO 2 S a g q193_2 ρ γ → zGl (fun _ _ _ => True) (sn193 a g) q193_2 ρ γ := by
  intro ρ γ h
  obtain ⟨ha, hg, hr, hf, hm, hc, hl⟩ := h
  have ha : a = [ρ 0, ρ 1] := ha
  subst ha
  subst hg
  have r1 : (0 : Int) ≤ ρ 1 ∧ ρ 1 ≤ 7999 := zRnA hr 1
  have r4 : ((-1) : Int) ≤ ρ 4 ∧ ρ 4 ≤ (-1) := zRnA hr 4
  obtain ⟨w_0, w_1, w_2⟩ : (¬ (ρ 1 < 0)) ∧ (ρ 1 < 8000) ∧ (¬ (ρ 4 ≥ 0)) := ⟨by omega, by omega, by omega⟩
  have m0 : γ 0 50 0 (ρ 3) = ρ 4 := zAllA hm 0
  have c1 : γ 1 = rUp (γ 0) 52 0 (ρ 1) (-1) := And.right (zChA hc 2)
  have c2 : γ 2 = rUp (γ 1) 50 0 (ρ 3) (ρ 1) := And.right (zChA hc 1)
  have c3 : γ 3 = rUp (γ 2) 51 0 (ρ 3) (ρ 1) := And.right (zChA hc 0)
  have l0 : zOpP (.lmul) (γ 0) (γ 1) [ρ 0, (-7046029254386353131)] (ρ 2) := zAllA hl 0
  have l1 : zOpP (.lushr) (γ 0) (γ 1) [ρ 2, 52] (ρ 3) := zAllA hl 1
  show sn193 [ρ 0, ρ 1] (γ 0) 0 0 (γ 3)
  refine Eq.symm ?_
  show fn193 [ρ 0, ρ 1] (γ 0) = _
  unfold fn193
  refine zLV (ρ 0) rfl (zLV (ρ 1) rfl (zLE (zF2_ok l0) (zLE (zF2_ok l1) (zIN w_0 (zIP w_1 (zLE c1.symm (zLE m0 ?_)))))))
  refine zIN w_2 (zLE c2.symm (zLE c3.symm ?_))
  rfl
theorem vn193_3 {S : Nat → zSpc}  {a : List Int} {g : rHp} : ∀ (ρ : Nat → Int) (γ : Nat → rHp), zO 2 S a g q193_3 ρ γ → zGl (fun _ _ _ => True) (sn193 a g) q193_3 ρ γ := by
  intro ρ γ h
  obtain ⟨ha, hg, hr, hf, hm, hc, hl⟩ := h
  have ha : a = [ρ 0, ρ 1] := ha
  subst ha
  subst hg
  have r1 : (8000 : Int) ≤ ρ 1 ∧ ρ 1 ≤ 2147483647 := zRnA hr 1
  obtain ⟨w_0, w_1⟩ : (¬ (ρ 1 < 0)) ∧ (¬ (ρ 1 < 8000)) := ⟨by omega, by omega⟩
  have l0 : zOpP (.lmul) (γ 0) (γ 1) [ρ 0, (-7046029254386353131)] (ρ 2) := zAllA hl 0
  have l1 : zOpP (.lushr) (γ 0) (γ 1) [ρ 2, 52] (ρ 3) := zAllA hl 1
  show sn193 [ρ 0, ρ 1] (γ 0) 0 0 (γ 0)
  refine Eq.symm ?_
  show fn193 [ρ 0, ρ 1] (γ 0) = _
  unfold fn193
  refine zLV (ρ 0) rfl (zLV (ρ 1) rfl (zLE (zF2_ok l0) (zLE (zF2_ok l1) (zIN w_0 (zIN w_1 ?_)))))
  rfl
theorem yn193 {S : Nat → zSpc}  : ∀ x g o v gz, zSem uW uT w193_.2.2.2.1 w193_.2.2.1.1.length S q193 (fun i => q193a.getD i []) (zNA a193_) x g o v gz → sn193 x g o v gz := by
  intro a g o v gz h
  exact zSem_all (l0 := q193) (las := q193a) (S := S) (J := (fun _ _ _ => True)) (P := sn193 a g) (fun _ => (show zAll _ [q193_0, q193_1, q193_2, q193_3] from (zAll_c (vn193_0 ) (zAll_c (vn193_1 ) (zAll_c (vn193_2 ) (zAll_c (vn193_3 ) zAll_n)))))) (fun _ => (show zAllI _ 0 [] from trivial)) h
theorem vn194_0 {S : Nat → zSpc} (hS97 : zIm S 97 sn97) {a : List Int} {g : rHp} : ∀ (ρ : Nat → Int) (γ : Nat → rHp), zO 0 S a g q194_0 ρ γ → zGl (fun _ _ _ => True) (sn194 a g) q194_0 ρ γ := by
  intro ρ γ h
  obtain ⟨ha, hg, hr, hf, hm, hc, hl⟩ := h
  have ha : a = [] := ha
  subst ha
  subst hg
  have l0 : sn97 [(-1)] (γ 0) 0 0 (γ 1) := hS97 _ _ _ _ _ (zAllA hl 0)
  show sn194 [] (γ 0) 0 0 (γ 1)
  refine Eq.symm ?_
  show fn194 [] (γ 0) = _
  unfold fn194
  refine zLE (show fn97 [(-1)] (γ 0) = (0, 0, γ 1) from l0.symm) (zLV (γ 1) rfl ?_)
  rfl
theorem yn194 {S : Nat → zSpc} (hS97 : zIm S 97 sn97) : ∀ x g o v gz, zSem uW uT w194_.2.2.2.1 w194_.2.2.1.1.length S q194 (fun i => q194a.getD i []) (zNA a194_) x g o v gz → sn194 x g o v gz := by
  intro a g o v gz h
  exact zSem_all (l0 := q194) (las := q194a) (S := S) (J := (fun _ _ _ => True)) (P := sn194 a g) (fun _ => (show zAll _ [q194_0] from (zAll_c (vn194_0 hS97) zAll_n))) (fun _ => (show zAllI _ 0 [] from trivial)) h
theorem vn195_0 {S : Nat → zSpc}  {a : List Int} {g : rHp} : ∀ (ρ : Nat → Int) (γ : Nat → rHp), zO 1 S a g q195_0 ρ γ → zGl (fun _ _ _ => True) (sn195 a g) q195_0 ρ γ := by
  intro ρ γ h
  obtain ⟨ha, hg, hr, hf, hm, hc, hl⟩ := h
  have ha : a = [ρ 0] := ha
  subst ha
  subst hg
  have m0 : γ 0 53 0 (ρ 2) = ρ 3 := zAllA hm 0
  have l0 : zOpP (.lmul) (γ 0) (γ 1) [ρ 0, (-7046029254386353131)] (ρ 1) := zAllA hl 0
  have l1 : zOpP (.lushr) (γ 0) (γ 1) [ρ 1, 53] (ρ 2) := zAllA hl 1
  show sn195 [ρ 0] (γ 0) 0 (ρ 3) (γ 0)
  refine Eq.symm ?_
  show fn195 [ρ 0] (γ 0) = _
  unfold fn195
  refine zLV (ρ 0) rfl (zLE (zF2_ok l0) (zLE (zF2_ok l1) (zLE m0 ?_)))
  rfl
theorem yn195 {S : Nat → zSpc}  : ∀ x g o v gz, zSem uW uT w195_.2.2.2.1 w195_.2.2.1.1.length S q195 (fun i => q195a.getD i []) (zNA a195_) x g o v gz → sn195 x g o v gz := by
  intro a g o v gz h
  exact zSem_all (l0 := q195) (las := q195a) (S := S) (J := (fun _ _ _ => True)) (P := sn195 a g) (fun _ => (show zAll _ [q195_0] from (zAll_c (vn195_0 ) zAll_n))) (fun _ => (show zAllI _ 0 [] from trivial)) h
theorem vn196_0 {S : Nat → zSpc}  {a : List Int} {g : rHp} : ∀ (ρ : Nat → Int) (γ : Nat → rHp), zO 1 S a g q196_0 ρ γ → zGl (fun _ _ _ => True) (sn196 a g) q196_0 ρ γ := by
  intro ρ γ h
  obtain ⟨ha, hg, hr, hf, hm, hc, hl⟩ := h
  have ha : a = [ρ 0] := ha
  subst ha
  subst hg
  have r0 : ((-2147483648) : Int) ≤ ρ 0 ∧ ρ 0 ≤ (-1) := zRnA hr 0
  have w_0 : ρ 0 < 0 := by omega
  show sn196 [ρ 0] (γ 0) 0 (-1) (γ 0)
  refine Eq.symm ?_
  show fn196 [ρ 0] (γ 0) = _
  unfold fn196
  refine zLV (ρ 0) rfl (zIP w_0 ?_)
  rfl
theorem vn196_1 {S : Nat → zSpc}  {a : List Int} {g : rHp} : ∀ (ρ : Nat → Int) (γ : Nat → rHp), zO 1 S a g q196_1 ρ γ → zGl (fun _ _ _ => True) (sn196 a g) q196_1 ρ γ := by
  intro ρ γ h
  obtain ⟨ha, hg, hr, hf, hm, hc, hl⟩ := h
  have ha : a = [ρ 0] := ha
  subst ha
  subst hg
  have r0 : (2000 : Int) ≤ ρ 0 ∧ ρ 0 ≤ 2147483647 := zRnA hr 0
  obtain ⟨w_0, w_1⟩ : (¬ (ρ 0 < 0)) ∧ (ρ 0 ≥ 2000) := ⟨by omega, by omega⟩
  show sn196 [ρ 0] (γ 0) 0 (-1) (γ 0)
  refine Eq.symm ?_
  show fn196 [ρ 0] (γ 0) = _
  unfold fn196
  refine zLV (ρ 0) rfl (zIN w_0 (zIP w_1 ?_))
  rfl
theorem vn196_2 {S : Nat → zSpc}  {a : List Int} {g : rHp} : ∀ (ρ : Nat → Int) (γ : Nat → rHp), zO 1 S a g q196_2 ρ γ → zGl (fun _ _ _ => True) (sn196 a g) q196_2 ρ γ := by
  intro ρ γ h
  obtain ⟨ha, hg, hr, hf, hm, hc, hl⟩ := h
  have ha : a = [ρ 0] := ha
  subst ha
  subst hg
  have r0 : (0 : Int) ≤ ρ 0 ∧ ρ 0 ≤ 1999 := zRnA hr 0
  obtain ⟨w_0, w_1⟩ : (¬ (ρ 0 < 0)) ∧ (¬ (ρ 0 ≥ 2000)) := ⟨by omega, by omega⟩
  have m0 : γ 0 55 0 (ρ 0) = ρ 1 := zAllA hm 0
  show sn196 [ρ 0] (γ 0) 0 (ρ 1) (γ 0)
  refine Eq.symm ?_
  show fn196 [ρ 0] (γ 0) = _
  unfold fn196
  refine zLV (ρ 0) rfl (zIN w_0 (zIN w_1 (zLE m0 ?_)))
  rfl
theorem yn196 {S : Nat → zSpc}  : ∀ x g o v gz, zSem uW uT w196_.2.2.2.1 w196_.2.2.1.1.length S q196 (fun i => q196a.getD i []) (zNA a196_) x g o v gz → sn196 x g o v gz := by
  intro a g o v gz h
  exact zSem_all (l0 := q196) (las := q196a) (S := S) (J := (fun _ _ _ => True)) (P := sn196 a g) (fun _ => (show zAll _ [q196_0, q196_1, q196_2] from (zAll_c (vn196_0 ) (zAll_c (vn196_1 ) (zAll_c (vn196_2 ) zAll_n))))) (fun _ => (show zAllI _ 0 [] from trivial)) h
theorem vn197_0 {S : Nat → zSpc}  {a : List Int} {g : rHp} : ∀ (ρ : Nat → Int) (γ : Nat → rHp), zO 2 S a g q197_0 ρ γ → zGl (fun _ _ _ => True) (sn197 a g) q197_0 ρ γ := by
  intro ρ γ h
  obtain ⟨ha, hg, hr, hf, hm, hc, hl⟩ := h
  have ha : a = [ρ 0, ρ 1] := ha
  subst ha
  subst hg
  have r1 : ((-2147483648) : Int) ≤ ρ 1 ∧ ρ 1 ≤ (-1) := zRnA hr 1
  have w_0 : ρ 1 < 0 := by omega
  have l0 : zOpP (.lmul) (γ 0) (γ 1) [ρ 0, (-7046029254386353131)] (ρ 2) := zAllA hl 0
  have l1 : zOpP (.lushr) (γ 0) (γ 1) [ρ 2, 53] (ρ 3) := zAllA hl 1
  show sn197 [ρ 0, ρ 1] (γ 0) 0 0 (γ 0)
  refine Eq.symm ?_
  show fn197 [ρ 0, ρ 1] (γ 0) = _
  unfold fn197
  refine zLV (ρ 0) rfl (zLV (ρ 1) rfl (zLE (zF2_ok l0) (zLE (zF2_ok l1) (zIP w_0 ?_))))
  rfl
theorem vn197_1 {S : Nat → zSpc}  {a : List Int} {g : rHp} : ∀ (ρ : Nat → Int) (γ : Nat → rHp), zO 2 S a g q197_1 ρ γ → zGl (fun _ _ _ => True) (sn197 a g) q197_1 ρ γ := by
  intro ρ γ h
  obtain ⟨ha, hg, hr, hf, hm, hc, hl⟩ := h
  have ha : a = [ρ 0, ρ 1] := ha
  subst ha
  subst hg
  have r1 : (0 : Int) ≤ ρ 1 ∧ ρ 1 ≤ 1999 := zRnA hr 1
  have r4 : (0 : Int) ≤ ρ 4 ∧ ρ 4 ≤ 1999 := zRnA hr 4
  obtain ⟨w_0, w_1, w_2⟩ : (¬ (ρ 1 < 0)) ∧ (ρ 1 < 2000) ∧ (ρ 4 ≥ 0) := ⟨by omega, by omega, by omega⟩
  have m0 : γ 0 53 0 (ρ 3) = ρ 4 := zAllA hm 0
  have m1 : γ 0 54 0 (ρ 3) = ρ 5 := zAllA hm 1
  have c1 : γ 1 = rUp (γ 0) 55 0 (ρ 1) (-1) := And.right (zChA hc 2)
  have c2 : γ 2 = rUp (γ 1) 55 0 (ρ 5) (ρ 1) := And.right (zChA hc 1)
  have c3 : γ 3 = rUp (γ 2) 54 0 (ρ 3) (ρ 1) := And.right (zChA hc 0)
  have l0 : zOpP (.lmul) (γ 0) (γ 1) [ρ 0, (-7046029254386353131)] (ρ 2) := zAllA hl 0
  have l1 : zOpP (.lushr) (γ 0) (γ 1) [ρ 2, 53] (ρ 3) := zAllA hl 1
  show sn197 [ρ 0, ρ 1] (γ 0) 0 0 (γ 3)
  refine Eq.symm ?_
  show fn197 [ρ 0, ρ 1] (γ 0) = _
  unfold fn197
  refine zLV (ρ 0) rfl (zLV (ρ 1) rfl (zLE (zF2_ok l0) (zLE (zF2_ok l1) (zIN w_0 (zIP w_1 (zLE c1.symm (zLE m0 ?_)))))))
  refine zIP w_2 (zLE m1 (zLE c2.symm (zLE c3.symm ?_)))
  rfl
theorem vn197_2 {S : Nat → zSpc}  {a : List Int} {g : rHp} : ∀ (ρ : Nat → Int) (γ : Nat → rHp), zO 2 S a g q197_2 ρ γ → zGl (fun _ _ _ => True) (sn197 a g) q197_2 ρ γ := by
  intro ρ γ h
  obtain ⟨ha, hg, hr, hf, hm, hc, hl⟩ := h
  have ha : a = [ρ 0, ρ 1] := ha
  subst ha
  subst hg
  have r1 : (0 : Int) ≤ ρ 1 ∧ ρ 1 ≤ 1999 := zRnA hr 1
  have r4 : ((-1) : Int) ≤ ρ 4 ∧ ρ 4 ≤ (-1) := zRnA hr 4
  obtain ⟨w_0, w_1, w_2⟩ : (¬ (ρ 1 < 0)) ∧ (ρ 1 < 2000) ∧ (¬ (ρ 4 ≥ 0)) := ⟨by omega, by omega, by omega⟩
  have m0 : γ 0 53 0 (ρ 3) = ρ 4 := zAllA hm 0
  have c1 : γ 1 = rUp (γ 0) 55 0 (ρ 1) (-1) := And.right (zChA hc 2)
  have c2 : γ 2 = rUp (γ 1) 53 0 (ρ 3) (ρ 1) := And.right (zChA hc 1)
  have c3 : γ 3 = rUp (γ 2) 54 0 (ρ 3) (ρ 1) := And.right (zChA hc 0)
  have l0 : zOpP (.lmul) (γ 0) (γ 1) [ρ 0, (-7046029254386353131)] (ρ 2) := zAllA hl 0
  have l1 : zOpP (.lushr) (γ 0) (γ 1) [ρ 2, 53] (ρ 3) := zAllA hl 1
  show sn197 [ρ 0, ρ 1] (γ 0) 0 0 (γ 3)
  refine Eq.symm ?_
  show fn197 [ρ 0, ρ 1] (γ 0) = _
  unfold fn197
  refine zLV (ρ 0) rfl (zLV (ρ 1) rfl (zLE (zF2_ok l0) (zLE (zF2_ok l1) (zIN w_0 (zIP w_1 (zLE c1.symm (zLE m0 ?_)))))))
  refine zIN w_2 (zLE c2.symm (zLE c3.symm ?_))
  rfl
theorem vn197_3 {S : Nat → zSpc}  {a : List Int} {g : rHp} : ∀ (ρ : Nat → Int) (γ : Nat → rHp), zO 2 S a g q197_3 ρ γ → zGl (fun _ _ _ => True) (sn197 a g) q197_3 ρ γ := by
  intro ρ γ h
  obtain ⟨ha, hg, hr, hf, hm, hc, hl⟩ := h
  have ha : a = [ρ 0, ρ 1] := ha
  subst ha
  subst hg
  have r1 : (2000 : Int) ≤ ρ 1 ∧ ρ 1 ≤ 2147483647 := zRnA hr 1
  obtain ⟨w_0, w_1⟩ : (¬ (ρ 1 < 0)) ∧ (¬ (ρ 1 < 2000)) := ⟨by omega, by omega⟩
  have l0 : zOpP (.lmul) (γ 0) (γ 1) [ρ 0, (-7046029254386353131)] (ρ 2) := zAllA hl 0
  have l1 : zOpP (.lushr) (γ 0) (γ 1) [ρ 2, 53] (ρ 3) := zAllA hl 1
  show sn197 [ρ 0, ρ 1] (γ 0) 0 0 (γ 0)
  refine Eq.symm ?_
  show fn197 [ρ 0, ρ 1] (γ 0) = _
  unfold fn197
  refine zLV (ρ 0) rfl (zLV (ρ 1) rfl (zLE (zF2_ok l0) (zLE (zF2_ok l1) (zIN w_0 (zIN w_1 ?_)))))
  rfl
theorem yn197 {S : Nat → zSpc}  : ∀ x g o v gz, zSem uW uT w197_.2.2.2.1 w197_.2.2.1.1.length S q197 (fun i => q197a.getD i []) (zNA a197_) x g o v gz → sn197 x g o v gz := by
  intro a g o v gz h
  exact zSem_all (l0 := q197) (las := q197a) (S := S) (J := (fun _ _ _ => True)) (P := sn197 a g) (fun _ => (show zAll _ [q197_0, q197_1, q197_2, q197_3] from (zAll_c (vn197_0 ) (zAll_c (vn197_1 ) (zAll_c (vn197_2 ) (zAll_c (vn197_3 ) zAll_n)))))) (fun _ => (show zAllI _ 0 [] from trivial)) h
theorem vn198_0 {S : Nat → zSpc} (hS98 : zIm S 98 sn98) {a : List Int} {g : rHp} : ∀ (ρ : Nat → Int) (γ : Nat → rHp), zO 0 S a g q198_0 ρ γ → zGl (fun _ _ _ => True) (sn198 a g) q198_0 ρ γ := by
  intro ρ γ h
  obtain ⟨ha, hg, hr, hf, hm, hc, hl⟩ := h
  have ha : a = [] := ha
  subst ha
  subst hg
  have l0 : sn98 [(-1)] (γ 0) 0 0 (γ 1) := hS98 _ _ _ _ _ (zAllA hl 0)
  show sn198 [] (γ 0) 0 0 (γ 1)
  refine Eq.symm ?_
  show fn198 [] (γ 0) = _
  unfold fn198
  refine zLE (show fn98 [(-1)] (γ 0) = (0, 0, γ 1) from l0.symm) (zLV (γ 1) rfl ?_)
  rfl
theorem yn198 {S : Nat → zSpc} (hS98 : zIm S 98 sn98) : ∀ x g o v gz, zSem uW uT w198_.2.2.2.1 w198_.2.2.1.1.length S q198 (fun i => q198a.getD i []) (zNA a198_) x g o v gz → sn198 x g o v gz := by
  intro a g o v gz h
  exact zSem_all (l0 := q198) (las := q198a) (S := S) (J := (fun _ _ _ => True)) (P := sn198 a g) (fun _ => (show zAll _ [q198_0] from (zAll_c (vn198_0 hS98) zAll_n))) (fun _ => (show zAllI _ 0 [] from trivial)) h
theorem vn199_0 {S : Nat → zSpc}  {a : List Int} {g : rHp} : ∀ (ρ : Nat → Int) (γ : Nat → rHp), zO 1 S a g q199_0 ρ γ → zGl (fun _ _ _ => True) (sn199 a g) q199_0 ρ γ := by
  intro ρ γ h
  obtain ⟨ha, hg, hr, hf, hm, hc, hl⟩ := h
  have ha : a = [ρ 0] := ha
  subst ha
  subst hg
  have m0 : γ 0 56 0 (ρ 2) = ρ 3 := zAllA hm 0
  have l0 : zOpP (.lmul) (γ 0) (γ 1) [ρ 0, (-7046029254386353131)] (ρ 1) := zAllA hl 0
  have l1 : zOpP (.lushr) (γ 0) (γ 1) [ρ 1, 55] (ρ 2) := zAllA hl 1
  show sn199 [ρ 0] (γ 0) 0 (ρ 3) (γ 0)
  refine Eq.symm ?_
  show fn199 [ρ 0] (γ 0) = _
  unfold fn199
  refine zLV (ρ 0) rfl (zLE (zF2_ok l0) (zLE (zF2_ok l1) (zLE m0 ?_)))
  rfl
theorem yn199 {S : Nat → zSpc}  : ∀ x g o v gz, zSem uW uT w199_.2.2.2.1 w199_.2.2.1.1.length S q199 (fun i => q199a.getD i []) (zNA a199_) x g o v gz → sn199 x g o v gz := by
  intro a g o v gz h
  exact zSem_all (l0 := q199) (las := q199a) (S := S) (J := (fun _ _ _ => True)) (P := sn199 a g) (fun _ => (show zAll _ [q199_0] from (zAll_c (vn199_0 ) zAll_n))) (fun _ => (show zAllI _ 0 [] from trivial)) h
theorem vn200_0 {S : Nat → zSpc}  {a : List Int} {g : rHp} : ∀ (ρ : Nat → Int) (γ : Nat → rHp), zO 1 S a g q200_0 ρ γ → zGl (fun _ _ _ => True) (sn200 a g) q200_0 ρ γ := by
  intro ρ γ h
  obtain ⟨ha, hg, hr, hf, hm, hc, hl⟩ := h
  have ha : a = [ρ 0] := ha
  subst ha
  subst hg
  have r0 : ((-2147483648) : Int) ≤ ρ 0 ∧ ρ 0 ≤ (-1) := zRnA hr 0
  have w_0 : ρ 0 < 0 := by omega
  show sn200 [ρ 0] (γ 0) 0 (-1) (γ 0)
  refine Eq.symm ?_
  show fn200 [ρ 0] (γ 0) = _
  unfold fn200
  refine zLV (ρ 0) rfl (zIP w_0 ?_)
  rfl
theorem vn200_1 {S : Nat → zSpc}  {a : List Int} {g : rHp} : ∀ (ρ : Nat → Int) (γ : Nat → rHp), zO 1 S a g q200_1 ρ γ → zGl (fun _ _ _ => True) (sn200 a g) q200_1 ρ γ := by
  intro ρ γ h
  obtain ⟨ha, hg, hr, hf, hm, hc, hl⟩ := h
  have ha : a = [ρ 0] := ha
  subst ha
  subst hg
  have r0 : (2000 : Int) ≤ ρ 0 ∧ ρ 0 ≤ 2147483647 := zRnA hr 0
  obtain ⟨w_0, w_1⟩ : (¬ (ρ 0 < 0)) ∧ (ρ 0 ≥ 2000) := ⟨by omega, by omega⟩
  show sn200 [ρ 0] (γ 0) 0 (-1) (γ 0)
  refine Eq.symm ?_
  show fn200 [ρ 0] (γ 0) = _
  unfold fn200
  refine zLV (ρ 0) rfl (zIN w_0 (zIP w_1 ?_))
  rfl
theorem vn200_2 {S : Nat → zSpc}  {a : List Int} {g : rHp} : ∀ (ρ : Nat → Int) (γ : Nat → rHp), zO 1 S a g q200_2 ρ γ → zGl (fun _ _ _ => True) (sn200 a g) q200_2 ρ γ := by
  intro ρ γ h
  obtain ⟨ha, hg, hr, hf, hm, hc, hl⟩ := h
  have ha : a = [ρ 0] := ha
  subst ha
  subst hg
  have r0 : (0 : Int) ≤ ρ 0 ∧ ρ 0 ≤ 1999 := zRnA hr 0
  obtain ⟨w_0, w_1⟩ : (¬ (ρ 0 < 0)) ∧ (¬ (ρ 0 ≥ 2000)) := ⟨by omega, by omega⟩
  have m0 : γ 0 58 0 (ρ 0) = ρ 1 := zAllA hm 0
  show sn200 [ρ 0] (γ 0) 0 (ρ 1) (γ 0)
  refine Eq.symm ?_
  show fn200 [ρ 0] (γ 0) = _
  unfold fn200
  refine zLV (ρ 0) rfl (zIN w_0 (zIN w_1 (zLE m0 ?_)))
  rfl
theorem yn200 {S : Nat → zSpc}  : ∀ x g o v gz, zSem uW uT w200_.2.2.2.1 w200_.2.2.1.1.length S q200 (fun i => q200a.getD i []) (zNA a200_) x g o v gz → sn200 x g o v gz := by
  intro a g o v gz h
  exact zSem_all (l0 := q200) (las := q200a) (S := S) (J := (fun _ _ _ => True)) (P := sn200 a g) (fun _ => (show zAll _ [q200_0, q200_1, q200_2] from (zAll_c (vn200_0 ) (zAll_c (vn200_1 ) (zAll_c (vn200_2 ) zAll_n))))) (fun _ => (show zAllI _ 0 [] from trivial)) h
theorem vn201_0 {S : Nat → zSpc}  {a : List Int} {g : rHp} : ∀ (ρ : Nat → Int) (γ : Nat → rHp), zO 2 S a g q201_0 ρ γ → zGl (fun _ _ _ => True) (sn201 a g) q201_0 ρ γ := by
  intro ρ γ h
  obtain ⟨ha, hg, hr, hf, hm, hc, hl⟩ := h
  have ha : a = [ρ 0, ρ 1] := ha
  subst ha
  subst hg
  have r1 : ((-2147483648) : Int) ≤ ρ 1 ∧ ρ 1 ≤ (-1) := zRnA hr 1
  have w_0 : ρ 1 < 0 := by omega
  have l0 : zOpP (.lmul) (γ 0) (γ 1) [ρ 0, (-7046029254386353131)] (ρ 2) := zAllA hl 0
  have l1 : zOpP (.lushr) (γ 0) (γ 1) [ρ 2, 55] (ρ 3) := zAllA hl 1
  show sn201 [ρ 0, ρ 1] (γ 0) 0 0 (γ 0)
  refine Eq.symm ?_
  show fn201 [ρ 0, ρ 1] (γ 0) = _
  unfold fn201
  refine zLV (ρ 0) rfl (zLV (ρ 1) rfl (zLE (zF2_ok l0) (zLE (zF2_ok l1) (zIP w_0 ?_))))
  rfl
theorem vn201_1 {S : Nat → zSpc}  {a : List Int} {g : rHp} : ∀ (ρ : Nat → Int) (γ : Nat → rHp), zO 2 S a g q201_1 ρ γ → zGl (fun _ _ _ => True) (sn201 a g) q201_1 ρ γ := by
  intro ρ γ h
  obtain ⟨ha, hg, hr, hf, hm, hc, hl⟩ := h
  have ha : a = [ρ 0, ρ 1] := ha
  subst ha
  subst hg
  have r1 : (0 : Int) ≤ ρ 1 ∧ ρ 1 ≤ 1999 := zRnA hr 1
  have r4 : (0 : Int) ≤ ρ 4 ∧ ρ 4 ≤ 1999 := zRnA hr 4
  obtain ⟨w_0, w_1, w_2⟩ : (¬ (ρ 1 < 0)) ∧ (ρ 1 < 2000) ∧ (ρ 4 ≥ 0) := ⟨by omega, by omega, by omega⟩
  have m0 : γ 0 56 0 (ρ 3) = ρ 4 := zAllA hm 0
  have m1 : γ 0 57 0 (ρ 3) = ρ 5 := zAllA hm 1
  have c1 : γ 1 = rUp (γ 0) 58 0 (ρ 1) (-1) := And.right (zChA hc 2)
  have c2 : γ 2 = rUp (γ 1) 58 0 (ρ 5) (ρ 1) := And.right (zChA hc 1)
  have c3 : γ 3 = rUp (γ 2) 57 0 (ρ 3) (ρ 1) := And.right (zChA hc 0)
  have l0 : zOpP (.lmul) (γ 0) (γ 1) [ρ 0, (-7046029254386353131)] (ρ 2) := zAllA hl 0
  have l1 : zOpP (.lushr) (γ 0) (γ 1) [ρ 2, 55] (ρ 3) := zAllA hl 1
  show sn201 [ρ 0, ρ 1] (γ 0) 0 0 (γ 3)
  refine Eq.symm ?_
  show fn201 [ρ 0, ρ 1] (γ 0) = _
  unfold fn201
  refine zLV (ρ 0) rfl (zLV (ρ 1) rfl (zLE (zF2_ok l0) (zLE (zF2_ok l1) (zIN w_0 (zIP w_1 (zLE c1.symm (zLE m0 ?_)))))))
  refine zIP w_2 (zLE m1 (zLE c2.symm (zLE c3.symm ?_)))
  rfl
theorem vn201_2 {S : Nat → zSpc}  {a : List Int} {g : rHp} : ∀ (ρ : Nat → Int) (γ : Nat → rHp), zO 2 S a g q201_2 ρ γ → zGl (fun _ _ _ => True) (sn201 a g) q201_2 ρ γ := by
  intro ρ γ h
  obtain ⟨ha, hg, hr, hf, hm, hc, hl⟩ := h
  have ha : a = [ρ 0, ρ 1] := ha
  subst ha
  subst hg
  have r1 : (0 : Int) ≤ ρ 1 ∧ ρ 1 ≤ 1999 := zRnA hr 1
  have r4 : ((-1) : Int) ≤ ρ 4 ∧ ρ 4 ≤ (-1) := zRnA hr 4
  obtain ⟨w_0, w_1, w_2⟩ : (¬ (ρ 1 < 0)) ∧ (ρ 1 < 2000) ∧ (¬ (ρ 4 ≥ 0)) := ⟨by omega, by omega, by omega⟩
  have m0 : γ 0 56 0 (ρ 3) = ρ 4 := zAllA hm 0
  have c1 : γ 1 = rUp (γ 0) 58 0 (ρ 1) (-1) := And.right (zChA hc 2)
  have c2 : γ 2 = rUp (γ 1) 56 0 (ρ 3) (ρ 1) := And.right (zChA hc 1)
  have c3 : γ 3 = rUp (γ 2) 57 0 (ρ 3) (ρ 1) := And.right (zChA hc 0)
  have l0 : zOpP (.lmul) (γ 0) (γ 1) [ρ 0, (-7046029254386353131)] (ρ 2) := zAllA hl 0
  have l1 : zOpP (.lushr) (γ 0) (γ 1) [ρ 2, 55] (ρ 3) := zAllA hl 1
  show sn201 [ρ 0, ρ 1] (γ 0) 0 0 (γ 3)
  refine Eq.symm ?_
  show fn201 [ρ 0, ρ 1] (γ 0) = _
  unfold fn201
  refine zLV (ρ 0) rfl (zLV (ρ 1) rfl (zLE (zF2_ok l0) (zLE (zF2_ok l1) (zIN w_0 (zIP w_1 (zLE c1.symm (zLE m0 ?_)))))))
  refine zIN w_2 (zLE c2.symm (zLE c3.symm ?_))
  rfl
theorem vn201_3 {S : Nat → zSpc}  {a : List Int} {g : rHp} : ∀ (ρ : Nat → Int) (γ : Nat → rHp), zO 2 S a g q201_3 ρ γ → zGl (fun _ _ _ => True) (sn201 a g) q201_3 ρ γ := by
  intro ρ γ h
  obtain ⟨ha, hg, hr, hf, hm, hc, hl⟩ := h
  have ha : a = [ρ 0, ρ 1] := ha
  subst ha
  subst hg
  have r1 : (2000 : Int) ≤ ρ 1 ∧ ρ 1 ≤ 2147483647 := zRnA hr 1
  obtain ⟨w_0, w_1⟩ : (¬ (ρ 1 < 0)) ∧ (¬ (ρ 1 < 2000)) := ⟨by omega, by omega⟩
  have l0 : zOpP (.lmul) (γ 0) (γ 1) [ρ 0, (-7046029254386353131)] (ρ 2) := zAllA hl 0
  have l1 : zOpP (.lushr) (γ 0) (γ 1) [ρ 2, 55] (ρ 3) := zAllA hl 1
  show sn201 [ρ 0, ρ 1] (γ 0) 0 0 (γ 0)
  refine Eq.symm ?_
  show fn201 [ρ 0, ρ 1] (γ 0) = _
  unfold fn201
  refine zLV (ρ 0) rfl (zLV (ρ 1) rfl (zLE (zF2_ok l0) (zLE (zF2_ok l1) (zIN w_0 (zIN w_1 ?_)))))
  rfl
theorem yn201 {S : Nat → zSpc}  : ∀ x g o v gz, zSem uW uT w201_.2.2.2.1 w201_.2.2.1.1.length S q201 (fun i => q201a.getD i []) (zNA a201_) x g o v gz → sn201 x g o v gz := by
  intro a g o v gz h
  exact zSem_all (l0 := q201) (las := q201a) (S := S) (J := (fun _ _ _ => True)) (P := sn201 a g) (fun _ => (show zAll _ [q201_0, q201_1, q201_2, q201_3] from (zAll_c (vn201_0 ) (zAll_c (vn201_1 ) (zAll_c (vn201_2 ) (zAll_c (vn201_3 ) zAll_n)))))) (fun _ => (show zAllI _ 0 [] from trivial)) h
theorem vn202_0 {S : Nat → zSpc} (hS186 : zIm S 186 sn186) (hS190 : zIm S 190 sn190) (hS194 : zIm S 194 sn194) {a : List Int} {g : rHp} : ∀ (ρ : Nat → Int) (γ : Nat → rHp), zO 1 S a g q202_0 ρ γ → zGl (fun _ _ _ => True) (sn202 a g) q202_0 ρ γ := by
  intro ρ γ h
  obtain ⟨ha, hg, hr, hf, hm, hc, hl⟩ := h
  have ha : a = [ρ 0] := ha
  subst ha
  subst hg
  have c1 : γ 1 = rUp (γ 0) 4 0 7 0 := And.right (zChA hc 3)
  have l0 : sn186 [] (γ 1) 0 0 (γ 2) := hS186 _ _ _ _ _ (zAllA hl 0)
  have l1 : sn190 [] (γ 2) 0 0 (γ 3) := hS190 _ _ _ _ _ (zAllA hl 1)
  have l2 : sn194 [] (γ 3) 0 0 (γ 4) := hS194 _ _ _ _ _ (zAllA hl 2)
  show sn202 [ρ 0] (γ 0) 0 0 (γ 4)
  refine Eq.symm ?_
  show fn202 [] (γ 0) = _
  unfold fn202
  refine zLE c1.symm (zLE (show fn186 [] (γ 1) = (0, 0, γ 2) from l0.symm) (zLV (γ 2) rfl (zLE (show fn190 [] (γ 2) = (0, 0, γ 3) from l1.symm) (zLV (γ 3) rfl (zLE (show fn194 [] (γ 3) = (0, 0, γ 4) from l2.symm) (zLV (γ 4) rfl ?_))))))
  rfl
theorem yn202 {S : Nat → zSpc} (hS186 : zIm S 186 sn186) (hS190 : zIm S 190 sn190) (hS194 : zIm S 194 sn194) : ∀ x g o v gz, zSem uW uT w202_.2.2.2.1 w202_.2.2.1.1.length S q202 (fun i => q202a.getD i []) (zNA a202_) x g o v gz → sn202 x g o v gz := by
  intro a g o v gz h
  exact zSem_all (l0 := q202) (las := q202a) (S := S) (J := (fun _ _ _ => True)) (P := sn202 a g) (fun _ => (show zAll _ [q202_0] from (zAll_c (vn202_0 hS186 hS190 hS194) zAll_n))) (fun _ => (show zAllI _ 0 [] from trivial)) h
theorem vn203_0 {S : Nat → zSpc}  {a : List Int} {g : rHp} : ∀ (ρ : Nat → Int) (γ : Nat → rHp), zO 1 S a g q203_0 ρ γ → zGl (fun i vs g1 => jn203 a g i vs g1) (sn203 a g) q203_0 ρ γ := by
  intro ρ γ h
  obtain ⟨ha, hg, hr, hf, hm, hc, hl⟩ := h
  have ha : a = [ρ 0] := ha
  subst ha
  subst hg
  show jn203 [ρ 0] (γ 0) 0 [ρ 0, 0, ρ 0] (γ 0)
  have hD : dn203 [ρ 0] (γ 0) = .inl (0, [ρ 0, 0, ρ 0], γ 0) := by
    unfold dn203
    refine zLV (ρ 0) rfl ?_
    rfl
  exact zGoo_to hD
theorem vn203a0_0 {S : Nat → zSpc}  {a : List Int} {g : rHp} : ∀ (ρ : Nat → Int) (γ : Nat → rHp), jn203 a g 0 (zAg (zNA a203_ 0) ρ) (γ 1) → zO 1 S a g q203a0_0 ρ γ → zGl (fun i vs g1 => jn203 a g i vs g1) (sn203 a g) q203a0_0 ρ γ := by
  intro ρ γ hJ h
  obtain ⟨ha, hg, hr, hf, hm, hc, hl⟩ := h
  have ha : a = [ρ 0] := ha
  subst ha
  subst hg
  have hJ : jn203 [ρ 0] (γ 0) 0 [ρ 0, ρ 1, ρ 2] (γ 1) := hJ
  have r1 : (4 : Int) ≤ ρ 1 ∧ ρ 1 ≤ 4 := zRnA hr 1
  have w_0 : ρ 1 ≥ 4 := by omega
  show sn203 [ρ 0] (γ 0) 0 (ρ 2) (γ 1)
  have hD : en203 (γ 0) (0, [ρ 0, ρ 1, ρ 2], γ 1) = .inr (0, ρ 2, γ 1) := by
    unfold en203
    refine zIP (show (0 : Nat) = 0 by decide) (zLV (γ 1) rfl (zLV (ρ 0) rfl (zLV (ρ 1) rfl (zLV (ρ 2) rfl (zIP w_0 ?_)))))
    rfl
  exact zGoo_aend hJ hD
theorem vn203a0_1 {S : Nat → zSpc}  {a : List Int} {g : rHp} : ∀ (ρ : Nat → Int) (γ : Nat → rHp), jn203 a g 0 (zAg (zNA a203_ 0) ρ) (γ 1) → zO 1 S a g q203a0_1 ρ γ → zGl (fun i vs g1 => jn203 a g i vs g1) (sn203 a g) q203a0_1 ρ γ := by
  intro ρ γ hJ h
  obtain ⟨ha, hg, hr, hf, hm, hc, hl⟩ := h
  have ha : a = [ρ 0] := ha
  subst ha
  subst hg
  have hJ : jn203 [ρ 0] (γ 0) 0 [ρ 0, ρ 1, ρ 2] (γ 1) := hJ
  have r1 : (0 : Int) ≤ ρ 1 ∧ ρ 1 ≤ 3 := zRnA hr 1
  have w_0 : ¬ (ρ 1 ≥ 4) := by omega
  have m0 : γ 0 33 0 (ρ 1) = ρ 4 := zAllA hm 0
  have l0 : zOpP (.lmul) (γ 0) (γ 1) [ρ 2, 1000003] (ρ 3) := zAllA hl 0
  have l1 : zOpP (.ladd) (γ 0) (γ 1) [ρ 3, ρ 4] (ρ 5) := zAllA hl 1
  show jn203 [ρ 0] (γ 0) 0 [ρ 0, ρ 1 + 1, ρ 5] (γ 1)
  have hD : en203 (γ 0) (0, [ρ 0, ρ 1, ρ 2], γ 1) = .inl (0, [ρ 0, ρ 1 + 1, ρ 5], γ 1) := by
    unfold en203
    refine zIP (show (0 : Nat) = 0 by decide) (zLV (γ 1) rfl (zLV (ρ 0) rfl (zLV (ρ 1) rfl (zLV (ρ 2) rfl (zIN w_0 (zLE (zF2_ok l0) (zLE m0 ?_)))))))
    refine zLE (zF2_ok l1) ?_
    rfl
  exact zGoo_ato hJ hD
theorem yn203 {S : Nat → zSpc}  : ∀ x g o v gz, zSem uW uT w203_.2.2.2.1 w203_.2.2.1.1.length S q203 (fun i => q203a.getD i []) (zNA a203_) x g o v gz → sn203 x g o v gz := by
  intro a g o v gz h
  exact zSem_all (l0 := q203) (las := q203a) (S := S) (J := (fun i vs g1 => jn203 a g i vs g1)) (P := sn203 a g) (fun _ => (show zAll _ [q203_0] from (zAll_c (vn203_0 ) zAll_n))) (fun _ => (show zAllI _ 0 [q203a0] from ⟨(show zAll _ [q203a0_0, q203a0_1] from (zAll_c (vn203a0_0 ) (zAll_c (vn203a0_1 ) zAll_n))), trivial⟩)) h
theorem vn204_0 {S : Nat → zSpc}  {a : List Int} {g : rHp} : ∀ (ρ : Nat → Int) (γ : Nat → rHp), zO 3 S a g q204_0 ρ γ → zGl (fun _ _ _ => True) (sn204 a g) q204_0 ρ γ := by
  intro ρ γ h
  obtain ⟨ha, hg, hr, hf, hm, hc, hl⟩ := h
  have ha : a = [ρ 0, ρ 1, ρ 2] := ha
  subst ha
  subst hg
  have l0 : zOpP (.lmul) (γ 0) (γ 1) [ρ 2, 1000003] (ρ 3) := zAllA hl 0
  have l1 : zOpP (.imul) (γ 0) (γ 1) [ρ 0, 4] (ρ 4) := zAllA hl 1
  have l2 : zOpP (.ladd) (γ 0) (γ 1) [ρ 3, ρ 4] (ρ 5) := zAllA hl 2
  have l3 : zOpP (.ladd) (γ 0) (γ 1) [ρ 5, ρ 1] (ρ 6) := zAllA hl 3
  show sn204 [ρ 0, ρ 1, ρ 2] (γ 0) 0 (ρ 6) (γ 0)
  refine Eq.symm ?_
  show fn204 [ρ 0, ρ 1, ρ 2] (γ 0) = _
  unfold fn204
  refine zLV (ρ 0) rfl (zLV (ρ 1) rfl (zLV (ρ 2) rfl (zLE (zF2_ok l0) (zLE (zF2_ok l1) (zLE (zF2_ok l2) (zLE (zF2_ok l3) ?_))))))
  rfl
theorem yn204 {S : Nat → zSpc}  : ∀ x g o v gz, zSem uW uT w204_.2.2.2.1 w204_.2.2.1.1.length S q204 (fun i => q204a.getD i []) (zNA a204_) x g o v gz → sn204 x g o v gz := by
  intro a g o v gz h
  exact zSem_all (l0 := q204) (las := q204a) (S := S) (J := (fun _ _ _ => True)) (P := sn204 a g) (fun _ => (show zAll _ [q204_0] from (zAll_c (vn204_0 ) zAll_n))) (fun _ => (show zAllI _ 0 [] from trivial)) h
theorem vn205_0 {S : Nat → zSpc}  {a : List Int} {g : rHp} : ∀ (ρ : Nat → Int) (γ : Nat → rHp), zO 1 S a g q205_0 ρ γ → zGl (fun i vs g1 => jn205 a g i vs g1) (sn205 a g) q205_0 ρ γ := by
  intro ρ γ h
  obtain ⟨ha, hg, hr, hf, hm, hc, hl⟩ := h
  have ha : a = [ρ 0] := ha
  subst ha
  subst hg
  show jn205 [ρ 0] (γ 0) 0 [ρ 0, 0] (γ 0)
  have hD : dn205 [ρ 0] (γ 0) = .inl (0, [ρ 0, 0], γ 0) := by
    unfold dn205
    refine zLV (ρ 0) rfl ?_
    rfl
  exact zGoo_to hD
theorem vn205a0_0 {S : Nat → zSpc}  {a : List Int} {g : rHp} : ∀ (ρ : Nat → Int) (γ : Nat → rHp), jn205 a g 0 (zAg (zNA a205_ 0) ρ) (γ 1) → zO 1 S a g q205a0_0 ρ γ → zGl (fun i vs g1 => jn205 a g i vs g1) (sn205 a g) q205a0_0 ρ γ := by
  intro ρ γ hJ h
  obtain ⟨ha, hg, hr, hf, hm, hc, hl⟩ := h
  have ha : a = [ρ 0] := ha
  subst ha
  subst hg
  have hJ : jn205 [ρ 0] (γ 0) 0 [ρ 0, ρ 1] (γ 1) := hJ
  have r1 : (4 : Int) ≤ ρ 1 ∧ ρ 1 ≤ 4 := zRnA hr 1
  have w_0 : ρ 1 ≥ 4 := by omega
  show sn205 [ρ 0] (γ 0) 0 1 (γ 1)
  have hD : en205 (γ 0) (0, [ρ 0, ρ 1], γ 1) = .inr (0, 1, γ 1) := by
    unfold en205
    refine zIP (show (0 : Nat) = 0 by decide) (zLV (γ 1) rfl (zLV (ρ 0) rfl (zLV (ρ 1) rfl (zIP w_0 ?_))))
    rfl
  exact zGoo_aend hJ hD
theorem vn205a0_1 {S : Nat → zSpc}  {a : List Int} {g : rHp} : ∀ (ρ : Nat → Int) (γ : Nat → rHp), jn205 a g 0 (zAg (zNA a205_ 0) ρ) (γ 1) → zO 1 S a g q205a0_1 ρ γ → zGl (fun i vs g1 => jn205 a g i vs g1) (sn205 a g) q205a0_1 ρ γ := by
  intro ρ γ hJ h
  obtain ⟨ha, hg, hr, hf, hm, hc, hl⟩ := h
  have ha : a = [ρ 0] := ha
  subst ha
  subst hg
  have hJ : jn205 [ρ 0] (γ 0) 0 [ρ 0, ρ 1] (γ 1) := hJ
  have r1 : (0 : Int) ≤ ρ 1 ∧ ρ 1 ≤ 3 := zRnA hr 1
  have f0 : (0 : Int) ≤ ρ 3 + -ρ 2 := zAllA hf 0
  have f1 : (0 : Int) ≤ -ρ 3 + ρ 2 := zAllA hf 1
  obtain ⟨w_0, w_1⟩ : (¬ (ρ 1 ≥ 4)) ∧ (ρ 2 = ρ 3) := ⟨by omega, by omega⟩
  have m0 : γ 0 27 0 (ρ 1 + 4 * ρ 0) = ρ 2 := zAllA hm 0
  have m1 : γ 0 33 0 (ρ 1) = ρ 3 := zAllA hm 1
  show jn205 [ρ 0] (γ 0) 0 [ρ 0, ρ 1 + 1] (γ 1)
  have hD : en205 (γ 0) (0, [ρ 0, ρ 1], γ 1) = .inl (0, [ρ 0, ρ 1 + 1], γ 1) := by
    unfold en205
    refine zIP (show (0 : Nat) = 0 by decide) (zLV (γ 1) rfl (zLV (ρ 0) rfl (zLV (ρ 1) rfl (zIN w_0 (zLE m0 (zLE m1 (zIP w_1 ?_)))))))
    rfl
  exact zGoo_ato hJ hD
theorem vn205a0_2 {S : Nat → zSpc}  {a : List Int} {g : rHp} : ∀ (ρ : Nat → Int) (γ : Nat → rHp), jn205 a g 0 (zAg (zNA a205_ 0) ρ) (γ 1) → zO 1 S a g q205a0_2 ρ γ → zGl (fun i vs g1 => jn205 a g i vs g1) (sn205 a g) q205a0_2 ρ γ := by
  intro ρ γ hJ h
  obtain ⟨ha, hg, hr, hf, hm, hc, hl⟩ := h
  have ha : a = [ρ 0] := ha
  subst ha
  subst hg
  have hJ : jn205 [ρ 0] (γ 0) 0 [ρ 0, ρ 1] (γ 1) := hJ
  have r1 : (0 : Int) ≤ ρ 1 ∧ ρ 1 ≤ 3 := zRnA hr 1
  have r2 : ((-9223372036854775808) : Int) ≤ ρ 2 ∧ ρ 2 ≤ 9223372036854775807 := zRnA hr 2
  have r3 : ((-9223372036854775808) : Int) ≤ ρ 3 ∧ ρ 3 ≤ 9223372036854775807 := zRnA hr 3
  have w_0 : ¬ (ρ 1 ≥ 4) := by omega
  have m0 : γ 0 27 0 (ρ 1 + 4 * ρ 0) = ρ 2 := zAllA hm 0
  have m1 : γ 0 33 0 (ρ 1) = ρ 3 := zAllA hm 1
  have l0 : ρ 2 ≠ ρ 3 := zAllA hl 0
  have wl_0 : ¬ (ρ 2 = ρ 3) := by omega
  show sn205 [ρ 0] (γ 0) 0 0 (γ 1)
  have hD : en205 (γ 0) (0, [ρ 0, ρ 1], γ 1) = .inr (0, 0, γ 1) := by
    unfold en205
    refine zIP (show (0 : Nat) = 0 by decide) (zLV (γ 1) rfl (zLV (ρ 0) rfl (zLV (ρ 1) rfl (zIN w_0 (zLE m0 (zLE m1 (zIN wl_0 ?_)))))))
    rfl
  exact zGoo_aend hJ hD
theorem yn205 {S : Nat → zSpc}  : ∀ x g o v gz, zSem uW uT w205_.2.2.2.1 w205_.2.2.1.1.length S q205 (fun i => q205a.getD i []) (zNA a205_) x g o v gz → sn205 x g o v gz := by
  intro a g o v gz h
  exact zSem_all (l0 := q205) (las := q205a) (S := S) (J := (fun i vs g1 => jn205 a g i vs g1)) (P := sn205 a g) (fun _ => (show zAll _ [q205_0] from (zAll_c (vn205_0 ) zAll_n))) (fun _ => (show zAllI _ 0 [q205a0] from ⟨(show zAll _ [q205a0_0, q205a0_1, q205a0_2] from (zAll_c (vn205a0_0 ) (zAll_c (vn205a0_1 ) (zAll_c (vn205a0_2 ) zAll_n)))), trivial⟩)) h
theorem vn206_0 {S : Nat → zSpc} (hS195 : zIm S 195 sn195) (hS196 : zIm S 196 sn196) (hS203 : zIm S 203 sn203) (hS205 : zIm S 205 sn205) {a : List Int} {g : rHp} : ∀ (ρ : Nat → Int) (γ : Nat → rHp), zO 1 S a g q206_0 ρ γ → zGl (fun i vs g1 => jn206 a g i vs g1) (sn206 a g) q206_0 ρ γ := by
  intro ρ γ h
  obtain ⟨ha, hg, hr, hf, hm, hc, hl⟩ := h
  have ha : a = [ρ 0] := ha
  subst ha
  subst hg
  have l0 : sn203 [ρ 0] (γ 0) 0 (ρ 1) (γ 1) := hS203 _ _ _ _ _ (zAllA hl 0)
  have l1 : sn195 [ρ 1] (γ 1) 0 (ρ 2) (γ 2) := hS195 _ _ _ _ _ (zAllA hl 1)
  show jn206 [ρ 0] (γ 0) 0 [ρ 0, 0, ρ 2] (γ 2)
  have hD : dn206 [ρ 0] (γ 0) = .inl (0, [ρ 0, 0, ρ 2], γ 2) := by
    unfold dn206
    refine zLV (ρ 0) rfl (zLE (show fn203 [ρ 0] (γ 0) = (0, ρ 1, γ 1) from l0.symm) (zLV (γ 1) rfl (zLV (ρ 1) rfl (zLE (show fn195 [ρ 1] (γ 1) = (0, ρ 2, γ 2) from l1.symm) (zLV (γ 2) rfl (zLV (ρ 2) rfl ?_))))))
    rfl
  exact zGoo_to hD
theorem vn206a0_0 {S : Nat → zSpc} (hS195 : zIm S 195 sn195) (hS196 : zIm S 196 sn196) (hS203 : zIm S 203 sn203) (hS205 : zIm S 205 sn205) {a : List Int} {g : rHp} : ∀ (ρ : Nat → Int) (γ : Nat → rHp), jn206 a g 0 (zAg (zNA a206_ 0) ρ) (γ 1) → zO 1 S a g q206a0_0 ρ γ → zGl (fun i vs g1 => jn206 a g i vs g1) (sn206 a g) q206a0_0 ρ γ := by
  intro ρ γ hJ h
  obtain ⟨ha, hg, hr, hf, hm, hc, hl⟩ := h
  have ha : a = [ρ 0] := ha
  subst ha
  subst hg
  have hJ : jn206 [ρ 0] (γ 0) 0 [ρ 0, ρ 1, ρ 2] (γ 1) := hJ
  have r2 : ((-1) : Int) ≤ ρ 2 ∧ ρ 2 ≤ (-1) := zRnA hr 2
  have w_0 : ρ 2 < 0 := by omega
  show sn206 [ρ 0] (γ 0) 0 (-1) (γ 1)
  have hD : en206 (γ 0) (0, [ρ 0, ρ 1, ρ 2], γ 1) = .inr (0, (-1), γ 1) := by
    unfold en206
    refine zIP (show (0 : Nat) = 0 by decide) (zLV (γ 1) rfl (zLV (ρ 0) rfl (zLV (ρ 1) rfl (zLV (ρ 2) rfl (zIP w_0 ?_)))))
    rfl
  exact zGoo_aend hJ hD
theorem vn206a0_1 {S : Nat → zSpc} (hS195 : zIm S 195 sn195) (hS196 : zIm S 196 sn196) (hS203 : zIm S 203 sn203) (hS205 : zIm S 205 sn205) {a : List Int} {g : rHp} : ∀ (ρ : Nat → Int) (γ : Nat → rHp), jn206 a g 0 (zAg (zNA a206_ 0) ρ) (γ 1) → zO 1 S a g q206a0_1 ρ γ → zGl (fun i vs g1 => jn206 a g i vs g1) (sn206 a g) q206a0_1 ρ γ := by
  intro ρ γ hJ h
  obtain ⟨ha, hg, hr, hf, hm, hc, hl⟩ := h
  have ha : a = [ρ 0] := ha
  subst ha
  subst hg
  have hJ : jn206 [ρ 0] (γ 0) 0 [ρ 0, ρ 1, ρ 2] (γ 1) := hJ
  have r1 : (2000 : Int) ≤ ρ 1 ∧ ρ 1 ≤ 2000 := zRnA hr 1
  have r2 : (0 : Int) ≤ ρ 2 ∧ ρ 2 ≤ 1999 := zRnA hr 2
  obtain ⟨w_0, w_1⟩ : (¬ (ρ 2 < 0)) ∧ (ρ 1 ≥ 2000) := ⟨by omega, by omega⟩
  show sn206 [ρ 0] (γ 0) 0 (-1) (γ 1)
  have hD : en206 (γ 0) (0, [ρ 0, ρ 1, ρ 2], γ 1) = .inr (0, (-1), γ 1) := by
    unfold en206
    refine zIP (show (0 : Nat) = 0 by decide) (zLV (γ 1) rfl (zLV (ρ 0) rfl (zLV (ρ 1) rfl (zLV (ρ 2) rfl (zIN w_0 (zIP w_1 ?_))))))
    rfl
  exact zGoo_aend hJ hD
theorem vn206a0_2 {S : Nat → zSpc} (hS195 : zIm S 195 sn195) (hS196 : zIm S 196 sn196) (hS203 : zIm S 203 sn203) (hS205 : zIm S 205 sn205) {a : List Int} {g : rHp} : ∀ (ρ : Nat → Int) (γ : Nat → rHp), jn206 a g 0 (zAg (zNA a206_ 0) ρ) (γ 1) → zO 1 S a g q206a0_2 ρ γ → zGl (fun i vs g1 => jn206 a g i vs g1) (sn206 a g) q206a0_2 ρ γ := by
  intro ρ γ hJ h
  obtain ⟨ha, hg, hr, hf, hm, hc, hl⟩ := h
  have ha : a = [ρ 0] := ha
  subst ha
  subst hg
  have hJ : jn206 [ρ 0] (γ 0) 0 [ρ 0, ρ 1, ρ 2] (γ 1) := hJ
  have r0 : ((-2147483648) : Int) ≤ ρ 0 ∧ ρ 0 ≤ 2147483647 := zRnA hr 0
  have r1 : (0 : Int) ≤ ρ 1 ∧ ρ 1 ≤ 1999 := zRnA hr 1
  have r2 : (0 : Int) ≤ ρ 2 ∧ ρ 2 ≤ 1999 := zRnA hr 2
  have r3 : (0 : Int) ≤ ρ 3 ∧ ρ 3 ≤ 19 := zRnA hr 3
  obtain ⟨w_0, w_1⟩ : (¬ (ρ 2 < 0)) ∧ (¬ (ρ 1 ≥ 2000)) := ⟨by omega, by omega⟩
  have m0 : γ 0 28 0 (ρ 2) = ρ 3 := zAllA hm 0
  have l0 : ρ 3 ≠ ρ 0 := zAllA hl 0
  have l1 : sn196 [ρ 2] (γ 1) 0 (ρ 4) (γ 2) := hS196 _ _ _ _ _ (zAllA hl 1)
  have wl_0 : ρ 3 ≠ ρ 0 := by omega
  show jn206 [ρ 0] (γ 0) 0 [ρ 0, ρ 1 + 1, ρ 4] (γ 2)
  have hD : en206 (γ 0) (0, [ρ 0, ρ 1, ρ 2], γ 1) = .inl (0, [ρ 0, ρ 1 + 1, ρ 4], γ 2) := by
    unfold en206
    refine zIP (show (0 : Nat) = 0 by decide) (zLV (γ 1) rfl (zLV (ρ 0) rfl (zLV (ρ 1) rfl (zLV (ρ 2) rfl (zIN w_0 (zIN w_1 (zLE m0 ?_)))))))
    refine zIP wl_0 (zLE (show fn196 [ρ 2] (γ 1) = (0, ρ 4, γ 2) from l1.symm) (zLV (γ 2) rfl (zLV (ρ 4) rfl ?_)))
    rfl
  exact zGoo_ato hJ hD
theorem vn206a0_3 {S : Nat → zSpc} (hS195 : zIm S 195 sn195) (hS196 : zIm S 196 sn196) (hS203 : zIm S 203 sn203) (hS205 : zIm S 205 sn205) {a : List Int} {g : rHp} : ∀ (ρ : Nat → Int) (γ : Nat → rHp), jn206 a g 0 (zAg (zNA a206_ 0) ρ) (γ 1) → zO 1 S a g q206a0_3 ρ γ → zGl (fun i vs g1 => jn206 a g i vs g1) (sn206 a g) q206a0_3 ρ γ := by
  intro ρ γ hJ h
  obtain ⟨ha, hg, hr, hf, hm, hc, hl⟩ := h
  have ha : a = [ρ 0] := ha
  subst ha
  subst hg
  have hJ : jn206 [ρ 0] (γ 0) 0 [ρ 0, ρ 1, ρ 2] (γ 1) := hJ
  have r1 : (0 : Int) ≤ ρ 1 ∧ ρ 1 ≤ 1999 := zRnA hr 1
  have r2 : (0 : Int) ≤ ρ 2 ∧ ρ 2 ≤ 1999 := zRnA hr 2
  have f0 : (0 : Int) ≤ -ρ 3 + ρ 0 := zAllA hf 0
  have f1 : (0 : Int) ≤ ρ 3 + -ρ 0 := zAllA hf 1
  obtain ⟨w_0, w_1, w_2⟩ : (¬ (ρ 2 < 0)) ∧ (¬ (ρ 1 ≥ 2000)) ∧ (¬ (ρ 3 ≠ ρ 0)) := ⟨by omega, by omega, by omega⟩
  have m0 : γ 0 28 0 (ρ 2) = ρ 3 := zAllA hm 0
  have l0 : sn205 [ρ 2] (γ 1) 0 0 (γ 2) := hS205 _ _ _ _ _ (zAllA hl 0)
  have l1 : sn196 [ρ 2] (γ 2) 0 (ρ 4) (γ 3) := hS196 _ _ _ _ _ (zAllA hl 1)
  show jn206 [ρ 0] (γ 0) 0 [ρ 0, ρ 1 + 1, ρ 4] (γ 3)
  have hD : en206 (γ 0) (0, [ρ 0, ρ 1, ρ 2], γ 1) = .inl (0, [ρ 0, ρ 1 + 1, ρ 4], γ 3) := by
    unfold en206
    refine zIP (show (0 : Nat) = 0 by decide) (zLV (γ 1) rfl (zLV (ρ 0) rfl (zLV (ρ 1) rfl (zLV (ρ 2) rfl (zIN w_0 (zIN w_1 (zLE m0 ?_)))))))
    refine zIN w_2 (zLE (show fn205 [ρ 2] (γ 1) = (0, 0, γ 2) from l0.symm) (zLV (γ 2) rfl (zIN zQ0_ (zLE (show fn196 [ρ 2] (γ 2) = (0, ρ 4, γ 3) from l1.symm) (zLV (γ 3) rfl (zLV (ρ 4) rfl ?_))))))
    rfl
  exact zGoo_ato hJ hD
theorem vn206a0_4 {S : Nat → zSpc} (hS195 : zIm S 195 sn195) (hS196 : zIm S 196 sn196) (hS203 : zIm S 203 sn203) (hS205 : zIm S 205 sn205) {a : List Int} {g : rHp} : ∀ (ρ : Nat → Int) (γ : Nat → rHp), jn206 a g 0 (zAg (zNA a206_ 0) ρ) (γ 1) → zO 1 S a g q206a0_4 ρ γ → zGl (fun i vs g1 => jn206 a g i vs g1) (sn206 a g) q206a0_4 ρ γ := by
  intro ρ γ hJ h
  obtain ⟨ha, hg, hr, hf, hm, hc, hl⟩ := h
  have ha : a = [ρ 0] := ha
  subst ha
  subst hg
  have hJ : jn206 [ρ 0] (γ 0) 0 [ρ 0, ρ 1, ρ 2] (γ 1) := hJ
  have r1 : (0 : Int) ≤ ρ 1 ∧ ρ 1 ≤ 1999 := zRnA hr 1
  have r2 : (0 : Int) ≤ ρ 2 ∧ ρ 2 ≤ 1999 := zRnA hr 2
  have f0 : (0 : Int) ≤ -ρ 3 + ρ 0 := zAllA hf 0
  have f1 : (0 : Int) ≤ ρ 3 + -ρ 0 := zAllA hf 1
  obtain ⟨w_0, w_1, w_2⟩ : (¬ (ρ 2 < 0)) ∧ (¬ (ρ 1 ≥ 2000)) ∧ (¬ (ρ 3 ≠ ρ 0)) := ⟨by omega, by omega, by omega⟩
  have m0 : γ 0 28 0 (ρ 2) = ρ 3 := zAllA hm 0
  have l0 : sn205 [ρ 2] (γ 1) 0 1 (γ 2) := hS205 _ _ _ _ _ (zAllA hl 0)
  show sn206 [ρ 0] (γ 0) 0 (ρ 2) (γ 2)
  have hD : en206 (γ 0) (0, [ρ 0, ρ 1, ρ 2], γ 1) = .inr (0, ρ 2, γ 2) := by
    unfold en206
    refine zIP (show (0 : Nat) = 0 by decide) (zLV (γ 1) rfl (zLV (ρ 0) rfl (zLV (ρ 1) rfl (zLV (ρ 2) rfl (zIN w_0 (zIN w_1 (zLE m0 ?_)))))))
    refine zIN w_2 (zLE (show fn205 [ρ 2] (γ 1) = (0, 1, γ 2) from l0.symm) (zLV (γ 2) rfl (zIP zQ1_ ?_)))
    rfl
  exact zGoo_aend hJ hD
theorem yn206 {S : Nat → zSpc} (hS195 : zIm S 195 sn195) (hS196 : zIm S 196 sn196) (hS203 : zIm S 203 sn203) (hS205 : zIm S 205 sn205) : ∀ x g o v gz, zSem uW uT w206_.2.2.2.1 w206_.2.2.1.1.length S q206 (fun i => q206a.getD i []) (zNA a206_) x g o v gz → sn206 x g o v gz := by
  intro a g o v gz h
  exact zSem_all (l0 := q206) (las := q206a) (S := S) (J := (fun i vs g1 => jn206 a g i vs g1)) (P := sn206 a g) (fun _ => (show zAll _ [q206_0] from (zAll_c (vn206_0 hS195 hS196 hS203 hS205) zAll_n))) (fun _ => (show zAllI _ 0 [q206a0] from ⟨(show zAll _ [q206a0_0, q206a0_1, q206a0_2, q206a0_3, q206a0_4] from (zAll_c (vn206a0_0 hS195 hS196 hS203 hS205) (zAll_c (vn206a0_1 hS195 hS196 hS203 hS205) (zAll_c (vn206a0_2 hS195 hS196 hS203 hS205) (zAll_c (vn206a0_3 hS195 hS196 hS203 hS205) (zAll_c (vn206a0_4 hS195 hS196 hS203 hS205) zAll_n)))))), trivial⟩)) h
theorem vn207_0 {S : Nat → zSpc} (hS189 : zIm S 189 sn189) (hS193 : zIm S 193 sn193) (hS197 : zIm S 197 sn197) (hS203 : zIm S 203 sn203) (hS204 : zIm S 204 sn204) {a : List Int} {g : rHp} : ∀ (ρ : Nat → Int) (γ : Nat → rHp), zO 4 S a g q207_0 ρ γ → zGl (fun i vs g1 => jn207 a g i vs g1) (sn207 a g) q207_0 ρ γ := by
  intro ρ γ h
  obtain ⟨ha, hg, hr, hf, hm, hc, hl⟩ := h
  have ha : a = [ρ 0, ρ 1, ρ 2, ρ 3] := ha
  subst ha
  subst hg
  have r3 : (0 : Int) ≤ ρ 3 ∧ ρ 3 ≤ 1999 := zRnA hr 3
  have w_0 : ρ 3 < 2000 := by omega
  have m0 : γ 0 4 0 7 = ρ 3 := zAllA hm 0
  have c1 : γ 1 = rUp (γ 0) 28 0 (ρ 3) (ρ 0) := And.right (zChA hc 6)
  have c2 : γ 2 = rUp (γ 1) 29 0 (ρ 3) (ρ 1) := And.right (zChA hc 5)
  have c3 : γ 3 = rUp (γ 2) 30 0 (ρ 3) (ρ 2) := And.right (zChA hc 4)
  have c4 : γ 4 = rUp (γ 3) 32 0 (ρ 3) 0 := And.right (zChA hc 3)
  have l0 : sn189 [ρ 0, ρ 3] (γ 4) 0 0 (γ 5) := hS189 _ _ _ _ _ (zAllA hl 0)
  have l1 : sn203 [ρ 0] (γ 5) 0 (ρ 4) (γ 6) := hS203 _ _ _ _ _ (zAllA hl 1)
  have l2 : sn197 [ρ 4, ρ 3] (γ 6) 0 0 (γ 7) := hS197 _ _ _ _ _ (zAllA hl 2)
  show jn207 [ρ 0, ρ 1, ρ 2, ρ 3] (γ 0) 0 [ρ 0, ρ 1, ρ 2, ρ 3, 0] (γ 7)
  have hD : dn207 [ρ 0, ρ 1, ρ 2] (γ 0) = .inl (0, [ρ 0, ρ 1, ρ 2, 0], γ 7) := by
    unfold dn207
    refine zLV (ρ 0) rfl (zLV (ρ 1) rfl (zLV (ρ 2) rfl (zLE m0 (zIP w_0 (zLE c1.symm (zLE c2.symm (zLE c3.symm ?_)))))))
    refine zLE c4.symm (zLE (show fn189 [ρ 0, ρ 3] (γ 4) = (0, 0, γ 5) from l0.symm) (zLV (γ 5) rfl (zLE (show fn203 [ρ 0] (γ 5) = (0, ρ 4, γ 6) from l1.symm) (zLV (γ 6) rfl (zLV (ρ 4) rfl (zLE (show fn197 [ρ 4, ρ 3] (γ 6) = (0, 0, γ 7) from l2.symm) (zLV (γ 7) rfl ?_)))))))
    rfl
  exact zGoo_to hD
theorem vn207_1 {S : Nat → zSpc} (hS189 : zIm S 189 sn189) (hS193 : zIm S 193 sn193) (hS197 : zIm S 197 sn197) (hS203 : zIm S 203 sn203) (hS204 : zIm S 204 sn204) {a : List Int} {g : rHp} : ∀ (ρ : Nat → Int) (γ : Nat → rHp), zO 4 S a g q207_1 ρ γ → zGl (fun i vs g1 => jn207 a g i vs g1) (sn207 a g) q207_1 ρ γ := by
  intro ρ γ h
  obtain ⟨ha, hg, hr, hf, hm, hc, hl⟩ := h
  have ha : a = [ρ 0, ρ 1, ρ 2, ρ 3] := ha
  subst ha
  subst hg
  have r3 : (2000 : Int) ≤ ρ 3 ∧ ρ 3 ≤ 2000 := zRnA hr 3
  have w_0 : ¬ (ρ 3 < 2000) := by omega
  have m0 : γ 0 4 0 7 = ρ 3 := zAllA hm 0
  show sn207 [ρ 0, ρ 1, ρ 2, ρ 3] (γ 0) 0 0 (γ 0)
  have hD : dn207 [ρ 0, ρ 1, ρ 2] (γ 0) = .inr (0, 0, γ 0) := by
    unfold dn207
    refine zLV (ρ 0) rfl (zLV (ρ 1) rfl (zLV (ρ 2) rfl (zLE m0 (zIN w_0 ?_))))
    rfl
  exact zGoo_end hD
theorem vn207a0_0 {S : Nat → zSpc} (hS189 : zIm S 189 sn189) (hS193 : zIm S 193 sn193) (hS197 : zIm S 197 sn197) (hS203 : zIm S 203 sn203) (hS204 : zIm S 204 sn204) {a : List Int} {g : rHp} : ∀ (ρ : Nat → Int) (γ : Nat → rHp), jn207 a g 0 (zAg (zNA a207_ 0) ρ) (γ 1) → zO 4 S a g q207a0_0 ρ γ → zGl (fun i vs g1 => jn207 a g i vs g1) (sn207 a g) q207a0_0 ρ γ := by
  intro ρ γ hJ h
  obtain ⟨ha, hg, hr, hf, hm, hc, hl⟩ := h
  have ha : a = [ρ 0, ρ 1, ρ 2, ρ 3] := ha
  subst ha
  subst hg
  have hJ : jn207 [ρ 0, ρ 1, ρ 2, ρ 3] (γ 0) 0 [ρ 0, ρ 1, ρ 2, ρ 3, ρ 4] (γ 1) := hJ
  have r4 : (4 : Int) ≤ ρ 4 ∧ ρ 4 ≤ 4 := zRnA hr 4
  have w_0 : ρ 4 ≥ 4 := by omega
  have m0 : γ 0 4 0 7 = ρ 3 := zAllA hm 0
  have c2 : γ 2 = rUp (γ 1) 4 0 7 (ρ 3 + 1) := And.right (zChA hc 0)
  show sn207 [ρ 0, ρ 1, ρ 2, ρ 3] (γ 0) 0 1 (γ 2)
  have hD : en207 (γ 0) (0, [ρ 0, ρ 1, ρ 2, ρ 4], γ 1) = .inr (0, 1, γ 2) := by
    unfold en207
    refine zIP (show (0 : Nat) = 0 by decide) (zLV (γ 1) rfl (zLV (ρ 0) rfl (zLV (ρ 1) rfl (zLV (ρ 2) rfl (zLV (ρ 4) rfl (zLE m0 (zIP w_0 ?_)))))))
    refine zLE c2.symm ?_
    rfl
  exact zGoo_aend hJ hD
theorem vn207a0_1 {S : Nat → zSpc} (hS189 : zIm S 189 sn189) (hS193 : zIm S 193 sn193) (hS197 : zIm S 197 sn197) (hS203 : zIm S 203 sn203) (hS204 : zIm S 204 sn204) {a : List Int} {g : rHp} : ∀ (ρ : Nat → Int) (γ : Nat → rHp), jn207 a g 0 (zAg (zNA a207_ 0) ρ) (γ 1) → zO 4 S a g q207a0_1 ρ γ → zGl (fun i vs g1 => jn207 a g i vs g1) (sn207 a g) q207a0_1 ρ γ := by
  intro ρ γ hJ h
  obtain ⟨ha, hg, hr, hf, hm, hc, hl⟩ := h
  have ha : a = [ρ 0, ρ 1, ρ 2, ρ 3] := ha
  subst ha
  subst hg
  have hJ : jn207 [ρ 0, ρ 1, ρ 2, ρ 3] (γ 0) 0 [ρ 0, ρ 1, ρ 2, ρ 3, ρ 4] (γ 1) := hJ
  have r4 : (0 : Int) ≤ ρ 4 ∧ ρ 4 ≤ 3 := zRnA hr 4
  have w_0 : ¬ (ρ 4 ≥ 4) := by omega
  have m0 : γ 0 4 0 7 = ρ 3 := zAllA hm 0
  have m1 : γ 0 33 0 (ρ 4) = ρ 5 := zAllA hm 1
  have c2 : γ 2 = rUp (γ 1) 27 0 (ρ 4 + 4 * ρ 3) (ρ 5) := And.right (zChA hc 2)
  have l0 : sn204 [ρ 0, ρ 4, ρ 5] (γ 2) 0 (ρ 6) (γ 3) := hS204 _ _ _ _ _ (zAllA hl 0)
  have l1 : sn193 [ρ 6, ρ 4 + 4 * ρ 3] (γ 3) 0 0 (γ 4) := hS193 _ _ _ _ _ (zAllA hl 1)
  show jn207 [ρ 0, ρ 1, ρ 2, ρ 3] (γ 0) 0 [ρ 0, ρ 1, ρ 2, ρ 3, ρ 4 + 1] (γ 4)
  have hD : en207 (γ 0) (0, [ρ 0, ρ 1, ρ 2, ρ 4], γ 1) = .inl (0, [ρ 0, ρ 1, ρ 2, ρ 4 + 1], γ 4) := by
    unfold en207
    refine zIP (show (0 : Nat) = 0 by decide) (zLV (γ 1) rfl (zLV (ρ 0) rfl (zLV (ρ 1) rfl (zLV (ρ 2) rfl (zLV (ρ 4) rfl (zLE m0 (zIN w_0 ?_)))))))
    refine zLE m1 (zLE c2.symm (zLE (show fn204 [ρ 0, ρ 4, ρ 5] (γ 2) = (0, ρ 6, γ 3) from l0.symm) (zLV (γ 3) rfl (zLV (ρ 6) rfl (zLE (show fn193 [ρ 6, ρ 4 + 4 * ρ 3] (γ 3) = (0, 0, γ 4) from l1.symm) (zLV (γ 4) rfl ?_))))))
    rfl
  exact zGoo_ato hJ hD
theorem yn207 {S : Nat → zSpc} (hS189 : zIm S 189 sn189) (hS193 : zIm S 193 sn193) (hS197 : zIm S 197 sn197) (hS203 : zIm S 203 sn203) (hS204 : zIm S 204 sn204) : ∀ x g o v gz, zSem uW uT w207_.2.2.2.1 w207_.2.2.1.1.length S q207 (fun i => q207a.getD i []) (zNA a207_) x g o v gz → sn207 x g o v gz := by
  intro a g o v gz h
  exact zSem_all (l0 := q207) (las := q207a) (S := S) (J := (fun i vs g1 => jn207 a g i vs g1)) (P := sn207 a g) (fun _ => (show zAll _ [q207_0, q207_1] from (zAll_c (vn207_0 hS189 hS193 hS197 hS203 hS204) (zAll_c (vn207_1 hS189 hS193 hS197 hS203 hS204) zAll_n)))) (fun _ => (show zAllI _ 0 [q207a0] from ⟨(show zAll _ [q207a0_0, q207a0_1] from (zAll_c (vn207a0_0 hS189 hS193 hS197 hS203 hS204) (zAll_c (vn207a0_1 hS189 hS193 hS197 hS203 hS204) zAll_n))), trivial⟩)) h
theorem vn208_0 {S : Nat → zSpc} (hS187 : zIm S 187 sn187) {a : List Int} {g : rHp} : ∀ (ρ : Nat → Int) (γ : Nat → rHp), zO 3 S a g q208_0 ρ γ → zGl (fun i vs g1 => jn208 a g i vs g1) (sn208 a g) q208_0 ρ γ := by
  intro ρ γ h
  obtain ⟨ha, hg, hr, hf, hm, hc, hl⟩ := h
  have ha : a = [ρ 0, ρ 1, ρ 2] := ha
  subst ha
  subst hg
  have r1 : (1 : Int) ≤ ρ 1 ∧ ρ 1 ≤ 2147483647 := zRnA hr 1
  have w_0 : ρ 1 > 0 := by omega
  show jn208 [ρ 0, ρ 1, ρ 2] (γ 0) 0 [ρ 0, ρ 1, ρ 2, ρ 1] (γ 0)
  have hD : dn208 [ρ 0, ρ 1] (γ 0) = .inl (0, [ρ 0, ρ 1, ρ 1], γ 0) := by
    unfold dn208
    refine zLV (ρ 0) rfl (zLV (ρ 1) rfl (zIP w_0 ?_))
    rfl
  exact zGoo_to hD
theorem vn208_1 {S : Nat → zSpc} (hS187 : zIm S 187 sn187) {a : List Int} {g : rHp} : ∀ (ρ : Nat → Int) (γ : Nat → rHp), zO 3 S a g q208_1 ρ γ → zGl (fun i vs g1 => jn208 a g i vs g1) (sn208 a g) q208_1 ρ γ := by
  intro ρ γ h
  obtain ⟨ha, hg, hr, hf, hm, hc, hl⟩ := h
  have ha : a = [ρ 0, ρ 1, ρ 2] := ha
  subst ha
  subst hg
  have r1 : ((-2147483648) : Int) ≤ ρ 1 ∧ ρ 1 ≤ 0 := zRnA hr 1
  have w_0 : ¬ (ρ 1 > 0) := by omega
  have l0 : sn187 [ρ 0] (γ 0) 0 (ρ 3) (γ 1) := hS187 _ _ _ _ _ (zAllA hl 0)
  show sn208 [ρ 0, ρ 1, ρ 2] (γ 0) 0 (ρ 3) (γ 1)
  have hD : dn208 [ρ 0, ρ 1] (γ 0) = .inr (0, ρ 3, γ 1) := by
    unfold dn208
    refine zLV (ρ 0) rfl (zLV (ρ 1) rfl (zIN w_0 (zLE (show fn187 [ρ 0] (γ 0) = (0, ρ 3, γ 1) from l0.symm) (zLV (γ 1) rfl (zLV (ρ 3) rfl ?_)))))
    rfl
  exact zGoo_end hD
theorem vn208a0_0 {S : Nat → zSpc} (hS187 : zIm S 187 sn187) {a : List Int} {g : rHp} : ∀ (ρ : Nat → Int) (γ : Nat → rHp), jn208 a g 0 (zAg (zNA a208_ 0) ρ) (γ 1) → zO 3 S a g q208a0_0 ρ γ → zGl (fun i vs g1 => jn208 a g i vs g1) (sn208 a g) q208a0_0 ρ γ := by
  intro ρ γ hJ h
  obtain ⟨ha, hg, hr, hf, hm, hc, hl⟩ := h
  have ha : a = [ρ 0, ρ 1, ρ 2] := ha
  subst ha
  subst hg
  have hJ : jn208 [ρ 0, ρ 1, ρ 2] (γ 0) 0 [ρ 0, ρ 1, ρ 2, ρ 3] (γ 1) := hJ
  have f0 : (0 : Int) ≤ ρ 3 + -ρ 2 := zAllA hf 0
  have w_0 : ρ 3 ≥ ρ 2 := by omega
  have m0 : γ 0 4 0 7 = ρ 2 := zAllA hm 0
  show sn208 [ρ 0, ρ 1, ρ 2] (γ 0) 0 (-1) (γ 1)
  have hD : en208 (γ 0) (0, [ρ 0, ρ 1, ρ 3], γ 1) = .inr (0, (-1), γ 1) := by
    unfold en208
    refine zIP (show (0 : Nat) = 0 by decide) (zLV (γ 1) rfl (zLV (ρ 0) rfl (zLV (ρ 1) rfl (zLV (ρ 3) rfl (zLE m0 (zIP w_0 ?_))))))
    rfl
  exact zGoo_aend hJ hD
theorem vn208a0_1 {S : Nat → zSpc} (hS187 : zIm S 187 sn187) {a : List Int} {g : rHp} : ∀ (ρ : Nat → Int) (γ : Nat → rHp), jn208 a g 0 (zAg (zNA a208_ 0) ρ) (γ 1) → zO 3 S a g q208a0_1 ρ γ → zGl (fun i vs g1 => jn208 a g i vs g1) (sn208 a g) q208a0_1 ρ γ := by
  intro ρ γ hJ h
  obtain ⟨ha, hg, hr, hf, hm, hc, hl⟩ := h
  have ha : a = [ρ 0, ρ 1, ρ 2] := ha
  subst ha
  subst hg
  have hJ : jn208 [ρ 0, ρ 1, ρ 2] (γ 0) 0 [ρ 0, ρ 1, ρ 2, ρ 3] (γ 1) := hJ
  have r0 : ((-2147483648) : Int) ≤ ρ 0 ∧ ρ 0 ≤ 2147483647 := zRnA hr 0
  have r4 : (0 : Int) ≤ ρ 4 ∧ ρ 4 ≤ 19 := zRnA hr 4
  have f0 : (0 : Int) ≤ -ρ 3 + ρ 2 + (-1) := zAllA hf 0
  have w_0 : ¬ (ρ 3 ≥ ρ 2) := by omega
  have m0 : γ 0 4 0 7 = ρ 2 := zAllA hm 0
  have m1 : γ 0 28 0 (ρ 3) = ρ 4 := zAllA hm 1
  have l0 : ρ 4 ≠ ρ 0 := zAllA hl 0
  have wl_0 : ρ 4 ≠ ρ 0 := by omega
  show jn208 [ρ 0, ρ 1, ρ 2] (γ 0) 0 [ρ 0, ρ 1, ρ 2, ρ 3 + 1] (γ 1)
  have hD : en208 (γ 0) (0, [ρ 0, ρ 1, ρ 3], γ 1) = .inl (0, [ρ 0, ρ 1, ρ 3 + 1], γ 1) := by
    unfold en208
    refine zIP (show (0 : Nat) = 0 by decide) (zLV (γ 1) rfl (zLV (ρ 0) rfl (zLV (ρ 1) rfl (zLV (ρ 3) rfl (zLE m0 (zIN w_0 (zLE m1 ?_)))))))
    refine zIP wl_0 ?_
    rfl
  exact zGoo_ato hJ hD
theorem vn208a0_2 {S : Nat → zSpc} (hS187 : zIm S 187 sn187) {a : List Int} {g : rHp} : ∀ (ρ : Nat → Int) (γ : Nat → rHp), jn208 a g 0 (zAg (zNA a208_ 0) ρ) (γ 1) → zO 3 S a g q208a0_2 ρ γ → zGl (fun i vs g1 => jn208 a g i vs g1) (sn208 a g) q208a0_2 ρ γ := by
  intro ρ γ hJ h
  obtain ⟨ha, hg, hr, hf, hm, hc, hl⟩ := h
  have ha : a = [ρ 0, ρ 1, ρ 2] := ha
  subst ha
  subst hg
  have hJ : jn208 [ρ 0, ρ 1, ρ 2] (γ 0) 0 [ρ 0, ρ 1, ρ 2, ρ 3] (γ 1) := hJ
  have f0 : (0 : Int) ≤ -ρ 4 + ρ 0 := zAllA hf 0
  have f1 : (0 : Int) ≤ ρ 4 + -ρ 0 := zAllA hf 1
  have f2 : (0 : Int) ≤ -ρ 3 + ρ 2 + (-1) := zAllA hf 2
  obtain ⟨w_0, w_1⟩ : (¬ (ρ 3 ≥ ρ 2)) ∧ (¬ (ρ 4 ≠ ρ 0)) := ⟨by omega, by omega⟩
  have m0 : γ 0 4 0 7 = ρ 2 := zAllA hm 0
  have m1 : γ 0 28 0 (ρ 3) = ρ 4 := zAllA hm 1
  show sn208 [ρ 0, ρ 1, ρ 2] (γ 0) 0 (ρ 3) (γ 1)
  have hD : en208 (γ 0) (0, [ρ 0, ρ 1, ρ 3], γ 1) = .inr (0, ρ 3, γ 1) := by
    unfold en208
    refine zIP (show (0 : Nat) = 0 by decide) (zLV (γ 1) rfl (zLV (ρ 0) rfl (zLV (ρ 1) rfl (zLV (ρ 3) rfl (zLE m0 (zIN w_0 (zLE m1 ?_)))))))
    refine zIN w_1 ?_
    rfl
  exact zGoo_aend hJ hD
theorem yn208 {S : Nat → zSpc} (hS187 : zIm S 187 sn187) : ∀ x g o v gz, zSem uW uT w208_.2.2.2.1 w208_.2.2.1.1.length S q208 (fun i => q208a.getD i []) (zNA a208_) x g o v gz → sn208 x g o v gz := by
  intro a g o v gz h
  exact zSem_all (l0 := q208) (las := q208a) (S := S) (J := (fun i vs g1 => jn208 a g i vs g1)) (P := sn208 a g) (fun _ => (show zAll _ [q208_0, q208_1] from (zAll_c (vn208_0 hS187) (zAll_c (vn208_1 hS187) zAll_n)))) (fun _ => (show zAllI _ 0 [q208a0] from ⟨(show zAll _ [q208a0_0, q208a0_1, q208a0_2] from (zAll_c (vn208a0_0 hS187) (zAll_c (vn208a0_1 hS187) (zAll_c (vn208a0_2 hS187) zAll_n)))), trivial⟩)) h
theorem vn209_0 {S : Nat → zSpc} (hS188 : zIm S 188 sn188) {a : List Int} {g : rHp} : ∀ (ρ : Nat → Int) (γ : Nat → rHp), zO 1 S a g q209_0 ρ γ → zGl (fun _ _ _ => True) (sn209 a g) q209_0 ρ γ := by
  intro ρ γ h
  obtain ⟨ha, hg, hr, hf, hm, hc, hl⟩ := h
  have ha : a = [ρ 0] := ha
  subst ha
  subst hg
  have l0 : sn188 [ρ 0] (γ 0) 0 (ρ 1) (γ 1) := hS188 _ _ _ _ _ (zAllA hl 0)
  show sn209 [ρ 0] (γ 0) 0 (ρ 1) (γ 1)
  refine Eq.symm ?_
  show fn209 [ρ 0] (γ 0) = _
  unfold fn209
  refine zLV (ρ 0) rfl (zLE (show fn188 [ρ 0] (γ 0) = (0, ρ 1, γ 1) from l0.symm) (zLV (γ 1) rfl (zLV (ρ 1) rfl ?_)))
  rfl
theorem yn209 {S : Nat → zSpc} (hS188 : zIm S 188 sn188) : ∀ x g o v gz, zSem uW uT w209_.2.2.2.1 w209_.2.2.1.1.length S q209 (fun i => q209a.getD i []) (zNA a209_) x g o v gz → sn209 x g o v gz := by
  intro a g o v gz h
  exact zSem_all (l0 := q209) (las := q209a) (S := S) (J := (fun _ _ _ => True)) (P := sn209 a g) (fun _ => (show zAll _ [q209_0] from (zAll_c (vn209_0 hS188) zAll_n))) (fun _ => (show zAllI _ 0 [] from trivial)) h
theorem vn210_0 {S : Nat → zSpc} (hS192 : zIm S 192 sn192) {a : List Int} {g : rHp} : ∀ (ρ : Nat → Int) (γ : Nat → rHp), zO 2 S a g q210_0 ρ γ → zGl (fun i vs g1 => jn210 a g i vs g1) (sn210 a g) q210_0 ρ γ := by
  intro ρ γ h
  obtain ⟨ha, hg, hr, hf, hm, hc, hl⟩ := h
  have ha : a = [ρ 0, ρ 1] := ha
  subst ha
  subst hg
  show jn210 [ρ 0, ρ 1] (γ 0) 0 [ρ 0, ρ 1, 0, ρ 0] (γ 0)
  have hD : dn210 [ρ 0, ρ 1] (γ 0) = .inl (0, [ρ 0, ρ 1, 0, ρ 0], γ 0) := by
    unfold dn210
    refine zLV (ρ 0) rfl (zLV (ρ 1) rfl ?_)
    rfl
  exact zGoo_to hD
theorem vn210a0_0 {S : Nat → zSpc} (hS192 : zIm S 192 sn192) {a : List Int} {g : rHp} : ∀ (ρ : Nat → Int) (γ : Nat → rHp), jn210 a g 0 (zAg (zNA a210_ 0) ρ) (γ 1) → zO 2 S a g q210a0_0 ρ γ → zGl (fun i vs g1 => jn210 a g i vs g1) (sn210 a g) q210a0_0 ρ γ := by
  intro ρ γ hJ h
  obtain ⟨ha, hg, hr, hf, hm, hc, hl⟩ := h
  have ha : a = [ρ 0, ρ 1] := ha
  subst ha
  subst hg
  have hJ : jn210 [ρ 0, ρ 1] (γ 0) 0 [ρ 0, ρ 1, ρ 2, ρ 3] (γ 1) := hJ
  have r3 : ((-1) : Int) ≤ ρ 3 ∧ ρ 3 ≤ (-1) := zRnA hr 3
  have w_0 : ρ 3 < 0 := by omega
  show sn210 [ρ 0, ρ 1] (γ 0) 0 (-1) (γ 1)
  have hD : en210 (γ 0) (0, [ρ 0, ρ 1, ρ 2, ρ 3], γ 1) = .inr (0, (-1), γ 1) := by
    unfold en210
    refine zIP (show (0 : Nat) = 0 by decide) (zLV (γ 1) rfl (zLV (ρ 0) rfl (zLV (ρ 1) rfl (zLV (ρ 2) rfl (zLV (ρ 3) rfl (zIP w_0 ?_))))))
    rfl
  exact zGoo_aend hJ hD
theorem vn210a0_1 {S : Nat → zSpc} (hS192 : zIm S 192 sn192) {a : List Int} {g : rHp} : ∀ (ρ : Nat → Int) (γ : Nat → rHp), jn210 a g 0 (zAg (zNA a210_ 0) ρ) (γ 1) → zO 2 S a g q210a0_1 ρ γ → zGl (fun i vs g1 => jn210 a g i vs g1) (sn210 a g) q210a0_1 ρ γ := by
  intro ρ γ hJ h
  obtain ⟨ha, hg, hr, hf, hm, hc, hl⟩ := h
  have ha : a = [ρ 0, ρ 1] := ha
  subst ha
  subst hg
  have hJ : jn210 [ρ 0, ρ 1] (γ 0) 0 [ρ 0, ρ 1, ρ 2, ρ 3] (γ 1) := hJ
  have r2 : (8000 : Int) ≤ ρ 2 ∧ ρ 2 ≤ 8000 := zRnA hr 2
  have r3 : (0 : Int) ≤ ρ 3 ∧ ρ 3 ≤ 7999 := zRnA hr 3
  obtain ⟨w_0, w_1⟩ : (¬ (ρ 3 < 0)) ∧ (ρ 2 ≥ 8000) := ⟨by omega, by omega⟩
  show sn210 [ρ 0, ρ 1] (γ 0) 0 (-1) (γ 1)
  have hD : en210 (γ 0) (0, [ρ 0, ρ 1, ρ 2, ρ 3], γ 1) = .inr (0, (-1), γ 1) := by
    unfold en210
    refine zIP (show (0 : Nat) = 0 by decide) (zLV (γ 1) rfl (zLV (ρ 0) rfl (zLV (ρ 1) rfl (zLV (ρ 2) rfl (zLV (ρ 3) rfl (zIN w_0 (zIP w_1 ?_)))))))
    rfl
  exact zGoo_aend hJ hD
theorem vn210a0_2 {S : Nat → zSpc} (hS192 : zIm S 192 sn192) {a : List Int} {g : rHp} : ∀ (ρ : Nat → Int) (γ : Nat → rHp), jn210 a g 0 (zAg (zNA a210_ 0) ρ) (γ 1) → zO 2 S a g q210a0_2 ρ γ → zGl (fun i vs g1 => jn210 a g i vs g1) (sn210 a g) q210a0_2 ρ γ := by
  intro ρ γ hJ h
  obtain ⟨ha, hg, hr, hf, hm, hc, hl⟩ := h
  have ha : a = [ρ 0, ρ 1] := ha
  subst ha
  subst hg
  have hJ : jn210 [ρ 0, ρ 1] (γ 0) 0 [ρ 0, ρ 1, ρ 2, ρ 3] (γ 1) := hJ
  have r1 : ((-2147483648) : Int) ≤ ρ 1 ∧ ρ 1 ≤ 2147483647 := zRnA hr 1
  have r2 : (0 : Int) ≤ ρ 2 ∧ ρ 2 ≤ 7999 := zRnA hr 2
  have r3 : (0 : Int) ≤ ρ 3 ∧ ρ 3 ≤ 7999 := zRnA hr 3
  have r4 : (0 : Int) ≤ ρ 4 ∧ ρ 4 ≤ 3 := zRnA hr 4
  obtain ⟨w_0, w_1⟩ : (¬ (ρ 3 < 0)) ∧ (¬ (ρ 2 ≥ 8000)) := ⟨by omega, by omega⟩
  have l0 : zOpP (.irem) (γ 0) (γ 1) [ρ 3, 4] (ρ 4) := zAllA hl 0
  have l1 : ρ 4 ≠ ρ 1 := zAllA hl 1
  have l2 : sn192 [ρ 3] (γ 1) 0 (ρ 5) (γ 2) := hS192 _ _ _ _ _ (zAllA hl 2)
  have wl_0 : ρ 4 ≠ ρ 1 := by omega
  show jn210 [ρ 0, ρ 1] (γ 0) 0 [ρ 0, ρ 1, ρ 2 + 1, ρ 5] (γ 2)
  have hD : en210 (γ 0) (0, [ρ 0, ρ 1, ρ 2, ρ 3], γ 1) = .inl (0, [ρ 0, ρ 1, ρ 2 + 1, ρ 5], γ 2) := by
    unfold en210
    refine zIP (show (0 : Nat) = 0 by decide) (zLV (γ 1) rfl (zLV (ρ 0) rfl (zLV (ρ 1) rfl (zLV (ρ 2) rfl (zLV (ρ 3) rfl (zIN w_0 (zIN w_1 ?_)))))))
    refine zLE (zF2_ok l0) (zIP wl_0 (zLE (show fn192 [ρ 3] (γ 1) = (0, ρ 5, γ 2) from l2.symm) (zLV (γ 2) rfl (zLV (ρ 5) rfl ?_))))
    rfl
  exact zGoo_ato hJ hD
theorem vn210a0_3 {S : Nat → zSpc} (hS192 : zIm S 192 sn192) {a : List Int} {g : rHp} : ∀ (ρ : Nat → Int) (γ : Nat → rHp), jn210 a g 0 (zAg (zNA a210_ 0) ρ) (γ 1) → zO 2 S a g q210a0_3 ρ γ → zGl (fun i vs g1 => jn210 a g i vs g1) (sn210 a g) q210a0_3 ρ γ := by
  intro ρ γ hJ h
  obtain ⟨ha, hg, hr, hf, hm, hc, hl⟩ := h
  have ha : a = [ρ 0, ρ 1] := ha
  subst ha
  subst hg
  have hJ : jn210 [ρ 0, ρ 1] (γ 0) 0 [ρ 0, ρ 1, ρ 2, ρ 3] (γ 1) := hJ
  have r2 : (0 : Int) ≤ ρ 2 ∧ ρ 2 ≤ 7999 := zRnA hr 2
  have r3 : (0 : Int) ≤ ρ 3 ∧ ρ 3 ≤ 7999 := zRnA hr 3
  have f0 : (0 : Int) ≤ 4 * ρ 5 + -ρ 3 + 3 := zAllA hf 0
  have f1 : (0 : Int) ≤ (-4) * ρ 5 + ρ 3 := zAllA hf 1
  have f2 : (0 : Int) ≤ -ρ 4 + ρ 1 := zAllA hf 2
  have f3 : (0 : Int) ≤ ρ 4 + -ρ 1 := zAllA hf 3
  obtain ⟨w_0, w_1, w_2, w_3⟩ : (¬ (ρ 3 < 0)) ∧ (¬ (ρ 2 ≥ 8000)) ∧ (¬ (ρ 4 ≠ ρ 1)) ∧ ((ρ 3) / 4 = ρ 5) := ⟨by omega, by omega, by omega, by omega⟩
  have l0 : zOpP (.irem) (γ 0) (γ 1) [ρ 3, 4] (ρ 4) := zAllA hl 0
  show sn210 [ρ 0, ρ 1] (γ 0) 0 (ρ 5) (γ 1)
  have hD : en210 (γ 0) (0, [ρ 0, ρ 1, ρ 2, ρ 3], γ 1) = .inr (0, ρ 5, γ 1) := by
    unfold en210
    refine zIP (show (0 : Nat) = 0 by decide) (zLV (γ 1) rfl (zLV (ρ 0) rfl (zLV (ρ 1) rfl (zLV (ρ 2) rfl (zLV (ρ 3) rfl (zIN w_0 (zIN w_1 ?_)))))))
    refine zLE (zF2_ok l0) (zIN w_2 (zLE w_3 ?_))
    rfl
  exact zGoo_aend hJ hD
theorem yn210 {S : Nat → zSpc} (hS192 : zIm S 192 sn192) : ∀ x g o v gz, zSem uW uT w210_.2.2.2.1 w210_.2.2.1.1.length S q210 (fun i => q210a.getD i []) (zNA a210_) x g o v gz → sn210 x g o v gz := by
  intro a g o v gz h
  exact zSem_all (l0 := q210) (las := q210a) (S := S) (J := (fun i vs g1 => jn210 a g i vs g1)) (P := sn210 a g) (fun _ => (show zAll _ [q210_0] from (zAll_c (vn210_0 hS192) zAll_n))) (fun _ => (show zAllI _ 0 [q210a0] from ⟨(show zAll _ [q210a0_0, q210a0_1, q210a0_2, q210a0_3] from (zAll_c (vn210a0_0 hS192) (zAll_c (vn210a0_1 hS192) (zAll_c (vn210a0_2 hS192) (zAll_c (vn210a0_3 hS192) zAll_n))))), trivial⟩)) h
theorem vn211_0 {S : Nat → zSpc} (hS191 : zIm S 191 sn191) (hS204 : zIm S 204 sn204) (hS210 : zIm S 210 sn210) {a : List Int} {g : rHp} : ∀ (ρ : Nat → Int) (γ : Nat → rHp), zO 3 S a g q211_0 ρ γ → zGl (fun _ _ _ => True) (sn211 a g) q211_0 ρ γ := by
  intro ρ γ h
  obtain ⟨ha, hg, hr, hf, hm, hc, hl⟩ := h
  have ha : a = [ρ 0, ρ 1, ρ 2] := ha
  subst ha
  subst hg
  have l0 : sn204 [ρ 0, ρ 1, ρ 2] (γ 0) 0 (ρ 3) (γ 1) := hS204 _ _ _ _ _ (zAllA hl 0)
  have l1 : sn191 [ρ 3] (γ 1) 0 (ρ 4) (γ 2) := hS191 _ _ _ _ _ (zAllA hl 1)
  have l2 : sn210 [ρ 4, ρ 1] (γ 2) 0 (ρ 5) (γ 3) := hS210 _ _ _ _ _ (zAllA hl 2)
  show sn211 [ρ 0, ρ 1, ρ 2] (γ 0) 0 (ρ 5) (γ 3)
  refine Eq.symm ?_
  show fn211 [ρ 0, ρ 1, ρ 2] (γ 0) = _
  unfold fn211
  refine zLV (ρ 0) rfl (zLV (ρ 1) rfl (zLV (ρ 2) rfl (zLE (show fn204 [ρ 0, ρ 1, ρ 2] (γ 0) = (0, ρ 3, γ 1) from l0.symm) (zLV (γ 1) rfl (zLV (ρ 3) rfl (zLE (show fn191 [ρ 3] (γ 1) = (0, ρ 4, γ 2) from l1.symm) (zLV (γ 2) rfl ?_)))))))
  refine zLV (ρ 4) rfl (zLE (show fn210 [ρ 4, ρ 1] (γ 2) = (0, ρ 5, γ 3) from l2.symm) (zLV (γ 3) rfl (zLV (ρ 5) rfl ?_)))
  rfl
theorem yn211 {S : Nat → zSpc} (hS191 : zIm S 191 sn191) (hS204 : zIm S 204 sn204) (hS210 : zIm S 210 sn210) : ∀ x g o v gz, zSem uW uT w211_.2.2.2.1 w211_.2.2.1.1.length S q211 (fun i => q211a.getD i []) (zNA a211_) x g o v gz → sn211 x g o v gz := by
  intro a g o v gz h
  exact zSem_all (l0 := q211) (las := q211a) (S := S) (J := (fun _ _ _ => True)) (P := sn211 a g) (fun _ => (show zAll _ [q211_0] from (zAll_c (vn211_0 hS191 hS204 hS210) zAll_n))) (fun _ => (show zAllI _ 0 [] from trivial)) h
theorem vn212_0 {S : Nat → zSpc} (hS192 : zIm S 192 sn192) (hS210 : zIm S 210 sn210) {a : List Int} {g : rHp} : ∀ (ρ : Nat → Int) (γ : Nat → rHp), zO 2 S a g q212_0 ρ γ → zGl (fun _ _ _ => True) (sn212 a g) q212_0 ρ γ := by
  intro ρ γ h
  obtain ⟨ha, hg, hr, hf, hm, hc, hl⟩ := h
  have ha : a = [ρ 0, ρ 1] := ha
  subst ha
  subst hg
  have l0 : sn192 [ρ 1 + 4 * ρ 0] (γ 0) 0 (ρ 2) (γ 1) := hS192 _ _ _ _ _ (zAllA hl 0)
  have l1 : sn210 [ρ 2, ρ 1] (γ 1) 0 (ρ 3) (γ 2) := hS210 _ _ _ _ _ (zAllA hl 1)
  show sn212 [ρ 0, ρ 1] (γ 0) 0 (ρ 3) (γ 2)
  refine Eq.symm ?_
  show fn212 [ρ 0, ρ 1] (γ 0) = _
  unfold fn212
  refine zLV (ρ 0) rfl (zLV (ρ 1) rfl (zLE (show fn192 [ρ 1 + 4 * ρ 0] (γ 0) = (0, ρ 2, γ 1) from l0.symm) (zLV (γ 1) rfl (zLV (ρ 2) rfl (zLE (show fn210 [ρ 2, ρ 1] (γ 1) = (0, ρ 3, γ 2) from l1.symm) (zLV (γ 2) rfl (zLV (ρ 3) rfl ?_)))))))
  rfl
theorem yn212 {S : Nat → zSpc} (hS192 : zIm S 192 sn192) (hS210 : zIm S 210 sn210) : ∀ x g o v gz, zSem uW uT w212_.2.2.2.1 w212_.2.2.1.1.length S q212 (fun i => q212a.getD i []) (zNA a212_) x g o v gz → sn212 x g o v gz := by
  intro a g o v gz h
  exact zSem_all (l0 := q212) (las := q212a) (S := S) (J := (fun _ _ _ => True)) (P := sn212 a g) (fun _ => (show zAll _ [q212_0] from (zAll_c (vn212_0 hS192 hS210) zAll_n))) (fun _ => (show zAllI _ 0 [] from trivial)) h
theorem vn213_0 {S : Nat → zSpc} (hS198 : zIm S 198 sn198) {a : List Int} {g : rHp} : ∀ (ρ : Nat → Int) (γ : Nat → rHp), zO 1 S a g q213_0 ρ γ → zGl (fun _ _ _ => True) (sn213 a g) q213_0 ρ γ := by
  intro ρ γ h
  obtain ⟨ha, hg, hr, hf, hm, hc, hl⟩ := h
  have ha : a = [ρ 0] := ha
  subst ha
  subst hg
  have c1 : γ 1 = rUp (γ 0) 5 0 3 0 := And.right (zChA hc 1)
  have l0 : sn198 [] (γ 1) 0 0 (γ 2) := hS198 _ _ _ _ _ (zAllA hl 0)
  show sn213 [ρ 0] (γ 0) 0 0 (γ 2)
  refine Eq.symm ?_
  show fn213 [] (γ 0) = _
  unfold fn213
  refine zLE c1.symm (zLE (show fn198 [] (γ 1) = (0, 0, γ 2) from l0.symm) (zLV (γ 2) rfl ?_))
  rfl
theorem yn213 {S : Nat → zSpc} (hS198 : zIm S 198 sn198) : ∀ x g o v gz, zSem uW uT w213_.2.2.2.1 w213_.2.2.1.1.length S q213 (fun i => q213a.getD i []) (zNA a213_) x g o v gz → sn213 x g o v gz := by
  intro a g o v gz h
  exact zSem_all (l0 := q213) (las := q213a) (S := S) (J := (fun _ _ _ => True)) (P := sn213 a g) (fun _ => (show zAll _ [q213_0] from (zAll_c (vn213_0 hS198) zAll_n))) (fun _ => (show zAllI _ 0 [] from trivial)) h
theorem vn214_0 {S : Nat → zSpc}  {a : List Int} {g : rHp} : ∀ (ρ : Nat → Int) (γ : Nat → rHp), zO 0 S a g q214_0 ρ γ → zGl (fun i vs g1 => jn214 a g i vs g1) (sn214 a g) q214_0 ρ γ := by
  intro ρ γ h
  obtain ⟨ha, hg, hr, hf, hm, hc, hl⟩ := h
  have ha : a = [] := ha
  subst ha
  subst hg
  show jn214 [] (γ 0) 0 [0, 0] (γ 0)
  have hD : dn214 [] (γ 0) = .inl (0, [0, 0], γ 0) := by
    unfold dn214
    rfl
  exact zGoo_to hD
theorem vn214a0_0 {S : Nat → zSpc}  {a : List Int} {g : rHp} : ∀ (ρ : Nat → Int) (γ : Nat → rHp), jn214 a g 0 (zAg (zNA a214_ 0) ρ) (γ 1) → zO 0 S a g q214a0_0 ρ γ → zGl (fun i vs g1 => jn214 a g i vs g1) (sn214 a g) q214a0_0 ρ γ := by
  intro ρ γ hJ h
  obtain ⟨ha, hg, hr, hf, hm, hc, hl⟩ := h
  have ha : a = [] := ha
  subst ha
  subst hg
  have hJ : jn214 [] (γ 0) 0 [ρ 0, ρ 1] (γ 1) := hJ
  have r0 : (4 : Int) ≤ ρ 0 ∧ ρ 0 ≤ 4 := zRnA hr 0
  have w_0 : ρ 0 ≥ 4 := by omega
  show sn214 [] (γ 0) 0 (ρ 1) (γ 1)
  have hD : en214 (γ 0) (0, [ρ 0, ρ 1], γ 1) = .inr (0, ρ 1, γ 1) := by
    unfold en214
    refine zIP (show (0 : Nat) = 0 by decide) (zLV (γ 1) rfl (zLV (ρ 0) rfl (zLV (ρ 1) rfl (zIP w_0 ?_))))
    rfl
  exact zGoo_aend hJ hD
theorem vn214a0_1 {S : Nat → zSpc}  {a : List Int} {g : rHp} : ∀ (ρ : Nat → Int) (γ : Nat → rHp), jn214 a g 0 (zAg (zNA a214_ 0) ρ) (γ 1) → zO 0 S a g q214a0_1 ρ γ → zGl (fun i vs g1 => jn214 a g i vs g1) (sn214 a g) q214a0_1 ρ γ := by
  intro ρ γ hJ h
  obtain ⟨ha, hg, hr, hf, hm, hc, hl⟩ := h
  have ha : a = [] := ha
  subst ha
  subst hg
  have hJ : jn214 [] (γ 0) 0 [ρ 0, ρ 1] (γ 1) := hJ
  have r0 : (0 : Int) ≤ ρ 0 ∧ ρ 0 ≤ 3 := zRnA hr 0
  have w_0 : ¬ (ρ 0 ≥ 4) := by omega
  have m0 : γ 0 33 0 (ρ 0) = ρ 3 := zAllA hm 0
  have l0 : zOpP (.lmul) (γ 0) (γ 1) [ρ 1, 1000003] (ρ 2) := zAllA hl 0
  have l1 : zOpP (.ladd) (γ 0) (γ 1) [ρ 2, ρ 3] (ρ 4) := zAllA hl 1
  show jn214 [] (γ 0) 0 [ρ 0 + 1, ρ 4] (γ 1)
  have hD : en214 (γ 0) (0, [ρ 0, ρ 1], γ 1) = .inl (0, [ρ 0 + 1, ρ 4], γ 1) := by
    unfold en214
    refine zIP (show (0 : Nat) = 0 by decide) (zLV (γ 1) rfl (zLV (ρ 0) rfl (zLV (ρ 1) rfl (zIN w_0 (zLE (zF2_ok l0) (zLE m0 (zLE (zF2_ok l1) ?_)))))))
    rfl
  exact zGoo_ato hJ hD
theorem yn214 {S : Nat → zSpc}  : ∀ x g o v gz, zSem uW uT w214_.2.2.2.1 w214_.2.2.1.1.length S q214 (fun i => q214a.getD i []) (zNA a214_) x g o v gz → sn214 x g o v gz := by
  intro a g o v gz h
  exact zSem_all (l0 := q214) (las := q214a) (S := S) (J := (fun i vs g1 => jn214 a g i vs g1)) (P := sn214 a g) (fun _ => (show zAll _ [q214_0] from (zAll_c (vn214_0 ) zAll_n))) (fun _ => (show zAllI _ 0 [q214a0] from ⟨(show zAll _ [q214a0_0, q214a0_1] from (zAll_c (vn214a0_0 ) (zAll_c (vn214a0_1 ) zAll_n))), trivial⟩)) h
theorem vn215_0 {S : Nat → zSpc}  {a : List Int} {g : rHp} : ∀ (ρ : Nat → Int) (γ : Nat → rHp), zO 1 S a g q215_0 ρ γ → zGl (fun i vs g1 => jn215 a g i vs g1) (sn215 a g) q215_0 ρ γ := by
  intro ρ γ h
  obtain ⟨ha, hg, hr, hf, hm, hc, hl⟩ := h
  have ha : a = [ρ 0] := ha
  subst ha
  subst hg
  show jn215 [ρ 0] (γ 0) 0 [ρ 0, 0] (γ 0)
  have hD : dn215 [ρ 0] (γ 0) = .inl (0, [ρ 0, 0], γ 0) := by
    unfold dn215
    refine zLV (ρ 0) rfl ?_
    rfl
  exact zGoo_to hD
theorem vn215a0_0 {S : Nat → zSpc}  {a : List Int} {g : rHp} : ∀ (ρ : Nat → Int) (γ : Nat → rHp), jn215 a g 0 (zAg (zNA a215_ 0) ρ) (γ 1) → zO 1 S a g q215a0_0 ρ γ → zGl (fun i vs g1 => jn215 a g i vs g1) (sn215 a g) q215a0_0 ρ γ := by
  intro ρ γ hJ h
  obtain ⟨ha, hg, hr, hf, hm, hc, hl⟩ := h
  have ha : a = [ρ 0] := ha
  subst ha
  subst hg
  have hJ : jn215 [ρ 0] (γ 0) 0 [ρ 0, ρ 1] (γ 1) := hJ
  have r1 : (4 : Int) ≤ ρ 1 ∧ ρ 1 ≤ 4 := zRnA hr 1
  have w_0 : ρ 1 ≥ 4 := by omega
  show sn215 [ρ 0] (γ 0) 0 1 (γ 1)
  have hD : en215 (γ 0) (0, [ρ 0, ρ 1], γ 1) = .inr (0, 1, γ 1) := by
    unfold en215
    refine zIP (show (0 : Nat) = 0 by decide) (zLV (γ 1) rfl (zLV (ρ 0) rfl (zLV (ρ 1) rfl (zIP w_0 ?_))))
    rfl
  exact zGoo_aend hJ hD
theorem vn215a0_1 {S : Nat → zSpc}  {a : List Int} {g : rHp} : ∀ (ρ : Nat → Int) (γ : Nat → rHp), jn215 a g 0 (zAg (zNA a215_ 0) ρ) (γ 1) → zO 1 S a g q215a0_1 ρ γ → zGl (fun i vs g1 => jn215 a g i vs g1) (sn215 a g) q215a0_1 ρ γ := by
  intro ρ γ hJ h
  obtain ⟨ha, hg, hr, hf, hm, hc, hl⟩ := h
  have ha : a = [ρ 0] := ha
  subst ha
  subst hg
  have hJ : jn215 [ρ 0] (γ 0) 0 [ρ 0, ρ 1] (γ 1) := hJ
  have r1 : (0 : Int) ≤ ρ 1 ∧ ρ 1 ≤ 3 := zRnA hr 1
  have f0 : (0 : Int) ≤ ρ 3 + -ρ 2 := zAllA hf 0
  have f1 : (0 : Int) ≤ -ρ 3 + ρ 2 := zAllA hf 1
  obtain ⟨w_0, w_1⟩ : (¬ (ρ 1 ≥ 4)) ∧ (ρ 2 = ρ 3) := ⟨by omega, by omega⟩
  have m0 : γ 0 34 0 (ρ 1 + 4 * ρ 0) = ρ 2 := zAllA hm 0
  have m1 : γ 0 33 0 (ρ 1) = ρ 3 := zAllA hm 1
  show jn215 [ρ 0] (γ 0) 0 [ρ 0, ρ 1 + 1] (γ 1)
  have hD : en215 (γ 0) (0, [ρ 0, ρ 1], γ 1) = .inl (0, [ρ 0, ρ 1 + 1], γ 1) := by
    unfold en215
    refine zIP (show (0 : Nat) = 0 by decide) (zLV (γ 1) rfl (zLV (ρ 0) rfl (zLV (ρ 1) rfl (zIN w_0 (zLE m0 (zLE m1 (zIP w_1 ?_)))))))
    rfl
  exact zGoo_ato hJ hD
theorem vn215a0_2 {S : Nat → zSpc}  {a : List Int} {g : rHp} : ∀ (ρ : Nat → Int) (γ : Nat → rHp), jn215 a g 0 (zAg (zNA a215_ 0) ρ) (γ 1) → zO 1 S a g q215a0_2 ρ γ → zGl (fun i vs g1 => jn215 a g i vs g1) (sn215 a g) q215a0_2 ρ γ := by
  intro ρ γ hJ h
  obtain ⟨ha, hg, hr, hf, hm, hc, hl⟩ := h
  have ha : a = [ρ 0] := ha
  subst ha
  subst hg
  have hJ : jn215 [ρ 0] (γ 0) 0 [ρ 0, ρ 1] (γ 1) := hJ
  have r1 : (0 : Int) ≤ ρ 1 ∧ ρ 1 ≤ 3 := zRnA hr 1
  have r2 : ((-9223372036854775808) : Int) ≤ ρ 2 ∧ ρ 2 ≤ 9223372036854775807 := zRnA hr 2
  have r3 : ((-9223372036854775808) : Int) ≤ ρ 3 ∧ ρ 3 ≤ 9223372036854775807 := zRnA hr 3
  have w_0 : ¬ (ρ 1 ≥ 4) := by omega
  have m0 : γ 0 34 0 (ρ 1 + 4 * ρ 0) = ρ 2 := zAllA hm 0
  have m1 : γ 0 33 0 (ρ 1) = ρ 3 := zAllA hm 1
  have l0 : ρ 2 ≠ ρ 3 := zAllA hl 0
  have wl_0 : ¬ (ρ 2 = ρ 3) := by omega
  show sn215 [ρ 0] (γ 0) 0 0 (γ 1)
  have hD : en215 (γ 0) (0, [ρ 0, ρ 1], γ 1) = .inr (0, 0, γ 1) := by
    unfold en215
    refine zIP (show (0 : Nat) = 0 by decide) (zLV (γ 1) rfl (zLV (ρ 0) rfl (zLV (ρ 1) rfl (zIN w_0 (zLE m0 (zLE m1 (zIN wl_0 ?_)))))))
    rfl
  exact zGoo_aend hJ hD
theorem yn215 {S : Nat → zSpc}  : ∀ x g o v gz, zSem uW uT w215_.2.2.2.1 w215_.2.2.1.1.length S q215 (fun i => q215a.getD i []) (zNA a215_) x g o v gz → sn215 x g o v gz := by
  intro a g o v gz h
  exact zSem_all (l0 := q215) (las := q215a) (S := S) (J := (fun i vs g1 => jn215 a g i vs g1)) (P := sn215 a g) (fun _ => (show zAll _ [q215_0] from (zAll_c (vn215_0 ) zAll_n))) (fun _ => (show zAllI _ 0 [q215a0] from ⟨(show zAll _ [q215a0_0, q215a0_1, q215a0_2] from (zAll_c (vn215a0_0 ) (zAll_c (vn215a0_1 ) (zAll_c (vn215a0_2 ) zAll_n)))), trivial⟩)) h
theorem vn216_0 {S : Nat → zSpc} (hS199 : zIm S 199 sn199) (hS200 : zIm S 200 sn200) (hS201 : zIm S 201 sn201) (hS214 : zIm S 214 sn214) (hS215 : zIm S 215 sn215) {a : List Int} {g : rHp} : ∀ (ρ : Nat → Int) (γ : Nat → rHp), zO 1 S a g q216_0 ρ γ → zGl (fun i vs g1 => jn216 a g i vs g1) (sn216 a g) q216_0 ρ γ := by
  intro ρ γ h
  obtain ⟨ha, hg, hr, hf, hm, hc, hl⟩ := h
  have ha : a = [ρ 0] := ha
  subst ha
  subst hg
  have l0 : sn214 [] (γ 0) 0 (ρ 1) (γ 1) := hS214 _ _ _ _ _ (zAllA hl 0)
  have l1 : sn199 [ρ 1] (γ 1) 0 (ρ 2) (γ 2) := hS199 _ _ _ _ _ (zAllA hl 1)
  show jn216 [ρ 0] (γ 0) 0 [ρ 0, 0, ρ 2, ρ 1] (γ 2)
  have hD : dn216 [] (γ 0) = .inl (0, [0, ρ 2, ρ 1], γ 2) := by
    unfold dn216
    refine zLE (show fn214 [] (γ 0) = (0, ρ 1, γ 1) from l0.symm) (zLV (γ 1) rfl (zLV (ρ 1) rfl (zLE (show fn199 [ρ 1] (γ 1) = (0, ρ 2, γ 2) from l1.symm) (zLV (γ 2) rfl (zLV (ρ 2) rfl ?_)))))
    rfl
  exact zGoo_to hD
theorem vn216a0_0 {S : Nat → zSpc} (hS199 : zIm S 199 sn199) (hS200 : zIm S 200 sn200) (hS201 : zIm S 201 sn201) (hS214 : zIm S 214 sn214) (hS215 : zIm S 215 sn215) {a : List Int} {g : rHp} : ∀ (ρ : Nat → Int) (γ : Nat → rHp), jn216 a g 0 (zAg (zNA a216_ 0) ρ) (γ 1) → zO 1 S a g q216a0_0 ρ γ → zGl (fun i vs g1 => jn216 a g i vs g1) (sn216 a g) q216a0_0 ρ γ := by
  intro ρ γ hJ h
  obtain ⟨ha, hg, hr, hf, hm, hc, hl⟩ := h
  have ha : a = [ρ 0] := ha
  subst ha
  subst hg
  have hJ : jn216 [ρ 0] (γ 0) 0 [ρ 0, ρ 1, ρ 2, ρ 3] (γ 1) := hJ
  have r0 : (0 : Int) ≤ ρ 0 ∧ ρ 0 ≤ 1999 := zRnA hr 0
  have r2 : ((-1) : Int) ≤ ρ 2 ∧ ρ 2 ≤ (-1) := zRnA hr 2
  obtain ⟨w_0, w_1⟩ : (ρ 2 < 0) ∧ (ρ 0 < 2000) := ⟨by omega, by omega⟩
  have m0 : γ 0 5 0 3 = ρ 0 := zAllA hm 0
  have c3 : γ 3 = rUp (γ 2) 35 0 (ρ 0) 0 := And.right (zChA hc 3)
  have c4 : γ 4 = rUp (γ 3) 36 0 (ρ 0) 0 := And.right (zChA hc 2)
  have c6 : γ 6 = rUp (γ 5) 5 0 3 (ρ 0 + 1) := And.right (zChA hc 0)
  have l0 : γ 2 = zCpy (γ 1) 33 0 0 34 0 (4 * ρ 0) 4 := zAllA hl 0
  have l1 : sn201 [ρ 3, ρ 0] (γ 4) 0 0 (γ 5) := hS201 _ _ _ _ _ (zAllA hl 1)
  show sn216 [ρ 0] (γ 0) 0 (ρ 0) (γ 6)
  have hD : en216 (γ 0) (0, [ρ 1, ρ 2, ρ 3], γ 1) = .inr (0, ρ 0, γ 6) := by
    unfold en216
    refine zIP (show (0 : Nat) = 0 by decide) (zLV (γ 1) rfl (zLV (ρ 1) rfl (zLV (ρ 2) rfl (zLV (ρ 3) rfl (zLE m0 (zIP w_0 (zIP w_1 ?_)))))))
    refine zLE l0.symm (zLE c3.symm (zLE c4.symm (zLE (show fn201 [ρ 3, ρ 0] (γ 4) = (0, 0, γ 5) from l1.symm) (zLV (γ 5) rfl (zLE c6.symm ?_)))))
    rfl
  exact zGoo_aend hJ hD
theorem vn216a0_1 {S : Nat → zSpc} (hS199 : zIm S 199 sn199) (hS200 : zIm S 200 sn200) (hS201 : zIm S 201 sn201) (hS214 : zIm S 214 sn214) (hS215 : zIm S 215 sn215) {a : List Int} {g : rHp} : ∀ (ρ : Nat → Int) (γ : Nat → rHp), jn216 a g 0 (zAg (zNA a216_ 0) ρ) (γ 1) → zO 1 S a g q216a0_1 ρ γ → zGl (fun i vs g1 => jn216 a g i vs g1) (sn216 a g) q216a0_1 ρ γ := by
  intro ρ γ hJ h
  obtain ⟨ha, hg, hr, hf, hm, hc, hl⟩ := h
  have ha : a = [ρ 0] := ha
  subst ha
  subst hg
  have hJ : jn216 [ρ 0] (γ 0) 0 [ρ 0, ρ 1, ρ 2, ρ 3] (γ 1) := hJ
  have r0 : (2000 : Int) ≤ ρ 0 ∧ ρ 0 ≤ 2000 := zRnA hr 0
  have r2 : ((-1) : Int) ≤ ρ 2 ∧ ρ 2 ≤ (-1) := zRnA hr 2
  obtain ⟨w_0, w_1⟩ : (ρ 2 < 0) ∧ (¬ (ρ 0 < 2000)) := ⟨by omega, by omega⟩
  have m0 : γ 0 5 0 3 = ρ 0 := zAllA hm 0
  show sn216 [ρ 0] (γ 0) 0 (-1) (γ 1)
  have hD : en216 (γ 0) (0, [ρ 1, ρ 2, ρ 3], γ 1) = .inr (0, (-1), γ 1) := by
    unfold en216
    refine zIP (show (0 : Nat) = 0 by decide) (zLV (γ 1) rfl (zLV (ρ 1) rfl (zLV (ρ 2) rfl (zLV (ρ 3) rfl (zLE m0 (zIP w_0 (zIN w_1 ?_)))))))
    rfl
  exact zGoo_aend hJ hD
theorem vn216a0_2 {S : Nat → zSpc} (hS199 : zIm S 199 sn199) (hS200 : zIm S 200 sn200) (hS201 : zIm S 201 sn201) (hS214 : zIm S 214 sn214) (hS215 : zIm S 215 sn215) {a : List Int} {g : rHp} : ∀ (ρ : Nat → Int) (γ : Nat → rHp), jn216 a g 0 (zAg (zNA a216_ 0) ρ) (γ 1) → zO 1 S a g q216a0_2 ρ γ → zGl (fun i vs g1 => jn216 a g i vs g1) (sn216 a g) q216a0_2 ρ γ := by
  intro ρ γ hJ h
  obtain ⟨ha, hg, hr, hf, hm, hc, hl⟩ := h
  have ha : a = [ρ 0] := ha
  subst ha
  subst hg
  have hJ : jn216 [ρ 0] (γ 0) 0 [ρ 0, ρ 1, ρ 2, ρ 3] (γ 1) := hJ
  have r0 : (0 : Int) ≤ ρ 0 ∧ ρ 0 ≤ 1999 := zRnA hr 0
  have r1 : (2000 : Int) ≤ ρ 1 ∧ ρ 1 ≤ 2000 := zRnA hr 1
  have r2 : (0 : Int) ≤ ρ 2 ∧ ρ 2 ≤ 1999 := zRnA hr 2
  obtain ⟨w_0, w_1, w_2⟩ : (¬ (ρ 2 < 0)) ∧ (ρ 1 ≥ 2000) ∧ (ρ 0 < 2000) := ⟨by omega, by omega, by omega⟩
  have m0 : γ 0 5 0 3 = ρ 0 := zAllA hm 0
  have c3 : γ 3 = rUp (γ 2) 35 0 (ρ 0) 0 := And.right (zChA hc 3)
  have c4 : γ 4 = rUp (γ 3) 36 0 (ρ 0) 0 := And.right (zChA hc 2)
  have c6 : γ 6 = rUp (γ 5) 5 0 3 (ρ 0 + 1) := And.right (zChA hc 0)
  have l0 : γ 2 = zCpy (γ 1) 33 0 0 34 0 (4 * ρ 0) 4 := zAllA hl 0
  have l1 : sn201 [ρ 3, ρ 0] (γ 4) 0 0 (γ 5) := hS201 _ _ _ _ _ (zAllA hl 1)
  show sn216 [ρ 0] (γ 0) 0 (ρ 0) (γ 6)
  have hD : en216 (γ 0) (0, [ρ 1, ρ 2, ρ 3], γ 1) = .inr (0, ρ 0, γ 6) := by
    unfold en216
    refine zIP (show (0 : Nat) = 0 by decide) (zLV (γ 1) rfl (zLV (ρ 1) rfl (zLV (ρ 2) rfl (zLV (ρ 3) rfl (zLE m0 (zIN w_0 (zIP w_1 ?_)))))))
    refine zIP w_2 (zLE l0.symm (zLE c3.symm (zLE c4.symm (zLE (show fn201 [ρ 3, ρ 0] (γ 4) = (0, 0, γ 5) from l1.symm) (zLV (γ 5) rfl (zLE c6.symm ?_))))))
    rfl
  exact zGoo_aend hJ hD
theorem vn216a0_3 {S : Nat → zSpc} (hS199 : zIm S 199 sn199) (hS200 : zIm S 200 sn200) (hS201 : zIm S 201 sn201) (hS214 : zIm S 214 sn214) (hS215 : zIm S 215 sn215) {a : List Int} {g : rHp} : ∀ (ρ : Nat → Int) (γ : Nat → rHp), jn216 a g 0 (zAg (zNA a216_ 0) ρ) (γ 1) → zO 1 S a g q216a0_3 ρ γ → zGl (fun i vs g1 => jn216 a g i vs g1) (sn216 a g) q216a0_3 ρ γ := by
  intro ρ γ hJ h
  obtain ⟨ha, hg, hr, hf, hm, hc, hl⟩ := h
  have ha : a = [ρ 0] := ha
  subst ha
  subst hg
  have hJ : jn216 [ρ 0] (γ 0) 0 [ρ 0, ρ 1, ρ 2, ρ 3] (γ 1) := hJ
  have r0 : (2000 : Int) ≤ ρ 0 ∧ ρ 0 ≤ 2000 := zRnA hr 0
  have r1 : (2000 : Int) ≤ ρ 1 ∧ ρ 1 ≤ 2000 := zRnA hr 1
  have r2 : (0 : Int) ≤ ρ 2 ∧ ρ 2 ≤ 1999 := zRnA hr 2
  obtain ⟨w_0, w_1, w_2⟩ : (¬ (ρ 2 < 0)) ∧ (ρ 1 ≥ 2000) ∧ (¬ (ρ 0 < 2000)) := ⟨by omega, by omega, by omega⟩
  have m0 : γ 0 5 0 3 = ρ 0 := zAllA hm 0
  show sn216 [ρ 0] (γ 0) 0 (-1) (γ 1)
  have hD : en216 (γ 0) (0, [ρ 1, ρ 2, ρ 3], γ 1) = .inr (0, (-1), γ 1) := by
    unfold en216
    refine zIP (show (0 : Nat) = 0 by decide) (zLV (γ 1) rfl (zLV (ρ 1) rfl (zLV (ρ 2) rfl (zLV (ρ 3) rfl (zLE m0 (zIN w_0 (zIP w_1 ?_)))))))
    refine zIN w_2 ?_
    rfl
  exact zGoo_aend hJ hD
theorem vn216a0_4 {S : Nat → zSpc} (hS199 : zIm S 199 sn199) (hS200 : zIm S 200 sn200) (hS201 : zIm S 201 sn201) (hS214 : zIm S 214 sn214) (hS215 : zIm S 215 sn215) {a : List Int} {g : rHp} : ∀ (ρ : Nat → Int) (γ : Nat → rHp), jn216 a g 0 (zAg (zNA a216_ 0) ρ) (γ 1) → zO 1 S a g q216a0_4 ρ γ → zGl (fun i vs g1 => jn216 a g i vs g1) (sn216 a g) q216a0_4 ρ γ := by
  intro ρ γ hJ h
  obtain ⟨ha, hg, hr, hf, hm, hc, hl⟩ := h
  have ha : a = [ρ 0] := ha
  subst ha
  subst hg
  have hJ : jn216 [ρ 0] (γ 0) 0 [ρ 0, ρ 1, ρ 2, ρ 3] (γ 1) := hJ
  have r1 : (0 : Int) ≤ ρ 1 ∧ ρ 1 ≤ 1999 := zRnA hr 1
  have r2 : (0 : Int) ≤ ρ 2 ∧ ρ 2 ≤ 1999 := zRnA hr 2
  obtain ⟨w_0, w_1⟩ : (¬ (ρ 2 < 0)) ∧ (¬ (ρ 1 ≥ 2000)) := ⟨by omega, by omega⟩
  have m0 : γ 0 5 0 3 = ρ 0 := zAllA hm 0
  have l0 : sn215 [ρ 2] (γ 1) 0 0 (γ 2) := hS215 _ _ _ _ _ (zAllA hl 0)
  have l1 : sn200 [ρ 2] (γ 2) 0 (ρ 4) (γ 3) := hS200 _ _ _ _ _ (zAllA hl 1)
  show jn216 [ρ 0] (γ 0) 0 [ρ 0, ρ 1 + 1, ρ 4, ρ 3] (γ 3)
  have hD : en216 (γ 0) (0, [ρ 1, ρ 2, ρ 3], γ 1) = .inl (0, [ρ 1 + 1, ρ 4, ρ 3], γ 3) := by
    unfold en216
    refine zIP (show (0 : Nat) = 0 by decide) (zLV (γ 1) rfl (zLV (ρ 1) rfl (zLV (ρ 2) rfl (zLV (ρ 3) rfl (zLE m0 (zIN w_0 (zIN w_1 ?_)))))))
    refine zLE (show fn215 [ρ 2] (γ 1) = (0, 0, γ 2) from l0.symm) (zLV (γ 2) rfl (zIN zQ0_ (zLE (show fn200 [ρ 2] (γ 2) = (0, ρ 4, γ 3) from l1.symm) (zLV (γ 3) rfl (zLV (ρ 4) rfl ?_)))))
    rfl
  exact zGoo_ato hJ hD
theorem vn216a0_5 {S : Nat → zSpc} (hS199 : zIm S 199 sn199) (hS200 : zIm S 200 sn200) (hS201 : zIm S 201 sn201) (hS214 : zIm S 214 sn214) (hS215 : zIm S 215 sn215) {a : List Int} {g : rHp} : ∀ (ρ : Nat → Int) (γ : Nat → rHp), jn216 a g 0 (zAg (zNA a216_ 0) ρ) (γ 1) → zO 1 S a g q216a0_5 ρ γ → zGl (fun i vs g1 => jn216 a g i vs g1) (sn216 a g) q216a0_5 ρ γ := by
  intro ρ γ hJ h
  obtain ⟨ha, hg, hr, hf, hm, hc, hl⟩ := h
  have ha : a = [ρ 0] := ha
  subst ha
  subst hg
  have hJ : jn216 [ρ 0] (γ 0) 0 [ρ 0, ρ 1, ρ 2, ρ 3] (γ 1) := hJ
  have r1 : (0 : Int) ≤ ρ 1 ∧ ρ 1 ≤ 1999 := zRnA hr 1
  have r2 : (0 : Int) ≤ ρ 2 ∧ ρ 2 ≤ 1999 := zRnA hr 2
  obtain ⟨w_0, w_1⟩ : (¬ (ρ 2 < 0)) ∧ (¬ (ρ 1 ≥ 2000)) := ⟨by omega, by omega⟩
  have m0 : γ 0 5 0 3 = ρ 0 := zAllA hm 0
  have l0 : sn215 [ρ 2] (γ 1) 0 1 (γ 2) := hS215 _ _ _ _ _ (zAllA hl 0)
  show sn216 [ρ 0] (γ 0) 0 (ρ 2) (γ 2)
  have hD : en216 (γ 0) (0, [ρ 1, ρ 2, ρ 3], γ 1) = .inr (0, ρ 2, γ 2) := by
    unfold en216
    refine zIP (show (0 : Nat) = 0 by decide) (zLV (γ 1) rfl (zLV (ρ 1) rfl (zLV (ρ 2) rfl (zLV (ρ 3) rfl (zLE m0 (zIN w_0 (zIN w_1 ?_)))))))
    refine zLE (show fn215 [ρ 2] (γ 1) = (0, 1, γ 2) from l0.symm) (zLV (γ 2) rfl (zIP zQ1_ ?_))
    rfl
  exact zGoo_aend hJ hD
theorem yn216 {S : Nat → zSpc} (hS199 : zIm S 199 sn199) (hS200 : zIm S 200 sn200) (hS201 : zIm S 201 sn201) (hS214 : zIm S 214 sn214) (hS215 : zIm S 215 sn215) : ∀ x g o v gz, zSem uW uT w216_.2.2.2.1 w216_.2.2.1.1.length S q216 (fun i => q216a.getD i []) (zNA a216_) x g o v gz → sn216 x g o v gz := by
  intro a g o v gz h
  exact zSem_all (l0 := q216) (las := q216a) (S := S) (J := (fun i vs g1 => jn216 a g i vs g1)) (P := sn216 a g) (fun _ => (show zAll _ [q216_0] from (zAll_c (vn216_0 hS199 hS200 hS201 hS214 hS215) zAll_n))) (fun _ => (show zAllI _ 0 [q216a0] from ⟨(show zAll _ [q216a0_0, q216a0_1, q216a0_2, q216a0_3, q216a0_4, q216a0_5] from (zAll_c (vn216a0_0 hS199 hS200 hS201 hS214 hS215) (zAll_c (vn216a0_1 hS199 hS200 hS201 hS214 hS215) (zAll_c (vn216a0_2 hS199 hS200 hS201 hS214 hS215) (zAll_c (vn216a0_3 hS199 hS200 hS201 hS214 hS215) (zAll_c (vn216a0_4 hS199 hS200 hS201 hS214 hS215) (zAll_c (vn216a0_5 hS199 hS200 hS201 hS214 hS215) zAll_n))))))), trivial⟩)) h
theorem vn217_0 {S : Nat → zSpc}  {a : List Int} {g : rHp} : ∀ (ρ : Nat → Int) (γ : Nat → rHp), zO 1 S a g q217_0 ρ γ → zGl (fun _ _ _ => True) (sn217 a g) q217_0 ρ γ := by
  intro ρ γ h
  obtain ⟨ha, hg, hr, hf, hm, hc, hl⟩ := h
  have ha : a = [ρ 0] := ha
  subst ha
  subst hg
  have m0 : γ 0 35 0 (ρ 0) = ρ 1 := zAllA hm 0
  have c1 : γ 1 = rUp (γ 0) 35 0 (ρ 0) (ρ 2) := And.right (zChA hc 1)
  have c2 : γ 2 = rUp (γ 1) 36 0 (ρ 0) 1 := And.right (zChA hc 0)
  have l0 : zOpP (.iadd) (γ 0) (γ 1) [ρ 1, 1] (ρ 2) := zAllA hl 0
  show sn217 [ρ 0] (γ 0) 0 0 (γ 2)
  refine Eq.symm ?_
  show fn217 [ρ 0] (γ 0) = _
  unfold fn217
  refine zLV (ρ 0) rfl (zLE m0 (zLE (zF2_ok l0) (zLE c1.symm (zLE c2.symm ?_))))
  rfl
theorem yn217 {S : Nat → zSpc}  : ∀ x g o v gz, zSem uW uT w217_.2.2.2.1 w217_.2.2.1.1.length S q217 (fun i => q217a.getD i []) (zNA a217_) x g o v gz → sn217 x g o v gz := by
  intro a g o v gz h
  exact zSem_all (l0 := q217) (las := q217a) (S := S) (J := (fun _ _ _ => True)) (P := sn217 a g) (fun _ => (show zAll _ [q217_0] from (zAll_c (vn217_0 ) zAll_n))) (fun _ => (show zAllI _ 0 [] from trivial)) h
theorem vn218_0 {S : Nat → zSpc} (hS172 : zIm S 172 sn172) {a : List Int} {g : rHp} : ∀ (ρ : Nat → Int) (γ : Nat → rHp), zO 2 S a g q218_0 ρ γ → zGl (fun _ _ _ => True) (sn218 a g) q218_0 ρ γ := by
  intro ρ γ h
  obtain ⟨ha, hg, hr, hf, hm, hc, hl⟩ := h
  have ha : a = [ρ 0, ρ 1] := ha
  subst ha
  subst hg
  have c1 : γ 1 = rUp (γ 0) 36 0 (ρ 0) 1 := And.right (zChA hc 1)
  have l0 : sn172 [ρ 1] (γ 1) 0 0 (γ 2) := hS172 _ _ _ _ _ (zAllA hl 0)
  show sn218 [ρ 0, ρ 1] (γ 0) 0 0 (γ 2)
  refine Eq.symm ?_
  show fn218 [ρ 0, ρ 1] (γ 0) = _
  unfold fn218
  refine zLV (ρ 0) rfl (zLV (ρ 1) rfl (zLE c1.symm (zLE (show fn172 [ρ 1] (γ 1) = (0, 0, γ 2) from l0.symm) (zLV (γ 2) rfl (zIN zQ0_ ?_)))))
  rfl
theorem vn218_1 {S : Nat → zSpc} (hS172 : zIm S 172 sn172) {a : List Int} {g : rHp} : ∀ (ρ : Nat → Int) (γ : Nat → rHp), zO 2 S a g q218_1 ρ γ → zGl (fun _ _ _ => True) (sn218 a g) q218_1 ρ γ := by
  intro ρ γ h
  obtain ⟨ha, hg, hr, hf, hm, hc, hl⟩ := h
  have ha : a = [ρ 0, ρ 1] := ha
  subst ha
  subst hg
  have m0 : γ 0 35 0 (ρ 0) = ρ 2 := zAllA hm 0
  have c1 : γ 1 = rUp (γ 0) 36 0 (ρ 0) 1 := And.right (zChA hc 2)
  have c3 : γ 3 = rUp (γ 2) 35 0 (ρ 0) (ρ 4) := And.right (zChA hc 0)
  have l0 : sn172 [ρ 1] (γ 1) 0 1 (γ 2) := hS172 _ _ _ _ _ (zAllA hl 0)
  have l1 : zOpP (.l2i) (γ 0) (γ 1) [ρ 1] (ρ 3) := zAllA hl 1
  have l2 : zOpP (.iadd) (γ 0) (γ 1) [ρ 2, ρ 3] (ρ 4) := zAllA hl 2
  show sn218 [ρ 0, ρ 1] (γ 0) 0 0 (γ 3)
  refine Eq.symm ?_
  show fn218 [ρ 0, ρ 1] (γ 0) = _
  unfold fn218
  refine zLV (ρ 0) rfl (zLV (ρ 1) rfl (zLE c1.symm (zLE (show fn172 [ρ 1] (γ 1) = (0, 1, γ 2) from l0.symm) (zLV (γ 2) rfl (zIP zQ1_ (zLE m0 (zLE (zF1_ok l1) ?_)))))))
  refine zLE (zF2_ok l2) (zLE c3.symm ?_)
  rfl
theorem yn218 {S : Nat → zSpc} (hS172 : zIm S 172 sn172) : ∀ x g o v gz, zSem uW uT w218_.2.2.2.1 w218_.2.2.1.1.length S q218 (fun i => q218a.getD i []) (zNA a218_) x g o v gz → sn218 x g o v gz := by
  intro a g o v gz h
  exact zSem_all (l0 := q218) (las := q218a) (S := S) (J := (fun _ _ _ => True)) (P := sn218 a g) (fun _ => (show zAll _ [q218_0, q218_1] from (zAll_c (vn218_0 hS172) (zAll_c (vn218_1 hS172) zAll_n)))) (fun _ => (show zAllI _ 0 [] from trivial)) h
theorem vn219_0 {S : Nat → zSpc} (hS100 : zIm S 100 sn100) (hS172 : zIm S 172 sn172) {a : List Int} {g : rHp} : ∀ (ρ : Nat → Int) (γ : Nat → rHp), zO 2 S a g q219_0 ρ γ → zGl (fun _ _ _ => True) (sn219 a g) q219_0 ρ γ := by
  intro ρ γ h
  obtain ⟨ha, hg, hr, hf, hm, hc, hl⟩ := h
  have ha : a = [ρ 0, ρ 1] := ha
  subst ha
  subst hg
  have l0 : sn172 [ρ 1] (γ 0) 0 0 (γ 1) := hS172 _ _ _ _ _ (zAllA hl 0)
  show sn219 [ρ 0, ρ 1] (γ 0) 0 0 (γ 1)
  refine Eq.symm ?_
  show fn219 [ρ 0, ρ 1] (γ 0) = _
  unfold fn219
  refine zLV (ρ 0) rfl (zLV (ρ 1) rfl (zLE (show fn172 [ρ 1] (γ 0) = (0, 0, γ 1) from l0.symm) (zLV (γ 1) rfl (zIN zQ0_ ?_))))
  rfl
theorem vn219_1 {S : Nat → zSpc} (hS100 : zIm S 100 sn100) (hS172 : zIm S 172 sn172) {a : List Int} {g : rHp} : ∀ (ρ : Nat → Int) (γ : Nat → rHp), zO 2 S a g q219_1 ρ γ → zGl (fun _ _ _ => True) (sn219 a g) q219_1 ρ γ := by
  intro ρ γ h
  obtain ⟨ha, hg, hr, hf, hm, hc, hl⟩ := h
  have ha : a = [ρ 0, ρ 1] := ha
  subst ha
  subst hg
  have r2 : (0 : Int) ≤ ρ 2 ∧ ρ 2 ≤ 0 := zRnA hr 2
  have w_0 : ρ 2 = 0 := by omega
  have m0 : γ 0 36 0 (ρ 0) = ρ 2 := zAllA hm 0
  have c2 : γ 2 = rUp (γ 1) 35 0 (ρ 0) (ρ 3) := And.right (zChA hc 1)
  have c3 : γ 3 = rUp (γ 2) 36 0 (ρ 0) 1 := And.right (zChA hc 0)
  have l0 : sn172 [ρ 1] (γ 0) 0 1 (γ 1) := hS172 _ _ _ _ _ (zAllA hl 0)
  have l1 : zOpP (.l2i) (γ 0) (γ 1) [ρ 1] (ρ 3) := zAllA hl 1
  show sn219 [ρ 0, ρ 1] (γ 0) 0 0 (γ 3)
  refine Eq.symm ?_
  show fn219 [ρ 0, ρ 1] (γ 0) = _
  unfold fn219
  refine zLV (ρ 0) rfl (zLV (ρ 1) rfl (zLE (show fn172 [ρ 1] (γ 0) = (0, 1, γ 1) from l0.symm) (zLV (γ 1) rfl (zIP zQ1_ (zLE m0 (zIP w_0 (zLE (zF1_ok l1) ?_)))))))
  refine zLE c2.symm (zLE c3.symm ?_)
  rfl
theorem vn219_2 {S : Nat → zSpc} (hS100 : zIm S 100 sn100) (hS172 : zIm S 172 sn172) {a : List Int} {g : rHp} : ∀ (ρ : Nat → Int) (γ : Nat → rHp), zO 2 S a g q219_2 ρ γ → zGl (fun _ _ _ => True) (sn219 a g) q219_2 ρ γ := by
  intro ρ γ h
  obtain ⟨ha, hg, hr, hf, hm, hc, hl⟩ := h
  have ha : a = [ρ 0, ρ 1] := ha
  subst ha
  subst hg
  have r2 : (1 : Int) ≤ ρ 2 ∧ ρ 2 ≤ 1 := zRnA hr 2
  have f0 : (0 : Int) ≤ ρ 4 + -ρ 3 := zAllA hf 0
  obtain ⟨w_0, w_1⟩ : (¬ (ρ 2 = 0)) ∧ (0 ≤ ρ 4 + -ρ 3) := ⟨by omega, by omega⟩
  have m0 : γ 0 36 0 (ρ 0) = ρ 2 := zAllA hm 0
  have m1 : γ 0 35 0 (ρ 0) = ρ 3 := zAllA hm 1
  have c3 : γ 3 = rUp (γ 2) 35 0 (ρ 0) (ρ 3) := And.right (zChA hc 1)
  have c4 : γ 4 = rUp (γ 3) 36 0 (ρ 0) 1 := And.right (zChA hc 0)
  have l0 : sn172 [ρ 1] (γ 0) 0 1 (γ 1) := hS172 _ _ _ _ _ (zAllA hl 0)
  have l1 : zOpP (.l2i) (γ 0) (γ 1) [ρ 1] (ρ 4) := zAllA hl 1
  have l2 : sn100 [ρ 3, ρ 4] (γ 1) 0 (ρ 3) (γ 2) := hS100 _ _ _ _ _ (zAllA hl 2)
  show sn219 [ρ 0, ρ 1] (γ 0) 0 0 (γ 4)
  refine Eq.symm ?_
  show fn219 [ρ 0, ρ 1] (γ 0) = _
  unfold fn219
  refine zLV (ρ 0) rfl (zLV (ρ 1) rfl (zLE (show fn172 [ρ 1] (γ 0) = (0, 1, γ 1) from l0.symm) (zLV (γ 1) rfl (zIP zQ1_ (zLE m0 (zIN w_0 (zLE m1 ?_)))))))
  refine zLE (zF1_ok l1) (zLE (show fn100 [ρ 3, ρ 4] (γ 1) = (0, ρ 3, γ 2) from l2.symm) (zLV (γ 2) rfl (zIP w_1 (zLE c3.symm (zLE c4.symm ?_)))))
  rfl
theorem vn219_3 {S : Nat → zSpc} (hS100 : zIm S 100 sn100) (hS172 : zIm S 172 sn172) {a : List Int} {g : rHp} : ∀ (ρ : Nat → Int) (γ : Nat → rHp), zO 2 S a g q219_3 ρ γ → zGl (fun _ _ _ => True) (sn219 a g) q219_3 ρ γ := by
  intro ρ γ h
  obtain ⟨ha, hg, hr, hf, hm, hc, hl⟩ := h
  have ha : a = [ρ 0, ρ 1] := ha
  subst ha
  subst hg
  have r2 : (1 : Int) ≤ ρ 2 ∧ ρ 2 ≤ 1 := zRnA hr 2
  have f0 : (0 : Int) ≤ -ρ 4 + ρ 3 + (-1) := zAllA hf 0
  obtain ⟨w_0, w_1⟩ : (¬ (ρ 2 = 0)) ∧ (¬ (0 ≤ ρ 4 + -ρ 3)) := ⟨by omega, by omega⟩
  have m0 : γ 0 36 0 (ρ 0) = ρ 2 := zAllA hm 0
  have m1 : γ 0 35 0 (ρ 0) = ρ 3 := zAllA hm 1
  have c3 : γ 3 = rUp (γ 2) 35 0 (ρ 0) (ρ 4) := And.right (zChA hc 1)
  have c4 : γ 4 = rUp (γ 3) 36 0 (ρ 0) 1 := And.right (zChA hc 0)
  have l0 : sn172 [ρ 1] (γ 0) 0 1 (γ 1) := hS172 _ _ _ _ _ (zAllA hl 0)
  have l1 : zOpP (.l2i) (γ 0) (γ 1) [ρ 1] (ρ 4) := zAllA hl 1
  have l2 : sn100 [ρ 3, ρ 4] (γ 1) 0 (ρ 4) (γ 2) := hS100 _ _ _ _ _ (zAllA hl 2)
  show sn219 [ρ 0, ρ 1] (γ 0) 0 0 (γ 4)
  refine Eq.symm ?_
  show fn219 [ρ 0, ρ 1] (γ 0) = _
  unfold fn219
  refine zLV (ρ 0) rfl (zLV (ρ 1) rfl (zLE (show fn172 [ρ 1] (γ 0) = (0, 1, γ 1) from l0.symm) (zLV (γ 1) rfl (zIP zQ1_ (zLE m0 (zIN w_0 (zLE m1 ?_)))))))
  refine zLE (zF1_ok l1) (zLE (show fn100 [ρ 3, ρ 4] (γ 1) = (0, ρ 4, γ 2) from l2.symm) (zLV (γ 2) rfl (zIN w_1 (zLE c3.symm (zLE c4.symm ?_)))))
  rfl
theorem yn219 {S : Nat → zSpc} (hS100 : zIm S 100 sn100) (hS172 : zIm S 172 sn172) : ∀ x g o v gz, zSem uW uT w219_.2.2.2.1 w219_.2.2.1.1.length S q219 (fun i => q219a.getD i []) (zNA a219_) x g o v gz → sn219 x g o v gz := by
  intro a g o v gz h
  exact zSem_all (l0 := q219) (las := q219a) (S := S) (J := (fun _ _ _ => True)) (P := sn219 a g) (fun _ => (show zAll _ [q219_0, q219_1, q219_2, q219_3] from (zAll_c (vn219_0 hS100 hS172) (zAll_c (vn219_1 hS100 hS172) (zAll_c (vn219_2 hS100 hS172) (zAll_c (vn219_3 hS100 hS172) zAll_n)))))) (fun _ => (show zAllI _ 0 [] from trivial)) h
theorem vn220_0 {S : Nat → zSpc} (hS101 : zIm S 101 sn101) (hS172 : zIm S 172 sn172) {a : List Int} {g : rHp} : ∀ (ρ : Nat → Int) (γ : Nat → rHp), zO 2 S a g q220_0 ρ γ → zGl (fun _ _ _ => True) (sn220 a g) q220_0 ρ γ := by
  intro ρ γ h
  obtain ⟨ha, hg, hr, hf, hm, hc, hl⟩ := h
  have ha : a = [ρ 0, ρ 1] := ha
  subst ha
  subst hg
  have l0 : sn172 [ρ 1] (γ 0) 0 0 (γ 1) := hS172 _ _ _ _ _ (zAllA hl 0)
  show sn220 [ρ 0, ρ 1] (γ 0) 0 0 (γ 1)
  refine Eq.symm ?_
  show fn220 [ρ 0, ρ 1] (γ 0) = _
  unfold fn220
  refine zLV (ρ 0) rfl (zLV (ρ 1) rfl (zLE (show fn172 [ρ 1] (γ 0) = (0, 0, γ 1) from l0.symm) (zLV (γ 1) rfl (zIN zQ0_ ?_))))
  rfl
theorem vn220_1 {S : Nat → zSpc} (hS101 : zIm S 101 sn101) (hS172 : zIm S 172 sn172) {a : List Int} {g : rHp} : ∀ (ρ : Nat → Int) (γ : Nat → rHp), zO 2 S a g q220_1 ρ γ → zGl (fun _ _ _ => True) (sn220 a g) q220_1 ρ γ := by
  intro ρ γ h
  obtain ⟨ha, hg, hr, hf, hm, hc, hl⟩ := h
  have ha : a = [ρ 0, ρ 1] := ha
  subst ha
  subst hg
  have r2 : (0 : Int) ≤ ρ 2 ∧ ρ 2 ≤ 0 := zRnA hr 2
  have w_0 : ρ 2 = 0 := by omega
  have m0 : γ 0 36 0 (ρ 0) = ρ 2 := zAllA hm 0
  have c2 : γ 2 = rUp (γ 1) 35 0 (ρ 0) (ρ 3) := And.right (zChA hc 1)
  have c3 : γ 3 = rUp (γ 2) 36 0 (ρ 0) 1 := And.right (zChA hc 0)
  have l0 : sn172 [ρ 1] (γ 0) 0 1 (γ 1) := hS172 _ _ _ _ _ (zAllA hl 0)
  have l1 : zOpP (.l2i) (γ 0) (γ 1) [ρ 1] (ρ 3) := zAllA hl 1
  show sn220 [ρ 0, ρ 1] (γ 0) 0 0 (γ 3)
  refine Eq.symm ?_
  show fn220 [ρ 0, ρ 1] (γ 0) = _
  unfold fn220
  refine zLV (ρ 0) rfl (zLV (ρ 1) rfl (zLE (show fn172 [ρ 1] (γ 0) = (0, 1, γ 1) from l0.symm) (zLV (γ 1) rfl (zIP zQ1_ (zLE m0 (zIP w_0 (zLE (zF1_ok l1) ?_)))))))
  refine zLE c2.symm (zLE c3.symm ?_)
  rfl
theorem vn220_2 {S : Nat → zSpc} (hS101 : zIm S 101 sn101) (hS172 : zIm S 172 sn172) {a : List Int} {g : rHp} : ∀ (ρ : Nat → Int) (γ : Nat → rHp), zO 2 S a g q220_2 ρ γ → zGl (fun _ _ _ => True) (sn220 a g) q220_2 ρ γ := by
  intro ρ γ h
  obtain ⟨ha, hg, hr, hf, hm, hc, hl⟩ := h
  have ha : a = [ρ 0, ρ 1] := ha
  subst ha
  subst hg
  have r2 : (1 : Int) ≤ ρ 2 ∧ ρ 2 ≤ 1 := zRnA hr 2
  have f0 : (0 : Int) ≤ -ρ 4 + ρ 3 := zAllA hf 0
  obtain ⟨w_0, w_1⟩ : (¬ (ρ 2 = 0)) ∧ (0 ≤ -ρ 4 + ρ 3) := ⟨by omega, by omega⟩
  have m0 : γ 0 36 0 (ρ 0) = ρ 2 := zAllA hm 0
  have m1 : γ 0 35 0 (ρ 0) = ρ 3 := zAllA hm 1
  have c3 : γ 3 = rUp (γ 2) 35 0 (ρ 0) (ρ 3) := And.right (zChA hc 1)
  have c4 : γ 4 = rUp (γ 3) 36 0 (ρ 0) 1 := And.right (zChA hc 0)
  have l0 : sn172 [ρ 1] (γ 0) 0 1 (γ 1) := hS172 _ _ _ _ _ (zAllA hl 0)
  have l1 : zOpP (.l2i) (γ 0) (γ 1) [ρ 1] (ρ 4) := zAllA hl 1
  have l2 : sn101 [ρ 3, ρ 4] (γ 1) 0 (ρ 3) (γ 2) := hS101 _ _ _ _ _ (zAllA hl 2)
  show sn220 [ρ 0, ρ 1] (γ 0) 0 0 (γ 4)
  refine Eq.symm ?_
  show fn220 [ρ 0, ρ 1] (γ 0) = _
  unfold fn220
  refine zLV (ρ 0) rfl (zLV (ρ 1) rfl (zLE (show fn172 [ρ 1] (γ 0) = (0, 1, γ 1) from l0.symm) (zLV (γ 1) rfl (zIP zQ1_ (zLE m0 (zIN w_0 (zLE m1 ?_)))))))
  refine zLE (zF1_ok l1) (zLE (show fn101 [ρ 3, ρ 4] (γ 1) = (0, ρ 3, γ 2) from l2.symm) (zLV (γ 2) rfl (zIP w_1 (zLE c3.symm (zLE c4.symm ?_)))))
  rfl
theorem vn220_3 {S : Nat → zSpc} (hS101 : zIm S 101 sn101) (hS172 : zIm S 172 sn172) {a : List Int} {g : rHp} : ∀ (ρ : Nat → Int) (γ : Nat → rHp), zO 2 S a g q220_3 ρ γ → zGl (fun _ _ _ => True) (sn220 a g) q220_3 ρ γ := by
  intro ρ γ h
  obtain ⟨ha, hg, hr, hf, hm, hc, hl⟩ := h
  have ha : a = [ρ 0, ρ 1] := ha
  subst ha
  subst hg
  have r2 : (1 : Int) ≤ ρ 2 ∧ ρ 2 ≤ 1 := zRnA hr 2
  have f0 : (0 : Int) ≤ ρ 4 + -ρ 3 + (-1) := zAllA hf 0
  obtain ⟨w_0, w_1⟩ : (¬ (ρ 2 = 0)) ∧ (¬ (0 ≤ -ρ 4 + ρ 3)) := ⟨by omega, by omega⟩
  have m0 : γ 0 36 0 (ρ 0) = ρ 2 := zAllA hm 0
  have m1 : γ 0 35 0 (ρ 0) = ρ 3 := zAllA hm 1
  have c3 : γ 3 = rUp (γ 2) 35 0 (ρ 0) (ρ 4) := And.right (zChA hc 1)
  have c4 : γ 4 = rUp (γ 3) 36 0 (ρ 0) 1 := And.right (zChA hc 0)
  have l0 : sn172 [ρ 1] (γ 0) 0 1 (γ 1) := hS172 _ _ _ _ _ (zAllA hl 0)
  have l1 : zOpP (.l2i) (γ 0) (γ 1) [ρ 1] (ρ 4) := zAllA hl 1
  have l2 : sn101 [ρ 3, ρ 4] (γ 1) 0 (ρ 4) (γ 2) := hS101 _ _ _ _ _ (zAllA hl 2)
  show sn220 [ρ 0, ρ 1] (γ 0) 0 0 (γ 4)
  refine Eq.symm ?_
  show fn220 [ρ 0, ρ 1] (γ 0) = _
  unfold fn220
  refine zLV (ρ 0) rfl (zLV (ρ 1) rfl (zLE (show fn172 [ρ 1] (γ 0) = (0, 1, γ 1) from l0.symm) (zLV (γ 1) rfl (zIP zQ1_ (zLE m0 (zIN w_0 (zLE m1 ?_)))))))
  refine zLE (zF1_ok l1) (zLE (show fn101 [ρ 3, ρ 4] (γ 1) = (0, ρ 4, γ 2) from l2.symm) (zLV (γ 2) rfl (zIN w_1 (zLE c3.symm (zLE c4.symm ?_)))))
  rfl
theorem yn220 {S : Nat → zSpc} (hS101 : zIm S 101 sn101) (hS172 : zIm S 172 sn172) : ∀ x g o v gz, zSem uW uT w220_.2.2.2.1 w220_.2.2.1.1.length S q220 (fun i => q220a.getD i []) (zNA a220_) x g o v gz → sn220 x g o v gz := by
  intro a g o v gz h
  exact zSem_all (l0 := q220) (las := q220a) (S := S) (J := (fun _ _ _ => True)) (P := sn220 a g) (fun _ => (show zAll _ [q220_0, q220_1, q220_2, q220_3] from (zAll_c (vn220_0 hS101 hS172) (zAll_c (vn220_1 hS101 hS172) (zAll_c (vn220_2 hS101 hS172) (zAll_c (vn220_3 hS101 hS172) zAll_n)))))) (fun _ => (show zAllI _ 0 [] from trivial)) h
