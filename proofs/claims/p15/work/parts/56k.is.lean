/-! ===== the runs are the functions ===== -/
theorem vn50_0 {S : Nat → zSpc}  {a : List Int} {g : rHp} : ∀ (ρ : Nat → Int) (γ : Nat → rHp), zO 1 S a g q50_0 ρ γ → zGl (fun _ _ _ => True) (sn50 a g) q50_0 ρ γ := by
  intro ρ γ h
  obtain ⟨ha, hg, hr, hf, hm, hc, hl⟩ := h
  have ha : a = [ρ 0] := ha
  subst ha
  subst hg
  have c1 : γ 1 = rUp (γ 0) 15 0 59 0 := And.right (zChA hc 1)
  have c2 : γ 2 = rUp (γ 1) 15 0 93 0 := And.right (zChA hc 0)
  show sn50 [ρ 0] (γ 0) 0 0 (γ 2)
  refine Eq.symm ?_
  show fn50 [] (γ 0) = _
  unfold fn50
  refine zLE c1.symm (zLE c2.symm ?_)
  rfl
theorem yn50 {S : Nat → zSpc}  : ∀ x g o v gz, zSem uW uT w50_.2.2.2.1 w50_.2.2.1.1.length S q50 (fun i => q50a.getD i []) (zNA a50_) x g o v gz → sn50 x g o v gz := by
  intro a g o v gz h
  exact zSem_all (l0 := q50) (las := q50a) (S := S) (J := (fun _ _ _ => True)) (P := sn50 a g) (fun _ => (show zAll _ [q50_0] from (zAll_c (vn50_0 ) zAll_n))) (fun _ => (show zAllI _ 0 [] from trivial)) h
theorem vn51_0 {S : Nat → zSpc} (hS5 : zIm S 5 sn5) (hS7 : zIm S 7 sn7) (hS49 : zIm S 49 sn49) (hS50 : zIm S 50 sn50) {a : List Int} {g : rHp} : ∀ (ρ : Nat → Int) (γ : Nat → rHp), zO 25 S a g q51_0 ρ γ → zGl (fun i vs g1 => jn51 a g i vs g1) (sn51 a g) q51_0 ρ γ := by
  intro ρ γ h
  obtain ⟨ha, hg, hr, hf, hm, hc, hl⟩ := h
  have ha : a = [ρ 0, ρ 1, ρ 2, ρ 3, ρ 4, ρ 5, ρ 6, ρ 7, ρ 8, ρ 9, ρ 10, ρ 11, ρ 12, ρ 13, ρ 14, ρ 15, ρ 16, ρ 17, ρ 18, ρ 19, ρ 20, ρ 21, ρ 22, ρ 23, ρ 24] := ha
  subst ha
  subst hg
  have m9 : γ 0 15 0 13 = ρ 9 := zAllA hm 9
  have c1 : γ 1 = rUp (γ 0) 15 0 0 0 := And.right (zChA hc 5)
  have c3 : γ 3 = rUp (γ 2) 15 0 14 (ρ 9) := And.right (zChA hc 3)
  have c4 : γ 4 = rUp (γ 3) 15 0 18 0 := And.right (zChA hc 2)
  have c5 : γ 5 = rUp (γ 4) 15 0 33 0 := And.right (zChA hc 1)
  have l0 : sn5 [ρ 2, ρ 4, ρ 3] (γ 1) 0 0 (γ 2) := hS5 _ _ _ _ _ (zAllA hl 0)
  have l1 : sn7 [0, ρ 2] (γ 5) 0 0 (γ 6) := hS7 _ _ _ _ _ (zAllA hl 1)
  show jn51 [ρ 0, ρ 1, ρ 2, ρ 3, ρ 4, ρ 5, ρ 6, ρ 7, ρ 8, ρ 9, ρ 10, ρ 11, ρ 12, ρ 13, ρ 14, ρ 15, ρ 16, ρ 17, ρ 18, ρ 19, ρ 20, ρ 21, ρ 22, ρ 23, ρ 24] (γ 0) 0 [ρ 0, ρ 1, ρ 2, ρ 3, ρ 4, ρ 5, ρ 6, ρ 7, ρ 8, ρ 9, ρ 10, ρ 11, ρ 12, ρ 13, ρ 14, ρ 15, ρ 16, ρ 17, ρ 18, ρ 19, ρ 20, ρ 21, ρ 22, ρ 23, ρ 24, 0, ρ 0, ρ 1, 0, ρ 25, 0, 0, ρ 9, 0, ρ 13, ρ 14, ρ 15, ρ 16, ρ 17, ρ 18, ρ 19, ρ 20, ρ 21, ρ 22, ρ 23] (γ 6)
  have hD : dn51 [] (γ 0) = .inl (0, [0], γ 6) := by
    unfold dn51
    refine zLE m9 (zLE c1.symm (zLE (show fn5 [] (γ 1) = (0, 0, γ 2) from l0.symm) (zLV (γ 2) rfl (zLE c3.symm (zLE c4.symm (zLE c5.symm (zLE (show fn7 [] (γ 5) = (0, 0, γ 6) from l1.symm) ?_)))))))
    refine zLV (γ 6) rfl ?_
    rfl
  exact zGoo_to hD
theorem vn51a0_0 {S : Nat → zSpc} (hS5 : zIm S 5 sn5) (hS7 : zIm S 7 sn7) (hS49 : zIm S 49 sn49) (hS50 : zIm S 50 sn50) {a : List Int} {g : rHp} : ∀ (ρ : Nat → Int) (γ : Nat → rHp), jn51 a g 0 (zAg (zNA a51_ 0) ρ) (γ 1) → zO 25 S a g q51a0_0 ρ γ → zGl (fun i vs g1 => jn51 a g i vs g1) (sn51 a g) q51a0_0 ρ γ := by
  intro ρ γ hJ h
  obtain ⟨ha, hg, hr, hf, hm, hc, hl⟩ := h
  have ha : a = [ρ 0, ρ 1, ρ 2, ρ 3, ρ 4, ρ 5, ρ 6, ρ 7, ρ 8, ρ 9, ρ 10, ρ 11, ρ 12, ρ 13, ρ 14, ρ 15, ρ 16, ρ 17, ρ 18, ρ 19, ρ 20, ρ 21, ρ 22, ρ 23, ρ 24] := ha
  subst ha
  subst hg
  have hJ : jn51 [ρ 0, ρ 1, ρ 2, ρ 3, ρ 4, ρ 5, ρ 6, ρ 7, ρ 8, ρ 9, ρ 10, ρ 11, ρ 12, ρ 13, ρ 14, ρ 15, ρ 16, ρ 17, ρ 18, ρ 19, ρ 20, ρ 21, ρ 22, ρ 23, ρ 24] (γ 0) 0 [ρ 0, ρ 1, ρ 2, ρ 3, ρ 4, ρ 5, ρ 6, ρ 7, ρ 8, ρ 9, ρ 10, ρ 11, ρ 12, ρ 13, ρ 14, ρ 15, ρ 16, ρ 17, ρ 18, ρ 19, ρ 20, ρ 21, ρ 22, ρ 23, ρ 24, ρ 25, ρ 26, ρ 27, ρ 28, ρ 29, ρ 30, ρ 31, ρ 32, ρ 33, ρ 34, ρ 35, ρ 36, ρ 37, ρ 38, ρ 39, ρ 40, ρ 41, ρ 42, ρ 43, ρ 44] (γ 1) := hJ
  have f0 : (0 : Int) ≤ -ρ 31 + -ρ 30 := zAllA hf 0
  have f1 : (0 : Int) ≤ ρ 29 + -ρ 2 := zAllA hf 1
  obtain ⟨w_0, w_1⟩ : (ρ 29 ≥ ρ 2) ∧ (ρ 31 + ρ 30 ≤ 0) := ⟨by omega, by omega⟩
  have m2 : γ 0 15 0 3 = ρ 2 := zAllA hm 2
  have m5 : γ 0 15 0 32 = ρ 5 := zAllA hm 5
  have m6 : γ 0 15 0 17 = ρ 6 := zAllA hm 6
  have m9 : γ 0 15 0 13 = ρ 9 := zAllA hm 9
  have m28 : γ 1 15 0 35 = ρ 29 := zAllA hm 28
  have m30 : γ 1 15 0 18 = ρ 30 := zAllA hm 30
  have m31 : γ 1 15 0 33 = ρ 31 := zAllA hm 31
  have m32 : γ 1 15 0 14 = ρ 32 := zAllA hm 32
  have c2 : γ 2 = rUp (γ 1) 15 0 13 (ρ 32) := And.right (zChA hc 2)
  have c3 : γ 3 = rUp (γ 2) 15 0 17 (ρ 30 + ρ 6) := And.right (zChA hc 1)
  have c4 : γ 4 = rUp (γ 3) 15 0 32 (ρ 31 + ρ 5) := And.right (zChA hc 0)
  show sn51 [ρ 0, ρ 1, ρ 2, ρ 3, ρ 4, ρ 5, ρ 6, ρ 7, ρ 8, ρ 9, ρ 10, ρ 11, ρ 12, ρ 13, ρ 14, ρ 15, ρ 16, ρ 17, ρ 18, ρ 19, ρ 20, ρ 21, ρ 22, ρ 23, ρ 24] (γ 0) 0 (ρ 25) (γ 4)
  have hD : en51 (γ 0) (0, [ρ 25], γ 1) = .inr (0, ρ 25, γ 4) := by
    unfold en51
    refine zIP (show (0 : Nat) = 0 by decide) (zLV (γ 1) rfl (zLV (ρ 25) rfl (zLE m2 (zLE m5 (zLE m6 (zLE m9 (zLE m28 ?_)))))))
    refine zLE m30 (zLE m31 (zLE m32 (zIP w_0 (zLE c2.symm (zLE c3.symm (zLE c4.symm (zIP w_1 ?_)))))))
    rfl
  exact zGoo_aend hJ hD
theorem vn51a0_1 {S : Nat → zSpc} (hS5 : zIm S 5 sn5) (hS7 : zIm S 7 sn7) (hS49 : zIm S 49 sn49) (hS50 : zIm S 50 sn50) {a : List Int} {g : rHp} : ∀ (ρ : Nat → Int) (γ : Nat → rHp), jn51 a g 0 (zAg (zNA a51_ 0) ρ) (γ 1) → zO 25 S a g q51a0_1 ρ γ → zGl (fun i vs g1 => jn51 a g i vs g1) (sn51 a g) q51a0_1 ρ γ := by
  intro ρ γ hJ h
  obtain ⟨ha, hg, hr, hf, hm, hc, hl⟩ := h
  have ha : a = [ρ 0, ρ 1, ρ 2, ρ 3, ρ 4, ρ 5, ρ 6, ρ 7, ρ 8, ρ 9, ρ 10, ρ 11, ρ 12, ρ 13, ρ 14, ρ 15, ρ 16, ρ 17, ρ 18, ρ 19, ρ 20, ρ 21, ρ 22, ρ 23, ρ 24] := ha
  subst ha
  subst hg
  have hJ : jn51 [ρ 0, ρ 1, ρ 2, ρ 3, ρ 4, ρ 5, ρ 6, ρ 7, ρ 8, ρ 9, ρ 10, ρ 11, ρ 12, ρ 13, ρ 14, ρ 15, ρ 16, ρ 17, ρ 18, ρ 19, ρ 20, ρ 21, ρ 22, ρ 23, ρ 24] (γ 0) 0 [ρ 0, ρ 1, ρ 2, ρ 3, ρ 4, ρ 5, ρ 6, ρ 7, ρ 8, ρ 9, ρ 10, ρ 11, ρ 12, ρ 13, ρ 14, ρ 15, ρ 16, ρ 17, ρ 18, ρ 19, ρ 20, ρ 21, ρ 22, ρ 23, ρ 24, ρ 25, ρ 26, ρ 27, ρ 28, ρ 29, ρ 30, ρ 31, ρ 32, ρ 33, ρ 34, ρ 35, ρ 36, ρ 37, ρ 38, ρ 39, ρ 40, ρ 41, ρ 42, ρ 43, ρ 44] (γ 1) := hJ
  have f0 : (0 : Int) ≤ ρ 31 + ρ 30 + (-1) := zAllA hf 0
  have f1 : (0 : Int) ≤ ρ 29 + -ρ 2 := zAllA hf 1
  obtain ⟨w_0, w_1⟩ : (ρ 29 ≥ ρ 2) ∧ (¬ (ρ 31 + ρ 30 ≤ 0)) := ⟨by omega, by omega⟩
  have m2 : γ 0 15 0 3 = ρ 2 := zAllA hm 2
  have m5 : γ 0 15 0 32 = ρ 5 := zAllA hm 5
  have m6 : γ 0 15 0 17 = ρ 6 := zAllA hm 6
  have m9 : γ 0 15 0 13 = ρ 9 := zAllA hm 9
  have m28 : γ 1 15 0 35 = ρ 29 := zAllA hm 28
  have m30 : γ 1 15 0 18 = ρ 30 := zAllA hm 30
  have m31 : γ 1 15 0 33 = ρ 31 := zAllA hm 31
  have m32 : γ 1 15 0 14 = ρ 32 := zAllA hm 32
  have c2 : γ 2 = rUp (γ 1) 15 0 13 (ρ 32) := And.right (zChA hc 3)
  have c3 : γ 3 = rUp (γ 2) 15 0 17 (ρ 30 + ρ 6) := And.right (zChA hc 2)
  have c4 : γ 4 = rUp (γ 3) 15 0 32 (ρ 31 + ρ 5) := And.right (zChA hc 1)
  have l0 : sn50 [ρ 24] (γ 4) 0 0 (γ 5) := hS50 _ _ _ _ _ (zAllA hl 0)
  show sn51 [ρ 0, ρ 1, ρ 2, ρ 3, ρ 4, ρ 5, ρ 6, ρ 7, ρ 8, ρ 9, ρ 10, ρ 11, ρ 12, ρ 13, ρ 14, ρ 15, ρ 16, ρ 17, ρ 18, ρ 19, ρ 20, ρ 21, ρ 22, ρ 23, ρ 24] (γ 0) 0 (ρ 25) (γ 5)
  have hD : en51 (γ 0) (0, [ρ 25], γ 1) = .inr (0, ρ 25, γ 5) := by
    unfold en51
    refine zIP (show (0 : Nat) = 0 by decide) (zLV (γ 1) rfl (zLV (ρ 25) rfl (zLE m2 (zLE m5 (zLE m6 (zLE m9 (zLE m28 ?_)))))))
    refine zLE m30 (zLE m31 (zLE m32 (zIP w_0 (zLE c2.symm (zLE c3.symm (zLE c4.symm (zIN w_1 ?_)))))))
    refine zLE (show fn50 [] (γ 4) = (0, 0, γ 5) from l0.symm) (zLV (γ 5) rfl ?_)
    rfl
  exact zGoo_aend hJ hD
theorem vn51a0_2 {S : Nat → zSpc} (hS5 : zIm S 5 sn5) (hS7 : zIm S 7 sn7) (hS49 : zIm S 49 sn49) (hS50 : zIm S 50 sn50) {a : List Int} {g : rHp} : ∀ (ρ : Nat → Int) (γ : Nat → rHp), jn51 a g 0 (zAg (zNA a51_ 0) ρ) (γ 1) → zO 25 S a g q51a0_2 ρ γ → zGl (fun i vs g1 => jn51 a g i vs g1) (sn51 a g) q51a0_2 ρ γ := by
  intro ρ γ hJ h
  obtain ⟨ha, hg, hr, hf, hm, hc, hl⟩ := h
  have ha : a = [ρ 0, ρ 1, ρ 2, ρ 3, ρ 4, ρ 5, ρ 6, ρ 7, ρ 8, ρ 9, ρ 10, ρ 11, ρ 12, ρ 13, ρ 14, ρ 15, ρ 16, ρ 17, ρ 18, ρ 19, ρ 20, ρ 21, ρ 22, ρ 23, ρ 24] := ha
  subst ha
  subst hg
  have hJ : jn51 [ρ 0, ρ 1, ρ 2, ρ 3, ρ 4, ρ 5, ρ 6, ρ 7, ρ 8, ρ 9, ρ 10, ρ 11, ρ 12, ρ 13, ρ 14, ρ 15, ρ 16, ρ 17, ρ 18, ρ 19, ρ 20, ρ 21, ρ 22, ρ 23, ρ 24] (γ 0) 0 [ρ 0, ρ 1, ρ 2, ρ 3, ρ 4, ρ 5, ρ 6, ρ 7, ρ 8, ρ 9, ρ 10, ρ 11, ρ 12, ρ 13, ρ 14, ρ 15, ρ 16, ρ 17, ρ 18, ρ 19, ρ 20, ρ 21, ρ 22, ρ 23, ρ 24, ρ 25, ρ 26, ρ 27, ρ 28, ρ 29, ρ 30, ρ 31, ρ 32, ρ 33, ρ 34, ρ 35, ρ 36, ρ 37, ρ 38, ρ 39, ρ 40, ρ 41, ρ 42, ρ 43, ρ 44] (γ 1) := hJ
  have f15 : (0 : Int) ≤ -ρ 29 + ρ 2 + (-1) := zAllA hf 15
  have w_0 : ¬ (ρ 29 ≥ ρ 2) := by omega
  have m2 : γ 0 15 0 3 = ρ 2 := zAllA hm 2
  have m5 : γ 0 15 0 32 = ρ 5 := zAllA hm 5
  have m6 : γ 0 15 0 17 = ρ 6 := zAllA hm 6
  have m9 : γ 0 15 0 13 = ρ 9 := zAllA hm 9
  have m28 : γ 1 15 0 35 = ρ 29 := zAllA hm 28
  have m30 : γ 1 15 0 18 = ρ 30 := zAllA hm 30
  have m31 : γ 1 15 0 33 = ρ 31 := zAllA hm 31
  have m32 : γ 1 15 0 14 = ρ 32 := zAllA hm 32
  have m60 : γ 2 15 0 36 = ρ 57 := zAllA hm 60
  have c3 : γ 3 = rUp (γ 2) 15 0 14 (ρ 9) := And.right (zChA hc 0)
  have l0 : sn49 [ρ 29, ρ 2, ρ 26, ρ 27, ρ 5, ρ 31, ρ 6, ρ 30, ρ 32, ρ 44, ρ 37, ρ 45, ρ 42, ρ 43, ρ 46, ρ 12, ρ 34, ρ 35, ρ 36, ρ 38, ρ 39, ρ 40, ρ 41] (γ 1) 0 0 (γ 2) := hS49 _ _ _ _ _ (zAllA hl 0)
  show sn51 [ρ 0, ρ 1, ρ 2, ρ 3, ρ 4, ρ 5, ρ 6, ρ 7, ρ 8, ρ 9, ρ 10, ρ 11, ρ 12, ρ 13, ρ 14, ρ 15, ρ 16, ρ 17, ρ 18, ρ 19, ρ 20, ρ 21, ρ 22, ρ 23, ρ 24] (γ 0) 0 (-ρ 57 + (-1)) (γ 3)
  have hD : en51 (γ 0) (0, [ρ 25], γ 1) = .inr (0, -ρ 57 + (-1), γ 3) := by
    unfold en51
    refine zIP (show (0 : Nat) = 0 by decide) (zLV (γ 1) rfl (zLV (ρ 25) rfl (zLE m2 (zLE m5 (zLE m6 (zLE m9 (zLE m28 ?_)))))))
    refine zLE m30 (zLE m31 (zLE m32 (zIN w_0 (zLE (show fn49 [] (γ 1) = (0, 0, γ 2) from l0.symm) (zLV (γ 2) rfl (zIN zQ0_ (zLE m60 ?_)))))))
    refine zLE c3.symm ?_
    rfl
  exact zGoo_aend hJ hD
theorem vn51a0_3 {S : Nat → zSpc} (hS5 : zIm S 5 sn5) (hS7 : zIm S 7 sn7) (hS49 : zIm S 49 sn49) (hS50 : zIm S 50 sn50) {a : List Int} {g : rHp} : ∀ (ρ : Nat → Int) (γ : Nat → rHp), jn51 a g 0 (zAg (zNA a51_ 0) ρ) (γ 1) → zO 25 S a g q51a0_3 ρ γ → zGl (fun i vs g1 => jn51 a g i vs g1) (sn51 a g) q51a0_3 ρ γ := by
  intro ρ γ hJ h
  obtain ⟨ha, hg, hr, hf, hm, hc, hl⟩ := h
  have ha : a = [ρ 0, ρ 1, ρ 2, ρ 3, ρ 4, ρ 5, ρ 6, ρ 7, ρ 8, ρ 9, ρ 10, ρ 11, ρ 12, ρ 13, ρ 14, ρ 15, ρ 16, ρ 17, ρ 18, ρ 19, ρ 20, ρ 21, ρ 22, ρ 23, ρ 24] := ha
  subst ha
  subst hg
  have hJ : jn51 [ρ 0, ρ 1, ρ 2, ρ 3, ρ 4, ρ 5, ρ 6, ρ 7, ρ 8, ρ 9, ρ 10, ρ 11, ρ 12, ρ 13, ρ 14, ρ 15, ρ 16, ρ 17, ρ 18, ρ 19, ρ 20, ρ 21, ρ 22, ρ 23, ρ 24] (γ 0) 0 [ρ 0, ρ 1, ρ 2, ρ 3, ρ 4, ρ 5, ρ 6, ρ 7, ρ 8, ρ 9, ρ 10, ρ 11, ρ 12, ρ 13, ρ 14, ρ 15, ρ 16, ρ 17, ρ 18, ρ 19, ρ 20, ρ 21, ρ 22, ρ 23, ρ 24, ρ 25, ρ 26, ρ 27, ρ 28, ρ 29, ρ 30, ρ 31, ρ 32, ρ 33, ρ 34, ρ 35, ρ 36, ρ 37, ρ 38, ρ 39, ρ 40, ρ 41, ρ 42, ρ 43, ρ 44] (γ 1) := hJ
  have f22 : (0 : Int) ≤ -ρ 29 + ρ 2 + (-1) := zAllA hf 22
  have w_0 : ¬ (ρ 29 ≥ ρ 2) := by omega
  have m2 : γ 0 15 0 3 = ρ 2 := zAllA hm 2
  have m5 : γ 0 15 0 32 = ρ 5 := zAllA hm 5
  have m6 : γ 0 15 0 17 = ρ 6 := zAllA hm 6
  have m9 : γ 0 15 0 13 = ρ 9 := zAllA hm 9
  have m28 : γ 1 15 0 35 = ρ 29 := zAllA hm 28
  have m30 : γ 1 15 0 18 = ρ 30 := zAllA hm 30
  have m31 : γ 1 15 0 33 = ρ 31 := zAllA hm 31
  have m32 : γ 1 15 0 14 = ρ 32 := zAllA hm 32
  have l0 : sn49 [ρ 29, ρ 2, ρ 26, ρ 27, ρ 5, ρ 31, ρ 6, ρ 30, ρ 32, ρ 44, ρ 37, ρ 45, ρ 42, ρ 43, ρ 46, ρ 12, ρ 34, ρ 35, ρ 36, ρ 38, ρ 39, ρ 40, ρ 41] (γ 1) 0 1 (γ 2) := hS49 _ _ _ _ _ (zAllA hl 0)
  have l1 : sn7 [ρ 47, ρ 2] (γ 2) 0 0 (γ 3) := hS7 _ _ _ _ _ (zAllA hl 1)
  show jn51 [ρ 0, ρ 1, ρ 2, ρ 3, ρ 4, ρ 5, ρ 6, ρ 7, ρ 8, ρ 9, ρ 10, ρ 11, ρ 12, ρ 13, ρ 14, ρ 15, ρ 16, ρ 17, ρ 18, ρ 19, ρ 20, ρ 21, ρ 22, ρ 23, ρ 24] (γ 0) 0 [ρ 0, ρ 1, ρ 2, ρ 3, ρ 4, ρ 5, ρ 6, ρ 7, ρ 8, ρ 9, ρ 10, ρ 11, ρ 12, ρ 13, ρ 14, ρ 15, ρ 16, ρ 17, ρ 18, ρ 19, ρ 20, ρ 21, ρ 22, ρ 23, ρ 24, ρ 25 + 1, ρ 48, ρ 49, ρ 28, ρ 66, ρ 51, ρ 50, ρ 52, ρ 33, ρ 59, ρ 60, ρ 61, ρ 54, ρ 62, ρ 63, ρ 64, ρ 65, ρ 56, ρ 57, ρ 53] (γ 3)
  have hD : en51 (γ 0) (0, [ρ 25], γ 1) = .inl (0, [ρ 25 + 1], γ 3) := by
    unfold en51
    refine zIP (show (0 : Nat) = 0 by decide) (zLV (γ 1) rfl (zLV (ρ 25) rfl (zLE m2 (zLE m5 (zLE m6 (zLE m9 (zLE m28 ?_)))))))
    refine zLE m30 (zLE m31 (zLE m32 (zIN w_0 (zLE (show fn49 [] (γ 1) = (0, 1, γ 2) from l0.symm) (zLV (γ 2) rfl (zIP zQ1_ (zLE (show fn7 [] (γ 2) = (0, 0, γ 3) from l1.symm) ?_)))))))
    refine zLV (γ 3) rfl ?_
    rfl
  exact zGoo_ato hJ hD
theorem yn51 {S : Nat → zSpc} (hS5 : zIm S 5 sn5) (hS7 : zIm S 7 sn7) (hS49 : zIm S 49 sn49) (hS50 : zIm S 50 sn50) : ∀ x g o v gz, zSem uW uT w51_.2.2.2.1 w51_.2.2.1.1.length S q51 (fun i => q51a.getD i []) (zNA a51_) x g o v gz → sn51 x g o v gz := by
  intro a g o v gz h
  exact zSem_all (l0 := q51) (las := q51a) (S := S) (J := (fun i vs g1 => jn51 a g i vs g1)) (P := sn51 a g) (fun _ => (show zAll _ [q51_0] from (zAll_c (vn51_0 hS5 hS7 hS49 hS50) zAll_n))) (fun _ => (show zAllI _ 0 [q51a0] from ⟨(show zAll _ [q51a0_0, q51a0_1, q51a0_2, q51a0_3] from (zAll_c (vn51a0_0 hS5 hS7 hS49 hS50) (zAll_c (vn51a0_1 hS5 hS7 hS49 hS50) (zAll_c (vn51a0_2 hS5 hS7 hS49 hS50) (zAll_c (vn51a0_3 hS5 hS7 hS49 hS50) zAll_n))))), trivial⟩)) h
theorem vn52_0 {S : Nat → zSpc} (hS5 : zIm S 5 sn5) (hS6 : zIm S 6 sn6) (hS7 : zIm S 7 sn7) (hS8 : zIm S 8 sn8) (hS21 : zIm S 21 sn21) (hS27 : zIm S 27 sn27) (hS31 : zIm S 31 sn31) (hS32 : zIm S 32 sn32) (hS45 : zIm S 45 sn45) (hS50 : zIm S 50 sn50) {a : List Int} {g : rHp} : ∀ (ρ : Nat → Int) (γ : Nat → rHp), zO 22 S a g q52_0 ρ γ → zGl (fun i vs g1 => jn52 a g i vs g1) (sn52 a g) q52_0 ρ γ := by
  intro ρ γ h
  obtain ⟨ha, hg, hr, hf, hm, hc, hl⟩ := h
  have ha : a = [ρ 0, ρ 1, ρ 2, ρ 3, ρ 4, ρ 5, ρ 6, ρ 7, ρ 8, ρ 9, ρ 10, ρ 11, ρ 12, ρ 13, ρ 14, ρ 15, ρ 16, ρ 17, ρ 18, ρ 19, ρ 20, ρ 21] := ha
  subst ha
  subst hg
  have m2 : γ 0 15 0 3 = ρ 2 := zAllA hm 2
  have m4 : γ 0 15 0 13 = ρ 4 := zAllA hm 4
  have m6 : γ 0 15 0 17 = ρ 6 := zAllA hm 6
  have m34 : γ 5 15 0 36 = ρ 28 := zAllA hm 34
  have c1 : γ 1 = rUp (γ 0) 15 0 0 0 := And.right (zChA hc 4)
  have c3 : γ 3 = rUp (γ 2) 15 0 14 (ρ 4) := And.right (zChA hc 2)
  have l0 : sn5 [ρ 2, ρ 7, ρ 8] (γ 1) 0 0 (γ 2) := hS5 _ _ _ _ _ (zAllA hl 0)
  have l1 : sn32 [61, ρ 13, ρ 14, ρ 20] (γ 3) 0 0 (γ 4) := hS32 _ _ _ _ _ (zAllA hl 1)
  have l2 : sn27 [0, ρ 2, ρ 0, ρ 1, 0, ρ 18, ρ 19, ρ 9, ρ 10, ρ 11, ρ 12, 61, 0, ρ 15, ρ 16, ρ 17] (γ 4) 0 0 (γ 5) := hS27 _ _ _ _ _ (zAllA hl 2)
  show sn52 [ρ 0, ρ 1, ρ 2, ρ 3, ρ 4, ρ 5, ρ 6, ρ 7, ρ 8, ρ 9, ρ 10, ρ 11, ρ 12, ρ 13, ρ 14, ρ 15, ρ 16, ρ 17, ρ 18, ρ 19, ρ 20, ρ 21] (γ 0) 0 (-ρ 28 + (-1)) (γ 5)
  have hD : dn52 [] (γ 0) = .inr (0, -ρ 28 + (-1), γ 5) := by
    unfold dn52
    refine zLE m2 (zLE m4 (zLE m6 (zLE c1.symm (zLE (show fn5 [] (γ 1) = (0, 0, γ 2) from l0.symm) (zLV (γ 2) rfl (zLE c3.symm (zLE (show fn32 [61] (γ 3) = (0, 0, γ 4) from l1.symm) ?_)))))))
    refine zLV (γ 4) rfl (zLE (show fn27 [] (γ 4) = (0, 0, γ 5) from l2.symm) (zLV (γ 5) rfl (zIN zQ0_ (zLE m34 ?_))))
    rfl
  exact zGoo_end hD
theorem vn52_1 {S : Nat → zSpc} (hS5 : zIm S 5 sn5) (hS6 : zIm S 6 sn6) (hS7 : zIm S 7 sn7) (hS8 : zIm S 8 sn8) (hS21 : zIm S 21 sn21) (hS27 : zIm S 27 sn27) (hS31 : zIm S 31 sn31) (hS32 : zIm S 32 sn32) (hS45 : zIm S 45 sn45) (hS50 : zIm S 50 sn50) {a : List Int} {g : rHp} : ∀ (ρ : Nat → Int) (γ : Nat → rHp), zO 22 S a g q52_1 ρ γ → zGl (fun i vs g1 => jn52 a g i vs g1) (sn52 a g) q52_1 ρ γ := by
  intro ρ γ h
  obtain ⟨ha, hg, hr, hf, hm, hc, hl⟩ := h
  have ha : a = [ρ 0, ρ 1, ρ 2, ρ 3, ρ 4, ρ 5, ρ 6, ρ 7, ρ 8, ρ 9, ρ 10, ρ 11, ρ 12, ρ 13, ρ 14, ρ 15, ρ 16, ρ 17, ρ 18, ρ 19, ρ 20, ρ 21] := ha
  subst ha
  subst hg
  have r35 : ((-128) : Int) ≤ ρ 35 ∧ ρ 35 ≤ 127 := zRnA hr 35
  have f2 : (0 : Int) ≤ -ρ 34 + ρ 2 + (-1) := zAllA hf 2
  have w_0 : 0 ≤ -ρ 34 + ρ 2 + (-1) := by omega
  have m2 : γ 0 15 0 3 = ρ 2 := zAllA hm 2
  have m4 : γ 0 15 0 13 = ρ 4 := zAllA hm 4
  have m6 : γ 0 15 0 17 = ρ 6 := zAllA hm 6
  have m38 : γ 5 15 0 46 = ρ 31 := zAllA hm 38
  have m39 : γ 5 15 0 47 = ρ 32 := zAllA hm 39
  have m40 : γ 5 15 0 48 = ρ 33 := zAllA hm 40
  have m41 : γ 6 15 0 35 = ρ 34 := zAllA hm 41
  have m42 : γ 8 15 0 36 = ρ 36 := zAllA hm 42
  have c1 : γ 1 = rUp (γ 0) 15 0 0 0 := And.right (zChA hc 7)
  have c3 : γ 3 = rUp (γ 2) 15 0 14 (ρ 4) := And.right (zChA hc 5)
  have l0 : sn5 [ρ 2, ρ 7, ρ 8] (γ 1) 0 0 (γ 2) := hS5 _ _ _ _ _ (zAllA hl 0)
  have l1 : sn32 [61, ρ 13, ρ 14, ρ 20] (γ 3) 0 0 (γ 4) := hS32 _ _ _ _ _ (zAllA hl 1)
  have l2 : sn27 [0, ρ 2, ρ 0, ρ 1, 0, ρ 18, ρ 19, ρ 9, ρ 10, ρ 11, ρ 12, 61, 0, ρ 15, ρ 16, ρ 17] (γ 4) 0 1 (γ 5) := hS27 _ _ _ _ _ (zAllA hl 2)
  have l3 : sn7 [ρ 22, ρ 2] (γ 5) 0 0 (γ 6) := hS7 _ _ _ _ _ (zAllA hl 3)
  have l4 : sn6 [ρ 34, ρ 2] (γ 6) 0 (ρ 35) (γ 7) := hS6 _ _ _ _ _ (zAllA hl 4)
  have l5 : ρ 35 ≠ 46 := zAllA hl 5
  have l6 : sn8 [ρ 34, ρ 2, ρ 9] (γ 7) 0 0 (γ 8) := hS8 _ _ _ _ _ (zAllA hl 6)
  have wl_0 : ρ 35 ≠ 46 := by omega
  show sn52 [ρ 0, ρ 1, ρ 2, ρ 3, ρ 4, ρ 5, ρ 6, ρ 7, ρ 8, ρ 9, ρ 10, ρ 11, ρ 12, ρ 13, ρ 14, ρ 15, ρ 16, ρ 17, ρ 18, ρ 19, ρ 20, ρ 21] (γ 0) 0 (-ρ 36 + (-1)) (γ 8)
  have hD : dn52 [] (γ 0) = .inr (0, -ρ 36 + (-1), γ 8) := by
    unfold dn52
    refine zLE m2 (zLE m4 (zLE m6 (zLE c1.symm (zLE (show fn5 [] (γ 1) = (0, 0, γ 2) from l0.symm) (zLV (γ 2) rfl (zLE c3.symm (zLE (show fn32 [61] (γ 3) = (0, 0, γ 4) from l1.symm) ?_)))))))
    refine zLV (γ 4) rfl (zLE (show fn27 [] (γ 4) = (0, 1, γ 5) from l2.symm) (zLV (γ 5) rfl (zIP zQ1_ (zLE m38 (zLE m39 (zLE m40 (zLE (show fn7 [] (γ 5) = (0, 0, γ 6) from l3.symm) ?_)))))))
    refine zLV (γ 6) rfl (zLE m41 (zLE (show fn6 [ρ 34] (γ 6) = (0, ρ 35, γ 7) from l4.symm) (zLV (γ 7) rfl (zIP w_0 (zLV (ρ 35) rfl (zIP wl_0 (zLE (show fn8 [ρ 34] (γ 7) = (0, 0, γ 8) from l6.symm) ?_)))))))
    refine zLV (γ 8) rfl (zLE m42 ?_)
    rfl
  exact zGoo_end hD
theorem vn52_2 {S : Nat → zSpc} (hS5 : zIm S 5 sn5) (hS6 : zIm S 6 sn6) (hS7 : zIm S 7 sn7) (hS8 : zIm S 8 sn8) (hS21 : zIm S 21 sn21) (hS27 : zIm S 27 sn27) (hS31 : zIm S 31 sn31) (hS32 : zIm S 32 sn32) (hS45 : zIm S 45 sn45) (hS50 : zIm S 50 sn50) {a : List Int} {g : rHp} : ∀ (ρ : Nat → Int) (γ : Nat → rHp), zO 22 S a g q52_2 ρ γ → zGl (fun i vs g1 => jn52 a g i vs g1) (sn52 a g) q52_2 ρ γ := by
  intro ρ γ h
  obtain ⟨ha, hg, hr, hf, hm, hc, hl⟩ := h
  have ha : a = [ρ 0, ρ 1, ρ 2, ρ 3, ρ 4, ρ 5, ρ 6, ρ 7, ρ 8, ρ 9, ρ 10, ρ 11, ρ 12, ρ 13, ρ 14, ρ 15, ρ 16, ρ 17, ρ 18, ρ 19, ρ 20, ρ 21] := ha
  subst ha
  subst hg
  have r35 : (46 : Int) ≤ ρ 35 ∧ ρ 35 ≤ 46 := zRnA hr 35
  have f1 : (0 : Int) ≤ -ρ 34 + ρ 2 + (-1) := zAllA hf 1
  obtain ⟨w_0, w_1⟩ : (0 ≤ -ρ 34 + ρ 2 + (-1)) ∧ (¬ (ρ 35 ≠ 46)) := ⟨by omega, by omega⟩
  have m2 : γ 0 15 0 3 = ρ 2 := zAllA hm 2
  have m4 : γ 0 15 0 13 = ρ 4 := zAllA hm 4
  have m6 : γ 0 15 0 17 = ρ 6 := zAllA hm 6
  have m38 : γ 5 15 0 46 = ρ 31 := zAllA hm 38
  have m39 : γ 5 15 0 47 = ρ 32 := zAllA hm 39
  have m40 : γ 5 15 0 48 = ρ 33 := zAllA hm 40
  have m41 : γ 6 15 0 35 = ρ 34 := zAllA hm 41
  have m42 : γ 8 15 0 36 = ρ 36 := zAllA hm 42
  have c1 : γ 1 = rUp (γ 0) 15 0 0 0 := And.right (zChA hc 7)
  have c3 : γ 3 = rUp (γ 2) 15 0 14 (ρ 4) := And.right (zChA hc 5)
  have l0 : sn5 [ρ 2, ρ 7, ρ 8] (γ 1) 0 0 (γ 2) := hS5 _ _ _ _ _ (zAllA hl 0)
  have l1 : sn32 [61, ρ 13, ρ 14, ρ 20] (γ 3) 0 0 (γ 4) := hS32 _ _ _ _ _ (zAllA hl 1)
  have l2 : sn27 [0, ρ 2, ρ 0, ρ 1, 0, ρ 18, ρ 19, ρ 9, ρ 10, ρ 11, ρ 12, 61, 0, ρ 15, ρ 16, ρ 17] (γ 4) 0 1 (γ 5) := hS27 _ _ _ _ _ (zAllA hl 2)
  have l3 : sn7 [ρ 22, ρ 2] (γ 5) 0 0 (γ 6) := hS7 _ _ _ _ _ (zAllA hl 3)
  have l4 : sn6 [ρ 34, ρ 2] (γ 6) 0 (ρ 35) (γ 7) := hS6 _ _ _ _ _ (zAllA hl 4)
  have l5 : sn31 [ρ 2, ρ 9, ρ 33] (γ 7) 0 0 (γ 8) := hS31 _ _ _ _ _ (zAllA hl 5)
  show sn52 [ρ 0, ρ 1, ρ 2, ρ 3, ρ 4, ρ 5, ρ 6, ρ 7, ρ 8, ρ 9, ρ 10, ρ 11, ρ 12, ρ 13, ρ 14, ρ 15, ρ 16, ρ 17, ρ 18, ρ 19, ρ 20, ρ 21] (γ 0) 0 (-ρ 36 + (-1)) (γ 8)
  have hD : dn52 [] (γ 0) = .inr (0, -ρ 36 + (-1), γ 8) := by
    unfold dn52
    refine zLE m2 (zLE m4 (zLE m6 (zLE c1.symm (zLE (show fn5 [] (γ 1) = (0, 0, γ 2) from l0.symm) (zLV (γ 2) rfl (zLE c3.symm (zLE (show fn32 [61] (γ 3) = (0, 0, γ 4) from l1.symm) ?_)))))))
    refine zLV (γ 4) rfl (zLE (show fn27 [] (γ 4) = (0, 1, γ 5) from l2.symm) (zLV (γ 5) rfl (zIP zQ1_ (zLE m38 (zLE m39 (zLE m40 (zLE (show fn7 [] (γ 5) = (0, 0, γ 6) from l3.symm) ?_)))))))
    refine zLV (γ 6) rfl (zLE m41 (zLE (show fn6 [ρ 34] (γ 6) = (0, ρ 35, γ 7) from l4.symm) (zLV (γ 7) rfl (zIP w_0 (zLV (ρ 35) rfl (zIN w_1 (zLE (show fn31 [] (γ 7) = (0, 0, γ 8) from l5.symm) ?_)))))))
    refine zLV (γ 8) rfl (zIN zQ0_ (zLE m42 ?_))
    rfl
  exact zGoo_end hD
theorem vn52_3 {S : Nat → zSpc} (hS5 : zIm S 5 sn5) (hS6 : zIm S 6 sn6) (hS7 : zIm S 7 sn7) (hS8 : zIm S 8 sn8) (hS21 : zIm S 21 sn21) (hS27 : zIm S 27 sn27) (hS31 : zIm S 31 sn31) (hS32 : zIm S 32 sn32) (hS45 : zIm S 45 sn45) (hS50 : zIm S 50 sn50) {a : List Int} {g : rHp} : ∀ (ρ : Nat → Int) (γ : Nat → rHp), zO 22 S a g q52_3 ρ γ → zGl (fun i vs g1 => jn52 a g i vs g1) (sn52 a g) q52_3 ρ γ := by
  intro ρ γ h
  obtain ⟨ha, hg, hr, hf, hm, hc, hl⟩ := h
  have ha : a = [ρ 0, ρ 1, ρ 2, ρ 3, ρ 4, ρ 5, ρ 6, ρ 7, ρ 8, ρ 9, ρ 10, ρ 11, ρ 12, ρ 13, ρ 14, ρ 15, ρ 16, ρ 17, ρ 18, ρ 19, ρ 20, ρ 21] := ha
  subst ha
  subst hg
  have r35 : (46 : Int) ≤ ρ 35 ∧ ρ 35 ≤ 46 := zRnA hr 35
  have r37 : (0 : Int) ≤ ρ 37 ∧ ρ 37 ≤ 19 := zRnA hr 37
  have r38 : (0 : Int) ≤ ρ 38 ∧ ρ 38 ≤ 399 := zRnA hr 38
  have f3 : (0 : Int) ≤ -ρ 36 + ρ 2 := zAllA hf 3
  have f4 : (0 : Int) ≤ ρ 36 + -ρ 2 := zAllA hf 4
  have f5 : (0 : Int) ≤ -ρ 34 + ρ 2 + (-1) := zAllA hf 5
  obtain ⟨w_0, w_1, w_2, w_3, w_4⟩ : (0 ≤ -ρ 34 + ρ 2 + (-1)) ∧ (¬ (ρ 35 ≠ 46)) ∧ (ρ 36 = ρ 2) ∧ (ρ 37 ≥ 0) ∧ (ρ 38 ≥ 0) := ⟨by omega, by omega, by omega, by omega, by omega⟩
  have m2 : γ 0 15 0 3 = ρ 2 := zAllA hm 2
  have m4 : γ 0 15 0 13 = ρ 4 := zAllA hm 4
  have m6 : γ 0 15 0 17 = ρ 6 := zAllA hm 6
  have m38 : γ 5 15 0 46 = ρ 31 := zAllA hm 38
  have m39 : γ 5 15 0 47 = ρ 32 := zAllA hm 39
  have m40 : γ 5 15 0 48 = ρ 33 := zAllA hm 40
  have m41 : γ 6 15 0 35 = ρ 34 := zAllA hm 41
  have m43 : γ 10 15 0 35 = ρ 36 := zAllA hm 43
  have c1 : γ 1 = rUp (γ 0) 15 0 0 0 := And.right (zChA hc 12)
  have c3 : γ 3 = rUp (γ 2) 15 0 14 (ρ 4) := And.right (zChA hc 10)
  have c9 : γ 9 = rUp (γ 8) 15 0 35 (ρ 34 + 1) := And.right (zChA hc 4)
  have c13 : γ 13 = rUp (γ 12) 15 0 17 (ρ 6 + (-1)) := And.right (zChA hc 0)
  have l0 : sn5 [ρ 2, ρ 7, ρ 8] (γ 1) 0 0 (γ 2) := hS5 _ _ _ _ _ (zAllA hl 0)
  have l1 : sn32 [61, ρ 13, ρ 14, ρ 20] (γ 3) 0 0 (γ 4) := hS32 _ _ _ _ _ (zAllA hl 1)
  have l2 : sn27 [0, ρ 2, ρ 0, ρ 1, 0, ρ 18, ρ 19, ρ 9, ρ 10, ρ 11, ρ 12, 61, 0, ρ 15, ρ 16, ρ 17] (γ 4) 0 1 (γ 5) := hS27 _ _ _ _ _ (zAllA hl 2)
  have l3 : sn7 [ρ 22, ρ 2] (γ 5) 0 0 (γ 6) := hS7 _ _ _ _ _ (zAllA hl 3)
  have l4 : sn6 [ρ 34, ρ 2] (γ 6) 0 (ρ 35) (γ 7) := hS6 _ _ _ _ _ (zAllA hl 4)
  have l5 : sn31 [ρ 2, ρ 9, ρ 33] (γ 7) 0 1 (γ 8) := hS31 _ _ _ _ _ (zAllA hl 5)
  have l6 : sn7 [ρ 34 + 1, ρ 2] (γ 9) 0 0 (γ 10) := hS7 _ _ _ _ _ (zAllA hl 6)
  have l7 : sn21 [ρ 31, ρ 32, ρ 33, ρ 4] (γ 10) 0 (ρ 37) (γ 11) := hS21 _ _ _ _ _ (zAllA hl 7)
  have l8 : sn45 [ρ 37, ρ 6, ρ 33] (γ 11) 0 (ρ 38) (γ 12) := hS45 _ _ _ _ _ (zAllA hl 8)
  show jn52 [ρ 0, ρ 1, ρ 2, ρ 3, ρ 4, ρ 5, ρ 6, ρ 7, ρ 8, ρ 9, ρ 10, ρ 11, ρ 12, ρ 13, ρ 14, ρ 15, ρ 16, ρ 17, ρ 18, ρ 19, ρ 20, ρ 21] (γ 0) 0 [ρ 0, ρ 1, ρ 2, ρ 3, ρ 4, ρ 5, ρ 6, ρ 7, ρ 8, ρ 9, ρ 10, ρ 11, ρ 12, ρ 13, ρ 14, ρ 15, ρ 16, ρ 17, ρ 18, ρ 19, ρ 20, ρ 21, ρ 38, ρ 38, ρ 37, ρ 23, ρ 24, 0, 0, ρ 6 + (-1), ρ 28, ρ 29, ρ 30, 61, 0, ρ 31, ρ 32, ρ 33, ρ 26, ρ 27, ρ 25] (γ 13)
  have hD : dn52 [] (γ 0) = .inl (0, [ρ 38, ρ 38, ρ 37], γ 13) := by
    unfold dn52
    refine zLE m2 (zLE m4 (zLE m6 (zLE c1.symm (zLE (show fn5 [] (γ 1) = (0, 0, γ 2) from l0.symm) (zLV (γ 2) rfl (zLE c3.symm (zLE (show fn32 [61] (γ 3) = (0, 0, γ 4) from l1.symm) ?_)))))))
    refine zLV (γ 4) rfl (zLE (show fn27 [] (γ 4) = (0, 1, γ 5) from l2.symm) (zLV (γ 5) rfl (zIP zQ1_ (zLE m38 (zLE m39 (zLE m40 (zLE (show fn7 [] (γ 5) = (0, 0, γ 6) from l3.symm) ?_)))))))
    refine zLV (γ 6) rfl (zLE m41 (zLE (show fn6 [ρ 34] (γ 6) = (0, ρ 35, γ 7) from l4.symm) (zLV (γ 7) rfl (zIP w_0 (zLV (ρ 35) rfl (zIN w_1 (zLE (show fn31 [] (γ 7) = (0, 1, γ 8) from l5.symm) ?_)))))))
    refine zLV (γ 8) rfl (zIP zQ1_ (zLE c9.symm (zLE (show fn7 [] (γ 9) = (0, 0, γ 10) from l6.symm) (zLV (γ 10) rfl (zLE m43 (zIP w_2 (zLE (show fn21 [ρ 31, ρ 32, ρ 33] (γ 10) = (0, ρ 37, γ 11) from l7.symm) ?_)))))))
    refine zLV (γ 11) rfl (zLV (ρ 37) rfl (zIP w_3 (zLE (show fn45 [ρ 37, ρ 6] (γ 11) = (0, ρ 38, γ 12) from l8.symm) (zLV (γ 12) rfl (zLV (ρ 38) rfl (zIP w_4 (zLE c13.symm ?_)))))))
    rfl
  exact zGoo_to hD
theorem vn52_4 {S : Nat → zSpc} (hS5 : zIm S 5 sn5) (hS6 : zIm S 6 sn6) (hS7 : zIm S 7 sn7) (hS8 : zIm S 8 sn8) (hS21 : zIm S 21 sn21) (hS27 : zIm S 27 sn27) (hS31 : zIm S 31 sn31) (hS32 : zIm S 32 sn32) (hS45 : zIm S 45 sn45) (hS50 : zIm S 50 sn50) {a : List Int} {g : rHp} : ∀ (ρ : Nat → Int) (γ : Nat → rHp), zO 22 S a g q52_4 ρ γ → zGl (fun i vs g1 => jn52 a g i vs g1) (sn52 a g) q52_4 ρ γ := by
  intro ρ γ h
  obtain ⟨ha, hg, hr, hf, hm, hc, hl⟩ := h
  have ha : a = [ρ 0, ρ 1, ρ 2, ρ 3, ρ 4, ρ 5, ρ 6, ρ 7, ρ 8, ρ 9, ρ 10, ρ 11, ρ 12, ρ 13, ρ 14, ρ 15, ρ 16, ρ 17, ρ 18, ρ 19, ρ 20, ρ 21] := ha
  subst ha
  subst hg
  have r35 : (46 : Int) ≤ ρ 35 ∧ ρ 35 ≤ 46 := zRnA hr 35
  have r37 : (0 : Int) ≤ ρ 37 ∧ ρ 37 ≤ 19 := zRnA hr 37
  have r38 : ((-1) : Int) ≤ ρ 38 ∧ ρ 38 ≤ (-1) := zRnA hr 38
  have f3 : (0 : Int) ≤ -ρ 36 + ρ 2 := zAllA hf 3
  have f4 : (0 : Int) ≤ ρ 36 + -ρ 2 := zAllA hf 4
  have f5 : (0 : Int) ≤ -ρ 34 + ρ 2 + (-1) := zAllA hf 5
  obtain ⟨w_0, w_1, w_2, w_3, w_4⟩ : (0 ≤ -ρ 34 + ρ 2 + (-1)) ∧ (¬ (ρ 35 ≠ 46)) ∧ (ρ 36 = ρ 2) ∧ (ρ 37 ≥ 0) ∧ (¬ (ρ 38 ≥ 0)) := ⟨by omega, by omega, by omega, by omega, by omega⟩
  have m2 : γ 0 15 0 3 = ρ 2 := zAllA hm 2
  have m4 : γ 0 15 0 13 = ρ 4 := zAllA hm 4
  have m6 : γ 0 15 0 17 = ρ 6 := zAllA hm 6
  have m38 : γ 5 15 0 46 = ρ 31 := zAllA hm 38
  have m39 : γ 5 15 0 47 = ρ 32 := zAllA hm 39
  have m40 : γ 5 15 0 48 = ρ 33 := zAllA hm 40
  have m41 : γ 6 15 0 35 = ρ 34 := zAllA hm 41
  have m43 : γ 10 15 0 35 = ρ 36 := zAllA hm 43
  have c1 : γ 1 = rUp (γ 0) 15 0 0 0 := And.right (zChA hc 11)
  have c3 : γ 3 = rUp (γ 2) 15 0 14 (ρ 4) := And.right (zChA hc 9)
  have c9 : γ 9 = rUp (γ 8) 15 0 35 (ρ 34 + 1) := And.right (zChA hc 3)
  have l0 : sn5 [ρ 2, ρ 7, ρ 8] (γ 1) 0 0 (γ 2) := hS5 _ _ _ _ _ (zAllA hl 0)
  have l1 : sn32 [61, ρ 13, ρ 14, ρ 20] (γ 3) 0 0 (γ 4) := hS32 _ _ _ _ _ (zAllA hl 1)
  have l2 : sn27 [0, ρ 2, ρ 0, ρ 1, 0, ρ 18, ρ 19, ρ 9, ρ 10, ρ 11, ρ 12, 61, 0, ρ 15, ρ 16, ρ 17] (γ 4) 0 1 (γ 5) := hS27 _ _ _ _ _ (zAllA hl 2)
  have l3 : sn7 [ρ 22, ρ 2] (γ 5) 0 0 (γ 6) := hS7 _ _ _ _ _ (zAllA hl 3)
  have l4 : sn6 [ρ 34, ρ 2] (γ 6) 0 (ρ 35) (γ 7) := hS6 _ _ _ _ _ (zAllA hl 4)
  have l5 : sn31 [ρ 2, ρ 9, ρ 33] (γ 7) 0 1 (γ 8) := hS31 _ _ _ _ _ (zAllA hl 5)
  have l6 : sn7 [ρ 34 + 1, ρ 2] (γ 9) 0 0 (γ 10) := hS7 _ _ _ _ _ (zAllA hl 6)
  have l7 : sn21 [ρ 31, ρ 32, ρ 33, ρ 4] (γ 10) 0 (ρ 37) (γ 11) := hS21 _ _ _ _ _ (zAllA hl 7)
  have l8 : sn45 [ρ 37, ρ 6, ρ 33] (γ 11) 0 (ρ 38) (γ 12) := hS45 _ _ _ _ _ (zAllA hl 8)
  show sn52 [ρ 0, ρ 1, ρ 2, ρ 3, ρ 4, ρ 5, ρ 6, ρ 7, ρ 8, ρ 9, ρ 10, ρ 11, ρ 12, ρ 13, ρ 14, ρ 15, ρ 16, ρ 17, ρ 18, ρ 19, ρ 20, ρ 21] (γ 0) 0 0 (γ 12)
  have hD : dn52 [] (γ 0) = .inr (0, 0, γ 12) := by
    unfold dn52
    refine zLE m2 (zLE m4 (zLE m6 (zLE c1.symm (zLE (show fn5 [] (γ 1) = (0, 0, γ 2) from l0.symm) (zLV (γ 2) rfl (zLE c3.symm (zLE (show fn32 [61] (γ 3) = (0, 0, γ 4) from l1.symm) ?_)))))))
    refine zLV (γ 4) rfl (zLE (show fn27 [] (γ 4) = (0, 1, γ 5) from l2.symm) (zLV (γ 5) rfl (zIP zQ1_ (zLE m38 (zLE m39 (zLE m40 (zLE (show fn7 [] (γ 5) = (0, 0, γ 6) from l3.symm) ?_)))))))
    refine zLV (γ 6) rfl (zLE m41 (zLE (show fn6 [ρ 34] (γ 6) = (0, ρ 35, γ 7) from l4.symm) (zLV (γ 7) rfl (zIP w_0 (zLV (ρ 35) rfl (zIN w_1 (zLE (show fn31 [] (γ 7) = (0, 1, γ 8) from l5.symm) ?_)))))))
    refine zLV (γ 8) rfl (zIP zQ1_ (zLE c9.symm (zLE (show fn7 [] (γ 9) = (0, 0, γ 10) from l6.symm) (zLV (γ 10) rfl (zLE m43 (zIP w_2 (zLE (show fn21 [ρ 31, ρ 32, ρ 33] (γ 10) = (0, ρ 37, γ 11) from l7.symm) ?_)))))))
    refine zLV (γ 11) rfl (zLV (ρ 37) rfl (zIP w_3 (zLE (show fn45 [ρ 37, ρ 6] (γ 11) = (0, ρ 38, γ 12) from l8.symm) (zLV (γ 12) rfl (zLV (ρ 38) rfl (zIN w_4 ?_))))))
    rfl
  exact zGoo_end hD
theorem vn52_5 {S : Nat → zSpc} (hS5 : zIm S 5 sn5) (hS6 : zIm S 6 sn6) (hS7 : zIm S 7 sn7) (hS8 : zIm S 8 sn8) (hS21 : zIm S 21 sn21) (hS27 : zIm S 27 sn27) (hS31 : zIm S 31 sn31) (hS32 : zIm S 32 sn32) (hS45 : zIm S 45 sn45) (hS50 : zIm S 50 sn50) {a : List Int} {g : rHp} : ∀ (ρ : Nat → Int) (γ : Nat → rHp), zO 22 S a g q52_5 ρ γ → zGl (fun i vs g1 => jn52 a g i vs g1) (sn52 a g) q52_5 ρ γ := by
  intro ρ γ h
  obtain ⟨ha, hg, hr, hf, hm, hc, hl⟩ := h
  have ha : a = [ρ 0, ρ 1, ρ 2, ρ 3, ρ 4, ρ 5, ρ 6, ρ 7, ρ 8, ρ 9, ρ 10, ρ 11, ρ 12, ρ 13, ρ 14, ρ 15, ρ 16, ρ 17, ρ 18, ρ 19, ρ 20, ρ 21] := ha
  subst ha
  subst hg
  have r35 : (46 : Int) ≤ ρ 35 ∧ ρ 35 ≤ 46 := zRnA hr 35
  have r37 : ((-1) : Int) ≤ ρ 37 ∧ ρ 37 ≤ (-1) := zRnA hr 37
  have f2 : (0 : Int) ≤ -ρ 36 + ρ 2 := zAllA hf 2
  have f3 : (0 : Int) ≤ ρ 36 + -ρ 2 := zAllA hf 3
  have f4 : (0 : Int) ≤ -ρ 34 + ρ 2 + (-1) := zAllA hf 4
  obtain ⟨w_0, w_1, w_2, w_3⟩ : (0 ≤ -ρ 34 + ρ 2 + (-1)) ∧ (¬ (ρ 35 ≠ 46)) ∧ (ρ 36 = ρ 2) ∧ (¬ (ρ 37 ≥ 0)) := ⟨by omega, by omega, by omega, by omega⟩
  have m2 : γ 0 15 0 3 = ρ 2 := zAllA hm 2
  have m4 : γ 0 15 0 13 = ρ 4 := zAllA hm 4
  have m6 : γ 0 15 0 17 = ρ 6 := zAllA hm 6
  have m38 : γ 5 15 0 46 = ρ 31 := zAllA hm 38
  have m39 : γ 5 15 0 47 = ρ 32 := zAllA hm 39
  have m40 : γ 5 15 0 48 = ρ 33 := zAllA hm 40
  have m41 : γ 6 15 0 35 = ρ 34 := zAllA hm 41
  have m43 : γ 10 15 0 35 = ρ 36 := zAllA hm 43
  have c1 : γ 1 = rUp (γ 0) 15 0 0 0 := And.right (zChA hc 10)
  have c3 : γ 3 = rUp (γ 2) 15 0 14 (ρ 4) := And.right (zChA hc 8)
  have c9 : γ 9 = rUp (γ 8) 15 0 35 (ρ 34 + 1) := And.right (zChA hc 2)
  have l0 : sn5 [ρ 2, ρ 7, ρ 8] (γ 1) 0 0 (γ 2) := hS5 _ _ _ _ _ (zAllA hl 0)
  have l1 : sn32 [61, ρ 13, ρ 14, ρ 20] (γ 3) 0 0 (γ 4) := hS32 _ _ _ _ _ (zAllA hl 1)
  have l2 : sn27 [0, ρ 2, ρ 0, ρ 1, 0, ρ 18, ρ 19, ρ 9, ρ 10, ρ 11, ρ 12, 61, 0, ρ 15, ρ 16, ρ 17] (γ 4) 0 1 (γ 5) := hS27 _ _ _ _ _ (zAllA hl 2)
  have l3 : sn7 [ρ 22, ρ 2] (γ 5) 0 0 (γ 6) := hS7 _ _ _ _ _ (zAllA hl 3)
  have l4 : sn6 [ρ 34, ρ 2] (γ 6) 0 (ρ 35) (γ 7) := hS6 _ _ _ _ _ (zAllA hl 4)
  have l5 : sn31 [ρ 2, ρ 9, ρ 33] (γ 7) 0 1 (γ 8) := hS31 _ _ _ _ _ (zAllA hl 5)
  have l6 : sn7 [ρ 34 + 1, ρ 2] (γ 9) 0 0 (γ 10) := hS7 _ _ _ _ _ (zAllA hl 6)
  have l7 : sn21 [ρ 31, ρ 32, ρ 33, ρ 4] (γ 10) 0 (ρ 37) (γ 11) := hS21 _ _ _ _ _ (zAllA hl 7)
  show sn52 [ρ 0, ρ 1, ρ 2, ρ 3, ρ 4, ρ 5, ρ 6, ρ 7, ρ 8, ρ 9, ρ 10, ρ 11, ρ 12, ρ 13, ρ 14, ρ 15, ρ 16, ρ 17, ρ 18, ρ 19, ρ 20, ρ 21] (γ 0) 0 0 (γ 11)
  have hD : dn52 [] (γ 0) = .inr (0, 0, γ 11) := by
    unfold dn52
    refine zLE m2 (zLE m4 (zLE m6 (zLE c1.symm (zLE (show fn5 [] (γ 1) = (0, 0, γ 2) from l0.symm) (zLV (γ 2) rfl (zLE c3.symm (zLE (show fn32 [61] (γ 3) = (0, 0, γ 4) from l1.symm) ?_)))))))
    refine zLV (γ 4) rfl (zLE (show fn27 [] (γ 4) = (0, 1, γ 5) from l2.symm) (zLV (γ 5) rfl (zIP zQ1_ (zLE m38 (zLE m39 (zLE m40 (zLE (show fn7 [] (γ 5) = (0, 0, γ 6) from l3.symm) ?_)))))))
    refine zLV (γ 6) rfl (zLE m41 (zLE (show fn6 [ρ 34] (γ 6) = (0, ρ 35, γ 7) from l4.symm) (zLV (γ 7) rfl (zIP w_0 (zLV (ρ 35) rfl (zIN w_1 (zLE (show fn31 [] (γ 7) = (0, 1, γ 8) from l5.symm) ?_)))))))
    refine zLV (γ 8) rfl (zIP zQ1_ (zLE c9.symm (zLE (show fn7 [] (γ 9) = (0, 0, γ 10) from l6.symm) (zLV (γ 10) rfl (zLE m43 (zIP w_2 (zLE (show fn21 [ρ 31, ρ 32, ρ 33] (γ 10) = (0, ρ 37, γ 11) from l7.symm) ?_)))))))
    refine zLV (γ 11) rfl (zLV (ρ 37) rfl (zIN w_3 ?_))
    rfl
  exact zGoo_end hD
theorem vn52_6 {S : Nat → zSpc} (hS5 : zIm S 5 sn5) (hS6 : zIm S 6 sn6) (hS7 : zIm S 7 sn7) (hS8 : zIm S 8 sn8) (hS21 : zIm S 21 sn21) (hS27 : zIm S 27 sn27) (hS31 : zIm S 31 sn31) (hS32 : zIm S 32 sn32) (hS45 : zIm S 45 sn45) (hS50 : zIm S 50 sn50) {a : List Int} {g : rHp} : ∀ (ρ : Nat → Int) (γ : Nat → rHp), zO 22 S a g q52_6 ρ γ → zGl (fun i vs g1 => jn52 a g i vs g1) (sn52 a g) q52_6 ρ γ := by
  intro ρ γ h
  obtain ⟨ha, hg, hr, hf, hm, hc, hl⟩ := h
  have ha : a = [ρ 0, ρ 1, ρ 2, ρ 3, ρ 4, ρ 5, ρ 6, ρ 7, ρ 8, ρ 9, ρ 10, ρ 11, ρ 12, ρ 13, ρ 14, ρ 15, ρ 16, ρ 17, ρ 18, ρ 19, ρ 20, ρ 21] := ha
  subst ha
  subst hg
  have r35 : (46 : Int) ≤ ρ 35 ∧ ρ 35 ≤ 46 := zRnA hr 35
  have f2 : (0 : Int) ≤ -ρ 36 + ρ 2 + (-1) := zAllA hf 2
  have f3 : (0 : Int) ≤ -ρ 34 + ρ 2 + (-1) := zAllA hf 3
  obtain ⟨w_0, w_1, w_2⟩ : (0 ≤ -ρ 34 + ρ 2 + (-1)) ∧ (¬ (ρ 35 ≠ 46)) ∧ (¬ (ρ 36 = ρ 2)) := ⟨by omega, by omega, by omega⟩
  have m2 : γ 0 15 0 3 = ρ 2 := zAllA hm 2
  have m4 : γ 0 15 0 13 = ρ 4 := zAllA hm 4
  have m6 : γ 0 15 0 17 = ρ 6 := zAllA hm 6
  have m38 : γ 5 15 0 46 = ρ 31 := zAllA hm 38
  have m39 : γ 5 15 0 47 = ρ 32 := zAllA hm 39
  have m40 : γ 5 15 0 48 = ρ 33 := zAllA hm 40
  have m41 : γ 6 15 0 35 = ρ 34 := zAllA hm 41
  have m43 : γ 10 15 0 35 = ρ 36 := zAllA hm 43
  have m44 : γ 11 15 0 36 = ρ 37 := zAllA hm 44
  have c1 : γ 1 = rUp (γ 0) 15 0 0 0 := And.right (zChA hc 10)
  have c3 : γ 3 = rUp (γ 2) 15 0 14 (ρ 4) := And.right (zChA hc 8)
  have c9 : γ 9 = rUp (γ 8) 15 0 35 (ρ 34 + 1) := And.right (zChA hc 2)
  have l0 : sn5 [ρ 2, ρ 7, ρ 8] (γ 1) 0 0 (γ 2) := hS5 _ _ _ _ _ (zAllA hl 0)
  have l1 : sn32 [61, ρ 13, ρ 14, ρ 20] (γ 3) 0 0 (γ 4) := hS32 _ _ _ _ _ (zAllA hl 1)
  have l2 : sn27 [0, ρ 2, ρ 0, ρ 1, 0, ρ 18, ρ 19, ρ 9, ρ 10, ρ 11, ρ 12, 61, 0, ρ 15, ρ 16, ρ 17] (γ 4) 0 1 (γ 5) := hS27 _ _ _ _ _ (zAllA hl 2)
  have l3 : sn7 [ρ 22, ρ 2] (γ 5) 0 0 (γ 6) := hS7 _ _ _ _ _ (zAllA hl 3)
  have l4 : sn6 [ρ 34, ρ 2] (γ 6) 0 (ρ 35) (γ 7) := hS6 _ _ _ _ _ (zAllA hl 4)
  have l5 : sn31 [ρ 2, ρ 9, ρ 33] (γ 7) 0 1 (γ 8) := hS31 _ _ _ _ _ (zAllA hl 5)
  have l6 : sn7 [ρ 34 + 1, ρ 2] (γ 9) 0 0 (γ 10) := hS7 _ _ _ _ _ (zAllA hl 6)
  have l7 : sn8 [ρ 36, ρ 2, ρ 9] (γ 10) 0 0 (γ 11) := hS8 _ _ _ _ _ (zAllA hl 7)
  show sn52 [ρ 0, ρ 1, ρ 2, ρ 3, ρ 4, ρ 5, ρ 6, ρ 7, ρ 8, ρ 9, ρ 10, ρ 11, ρ 12, ρ 13, ρ 14, ρ 15, ρ 16, ρ 17, ρ 18, ρ 19, ρ 20, ρ 21] (γ 0) 0 (-ρ 37 + (-1)) (γ 11)
  have hD : dn52 [] (γ 0) = .inr (0, -ρ 37 + (-1), γ 11) := by
    unfold dn52
    refine zLE m2 (zLE m4 (zLE m6 (zLE c1.symm (zLE (show fn5 [] (γ 1) = (0, 0, γ 2) from l0.symm) (zLV (γ 2) rfl (zLE c3.symm (zLE (show fn32 [61] (γ 3) = (0, 0, γ 4) from l1.symm) ?_)))))))
    refine zLV (γ 4) rfl (zLE (show fn27 [] (γ 4) = (0, 1, γ 5) from l2.symm) (zLV (γ 5) rfl (zIP zQ1_ (zLE m38 (zLE m39 (zLE m40 (zLE (show fn7 [] (γ 5) = (0, 0, γ 6) from l3.symm) ?_)))))))
    refine zLV (γ 6) rfl (zLE m41 (zLE (show fn6 [ρ 34] (γ 6) = (0, ρ 35, γ 7) from l4.symm) (zLV (γ 7) rfl (zIP w_0 (zLV (ρ 35) rfl (zIN w_1 (zLE (show fn31 [] (γ 7) = (0, 1, γ 8) from l5.symm) ?_)))))))
    refine zLV (γ 8) rfl (zIP zQ1_ (zLE c9.symm (zLE (show fn7 [] (γ 9) = (0, 0, γ 10) from l6.symm) (zLV (γ 10) rfl (zLE m43 (zIN w_2 (zLE (show fn8 [ρ 36] (γ 10) = (0, 0, γ 11) from l7.symm) ?_)))))))
    refine zLV (γ 11) rfl (zLE m44 ?_)
    rfl
  exact zGoo_end hD
theorem vn52_7 {S : Nat → zSpc} (hS5 : zIm S 5 sn5) (hS6 : zIm S 6 sn6) (hS7 : zIm S 7 sn7) (hS8 : zIm S 8 sn8) (hS21 : zIm S 21 sn21) (hS27 : zIm S 27 sn27) (hS31 : zIm S 31 sn31) (hS32 : zIm S 32 sn32) (hS45 : zIm S 45 sn45) (hS50 : zIm S 50 sn50) {a : List Int} {g : rHp} : ∀ (ρ : Nat → Int) (γ : Nat → rHp), zO 22 S a g q52_7 ρ γ → zGl (fun i vs g1 => jn52 a g i vs g1) (sn52 a g) q52_7 ρ γ := by
  intro ρ γ h
  obtain ⟨ha, hg, hr, hf, hm, hc, hl⟩ := h
  have ha : a = [ρ 0, ρ 1, ρ 2, ρ 3, ρ 4, ρ 5, ρ 6, ρ 7, ρ 8, ρ 9, ρ 10, ρ 11, ρ 12, ρ 13, ρ 14, ρ 15, ρ 16, ρ 17, ρ 18, ρ 19, ρ 20, ρ 21] := ha
  subst ha
  subst hg
  have f2 : (0 : Int) ≤ ρ 34 + -ρ 2 := zAllA hf 2
  have w_0 : ¬ (0 ≤ -ρ 34 + ρ 2 + (-1)) := by omega
  have m2 : γ 0 15 0 3 = ρ 2 := zAllA hm 2
  have m4 : γ 0 15 0 13 = ρ 4 := zAllA hm 4
  have m6 : γ 0 15 0 17 = ρ 6 := zAllA hm 6
  have m38 : γ 5 15 0 46 = ρ 31 := zAllA hm 38
  have m39 : γ 5 15 0 47 = ρ 32 := zAllA hm 39
  have m40 : γ 5 15 0 48 = ρ 33 := zAllA hm 40
  have m41 : γ 6 15 0 35 = ρ 34 := zAllA hm 41
  have m42 : γ 8 15 0 36 = ρ 35 := zAllA hm 42
  have c1 : γ 1 = rUp (γ 0) 15 0 0 0 := And.right (zChA hc 7)
  have c3 : γ 3 = rUp (γ 2) 15 0 14 (ρ 4) := And.right (zChA hc 5)
  have l0 : sn5 [ρ 2, ρ 7, ρ 8] (γ 1) 0 0 (γ 2) := hS5 _ _ _ _ _ (zAllA hl 0)
  have l1 : sn32 [61, ρ 13, ρ 14, ρ 20] (γ 3) 0 0 (γ 4) := hS32 _ _ _ _ _ (zAllA hl 1)
  have l2 : sn27 [0, ρ 2, ρ 0, ρ 1, 0, ρ 18, ρ 19, ρ 9, ρ 10, ρ 11, ρ 12, 61, 0, ρ 15, ρ 16, ρ 17] (γ 4) 0 1 (γ 5) := hS27 _ _ _ _ _ (zAllA hl 2)
  have l3 : sn7 [ρ 22, ρ 2] (γ 5) 0 0 (γ 6) := hS7 _ _ _ _ _ (zAllA hl 3)
  have l4 : sn6 [ρ 34, ρ 2] (γ 6) 0 (-1) (γ 7) := hS6 _ _ _ _ _ (zAllA hl 4)
  have l5 : sn8 [ρ 34, ρ 2, ρ 9] (γ 7) 0 0 (γ 8) := hS8 _ _ _ _ _ (zAllA hl 5)
  show sn52 [ρ 0, ρ 1, ρ 2, ρ 3, ρ 4, ρ 5, ρ 6, ρ 7, ρ 8, ρ 9, ρ 10, ρ 11, ρ 12, ρ 13, ρ 14, ρ 15, ρ 16, ρ 17, ρ 18, ρ 19, ρ 20, ρ 21] (γ 0) 0 (-ρ 35 + (-1)) (γ 8)
  have hD : dn52 [] (γ 0) = .inr (0, -ρ 35 + (-1), γ 8) := by
    unfold dn52
    refine zLE m2 (zLE m4 (zLE m6 (zLE c1.symm (zLE (show fn5 [] (γ 1) = (0, 0, γ 2) from l0.symm) (zLV (γ 2) rfl (zLE c3.symm (zLE (show fn32 [61] (γ 3) = (0, 0, γ 4) from l1.symm) ?_)))))))
    refine zLV (γ 4) rfl (zLE (show fn27 [] (γ 4) = (0, 1, γ 5) from l2.symm) (zLV (γ 5) rfl (zIP zQ1_ (zLE m38 (zLE m39 (zLE m40 (zLE (show fn7 [] (γ 5) = (0, 0, γ 6) from l3.symm) ?_)))))))
    refine zLV (γ 6) rfl (zLE m41 (zLE (show fn6 [ρ 34] (γ 6) = (0, (-1), γ 7) from l4.symm) (zLV (γ 7) rfl (zIN w_0 (zLE (show fn8 [ρ 34] (γ 7) = (0, 0, γ 8) from l5.symm) (zLV (γ 8) rfl (zLE m42 ?_)))))))
    rfl
  exact zGoo_end hD
theorem vn52a0_0 {S : Nat → zSpc} (hS5 : zIm S 5 sn5) (hS6 : zIm S 6 sn6) (hS7 : zIm S 7 sn7) (hS8 : zIm S 8 sn8) (hS21 : zIm S 21 sn21) (hS27 : zIm S 27 sn27) (hS31 : zIm S 31 sn31) (hS32 : zIm S 32 sn32) (hS45 : zIm S 45 sn45) (hS50 : zIm S 50 sn50) {a : List Int} {g : rHp} : ∀ (ρ : Nat → Int) (γ : Nat → rHp), jn52 a g 0 (zAg (zNA a52_ 0) ρ) (γ 1) → zO 22 S a g q52a0_0 ρ γ → zGl (fun i vs g1 => jn52 a g i vs g1) (sn52 a g) q52a0_0 ρ γ := by
  intro ρ γ hJ h
  obtain ⟨ha, hg, hr, hf, hm, hc, hl⟩ := h
  have ha : a = [ρ 0, ρ 1, ρ 2, ρ 3, ρ 4, ρ 5, ρ 6, ρ 7, ρ 8, ρ 9, ρ 10, ρ 11, ρ 12, ρ 13, ρ 14, ρ 15, ρ 16, ρ 17, ρ 18, ρ 19, ρ 20, ρ 21] := ha
  subst ha
  subst hg
  have hJ : jn52 [ρ 0, ρ 1, ρ 2, ρ 3, ρ 4, ρ 5, ρ 6, ρ 7, ρ 8, ρ 9, ρ 10, ρ 11, ρ 12, ρ 13, ρ 14, ρ 15, ρ 16, ρ 17, ρ 18, ρ 19, ρ 20, ρ 21] (γ 0) 0 [ρ 0, ρ 1, ρ 2, ρ 3, ρ 4, ρ 5, ρ 6, ρ 7, ρ 8, ρ 9, ρ 10, ρ 11, ρ 12, ρ 13, ρ 14, ρ 15, ρ 16, ρ 17, ρ 18, ρ 19, ρ 20, ρ 21, ρ 22, ρ 23, ρ 24, ρ 25, ρ 26, ρ 27, ρ 28, ρ 29, ρ 30, ρ 31, ρ 32, ρ 33, ρ 34, ρ 35, ρ 36, ρ 37, ρ 38, ρ 39, ρ 40] (γ 1) := hJ
  have f0 : (0 : Int) ≤ -ρ 29 + ρ 22 := zAllA hf 0
  have w_0 : ρ 22 ≥ ρ 29 := by omega
  have m27 : γ 1 15 0 17 = ρ 29 := zAllA hm 27
  have l0 : sn50 [ρ 21] (γ 1) 0 0 (γ 2) := hS50 _ _ _ _ _ (zAllA hl 0)
  show sn52 [ρ 0, ρ 1, ρ 2, ρ 3, ρ 4, ρ 5, ρ 6, ρ 7, ρ 8, ρ 9, ρ 10, ρ 11, ρ 12, ρ 13, ρ 14, ρ 15, ρ 16, ρ 17, ρ 18, ρ 19, ρ 20, ρ 21] (γ 0) 0 1 (γ 2)
  have hD : en52 (γ 0) (0, [ρ 22, ρ 23, ρ 24], γ 1) = .inr (0, 1, γ 2) := by
    unfold en52
    refine zIP (show (0 : Nat) = 0 by decide) (zLV (γ 1) rfl (zLV (ρ 22) rfl (zLV (ρ 23) rfl (zLV (ρ 24) rfl (zLE m27 (zIP w_0 (zLE (show fn50 [] (γ 1) = (0, 0, γ 2) from l0.symm) ?_)))))))
    refine zLV (γ 2) rfl ?_
    rfl
  exact zGoo_aend hJ hD
theorem vn52a0_1 {S : Nat → zSpc} (hS5 : zIm S 5 sn5) (hS6 : zIm S 6 sn6) (hS7 : zIm S 7 sn7) (hS8 : zIm S 8 sn8) (hS21 : zIm S 21 sn21) (hS27 : zIm S 27 sn27) (hS31 : zIm S 31 sn31) (hS32 : zIm S 32 sn32) (hS45 : zIm S 45 sn45) (hS50 : zIm S 50 sn50) {a : List Int} {g : rHp} : ∀ (ρ : Nat → Int) (γ : Nat → rHp), jn52 a g 0 (zAg (zNA a52_ 0) ρ) (γ 1) → zO 22 S a g q52a0_1 ρ γ → zGl (fun i vs g1 => jn52 a g i vs g1) (sn52 a g) q52a0_1 ρ γ := by
  intro ρ γ hJ h
  obtain ⟨ha, hg, hr, hf, hm, hc, hl⟩ := h
  have ha : a = [ρ 0, ρ 1, ρ 2, ρ 3, ρ 4, ρ 5, ρ 6, ρ 7, ρ 8, ρ 9, ρ 10, ρ 11, ρ 12, ρ 13, ρ 14, ρ 15, ρ 16, ρ 17, ρ 18, ρ 19, ρ 20, ρ 21] := ha
  subst ha
  subst hg
  have hJ : jn52 [ρ 0, ρ 1, ρ 2, ρ 3, ρ 4, ρ 5, ρ 6, ρ 7, ρ 8, ρ 9, ρ 10, ρ 11, ρ 12, ρ 13, ρ 14, ρ 15, ρ 16, ρ 17, ρ 18, ρ 19, ρ 20, ρ 21] (γ 0) 0 [ρ 0, ρ 1, ρ 2, ρ 3, ρ 4, ρ 5, ρ 6, ρ 7, ρ 8, ρ 9, ρ 10, ρ 11, ρ 12, ρ 13, ρ 14, ρ 15, ρ 16, ρ 17, ρ 18, ρ 19, ρ 20, ρ 21, ρ 22, ρ 23, ρ 24, ρ 25, ρ 26, ρ 27, ρ 28, ρ 29, ρ 30, ρ 31, ρ 32, ρ 33, ρ 34, ρ 35, ρ 36, ρ 37, ρ 38, ρ 39, ρ 40] (γ 1) := hJ
  have f0 : (0 : Int) ≤ ρ 29 + -ρ 22 + (-1) := zAllA hf 0
  have w_0 : ¬ (ρ 22 ≥ ρ 29) := by omega
  have m27 : γ 1 15 0 17 = ρ 29 := zAllA hm 27
  have m42 : γ 1 67 0 (ρ 22 + 1) = ρ 41 := zAllA hm 42
  have m43 : γ 1 68 0 (4 * ρ 22 + 4) = ρ 42 := zAllA hm 43
  have m44 : γ 1 68 0 (4 * ρ 22 + 5) = ρ 43 := zAllA hm 44
  have m45 : γ 1 68 0 (4 * ρ 22 + 6) = ρ 44 := zAllA hm 45
  have m46 : γ 1 68 0 (4 * ρ 22 + 7) = ρ 45 := zAllA hm 46
  have c2 : γ 2 = rUp (γ 1) 67 0 (ρ 22) (ρ 41) := And.right (zChA hc 4)
  have c3 : γ 3 = rUp (γ 2) 68 0 (4 * ρ 22) (ρ 42) := And.right (zChA hc 3)
  have c4 : γ 4 = rUp (γ 3) 68 0 (4 * ρ 22 + 1) (ρ 43) := And.right (zChA hc 2)
  have c5 : γ 5 = rUp (γ 4) 68 0 (4 * ρ 22 + 2) (ρ 44) := And.right (zChA hc 1)
  have c6 : γ 6 = rUp (γ 5) 68 0 (4 * ρ 22 + 3) (ρ 45) := And.right (zChA hc 0)
  show jn52 [ρ 0, ρ 1, ρ 2, ρ 3, ρ 4, ρ 5, ρ 6, ρ 7, ρ 8, ρ 9, ρ 10, ρ 11, ρ 12, ρ 13, ρ 14, ρ 15, ρ 16, ρ 17, ρ 18, ρ 19, ρ 20, ρ 21] (γ 0) 0 [ρ 0, ρ 1, ρ 2, ρ 3, ρ 4, ρ 5, ρ 6, ρ 7, ρ 8, ρ 9, ρ 10, ρ 11, ρ 12, ρ 13, ρ 14, ρ 15, ρ 16, ρ 17, ρ 18, ρ 19, ρ 20, ρ 21, ρ 22 + 1, ρ 23, ρ 24, ρ 25, ρ 26, ρ 27, ρ 28, ρ 29, ρ 30, ρ 31, ρ 32, ρ 33, ρ 34, ρ 35, ρ 36, ρ 37, ρ 38, ρ 39, ρ 40] (γ 6)
  have hD : en52 (γ 0) (0, [ρ 22, ρ 23, ρ 24], γ 1) = .inl (0, [ρ 22 + 1, ρ 23, ρ 24], γ 6) := by
    unfold en52
    refine zIP (show (0 : Nat) = 0 by decide) (zLV (γ 1) rfl (zLV (ρ 22) rfl (zLV (ρ 23) rfl (zLV (ρ 24) rfl (zLE m27 (zIN w_0 (zLE m42 ?_)))))))
    refine zLE c2.symm (zLE m43 (zLE c3.symm (zLE m44 (zLE c4.symm (zLE m45 (zLE c5.symm (zLE m46 ?_)))))))
    refine zLE c6.symm ?_
    rfl
  exact zGoo_ato hJ hD
theorem yn52 {S : Nat → zSpc} (hS5 : zIm S 5 sn5) (hS6 : zIm S 6 sn6) (hS7 : zIm S 7 sn7) (hS8 : zIm S 8 sn8) (hS21 : zIm S 21 sn21) (hS27 : zIm S 27 sn27) (hS31 : zIm S 31 sn31) (hS32 : zIm S 32 sn32) (hS45 : zIm S 45 sn45) (hS50 : zIm S 50 sn50) : ∀ x g o v gz, zSem uW uT w52_.2.2.2.1 w52_.2.2.1.1.length S q52 (fun i => q52a.getD i []) (zNA a52_) x g o v gz → sn52 x g o v gz := by
  intro a g o v gz h
  exact zSem_all (l0 := q52) (las := q52a) (S := S) (J := (fun i vs g1 => jn52 a g i vs g1)) (P := sn52 a g) (fun _ => (show zAll _ [q52_0, q52_1, q52_2, q52_3, q52_4, q52_5, q52_6, q52_7] from (zAll_c (vn52_0 hS5 hS6 hS7 hS8 hS21 hS27 hS31 hS32 hS45 hS50) (zAll_c (vn52_1 hS5 hS6 hS7 hS8 hS21 hS27 hS31 hS32 hS45 hS50) (zAll_c (vn52_2 hS5 hS6 hS7 hS8 hS21 hS27 hS31 hS32 hS45 hS50) (zAll_c (vn52_3 hS5 hS6 hS7 hS8 hS21 hS27 hS31 hS32 hS45 hS50) (zAll_c (vn52_4 hS5 hS6 hS7 hS8 hS21 hS27 hS31 hS32 hS45 hS50) (zAll_c (vn52_5 hS5 hS6 hS7 hS8 hS21 hS27 hS31 hS32 hS45 hS50) (zAll_c (vn52_6 hS5 hS6 hS7 hS8 hS21 hS27 hS31 hS32 hS45 hS50) (zAll_c (vn52_7 hS5 hS6 hS7 hS8 hS21 hS27 hS31 hS32 hS45 hS50) zAll_n)))))))))) (fun _ => (show zAllI _ 0 [q52a0] from ⟨(show zAll _ [q52a0_0, q52a0_1] from (zAll_c (vn52a0_0 hS5 hS6 hS7 hS8 hS21 hS27 hS31 hS32 hS45 hS50) (zAll_c (vn52a0_1 hS5 hS6 hS7 hS8 hS21 hS27 hS31 hS32 hS45 hS50) zAll_n))), trivial⟩)) h
theorem vn54_0 {S : Nat → zSpc} (hS1 : zIm S 1 sn1) (hS50 : zIm S 50 sn50) (hS53 : zIm S 53 sn53) {a : List Int} {g : rHp} : ∀ (ρ : Nat → Int) (γ : Nat → rHp), zO 4 S a g q54_0 ρ γ → zGl (fun i vs g1 => jn54 a g i vs g1) (sn54 a g) q54_0 ρ γ := by
  intro ρ γ h
  obtain ⟨ha, hg, hr, hf, hm, hc, hl⟩ := h
  have ha : a = [ρ 0, ρ 1, ρ 2, ρ 3] := ha
  subst ha
  subst hg
  have r0 : ((-2147483648) : Int) ≤ ρ 0 ∧ ρ 0 ≤ (-1) := zRnA hr 0
  have w_0 : ρ 0 < 0 := by omega
  have m1 : γ 0 15 0 32 = ρ 2 := zAllA hm 1
  have l0 : sn1 [1, ρ 1] (γ 0) 0 1 (γ 1) := hS1 _ _ _ _ _ (zAllA hl 0)
  show sn54 [ρ 0, ρ 1, ρ 2, ρ 3] (γ 0) 0 0 (γ 1)
  have hD : dn54 [ρ 0] (γ 0) = .inr (0, 0, γ 1) := by
    unfold dn54
    refine zLV (ρ 0) rfl (zLE m1 (zIP w_0 (zLE (show fn1 [1] (γ 0) = (0, 1, γ 1) from l0.symm) (zLV (γ 1) rfl ?_))))
    rfl
  exact zGoo_end hD
theorem vn54_1 {S : Nat → zSpc} (hS1 : zIm S 1 sn1) (hS50 : zIm S 50 sn50) (hS53 : zIm S 53 sn53) {a : List Int} {g : rHp} : ∀ (ρ : Nat → Int) (γ : Nat → rHp), zO 4 S a g q54_1 ρ γ → zGl (fun i vs g1 => jn54 a g i vs g1) (sn54 a g) q54_1 ρ γ := by
  intro ρ γ h
  obtain ⟨ha, hg, hr, hf, hm, hc, hl⟩ := h
  have ha : a = [ρ 0, ρ 1, ρ 2, ρ 3] := ha
  subst ha
  subst hg
  have r0 : (0 : Int) ≤ ρ 0 ∧ ρ 0 ≤ 2147483647 := zRnA hr 0
  have f0 : (0 : Int) ≤ ρ 2 + -ρ 0 + (-1) := zAllA hf 0
  obtain ⟨w_0, w_1⟩ : (¬ (ρ 0 < 0)) ∧ (ρ 0 < ρ 2) := ⟨by omega, by omega⟩
  have m1 : γ 0 15 0 32 = ρ 2 := zAllA hm 1
  have c2 : γ 2 = rUp (γ 1) 15 0 32 (ρ 2 + (-1)) := And.right (zChA hc 0)
  have l0 : sn1 [0, ρ 1] (γ 0) 0 0 (γ 1) := hS1 _ _ _ _ _ (zAllA hl 0)
  show jn54 [ρ 0, ρ 1, ρ 2, ρ 3] (γ 0) 0 [ρ 0, ρ 1, ρ 2, ρ 3, ρ 0, 0, ρ 2 + (-1)] (γ 2)
  have hD : dn54 [ρ 0] (γ 0) = .inl (0, [ρ 0, ρ 0], γ 2) := by
    unfold dn54
    refine zLV (ρ 0) rfl (zLE m1 (zIN w_0 (zIP w_1 (zLE (show fn1 [0] (γ 0) = (0, 0, γ 1) from l0.symm) (zLV (γ 1) rfl (zLE c2.symm ?_))))))
    rfl
  exact zGoo_to hD
theorem vn54_2 {S : Nat → zSpc} (hS1 : zIm S 1 sn1) (hS50 : zIm S 50 sn50) (hS53 : zIm S 53 sn53) {a : List Int} {g : rHp} : ∀ (ρ : Nat → Int) (γ : Nat → rHp), zO 4 S a g q54_2 ρ γ → zGl (fun i vs g1 => jn54 a g i vs g1) (sn54 a g) q54_2 ρ γ := by
  intro ρ γ h
  obtain ⟨ha, hg, hr, hf, hm, hc, hl⟩ := h
  have ha : a = [ρ 0, ρ 1, ρ 2, ρ 3] := ha
  subst ha
  subst hg
  have r0 : (0 : Int) ≤ ρ 0 ∧ ρ 0 ≤ 2147483647 := zRnA hr 0
  have f0 : (0 : Int) ≤ -ρ 2 + ρ 0 := zAllA hf 0
  obtain ⟨w_0, w_1⟩ : (¬ (ρ 0 < 0)) ∧ (¬ (ρ 0 < ρ 2)) := ⟨by omega, by omega⟩
  have m1 : γ 0 15 0 32 = ρ 2 := zAllA hm 1
  have l0 : sn1 [1, ρ 1] (γ 0) 0 1 (γ 1) := hS1 _ _ _ _ _ (zAllA hl 0)
  show sn54 [ρ 0, ρ 1, ρ 2, ρ 3] (γ 0) 0 0 (γ 1)
  have hD : dn54 [ρ 0] (γ 0) = .inr (0, 0, γ 1) := by
    unfold dn54
    refine zLV (ρ 0) rfl (zLE m1 (zIN w_0 (zIN w_1 (zLE (show fn1 [1] (γ 0) = (0, 1, γ 1) from l0.symm) (zLV (γ 1) rfl ?_)))))
    rfl
  exact zGoo_end hD
theorem vn54a0_0 {S : Nat → zSpc} (hS1 : zIm S 1 sn1) (hS50 : zIm S 50 sn50) (hS53 : zIm S 53 sn53) {a : List Int} {g : rHp} : ∀ (ρ : Nat → Int) (γ : Nat → rHp), jn54 a g 0 (zAg (zNA a54_ 0) ρ) (γ 1) → zO 4 S a g q54a0_0 ρ γ → zGl (fun i vs g1 => jn54 a g i vs g1) (sn54 a g) q54a0_0 ρ γ := by
  intro ρ γ hJ h
  obtain ⟨ha, hg, hr, hf, hm, hc, hl⟩ := h
  have ha : a = [ρ 0, ρ 1, ρ 2, ρ 3] := ha
  subst ha
  subst hg
  have hJ : jn54 [ρ 0, ρ 1, ρ 2, ρ 3] (γ 0) 0 [ρ 0, ρ 1, ρ 2, ρ 3, ρ 4, ρ 5, ρ 6] (γ 1) := hJ
  have f0 : (0 : Int) ≤ -ρ 6 + ρ 4 := zAllA hf 0
  have w_0 : ρ 4 ≥ ρ 6 := by omega
  have m4 : γ 1 15 0 32 = ρ 6 := zAllA hm 4
  have l0 : sn50 [ρ 3] (γ 1) 0 0 (γ 2) := hS50 _ _ _ _ _ (zAllA hl 0)
  show sn54 [ρ 0, ρ 1, ρ 2, ρ 3] (γ 0) 0 (ρ 6) (γ 2)
  have hD : en54 (γ 0) (0, [ρ 0, ρ 4], γ 1) = .inr (0, ρ 6, γ 2) := by
    unfold en54
    refine zIP (show (0 : Nat) = 0 by decide) (zLV (γ 1) rfl (zLV (ρ 0) rfl (zLV (ρ 4) rfl (zLE m4 (zIP w_0 (zLE (show fn50 [] (γ 1) = (0, 0, γ 2) from l0.symm) (zLV (γ 2) rfl ?_)))))))
    rfl
  exact zGoo_aend hJ hD
theorem vn54a0_1 {S : Nat → zSpc} (hS1 : zIm S 1 sn1) (hS50 : zIm S 50 sn50) (hS53 : zIm S 53 sn53) {a : List Int} {g : rHp} : ∀ (ρ : Nat → Int) (γ : Nat → rHp), jn54 a g 0 (zAg (zNA a54_ 0) ρ) (γ 1) → zO 4 S a g q54a0_1 ρ γ → zGl (fun i vs g1 => jn54 a g i vs g1) (sn54 a g) q54a0_1 ρ γ := by
  intro ρ γ hJ h
  obtain ⟨ha, hg, hr, hf, hm, hc, hl⟩ := h
  have ha : a = [ρ 0, ρ 1, ρ 2, ρ 3] := ha
  subst ha
  subst hg
  have hJ : jn54 [ρ 0, ρ 1, ρ 2, ρ 3] (γ 0) 0 [ρ 0, ρ 1, ρ 2, ρ 3, ρ 4, ρ 5, ρ 6] (γ 1) := hJ
  have f0 : (0 : Int) ≤ ρ 6 + -ρ 4 + (-1) := zAllA hf 0
  have w_0 : ¬ (ρ 4 ≥ ρ 6) := by omega
  have m4 : γ 1 15 0 32 = ρ 6 := zAllA hm 4
  have l0 : sn53 [ρ 4, ρ 6] (γ 1) 0 0 (γ 2) := hS53 _ _ _ _ _ (zAllA hl 0)
  show jn54 [ρ 0, ρ 1, ρ 2, ρ 3] (γ 0) 0 [ρ 0, ρ 1, ρ 2, ρ 3, ρ 4 + 1, ρ 5, ρ 6] (γ 2)
  have hD : en54 (γ 0) (0, [ρ 0, ρ 4], γ 1) = .inl (0, [ρ 0, ρ 4 + 1], γ 2) := by
    unfold en54
    refine zIP (show (0 : Nat) = 0 by decide) (zLV (γ 1) rfl (zLV (ρ 0) rfl (zLV (ρ 4) rfl (zLE m4 (zIN w_0 (zLE (show fn53 [ρ 4] (γ 1) = (0, 0, γ 2) from l0.symm) (zLV (γ 2) rfl ?_)))))))
    rfl
  exact zGoo_ato hJ hD
theorem yn54 {S : Nat → zSpc} (hS1 : zIm S 1 sn1) (hS50 : zIm S 50 sn50) (hS53 : zIm S 53 sn53) : ∀ x g o v gz, zSem uW uT w54_.2.2.2.1 w54_.2.2.1.1.length S q54 (fun i => q54a.getD i []) (zNA a54_) x g o v gz → sn54 x g o v gz := by
  intro a g o v gz h
  exact zSem_all (l0 := q54) (las := q54a) (S := S) (J := (fun i vs g1 => jn54 a g i vs g1)) (P := sn54 a g) (fun _ => (show zAll _ [q54_0, q54_1, q54_2] from (zAll_c (vn54_0 hS1 hS50 hS53) (zAll_c (vn54_1 hS1 hS50 hS53) (zAll_c (vn54_2 hS1 hS50 hS53) zAll_n))))) (fun _ => (show zAllI _ 0 [q54a0] from ⟨(show zAll _ [q54a0_0, q54a0_1] from (zAll_c (vn54a0_0 hS1 hS50 hS53) (zAll_c (vn54a0_1 hS1 hS50 hS53) zAll_n))), trivial⟩)) h
theorem vn90_0 {S : Nat → zSpc} (hS1 : zIm S 1 sn1) (hS5 : zIm S 5 sn5) (hS7 : zIm S 7 sn7) (hS8 : zIm S 8 sn8) (hS21 : zIm S 21 sn21) (hS27 : zIm S 27 sn27) (hS31 : zIm S 31 sn31) (hS32 : zIm S 32 sn32) (hS56 : zIm S 56 sn56) {a : List Int} {g : rHp} : ∀ (ρ : Nat → Int) (γ : Nat → rHp), zO 22 S a g q90_0 ρ γ → zGl (fun i vs g1 => jn90 a g i vs g1) (sn90 a g) q90_0 ρ γ := by
  intro ρ γ h
  obtain ⟨ha, hg, hr, hf, hm, hc, hl⟩ := h
  have ha : a = [ρ 0, ρ 1, ρ 2, ρ 3, ρ 4, ρ 5, ρ 6, ρ 7, ρ 8, ρ 9, ρ 10, ρ 11, ρ 12, ρ 13, ρ 14, ρ 15, ρ 16, ρ 17, ρ 18, ρ 19, ρ 20, ρ 21] := ha
  subst ha
  subst hg
  have r4 : (1 : Int) ≤ ρ 4 ∧ ρ 4 ≤ 1 := zRnA hr 4
  have w_0 : ρ 4 ≠ 0 := by omega
  have m2 : γ 0 15 0 3 = ρ 2 := zAllA hm 2
  have m3 : γ 0 15 0 13 = ρ 3 := zAllA hm 3
  have m4 : γ 0 15 0 59 = ρ 4 := zAllA hm 4
  have m35 : γ 5 15 0 36 = ρ 28 := zAllA hm 35
  have c3 : γ 3 = rUp (γ 2) 15 0 14 (ρ 3) := And.right (zChA hc 2)
  have l0 : sn5 [ρ 2, ρ 7, ρ 8] (γ 0) 0 0 (γ 1) := hS5 _ _ _ _ _ (zAllA hl 0)
  have l1 : sn1 [0, ρ 5] (γ 1) 0 0 (γ 2) := hS1 _ _ _ _ _ (zAllA hl 1)
  have l2 : sn32 [61, ρ 13, ρ 14, ρ 20] (γ 3) 0 0 (γ 4) := hS32 _ _ _ _ _ (zAllA hl 2)
  have l3 : sn27 [0, ρ 2, ρ 0, ρ 1, 0, ρ 18, ρ 19, ρ 9, ρ 10, ρ 11, ρ 12, 61, 0, ρ 15, ρ 16, ρ 17] (γ 4) 0 0 (γ 5) := hS27 _ _ _ _ _ (zAllA hl 3)
  show sn90 [ρ 0, ρ 1, ρ 2, ρ 3, ρ 4, ρ 5, ρ 6, ρ 7, ρ 8, ρ 9, ρ 10, ρ 11, ρ 12, ρ 13, ρ 14, ρ 15, ρ 16, ρ 17, ρ 18, ρ 19, ρ 20, ρ 21] (γ 0) 0 (-ρ 28 + (-2)) (γ 5)
  have hD : dn90 [] (γ 0) = .inr (0, -ρ 28 + (-2), γ 5) := by
    unfold dn90
    refine zLE m2 (zLE m3 (zLE m4 (zLE (show fn5 [] (γ 0) = (0, 0, γ 1) from l0.symm) (zLV (γ 1) rfl (zIP w_0 (zLE (show fn1 [0] (γ 1) = (0, 0, γ 2) from l1.symm) (zLV (γ 2) rfl ?_)))))))
    refine zLE c3.symm (zLE (show fn32 [61] (γ 3) = (0, 0, γ 4) from l2.symm) (zLV (γ 4) rfl (zLE (show fn27 [] (γ 4) = (0, 0, γ 5) from l3.symm) (zLV (γ 5) rfl (zIN zQ0_ (zLE m35 ?_))))))
    rfl
  exact zGoo_end hD
theorem vn90_1 {S : Nat → zSpc} (hS1 : zIm S 1 sn1) (hS5 : zIm S 5 sn5) (hS7 : zIm S 7 sn7) (hS8 : zIm S 8 sn8) (hS21 : zIm S 21 sn21) (hS27 : zIm S 27 sn27) (hS31 : zIm S 31 sn31) (hS32 : zIm S 32 sn32) (hS56 : zIm S 56 sn56) {a : List Int} {g : rHp} : ∀ (ρ : Nat → Int) (γ : Nat → rHp), zO 22 S a g q90_1 ρ γ → zGl (fun i vs g1 => jn90 a g i vs g1) (sn90 a g) q90_1 ρ γ := by
  intro ρ γ h
  obtain ⟨ha, hg, hr, hf, hm, hc, hl⟩ := h
  have ha : a = [ρ 0, ρ 1, ρ 2, ρ 3, ρ 4, ρ 5, ρ 6, ρ 7, ρ 8, ρ 9, ρ 10, ρ 11, ρ 12, ρ 13, ρ 14, ρ 15, ρ 16, ρ 17, ρ 18, ρ 19, ρ 20, ρ 21] := ha
  subst ha
  subst hg
  have r4 : (1 : Int) ≤ ρ 4 ∧ ρ 4 ≤ 1 := zRnA hr 4
  have w_0 : ρ 4 ≠ 0 := by omega
  have m2 : γ 0 15 0 3 = ρ 2 := zAllA hm 2
  have m3 : γ 0 15 0 13 = ρ 3 := zAllA hm 3
  have m4 : γ 0 15 0 59 = ρ 4 := zAllA hm 4
  have m39 : γ 5 15 0 46 = ρ 31 := zAllA hm 39
  have m40 : γ 5 15 0 47 = ρ 32 := zAllA hm 40
  have m41 : γ 5 15 0 48 = ρ 33 := zAllA hm 41
  have m42 : γ 6 15 0 36 = ρ 34 := zAllA hm 42
  have c3 : γ 3 = rUp (γ 2) 15 0 14 (ρ 3) := And.right (zChA hc 3)
  have l0 : sn5 [ρ 2, ρ 7, ρ 8] (γ 0) 0 0 (γ 1) := hS5 _ _ _ _ _ (zAllA hl 0)
  have l1 : sn1 [0, ρ 5] (γ 1) 0 0 (γ 2) := hS1 _ _ _ _ _ (zAllA hl 1)
  have l2 : sn32 [61, ρ 13, ρ 14, ρ 20] (γ 3) 0 0 (γ 4) := hS32 _ _ _ _ _ (zAllA hl 2)
  have l3 : sn27 [0, ρ 2, ρ 0, ρ 1, 0, ρ 18, ρ 19, ρ 9, ρ 10, ρ 11, ρ 12, 61, 0, ρ 15, ρ 16, ρ 17] (γ 4) 0 1 (γ 5) := hS27 _ _ _ _ _ (zAllA hl 3)
  have l4 : sn31 [ρ 2, ρ 9, ρ 33] (γ 5) 0 0 (γ 6) := hS31 _ _ _ _ _ (zAllA hl 4)
  show sn90 [ρ 0, ρ 1, ρ 2, ρ 3, ρ 4, ρ 5, ρ 6, ρ 7, ρ 8, ρ 9, ρ 10, ρ 11, ρ 12, ρ 13, ρ 14, ρ 15, ρ 16, ρ 17, ρ 18, ρ 19, ρ 20, ρ 21] (γ 0) 0 (-ρ 34 + (-2)) (γ 6)
  have hD : dn90 [] (γ 0) = .inr (0, -ρ 34 + (-2), γ 6) := by
    unfold dn90
    refine zLE m2 (zLE m3 (zLE m4 (zLE (show fn5 [] (γ 0) = (0, 0, γ 1) from l0.symm) (zLV (γ 1) rfl (zIP w_0 (zLE (show fn1 [0] (γ 1) = (0, 0, γ 2) from l1.symm) (zLV (γ 2) rfl ?_)))))))
    refine zLE c3.symm (zLE (show fn32 [61] (γ 3) = (0, 0, γ 4) from l2.symm) (zLV (γ 4) rfl (zLE (show fn27 [] (γ 4) = (0, 1, γ 5) from l3.symm) (zLV (γ 5) rfl (zIP zQ1_ (zLE m39 (zLE m40 ?_)))))))
    refine zLE m41 (zLE (show fn31 [] (γ 5) = (0, 0, γ 6) from l4.symm) (zLV (γ 6) rfl (zIN zQ0_ (zLE m42 ?_))))
    rfl
  exact zGoo_end hD
theorem vn90_2 {S : Nat → zSpc} (hS1 : zIm S 1 sn1) (hS5 : zIm S 5 sn5) (hS7 : zIm S 7 sn7) (hS8 : zIm S 8 sn8) (hS21 : zIm S 21 sn21) (hS27 : zIm S 27 sn27) (hS31 : zIm S 31 sn31) (hS32 : zIm S 32 sn32) (hS56 : zIm S 56 sn56) {a : List Int} {g : rHp} : ∀ (ρ : Nat → Int) (γ : Nat → rHp), zO 22 S a g q90_2 ρ γ → zGl (fun i vs g1 => jn90 a g i vs g1) (sn90 a g) q90_2 ρ γ := by
  intro ρ γ h
  obtain ⟨ha, hg, hr, hf, hm, hc, hl⟩ := h
  have ha : a = [ρ 0, ρ 1, ρ 2, ρ 3, ρ 4, ρ 5, ρ 6, ρ 7, ρ 8, ρ 9, ρ 10, ρ 11, ρ 12, ρ 13, ρ 14, ρ 15, ρ 16, ρ 17, ρ 18, ρ 19, ρ 20, ρ 21] := ha
  subst ha
  subst hg
  have r4 : (1 : Int) ≤ ρ 4 ∧ ρ 4 ≤ 1 := zRnA hr 4
  have r35 : (0 : Int) ≤ ρ 35 ∧ ρ 35 ≤ 19 := zRnA hr 35
  have f2 : (0 : Int) ≤ -ρ 34 + ρ 2 := zAllA hf 2
  have f3 : (0 : Int) ≤ ρ 34 + -ρ 2 := zAllA hf 3
  obtain ⟨w_0, w_1, w_2⟩ : (ρ 4 ≠ 0) ∧ (ρ 34 = ρ 2) ∧ (ρ 35 ≥ 0) := ⟨by omega, by omega, by omega⟩
  have m2 : γ 0 15 0 3 = ρ 2 := zAllA hm 2
  have m3 : γ 0 15 0 13 = ρ 3 := zAllA hm 3
  have m4 : γ 0 15 0 59 = ρ 4 := zAllA hm 4
  have m39 : γ 5 15 0 46 = ρ 31 := zAllA hm 39
  have m40 : γ 5 15 0 47 = ρ 32 := zAllA hm 40
  have m41 : γ 5 15 0 48 = ρ 33 := zAllA hm 41
  have m43 : γ 7 15 0 35 = ρ 34 := zAllA hm 43
  have c3 : γ 3 = rUp (γ 2) 15 0 14 (ρ 3) := And.right (zChA hc 5)
  have l0 : sn5 [ρ 2, ρ 7, ρ 8] (γ 0) 0 0 (γ 1) := hS5 _ _ _ _ _ (zAllA hl 0)
  have l1 : sn1 [0, ρ 5] (γ 1) 0 0 (γ 2) := hS1 _ _ _ _ _ (zAllA hl 1)
  have l2 : sn32 [61, ρ 13, ρ 14, ρ 20] (γ 3) 0 0 (γ 4) := hS32 _ _ _ _ _ (zAllA hl 2)
  have l3 : sn27 [0, ρ 2, ρ 0, ρ 1, 0, ρ 18, ρ 19, ρ 9, ρ 10, ρ 11, ρ 12, 61, 0, ρ 15, ρ 16, ρ 17] (γ 4) 0 1 (γ 5) := hS27 _ _ _ _ _ (zAllA hl 3)
  have l4 : sn31 [ρ 2, ρ 9, ρ 33] (γ 5) 0 1 (γ 6) := hS31 _ _ _ _ _ (zAllA hl 4)
  have l5 : sn7 [ρ 22, ρ 2] (γ 6) 0 0 (γ 7) := hS7 _ _ _ _ _ (zAllA hl 5)
  have l6 : sn21 [ρ 31, ρ 32, ρ 33, ρ 3] (γ 7) 0 (ρ 35) (γ 8) := hS21 _ _ _ _ _ (zAllA hl 6)
  show jn90 [ρ 0, ρ 1, ρ 2, ρ 3, ρ 4, ρ 5, ρ 6, ρ 7, ρ 8, ρ 9, ρ 10, ρ 11, ρ 12, ρ 13, ρ 14, ρ 15, ρ 16, ρ 17, ρ 18, ρ 19, ρ 20, ρ 21] (γ 0) 0 [ρ 0, ρ 1, ρ 2, ρ 3, ρ 4, ρ 5, ρ 6, ρ 7, ρ 8, ρ 9, ρ 10, ρ 11, ρ 12, ρ 13, ρ 14, ρ 15, ρ 16, ρ 17, ρ 18, ρ 19, ρ 20, ρ 21, 0, ρ 35, ρ 23, ρ 24, 0, 0, ρ 28, ρ 29, ρ 30, 61, 0, ρ 31, ρ 32, ρ 33, ρ 26, ρ 27, ρ 25] (γ 8)
  have hD : dn90 [] (γ 0) = .inl (0, [0, ρ 35], γ 8) := by
    unfold dn90
    refine zLE m2 (zLE m3 (zLE m4 (zLE (show fn5 [] (γ 0) = (0, 0, γ 1) from l0.symm) (zLV (γ 1) rfl (zIP w_0 (zLE (show fn1 [0] (γ 1) = (0, 0, γ 2) from l1.symm) (zLV (γ 2) rfl ?_)))))))
    refine zLE c3.symm (zLE (show fn32 [61] (γ 3) = (0, 0, γ 4) from l2.symm) (zLV (γ 4) rfl (zLE (show fn27 [] (γ 4) = (0, 1, γ 5) from l3.symm) (zLV (γ 5) rfl (zIP zQ1_ (zLE m39 (zLE m40 ?_)))))))
    refine zLE m41 (zLE (show fn31 [] (γ 5) = (0, 1, γ 6) from l4.symm) (zLV (γ 6) rfl (zIP zQ1_ (zLE (show fn7 [] (γ 6) = (0, 0, γ 7) from l5.symm) (zLV (γ 7) rfl (zLE m43 (zIP w_1 ?_)))))))
    refine zLE (show fn21 [ρ 31, ρ 32, ρ 33] (γ 7) = (0, ρ 35, γ 8) from l6.symm) (zLV (γ 8) rfl (zLV (ρ 35) rfl (zIP w_2 ?_)))
    rfl
  exact zGoo_to hD
theorem vn90_3 {S : Nat → zSpc} (hS1 : zIm S 1 sn1) (hS5 : zIm S 5 sn5) (hS7 : zIm S 7 sn7) (hS8 : zIm S 8 sn8) (hS21 : zIm S 21 sn21) (hS27 : zIm S 27 sn27) (hS31 : zIm S 31 sn31) (hS32 : zIm S 32 sn32) (hS56 : zIm S 56 sn56) {a : List Int} {g : rHp} : ∀ (ρ : Nat → Int) (γ : Nat → rHp), zO 22 S a g q90_3 ρ γ → zGl (fun i vs g1 => jn90 a g i vs g1) (sn90 a g) q90_3 ρ γ := by
  intro ρ γ h
  obtain ⟨ha, hg, hr, hf, hm, hc, hl⟩ := h
  have ha : a = [ρ 0, ρ 1, ρ 2, ρ 3, ρ 4, ρ 5, ρ 6, ρ 7, ρ 8, ρ 9, ρ 10, ρ 11, ρ 12, ρ 13, ρ 14, ρ 15, ρ 16, ρ 17, ρ 18, ρ 19, ρ 20, ρ 21] := ha
  subst ha
  subst hg
  have r4 : (1 : Int) ≤ ρ 4 ∧ ρ 4 ≤ 1 := zRnA hr 4
  have r35 : ((-1) : Int) ≤ ρ 35 ∧ ρ 35 ≤ (-1) := zRnA hr 35
  have f2 : (0 : Int) ≤ -ρ 34 + ρ 2 := zAllA hf 2
  have f3 : (0 : Int) ≤ ρ 34 + -ρ 2 := zAllA hf 3
  obtain ⟨w_0, w_1, w_2⟩ : (ρ 4 ≠ 0) ∧ (ρ 34 = ρ 2) ∧ (¬ (ρ 35 ≥ 0)) := ⟨by omega, by omega, by omega⟩
  have m2 : γ 0 15 0 3 = ρ 2 := zAllA hm 2
  have m3 : γ 0 15 0 13 = ρ 3 := zAllA hm 3
  have m4 : γ 0 15 0 59 = ρ 4 := zAllA hm 4
  have m39 : γ 5 15 0 46 = ρ 31 := zAllA hm 39
  have m40 : γ 5 15 0 47 = ρ 32 := zAllA hm 40
  have m41 : γ 5 15 0 48 = ρ 33 := zAllA hm 41
  have m43 : γ 7 15 0 35 = ρ 34 := zAllA hm 43
  have c3 : γ 3 = rUp (γ 2) 15 0 14 (ρ 3) := And.right (zChA hc 5)
  have l0 : sn5 [ρ 2, ρ 7, ρ 8] (γ 0) 0 0 (γ 1) := hS5 _ _ _ _ _ (zAllA hl 0)
  have l1 : sn1 [0, ρ 5] (γ 1) 0 0 (γ 2) := hS1 _ _ _ _ _ (zAllA hl 1)
  have l2 : sn32 [61, ρ 13, ρ 14, ρ 20] (γ 3) 0 0 (γ 4) := hS32 _ _ _ _ _ (zAllA hl 2)
  have l3 : sn27 [0, ρ 2, ρ 0, ρ 1, 0, ρ 18, ρ 19, ρ 9, ρ 10, ρ 11, ρ 12, 61, 0, ρ 15, ρ 16, ρ 17] (γ 4) 0 1 (γ 5) := hS27 _ _ _ _ _ (zAllA hl 3)
  have l4 : sn31 [ρ 2, ρ 9, ρ 33] (γ 5) 0 1 (γ 6) := hS31 _ _ _ _ _ (zAllA hl 4)
  have l5 : sn7 [ρ 22, ρ 2] (γ 6) 0 0 (γ 7) := hS7 _ _ _ _ _ (zAllA hl 5)
  have l6 : sn21 [ρ 31, ρ 32, ρ 33, ρ 3] (γ 7) 0 (ρ 35) (γ 8) := hS21 _ _ _ _ _ (zAllA hl 6)
  show sn90 [ρ 0, ρ 1, ρ 2, ρ 3, ρ 4, ρ 5, ρ 6, ρ 7, ρ 8, ρ 9, ρ 10, ρ 11, ρ 12, ρ 13, ρ 14, ρ 15, ρ 16, ρ 17, ρ 18, ρ 19, ρ 20, ρ 21] (γ 0) 0 (-1) (γ 8)
  have hD : dn90 [] (γ 0) = .inr (0, (-1), γ 8) := by
    unfold dn90
    refine zLE m2 (zLE m3 (zLE m4 (zLE (show fn5 [] (γ 0) = (0, 0, γ 1) from l0.symm) (zLV (γ 1) rfl (zIP w_0 (zLE (show fn1 [0] (γ 1) = (0, 0, γ 2) from l1.symm) (zLV (γ 2) rfl ?_)))))))
    refine zLE c3.symm (zLE (show fn32 [61] (γ 3) = (0, 0, γ 4) from l2.symm) (zLV (γ 4) rfl (zLE (show fn27 [] (γ 4) = (0, 1, γ 5) from l3.symm) (zLV (γ 5) rfl (zIP zQ1_ (zLE m39 (zLE m40 ?_)))))))
    refine zLE m41 (zLE (show fn31 [] (γ 5) = (0, 1, γ 6) from l4.symm) (zLV (γ 6) rfl (zIP zQ1_ (zLE (show fn7 [] (γ 6) = (0, 0, γ 7) from l5.symm) (zLV (γ 7) rfl (zLE m43 (zIP w_1 ?_)))))))
    refine zLE (show fn21 [ρ 31, ρ 32, ρ 33] (γ 7) = (0, ρ 35, γ 8) from l6.symm) (zLV (γ 8) rfl (zLV (ρ 35) rfl (zIN w_2 ?_)))
    rfl
  exact zGoo_end hD
theorem vn90_4 {S : Nat → zSpc} (hS1 : zIm S 1 sn1) (hS5 : zIm S 5 sn5) (hS7 : zIm S 7 sn7) (hS8 : zIm S 8 sn8) (hS21 : zIm S 21 sn21) (hS27 : zIm S 27 sn27) (hS31 : zIm S 31 sn31) (hS32 : zIm S 32 sn32) (hS56 : zIm S 56 sn56) {a : List Int} {g : rHp} : ∀ (ρ : Nat → Int) (γ : Nat → rHp), zO 22 S a g q90_4 ρ γ → zGl (fun i vs g1 => jn90 a g i vs g1) (sn90 a g) q90_4 ρ γ := by
  intro ρ γ h
  obtain ⟨ha, hg, hr, hf, hm, hc, hl⟩ := h
  have ha : a = [ρ 0, ρ 1, ρ 2, ρ 3, ρ 4, ρ 5, ρ 6, ρ 7, ρ 8, ρ 9, ρ 10, ρ 11, ρ 12, ρ 13, ρ 14, ρ 15, ρ 16, ρ 17, ρ 18, ρ 19, ρ 20, ρ 21] := ha
  subst ha
  subst hg
  have r4 : (1 : Int) ≤ ρ 4 ∧ ρ 4 ≤ 1 := zRnA hr 4
  have f2 : (0 : Int) ≤ -ρ 34 + ρ 2 + (-1) := zAllA hf 2
  obtain ⟨w_0, w_1⟩ : (ρ 4 ≠ 0) ∧ (¬ (ρ 34 = ρ 2)) := ⟨by omega, by omega⟩
  have m2 : γ 0 15 0 3 = ρ 2 := zAllA hm 2
  have m3 : γ 0 15 0 13 = ρ 3 := zAllA hm 3
  have m4 : γ 0 15 0 59 = ρ 4 := zAllA hm 4
  have m39 : γ 5 15 0 46 = ρ 31 := zAllA hm 39
  have m40 : γ 5 15 0 47 = ρ 32 := zAllA hm 40
  have m41 : γ 5 15 0 48 = ρ 33 := zAllA hm 41
  have m43 : γ 7 15 0 35 = ρ 34 := zAllA hm 43
  have m44 : γ 8 15 0 36 = ρ 35 := zAllA hm 44
  have c3 : γ 3 = rUp (γ 2) 15 0 14 (ρ 3) := And.right (zChA hc 5)
  have l0 : sn5 [ρ 2, ρ 7, ρ 8] (γ 0) 0 0 (γ 1) := hS5 _ _ _ _ _ (zAllA hl 0)
  have l1 : sn1 [0, ρ 5] (γ 1) 0 0 (γ 2) := hS1 _ _ _ _ _ (zAllA hl 1)
  have l2 : sn32 [61, ρ 13, ρ 14, ρ 20] (γ 3) 0 0 (γ 4) := hS32 _ _ _ _ _ (zAllA hl 2)
  have l3 : sn27 [0, ρ 2, ρ 0, ρ 1, 0, ρ 18, ρ 19, ρ 9, ρ 10, ρ 11, ρ 12, 61, 0, ρ 15, ρ 16, ρ 17] (γ 4) 0 1 (γ 5) := hS27 _ _ _ _ _ (zAllA hl 3)
  have l4 : sn31 [ρ 2, ρ 9, ρ 33] (γ 5) 0 1 (γ 6) := hS31 _ _ _ _ _ (zAllA hl 4)
  have l5 : sn7 [ρ 22, ρ 2] (γ 6) 0 0 (γ 7) := hS7 _ _ _ _ _ (zAllA hl 5)
  have l6 : sn8 [ρ 34, ρ 2, ρ 9] (γ 7) 0 0 (γ 8) := hS8 _ _ _ _ _ (zAllA hl 6)
  show sn90 [ρ 0, ρ 1, ρ 2, ρ 3, ρ 4, ρ 5, ρ 6, ρ 7, ρ 8, ρ 9, ρ 10, ρ 11, ρ 12, ρ 13, ρ 14, ρ 15, ρ 16, ρ 17, ρ 18, ρ 19, ρ 20, ρ 21] (γ 0) 0 (-ρ 35 + (-2)) (γ 8)
  have hD : dn90 [] (γ 0) = .inr (0, -ρ 35 + (-2), γ 8) := by
    unfold dn90
    refine zLE m2 (zLE m3 (zLE m4 (zLE (show fn5 [] (γ 0) = (0, 0, γ 1) from l0.symm) (zLV (γ 1) rfl (zIP w_0 (zLE (show fn1 [0] (γ 1) = (0, 0, γ 2) from l1.symm) (zLV (γ 2) rfl ?_)))))))
    refine zLE c3.symm (zLE (show fn32 [61] (γ 3) = (0, 0, γ 4) from l2.symm) (zLV (γ 4) rfl (zLE (show fn27 [] (γ 4) = (0, 1, γ 5) from l3.symm) (zLV (γ 5) rfl (zIP zQ1_ (zLE m39 (zLE m40 ?_)))))))
    refine zLE m41 (zLE (show fn31 [] (γ 5) = (0, 1, γ 6) from l4.symm) (zLV (γ 6) rfl (zIP zQ1_ (zLE (show fn7 [] (γ 6) = (0, 0, γ 7) from l5.symm) (zLV (γ 7) rfl (zLE m43 (zIN w_1 ?_)))))))
    refine zLE (show fn8 [ρ 34] (γ 7) = (0, 0, γ 8) from l6.symm) (zLV (γ 8) rfl (zLE m44 ?_))
    rfl
  exact zGoo_end hD
theorem vn90_5 {S : Nat → zSpc} (hS1 : zIm S 1 sn1) (hS5 : zIm S 5 sn5) (hS7 : zIm S 7 sn7) (hS8 : zIm S 8 sn8) (hS21 : zIm S 21 sn21) (hS27 : zIm S 27 sn27) (hS31 : zIm S 31 sn31) (hS32 : zIm S 32 sn32) (hS56 : zIm S 56 sn56) {a : List Int} {g : rHp} : ∀ (ρ : Nat → Int) (γ : Nat → rHp), zO 22 S a g q90_5 ρ γ → zGl (fun i vs g1 => jn90 a g i vs g1) (sn90 a g) q90_5 ρ γ := by
  intro ρ γ h
  obtain ⟨ha, hg, hr, hf, hm, hc, hl⟩ := h
  have ha : a = [ρ 0, ρ 1, ρ 2, ρ 3, ρ 4, ρ 5, ρ 6, ρ 7, ρ 8, ρ 9, ρ 10, ρ 11, ρ 12, ρ 13, ρ 14, ρ 15, ρ 16, ρ 17, ρ 18, ρ 19, ρ 20, ρ 21] := ha
  subst ha
  subst hg
  have r4 : (0 : Int) ≤ ρ 4 ∧ ρ 4 ≤ 0 := zRnA hr 4
  have w_0 : ¬ (ρ 4 ≠ 0) := by omega
  have m2 : γ 0 15 0 3 = ρ 2 := zAllA hm 2
  have m3 : γ 0 15 0 13 = ρ 3 := zAllA hm 3
  have m4 : γ 0 15 0 59 = ρ 4 := zAllA hm 4
  have l0 : sn5 [ρ 2, ρ 7, ρ 8] (γ 0) 0 0 (γ 1) := hS5 _ _ _ _ _ (zAllA hl 0)
  have l1 : sn1 [1, ρ 5] (γ 1) 0 1 (γ 2) := hS1 _ _ _ _ _ (zAllA hl 1)
  show sn90 [ρ 0, ρ 1, ρ 2, ρ 3, ρ 4, ρ 5, ρ 6, ρ 7, ρ 8, ρ 9, ρ 10, ρ 11, ρ 12, ρ 13, ρ 14, ρ 15, ρ 16, ρ 17, ρ 18, ρ 19, ρ 20, ρ 21] (γ 0) 0 0 (γ 2)
  have hD : dn90 [] (γ 0) = .inr (0, 0, γ 2) := by
    unfold dn90
    refine zLE m2 (zLE m3 (zLE m4 (zLE (show fn5 [] (γ 0) = (0, 0, γ 1) from l0.symm) (zLV (γ 1) rfl (zIN w_0 (zLE (show fn1 [1] (γ 1) = (0, 1, γ 2) from l1.symm) (zLV (γ 2) rfl ?_)))))))
    rfl
  exact zGoo_end hD
theorem vn90a0_0 {S : Nat → zSpc} (hS1 : zIm S 1 sn1) (hS5 : zIm S 5 sn5) (hS7 : zIm S 7 sn7) (hS8 : zIm S 8 sn8) (hS21 : zIm S 21 sn21) (hS27 : zIm S 27 sn27) (hS31 : zIm S 31 sn31) (hS32 : zIm S 32 sn32) (hS56 : zIm S 56 sn56) {a : List Int} {g : rHp} : ∀ (ρ : Nat → Int) (γ : Nat → rHp), jn90 a g 0 (zAg (zNA a90_ 0) ρ) (γ 1) → zO 22 S a g q90a0_0 ρ γ → zGl (fun i vs g1 => jn90 a g i vs g1) (sn90 a g) q90a0_0 ρ γ := by
  intro ρ γ hJ h
  obtain ⟨ha, hg, hr, hf, hm, hc, hl⟩ := h
  have ha : a = [ρ 0, ρ 1, ρ 2, ρ 3, ρ 4, ρ 5, ρ 6, ρ 7, ρ 8, ρ 9, ρ 10, ρ 11, ρ 12, ρ 13, ρ 14, ρ 15, ρ 16, ρ 17, ρ 18, ρ 19, ρ 20, ρ 21] := ha
  subst ha
  subst hg
  have hJ : jn90 [ρ 0, ρ 1, ρ 2, ρ 3, ρ 4, ρ 5, ρ 6, ρ 7, ρ 8, ρ 9, ρ 10, ρ 11, ρ 12, ρ 13, ρ 14, ρ 15, ρ 16, ρ 17, ρ 18, ρ 19, ρ 20, ρ 21] (γ 0) 0 [ρ 0, ρ 1, ρ 2, ρ 3, ρ 4, ρ 5, ρ 6, ρ 7, ρ 8, ρ 9, ρ 10, ρ 11, ρ 12, ρ 13, ρ 14, ρ 15, ρ 16, ρ 17, ρ 18, ρ 19, ρ 20, ρ 21, ρ 22, ρ 23, ρ 24, ρ 25, ρ 26, ρ 27, ρ 28, ρ 29, ρ 30, ρ 31, ρ 32, ρ 33, ρ 34, ρ 35, ρ 36, ρ 37, ρ 38] (γ 1) := hJ
  have f2 : (0 : Int) ≤ -ρ 35 + ρ 22 := zAllA hf 2
  have w_0 : ρ 22 ≥ ρ 35 := by omega
  have m37 : γ 1 15 0 48 = ρ 35 := zAllA hm 37
  have l0 : sn56 [ρ 23, ρ 3, ρ 21] (γ 1) 0 (ρ 39) (γ 2) := hS56 _ _ _ _ _ (zAllA hl 0)
  show sn90 [ρ 0, ρ 1, ρ 2, ρ 3, ρ 4, ρ 5, ρ 6, ρ 7, ρ 8, ρ 9, ρ 10, ρ 11, ρ 12, ρ 13, ρ 14, ρ 15, ρ 16, ρ 17, ρ 18, ρ 19, ρ 20, ρ 21] (γ 0) 0 (ρ 39) (γ 2)
  have hD : en90 (γ 0) (0, [ρ 22, ρ 23], γ 1) = .inr (0, ρ 39, γ 2) := by
    unfold en90
    refine zIP (show (0 : Nat) = 0 by decide) (zLV (γ 1) rfl (zLV (ρ 22) rfl (zLV (ρ 23) rfl (zLE m37 (zIP w_0 (zLE (show fn56 [ρ 23] (γ 1) = (0, ρ 39, γ 2) from l0.symm) (zLV (γ 2) rfl ?_)))))))
    refine zLV (ρ 39) rfl ?_
    rfl
  exact zGoo_aend hJ hD
theorem vn90a0_1 {S : Nat → zSpc} (hS1 : zIm S 1 sn1) (hS5 : zIm S 5 sn5) (hS7 : zIm S 7 sn7) (hS8 : zIm S 8 sn8) (hS21 : zIm S 21 sn21) (hS27 : zIm S 27 sn27) (hS31 : zIm S 31 sn31) (hS32 : zIm S 32 sn32) (hS56 : zIm S 56 sn56) {a : List Int} {g : rHp} : ∀ (ρ : Nat → Int) (γ : Nat → rHp), jn90 a g 0 (zAg (zNA a90_ 0) ρ) (γ 1) → zO 22 S a g q90a0_1 ρ γ → zGl (fun i vs g1 => jn90 a g i vs g1) (sn90 a g) q90a0_1 ρ γ := by
  intro ρ γ hJ h
  obtain ⟨ha, hg, hr, hf, hm, hc, hl⟩ := h
  have ha : a = [ρ 0, ρ 1, ρ 2, ρ 3, ρ 4, ρ 5, ρ 6, ρ 7, ρ 8, ρ 9, ρ 10, ρ 11, ρ 12, ρ 13, ρ 14, ρ 15, ρ 16, ρ 17, ρ 18, ρ 19, ρ 20, ρ 21] := ha
  subst ha
  subst hg
  have hJ : jn90 [ρ 0, ρ 1, ρ 2, ρ 3, ρ 4, ρ 5, ρ 6, ρ 7, ρ 8, ρ 9, ρ 10, ρ 11, ρ 12, ρ 13, ρ 14, ρ 15, ρ 16, ρ 17, ρ 18, ρ 19, ρ 20, ρ 21] (γ 0) 0 [ρ 0, ρ 1, ρ 2, ρ 3, ρ 4, ρ 5, ρ 6, ρ 7, ρ 8, ρ 9, ρ 10, ρ 11, ρ 12, ρ 13, ρ 14, ρ 15, ρ 16, ρ 17, ρ 18, ρ 19, ρ 20, ρ 21, ρ 22, ρ 23, ρ 24, ρ 25, ρ 26, ρ 27, ρ 28, ρ 29, ρ 30, ρ 31, ρ 32, ρ 33, ρ 34, ρ 35, ρ 36, ρ 37, ρ 38] (γ 1) := hJ
  have f0 : (0 : Int) ≤ ρ 35 + -ρ 22 + (-1) := zAllA hf 0
  have w_0 : ¬ (ρ 22 ≥ ρ 35) := by omega
  have m37 : γ 1 15 0 48 = ρ 35 := zAllA hm 37
  have m41 : γ 1 87 0 (ρ 22) = ρ 39 := zAllA hm 41
  have c2 : γ 2 = rUp (γ 1) 102 0 (ρ 22) (ρ 39) := And.right (zChA hc 0)
  show jn90 [ρ 0, ρ 1, ρ 2, ρ 3, ρ 4, ρ 5, ρ 6, ρ 7, ρ 8, ρ 9, ρ 10, ρ 11, ρ 12, ρ 13, ρ 14, ρ 15, ρ 16, ρ 17, ρ 18, ρ 19, ρ 20, ρ 21] (γ 0) 0 [ρ 0, ρ 1, ρ 2, ρ 3, ρ 4, ρ 5, ρ 6, ρ 7, ρ 8, ρ 9, ρ 10, ρ 11, ρ 12, ρ 13, ρ 14, ρ 15, ρ 16, ρ 17, ρ 18, ρ 19, ρ 20, ρ 21, ρ 22 + 1, ρ 23, ρ 24, ρ 25, ρ 26, ρ 27, ρ 28, ρ 29, ρ 30, ρ 31, ρ 32, ρ 33, ρ 34, ρ 35, ρ 36, ρ 37, ρ 38] (γ 2)
  have hD : en90 (γ 0) (0, [ρ 22, ρ 23], γ 1) = .inl (0, [ρ 22 + 1, ρ 23], γ 2) := by
    unfold en90
    refine zIP (show (0 : Nat) = 0 by decide) (zLV (γ 1) rfl (zLV (ρ 22) rfl (zLV (ρ 23) rfl (zLE m37 (zIN w_0 (zLE m41 (zLE c2.symm ?_)))))))
    rfl
  exact zGoo_ato hJ hD
theorem yn90 {S : Nat → zSpc} (hS1 : zIm S 1 sn1) (hS5 : zIm S 5 sn5) (hS7 : zIm S 7 sn7) (hS8 : zIm S 8 sn8) (hS21 : zIm S 21 sn21) (hS27 : zIm S 27 sn27) (hS31 : zIm S 31 sn31) (hS32 : zIm S 32 sn32) (hS56 : zIm S 56 sn56) : ∀ x g o v gz, zSem uW uT w90_.2.2.2.1 w90_.2.2.1.1.length S q90 (fun i => q90a.getD i []) (zNA a90_) x g o v gz → sn90 x g o v gz := by
  intro a g o v gz h
  exact zSem_all (l0 := q90) (las := q90a) (S := S) (J := (fun i vs g1 => jn90 a g i vs g1)) (P := sn90 a g) (fun _ => (show zAll _ [q90_0, q90_1, q90_2, q90_3, q90_4, q90_5] from (zAll_c (vn90_0 hS1 hS5 hS7 hS8 hS21 hS27 hS31 hS32 hS56) (zAll_c (vn90_1 hS1 hS5 hS7 hS8 hS21 hS27 hS31 hS32 hS56) (zAll_c (vn90_2 hS1 hS5 hS7 hS8 hS21 hS27 hS31 hS32 hS56) (zAll_c (vn90_3 hS1 hS5 hS7 hS8 hS21 hS27 hS31 hS32 hS56) (zAll_c (vn90_4 hS1 hS5 hS7 hS8 hS21 hS27 hS31 hS32 hS56) (zAll_c (vn90_5 hS1 hS5 hS7 hS8 hS21 hS27 hS31 hS32 hS56) zAll_n)))))))) (fun _ => (show zAllI _ 0 [q90a0] from ⟨(show zAll _ [q90a0_0, q90a0_1] from (zAll_c (vn90a0_0 hS1 hS5 hS7 hS8 hS21 hS27 hS31 hS32 hS56) (zAll_c (vn90a0_1 hS1 hS5 hS7 hS8 hS21 hS27 hS31 hS32 hS56) zAll_n))), trivial⟩)) h
theorem vn91_0 {S : Nat → zSpc} (hS1 : zIm S 1 sn1) (hS5 : zIm S 5 sn5) (hS7 : zIm S 7 sn7) (hS8 : zIm S 8 sn8) (hS28 : zIm S 28 sn28) (hS32 : zIm S 32 sn32) (hS38 : zIm S 38 sn38) (hS44 : zIm S 44 sn44) (hS74 : zIm S 74 sn74) {a : List Int} {g : rHp} : ∀ (ρ : Nat → Int) (γ : Nat → rHp), zO 27 S a g q91_0 ρ γ → zGl (fun i vs g1 => jn91 a g i vs g1) (sn91 a g) q91_0 ρ γ := by
  intro ρ γ h
  obtain ⟨ha, hg, hr, hf, hm, hc, hl⟩ := h
  have ha : a = [ρ 0, ρ 1, ρ 2, ρ 3, ρ 4, ρ 5, ρ 6, ρ 7, ρ 8, ρ 9, ρ 10, ρ 11, ρ 12, ρ 13, ρ 14, ρ 15, ρ 16, ρ 17, ρ 18, ρ 19, ρ 20, ρ 21, ρ 22, ρ 23, ρ 24, ρ 25, ρ 26] := ha
  subst ha
  subst hg
  have r7 : (1 : Int) ≤ ρ 7 ∧ ρ 7 ≤ 1 := zRnA hr 7
  have w_0 : ρ 7 ≠ 0 := by omega
  have m2 : γ 0 15 0 3 = ρ 2 := zAllA hm 2
  have m3 : γ 0 15 0 13 = ρ 3 := zAllA hm 3
  have m7 : γ 0 15 0 59 = ρ 7 := zAllA hm 7
  have m20 : γ 0 15 0 71 = ρ 20 := zAllA hm 20
  have m41 : γ 5 15 0 36 = ρ 34 := zAllA hm 41
  have c3 : γ 3 = rUp (γ 2) 15 0 14 (ρ 3) := And.right (zChA hc 2)
  have l0 : sn5 [ρ 2, ρ 11, ρ 12] (γ 0) 0 0 (γ 1) := hS5 _ _ _ _ _ (zAllA hl 0)
  have l1 : sn1 [0, ρ 8] (γ 1) 0 0 (γ 2) := hS1 _ _ _ _ _ (zAllA hl 1)
  have l2 : sn32 [61, ρ 17, ρ 18, ρ 19] (γ 3) 0 0 (γ 4) := hS32 _ _ _ _ _ (zAllA hl 2)
  have l3 : sn38 [0, 0, ρ 2, ρ 0, ρ 1, 0, ρ 10, 61, ρ 27, ρ 3, ρ 13, ρ 14, ρ 15, ρ 16, 0] (γ 4) 0 0 (γ 5) := hS38 _ _ _ _ _ (zAllA hl 3)
  show sn91 [ρ 0, ρ 1, ρ 2, ρ 3, ρ 4, ρ 5, ρ 6, ρ 7, ρ 8, ρ 9, ρ 10, ρ 11, ρ 12, ρ 13, ρ 14, ρ 15, ρ 16, ρ 17, ρ 18, ρ 19, ρ 20, ρ 21, ρ 22, ρ 23, ρ 24, ρ 25, ρ 26] (γ 0) 0 (-ρ 34 + (-1)) (γ 5)
  have hD : dn91 [] (γ 0) = .inr (0, -ρ 34 + (-1), γ 5) := by
    unfold dn91
    refine zLE m2 (zLE m3 (zLE m7 (zLE m20 (zLE (show fn5 [] (γ 0) = (0, 0, γ 1) from l0.symm) (zLV (γ 1) rfl (zIP w_0 (zLE (show fn1 [0] (γ 1) = (0, 0, γ 2) from l1.symm) ?_)))))))
    refine zLV (γ 2) rfl (zLE c3.symm (zLE (show fn32 [61] (γ 3) = (0, 0, γ 4) from l2.symm) (zLV (γ 4) rfl (zLE (show fn38 [0] (γ 4) = (0, 0, γ 5) from l3.symm) (zLV (γ 5) rfl (zIN zQ0_ (zLE m41 ?_)))))))
    rfl
  exact zGoo_end hD
theorem vn91_1 {S : Nat → zSpc} (hS1 : zIm S 1 sn1) (hS5 : zIm S 5 sn5) (hS7 : zIm S 7 sn7) (hS8 : zIm S 8 sn8) (hS28 : zIm S 28 sn28) (hS32 : zIm S 32 sn32) (hS38 : zIm S 38 sn38) (hS44 : zIm S 44 sn44) (hS74 : zIm S 74 sn74) {a : List Int} {g : rHp} : ∀ (ρ : Nat → Int) (γ : Nat → rHp), zO 27 S a g q91_1 ρ γ → zGl (fun i vs g1 => jn91 a g i vs g1) (sn91 a g) q91_1 ρ γ := by
  intro ρ γ h
  obtain ⟨ha, hg, hr, hf, hm, hc, hl⟩ := h
  have ha : a = [ρ 0, ρ 1, ρ 2, ρ 3, ρ 4, ρ 5, ρ 6, ρ 7, ρ 8, ρ 9, ρ 10, ρ 11, ρ 12, ρ 13, ρ 14, ρ 15, ρ 16, ρ 17, ρ 18, ρ 19, ρ 20, ρ 21, ρ 22, ρ 23, ρ 24, ρ 25, ρ 26] := ha
  subst ha
  subst hg
  have r7 : (1 : Int) ≤ ρ 7 ∧ ρ 7 ≤ 1 := zRnA hr 7
  have f1 : (0 : Int) ≤ -ρ 38 + ρ 2 := zAllA hf 1
  have f2 : (0 : Int) ≤ ρ 38 + -ρ 2 := zAllA hf 2
  obtain ⟨w_0, w_1⟩ : (ρ 7 ≠ 0) ∧ (ρ 38 = ρ 2) := ⟨by omega, by omega⟩
  have m2 : γ 0 15 0 3 = ρ 2 := zAllA hm 2
  have m3 : γ 0 15 0 13 = ρ 3 := zAllA hm 3
  have m7 : γ 0 15 0 59 = ρ 7 := zAllA hm 7
  have m20 : γ 0 15 0 71 = ρ 20 := zAllA hm 20
  have m46 : γ 6 15 0 35 = ρ 38 := zAllA hm 46
  have m47 : γ 7 15 0 36 = ρ 39 := zAllA hm 47
  have c3 : γ 3 = rUp (γ 2) 15 0 14 (ρ 3) := And.right (zChA hc 4)
  have l0 : sn5 [ρ 2, ρ 11, ρ 12] (γ 0) 0 0 (γ 1) := hS5 _ _ _ _ _ (zAllA hl 0)
  have l1 : sn1 [0, ρ 8] (γ 1) 0 0 (γ 2) := hS1 _ _ _ _ _ (zAllA hl 1)
  have l2 : sn32 [61, ρ 17, ρ 18, ρ 19] (γ 3) 0 0 (γ 4) := hS32 _ _ _ _ _ (zAllA hl 2)
  have l3 : sn38 [0, 0, ρ 2, ρ 0, ρ 1, 0, ρ 10, 61, ρ 27, ρ 3, ρ 13, ρ 14, ρ 15, ρ 16, 0] (γ 4) 0 1 (γ 5) := hS38 _ _ _ _ _ (zAllA hl 3)
  have l4 : sn7 [ρ 28, ρ 2] (γ 5) 0 0 (γ 6) := hS7 _ _ _ _ _ (zAllA hl 4)
  have l5 : sn28 [ρ 2, ρ 13, ρ 37, ρ 31] (γ 6) 0 0 (γ 7) := hS28 _ _ _ _ _ (zAllA hl 5)
  show sn91 [ρ 0, ρ 1, ρ 2, ρ 3, ρ 4, ρ 5, ρ 6, ρ 7, ρ 8, ρ 9, ρ 10, ρ 11, ρ 12, ρ 13, ρ 14, ρ 15, ρ 16, ρ 17, ρ 18, ρ 19, ρ 20, ρ 21, ρ 22, ρ 23, ρ 24, ρ 25, ρ 26] (γ 0) 0 (-ρ 39 + (-1)) (γ 7)
  have hD : dn91 [] (γ 0) = .inr (0, -ρ 39 + (-1), γ 7) := by
    unfold dn91
    refine zLE m2 (zLE m3 (zLE m7 (zLE m20 (zLE (show fn5 [] (γ 0) = (0, 0, γ 1) from l0.symm) (zLV (γ 1) rfl (zIP w_0 (zLE (show fn1 [0] (γ 1) = (0, 0, γ 2) from l1.symm) ?_)))))))
    refine zLV (γ 2) rfl (zLE c3.symm (zLE (show fn32 [61] (γ 3) = (0, 0, γ 4) from l2.symm) (zLV (γ 4) rfl (zLE (show fn38 [0] (γ 4) = (0, 1, γ 5) from l3.symm) (zLV (γ 5) rfl (zIP zQ1_ (zLE (show fn7 [] (γ 5) = (0, 0, γ 6) from l4.symm) ?_)))))))
    refine zLV (γ 6) rfl (zLE m46 (zIP w_1 (zLE (show fn28 [] (γ 6) = (0, 0, γ 7) from l5.symm) (zLV (γ 7) rfl (zIN zQ0_ (zLE m47 ?_))))))
    rfl
  exact zGoo_end hD
theorem vn91_2 {S : Nat → zSpc} (hS1 : zIm S 1 sn1) (hS5 : zIm S 5 sn5) (hS7 : zIm S 7 sn7) (hS8 : zIm S 8 sn8) (hS28 : zIm S 28 sn28) (hS32 : zIm S 32 sn32) (hS38 : zIm S 38 sn38) (hS44 : zIm S 44 sn44) (hS74 : zIm S 74 sn74) {a : List Int} {g : rHp} : ∀ (ρ : Nat → Int) (γ : Nat → rHp), zO 27 S a g q91_2 ρ γ → zGl (fun i vs g1 => jn91 a g i vs g1) (sn91 a g) q91_2 ρ γ := by
  intro ρ γ h
  obtain ⟨ha, hg, hr, hf, hm, hc, hl⟩ := h
  have ha : a = [ρ 0, ρ 1, ρ 2, ρ 3, ρ 4, ρ 5, ρ 6, ρ 7, ρ 8, ρ 9, ρ 10, ρ 11, ρ 12, ρ 13, ρ 14, ρ 15, ρ 16, ρ 17, ρ 18, ρ 19, ρ 20, ρ 21, ρ 22, ρ 23, ρ 24, ρ 25, ρ 26] := ha
  subst ha
  subst hg
  have r7 : (1 : Int) ≤ ρ 7 ∧ ρ 7 ≤ 1 := zRnA hr 7
  have f2 : (0 : Int) ≤ -ρ 38 + ρ 2 := zAllA hf 2
  have f3 : (0 : Int) ≤ ρ 38 + -ρ 2 := zAllA hf 3
  obtain ⟨w_0, w_1⟩ : (ρ 7 ≠ 0) ∧ (ρ 38 = ρ 2) := ⟨by omega, by omega⟩
  have m2 : γ 0 15 0 3 = ρ 2 := zAllA hm 2
  have m3 : γ 0 15 0 13 = ρ 3 := zAllA hm 3
  have m7 : γ 0 15 0 59 = ρ 7 := zAllA hm 7
  have m20 : γ 0 15 0 71 = ρ 20 := zAllA hm 20
  have m46 : γ 6 15 0 35 = ρ 38 := zAllA hm 46
  have m48 : γ 14 15 0 72 = ρ 39 := zAllA hm 48
  have m49 : γ 14 15 0 77 = ρ 40 := zAllA hm 49
  have m50 : γ 14 15 0 94 = ρ 41 := zAllA hm 50
  have m52 : γ 8 75 0 61 = ρ 42 := zAllA hm 52
  have c3 : γ 3 = rUp (γ 2) 15 0 14 (ρ 3) := And.right (zChA hc 15)
  have c9 : γ 9 = rUp (γ 8) 15 0 81 (ρ 20) := And.right (zChA hc 9)
  have c10 : γ 10 = rUp (γ 9) 15 0 84 0 := And.right (zChA hc 8)
  have c11 : γ 11 = rUp (γ 10) 15 0 72 0 := And.right (zChA hc 7)
  have c12 : γ 12 = rUp (γ 11) 15 0 77 0 := And.right (zChA hc 6)
  have c13 : γ 13 = rUp (γ 12) 15 0 94 0 := And.right (zChA hc 5)
  have c16 : γ 16 = rUp (γ 15) 15 0 74 (ρ 39) := And.right (zChA hc 2)
  have c17 : γ 17 = rUp (γ 16) 15 0 93 (ρ 41) := And.right (zChA hc 1)
  have c18 : γ 18 = rUp (γ 17) 15 0 95 (ρ 42) := And.right (zChA hc 0)
  have l0 : sn5 [ρ 2, ρ 11, ρ 12] (γ 0) 0 0 (γ 1) := hS5 _ _ _ _ _ (zAllA hl 0)
  have l1 : sn1 [0, ρ 8] (γ 1) 0 0 (γ 2) := hS1 _ _ _ _ _ (zAllA hl 1)
  have l2 : sn32 [61, ρ 17, ρ 18, ρ 19] (γ 3) 0 0 (γ 4) := hS32 _ _ _ _ _ (zAllA hl 2)
  have l3 : sn38 [0, 0, ρ 2, ρ 0, ρ 1, 0, ρ 10, 61, ρ 27, ρ 3, ρ 13, ρ 14, ρ 15, ρ 16, 0] (γ 4) 0 1 (γ 5) := hS38 _ _ _ _ _ (zAllA hl 3)
  have l4 : sn7 [ρ 28, ρ 2] (γ 5) 0 0 (γ 6) := hS7 _ _ _ _ _ (zAllA hl 4)
  have l5 : sn28 [ρ 2, ρ 13, ρ 37, ρ 31] (γ 6) 0 1 (γ 7) := hS28 _ _ _ _ _ (zAllA hl 5)
  have l6 : sn44 [61, ρ 32, ρ 37] (γ 7) 0 0 (γ 8) := hS44 _ _ _ _ _ (zAllA hl 6)
  have l7 : sn74 [ρ 32, 0, 0, 0, 61, ρ 20, ρ 20, ρ 23, ρ 24] (γ 13) 0 0 (γ 14) := hS74 _ _ _ _ _ (zAllA hl 7)
  have l8 : sn1 [ρ 40, 0] (γ 14) 0 0 (γ 15) := hS1 _ _ _ _ _ (zAllA hl 8)
  show jn91 [ρ 0, ρ 1, ρ 2, ρ 3, ρ 4, ρ 5, ρ 6, ρ 7, ρ 8, ρ 9, ρ 10, ρ 11, ρ 12, ρ 13, ρ 14, ρ 15, ρ 16, ρ 17, ρ 18, ρ 19, ρ 20, ρ 21, ρ 22, ρ 23, ρ 24, ρ 25, ρ 26] (γ 0) 0 [ρ 0, ρ 1, ρ 2, ρ 3, ρ 4, ρ 5, ρ 6, ρ 7, ρ 8, ρ 9, ρ 10, ρ 11, ρ 12, ρ 13, ρ 14, ρ 15, ρ 16, ρ 17, ρ 18, ρ 19, ρ 20, ρ 21, ρ 22, ρ 23, ρ 24, ρ 25, ρ 26, 0, ρ 29, ρ 30, 0, ρ 39, ρ 40, ρ 41, ρ 40, ρ 33, ρ 34, ρ 35, ρ 36, 61, ρ 37, ρ 31, ρ 39, ρ 41, ρ 42] (γ 18)
  have hD : dn91 [] (γ 0) = .inl (0, [0], γ 18) := by
    unfold dn91
    refine zLE m2 (zLE m3 (zLE m7 (zLE m20 (zLE (show fn5 [] (γ 0) = (0, 0, γ 1) from l0.symm) (zLV (γ 1) rfl (zIP w_0 (zLE (show fn1 [0] (γ 1) = (0, 0, γ 2) from l1.symm) ?_)))))))
    refine zLV (γ 2) rfl (zLE c3.symm (zLE (show fn32 [61] (γ 3) = (0, 0, γ 4) from l2.symm) (zLV (γ 4) rfl (zLE (show fn38 [0] (γ 4) = (0, 1, γ 5) from l3.symm) (zLV (γ 5) rfl (zIP zQ1_ (zLE (show fn7 [] (γ 5) = (0, 0, γ 6) from l4.symm) ?_)))))))
    refine zLV (γ 6) rfl (zLE m46 (zIP w_1 (zLE (show fn28 [] (γ 6) = (0, 1, γ 7) from l5.symm) (zLV (γ 7) rfl (zIP zQ1_ (zLE (show fn44 [] (γ 7) = (0, 0, γ 8) from l6.symm) (zLV (γ 8) rfl ?_)))))))
    refine zLE c9.symm (zLE c10.symm (zLE c11.symm (zLE c12.symm (zLE c13.symm (zLE (show fn74 [] (γ 13) = (0, 0, γ 14) from l7.symm) (zLV (γ 14) rfl (zLE m48 ?_)))))))
    refine zLE m49 (zLE m50 (zLE (show fn1 [ρ 40] (γ 14) = (0, 0, γ 15) from l8.symm) (zLV (γ 15) rfl (zIN zQ0_ (zLE c16.symm (zLE c17.symm (zLE m52 ?_)))))))
    refine zLE c18.symm ?_
    rfl
  exact zGoo_to hD
theorem vn91_3 {S : Nat → zSpc} (hS1 : zIm S 1 sn1) (hS5 : zIm S 5 sn5) (hS7 : zIm S 7 sn7) (hS8 : zIm S 8 sn8) (hS28 : zIm S 28 sn28) (hS32 : zIm S 32 sn32) (hS38 : zIm S 38 sn38) (hS44 : zIm S 44 sn44) (hS74 : zIm S 74 sn74) {a : List Int} {g : rHp} : ∀ (ρ : Nat → Int) (γ : Nat → rHp), zO 27 S a g q91_3 ρ γ → zGl (fun i vs g1 => jn91 a g i vs g1) (sn91 a g) q91_3 ρ γ := by
  intro ρ γ h
  obtain ⟨ha, hg, hr, hf, hm, hc, hl⟩ := h
  have ha : a = [ρ 0, ρ 1, ρ 2, ρ 3, ρ 4, ρ 5, ρ 6, ρ 7, ρ 8, ρ 9, ρ 10, ρ 11, ρ 12, ρ 13, ρ 14, ρ 15, ρ 16, ρ 17, ρ 18, ρ 19, ρ 20, ρ 21, ρ 22, ρ 23, ρ 24, ρ 25, ρ 26] := ha
  subst ha
  subst hg
  have r7 : (1 : Int) ≤ ρ 7 ∧ ρ 7 ≤ 1 := zRnA hr 7
  have f2 : (0 : Int) ≤ -ρ 38 + ρ 2 := zAllA hf 2
  have f3 : (0 : Int) ≤ ρ 38 + -ρ 2 := zAllA hf 3
  obtain ⟨w_0, w_1⟩ : (ρ 7 ≠ 0) ∧ (ρ 38 = ρ 2) := ⟨by omega, by omega⟩
  have m2 : γ 0 15 0 3 = ρ 2 := zAllA hm 2
  have m3 : γ 0 15 0 13 = ρ 3 := zAllA hm 3
  have m7 : γ 0 15 0 59 = ρ 7 := zAllA hm 7
  have m20 : γ 0 15 0 71 = ρ 20 := zAllA hm 20
  have m46 : γ 6 15 0 35 = ρ 38 := zAllA hm 46
  have m48 : γ 14 15 0 72 = ρ 39 := zAllA hm 48
  have m49 : γ 14 15 0 77 = ρ 40 := zAllA hm 49
  have m50 : γ 14 15 0 94 = ρ 41 := zAllA hm 50
  have c3 : γ 3 = rUp (γ 2) 15 0 14 (ρ 3) := And.right (zChA hc 12)
  have c9 : γ 9 = rUp (γ 8) 15 0 81 (ρ 20) := And.right (zChA hc 6)
  have c10 : γ 10 = rUp (γ 9) 15 0 84 0 := And.right (zChA hc 5)
  have c11 : γ 11 = rUp (γ 10) 15 0 72 0 := And.right (zChA hc 4)
  have c12 : γ 12 = rUp (γ 11) 15 0 77 0 := And.right (zChA hc 3)
  have c13 : γ 13 = rUp (γ 12) 15 0 94 0 := And.right (zChA hc 2)
  have l0 : sn5 [ρ 2, ρ 11, ρ 12] (γ 0) 0 0 (γ 1) := hS5 _ _ _ _ _ (zAllA hl 0)
  have l1 : sn1 [0, ρ 8] (γ 1) 0 0 (γ 2) := hS1 _ _ _ _ _ (zAllA hl 1)
  have l2 : sn32 [61, ρ 17, ρ 18, ρ 19] (γ 3) 0 0 (γ 4) := hS32 _ _ _ _ _ (zAllA hl 2)
  have l3 : sn38 [0, 0, ρ 2, ρ 0, ρ 1, 0, ρ 10, 61, ρ 27, ρ 3, ρ 13, ρ 14, ρ 15, ρ 16, 0] (γ 4) 0 1 (γ 5) := hS38 _ _ _ _ _ (zAllA hl 3)
  have l4 : sn7 [ρ 28, ρ 2] (γ 5) 0 0 (γ 6) := hS7 _ _ _ _ _ (zAllA hl 4)
  have l5 : sn28 [ρ 2, ρ 13, ρ 37, ρ 31] (γ 6) 0 1 (γ 7) := hS28 _ _ _ _ _ (zAllA hl 5)
  have l6 : sn44 [61, ρ 32, ρ 37] (γ 7) 0 0 (γ 8) := hS44 _ _ _ _ _ (zAllA hl 6)
  have l7 : sn74 [ρ 32, 0, 0, 0, 61, ρ 20, ρ 20, ρ 23, ρ 24] (γ 13) 0 0 (γ 14) := hS74 _ _ _ _ _ (zAllA hl 7)
  have l8 : sn1 [ρ 40, 0] (γ 14) 0 1 (γ 15) := hS1 _ _ _ _ _ (zAllA hl 8)
  show sn91 [ρ 0, ρ 1, ρ 2, ρ 3, ρ 4, ρ 5, ρ 6, ρ 7, ρ 8, ρ 9, ρ 10, ρ 11, ρ 12, ρ 13, ρ 14, ρ 15, ρ 16, ρ 17, ρ 18, ρ 19, ρ 20, ρ 21, ρ 22, ρ 23, ρ 24, ρ 25, ρ 26] (γ 0) 0 0 (γ 15)
  have hD : dn91 [] (γ 0) = .inr (0, 0, γ 15) := by
    unfold dn91
    refine zLE m2 (zLE m3 (zLE m7 (zLE m20 (zLE (show fn5 [] (γ 0) = (0, 0, γ 1) from l0.symm) (zLV (γ 1) rfl (zIP w_0 (zLE (show fn1 [0] (γ 1) = (0, 0, γ 2) from l1.symm) ?_)))))))
    refine zLV (γ 2) rfl (zLE c3.symm (zLE (show fn32 [61] (γ 3) = (0, 0, γ 4) from l2.symm) (zLV (γ 4) rfl (zLE (show fn38 [0] (γ 4) = (0, 1, γ 5) from l3.symm) (zLV (γ 5) rfl (zIP zQ1_ (zLE (show fn7 [] (γ 5) = (0, 0, γ 6) from l4.symm) ?_)))))))
    refine zLV (γ 6) rfl (zLE m46 (zIP w_1 (zLE (show fn28 [] (γ 6) = (0, 1, γ 7) from l5.symm) (zLV (γ 7) rfl (zIP zQ1_ (zLE (show fn44 [] (γ 7) = (0, 0, γ 8) from l6.symm) (zLV (γ 8) rfl ?_)))))))
    refine zLE c9.symm (zLE c10.symm (zLE c11.symm (zLE c12.symm (zLE c13.symm (zLE (show fn74 [] (γ 13) = (0, 0, γ 14) from l7.symm) (zLV (γ 14) rfl (zLE m48 ?_)))))))
    refine zLE m49 (zLE m50 (zLE (show fn1 [ρ 40] (γ 14) = (0, 1, γ 15) from l8.symm) (zLV (γ 15) rfl (zIP zQ1_ ?_))))
    rfl
  exact zGoo_end hD
theorem vn91_4 {S : Nat → zSpc} (hS1 : zIm S 1 sn1) (hS5 : zIm S 5 sn5) (hS7 : zIm S 7 sn7) (hS8 : zIm S 8 sn8) (hS28 : zIm S 28 sn28) (hS32 : zIm S 32 sn32) (hS38 : zIm S 38 sn38) (hS44 : zIm S 44 sn44) (hS74 : zIm S 74 sn74) {a : List Int} {g : rHp} : ∀ (ρ : Nat → Int) (γ : Nat → rHp), zO 27 S a g q91_4 ρ γ → zGl (fun i vs g1 => jn91 a g i vs g1) (sn91 a g) q91_4 ρ γ := by
  intro ρ γ h
  obtain ⟨ha, hg, hr, hf, hm, hc, hl⟩ := h
  have ha : a = [ρ 0, ρ 1, ρ 2, ρ 3, ρ 4, ρ 5, ρ 6, ρ 7, ρ 8, ρ 9, ρ 10, ρ 11, ρ 12, ρ 13, ρ 14, ρ 15, ρ 16, ρ 17, ρ 18, ρ 19, ρ 20, ρ 21, ρ 22, ρ 23, ρ 24, ρ 25, ρ 26] := ha
  subst ha
  subst hg
  have r7 : (1 : Int) ≤ ρ 7 ∧ ρ 7 ≤ 1 := zRnA hr 7
  have f2 : (0 : Int) ≤ -ρ 38 + ρ 2 + (-1) := zAllA hf 2
  obtain ⟨w_0, w_1⟩ : (ρ 7 ≠ 0) ∧ (¬ (ρ 38 = ρ 2)) := ⟨by omega, by omega⟩
  have m2 : γ 0 15 0 3 = ρ 2 := zAllA hm 2
  have m3 : γ 0 15 0 13 = ρ 3 := zAllA hm 3
  have m7 : γ 0 15 0 59 = ρ 7 := zAllA hm 7
  have m20 : γ 0 15 0 71 = ρ 20 := zAllA hm 20
  have m46 : γ 6 15 0 35 = ρ 38 := zAllA hm 46
  have m47 : γ 7 15 0 36 = ρ 39 := zAllA hm 47
  have c3 : γ 3 = rUp (γ 2) 15 0 14 (ρ 3) := And.right (zChA hc 4)
  have l0 : sn5 [ρ 2, ρ 11, ρ 12] (γ 0) 0 0 (γ 1) := hS5 _ _ _ _ _ (zAllA hl 0)
  have l1 : sn1 [0, ρ 8] (γ 1) 0 0 (γ 2) := hS1 _ _ _ _ _ (zAllA hl 1)
  have l2 : sn32 [61, ρ 17, ρ 18, ρ 19] (γ 3) 0 0 (γ 4) := hS32 _ _ _ _ _ (zAllA hl 2)
  have l3 : sn38 [0, 0, ρ 2, ρ 0, ρ 1, 0, ρ 10, 61, ρ 27, ρ 3, ρ 13, ρ 14, ρ 15, ρ 16, 0] (γ 4) 0 1 (γ 5) := hS38 _ _ _ _ _ (zAllA hl 3)
  have l4 : sn7 [ρ 28, ρ 2] (γ 5) 0 0 (γ 6) := hS7 _ _ _ _ _ (zAllA hl 4)
  have l5 : sn8 [ρ 38, ρ 2, ρ 13] (γ 6) 0 0 (γ 7) := hS8 _ _ _ _ _ (zAllA hl 5)
  show sn91 [ρ 0, ρ 1, ρ 2, ρ 3, ρ 4, ρ 5, ρ 6, ρ 7, ρ 8, ρ 9, ρ 10, ρ 11, ρ 12, ρ 13, ρ 14, ρ 15, ρ 16, ρ 17, ρ 18, ρ 19, ρ 20, ρ 21, ρ 22, ρ 23, ρ 24, ρ 25, ρ 26] (γ 0) 0 (-ρ 39 + (-1)) (γ 7)
  have hD : dn91 [] (γ 0) = .inr (0, -ρ 39 + (-1), γ 7) := by
    unfold dn91
    refine zLE m2 (zLE m3 (zLE m7 (zLE m20 (zLE (show fn5 [] (γ 0) = (0, 0, γ 1) from l0.symm) (zLV (γ 1) rfl (zIP w_0 (zLE (show fn1 [0] (γ 1) = (0, 0, γ 2) from l1.symm) ?_)))))))
    refine zLV (γ 2) rfl (zLE c3.symm (zLE (show fn32 [61] (γ 3) = (0, 0, γ 4) from l2.symm) (zLV (γ 4) rfl (zLE (show fn38 [0] (γ 4) = (0, 1, γ 5) from l3.symm) (zLV (γ 5) rfl (zIP zQ1_ (zLE (show fn7 [] (γ 5) = (0, 0, γ 6) from l4.symm) ?_)))))))
    refine zLV (γ 6) rfl (zLE m46 (zIN w_1 (zLE (show fn8 [ρ 38] (γ 6) = (0, 0, γ 7) from l5.symm) (zLV (γ 7) rfl (zLE m47 ?_)))))
    rfl
  exact zGoo_end hD
theorem vn91_5 {S : Nat → zSpc} (hS1 : zIm S 1 sn1) (hS5 : zIm S 5 sn5) (hS7 : zIm S 7 sn7) (hS8 : zIm S 8 sn8) (hS28 : zIm S 28 sn28) (hS32 : zIm S 32 sn32) (hS38 : zIm S 38 sn38) (hS44 : zIm S 44 sn44) (hS74 : zIm S 74 sn74) {a : List Int} {g : rHp} : ∀ (ρ : Nat → Int) (γ : Nat → rHp), zO 27 S a g q91_5 ρ γ → zGl (fun i vs g1 => jn91 a g i vs g1) (sn91 a g) q91_5 ρ γ := by
  intro ρ γ h
  obtain ⟨ha, hg, hr, hf, hm, hc, hl⟩ := h
  have ha : a = [ρ 0, ρ 1, ρ 2, ρ 3, ρ 4, ρ 5, ρ 6, ρ 7, ρ 8, ρ 9, ρ 10, ρ 11, ρ 12, ρ 13, ρ 14, ρ 15, ρ 16, ρ 17, ρ 18, ρ 19, ρ 20, ρ 21, ρ 22, ρ 23, ρ 24, ρ 25, ρ 26] := ha
  subst ha
  subst hg
  have r7 : (0 : Int) ≤ ρ 7 ∧ ρ 7 ≤ 0 := zRnA hr 7
  have w_0 : ¬ (ρ 7 ≠ 0) := by omega
  have m2 : γ 0 15 0 3 = ρ 2 := zAllA hm 2
  have m3 : γ 0 15 0 13 = ρ 3 := zAllA hm 3
  have m7 : γ 0 15 0 59 = ρ 7 := zAllA hm 7
  have m20 : γ 0 15 0 71 = ρ 20 := zAllA hm 20
  have l0 : sn5 [ρ 2, ρ 11, ρ 12] (γ 0) 0 0 (γ 1) := hS5 _ _ _ _ _ (zAllA hl 0)
  have l1 : sn1 [1, ρ 8] (γ 1) 0 1 (γ 2) := hS1 _ _ _ _ _ (zAllA hl 1)
  show sn91 [ρ 0, ρ 1, ρ 2, ρ 3, ρ 4, ρ 5, ρ 6, ρ 7, ρ 8, ρ 9, ρ 10, ρ 11, ρ 12, ρ 13, ρ 14, ρ 15, ρ 16, ρ 17, ρ 18, ρ 19, ρ 20, ρ 21, ρ 22, ρ 23, ρ 24, ρ 25, ρ 26] (γ 0) 0 0 (γ 2)
  have hD : dn91 [] (γ 0) = .inr (0, 0, γ 2) := by
    unfold dn91
    refine zLE m2 (zLE m3 (zLE m7 (zLE m20 (zLE (show fn5 [] (γ 0) = (0, 0, γ 1) from l0.symm) (zLV (γ 1) rfl (zIN w_0 (zLE (show fn1 [1] (γ 1) = (0, 1, γ 2) from l1.symm) ?_)))))))
    refine zLV (γ 2) rfl ?_
    rfl
  exact zGoo_end hD
theorem vn91a0_0 {S : Nat → zSpc} (hS1 : zIm S 1 sn1) (hS5 : zIm S 5 sn5) (hS7 : zIm S 7 sn7) (hS8 : zIm S 8 sn8) (hS28 : zIm S 28 sn28) (hS32 : zIm S 32 sn32) (hS38 : zIm S 38 sn38) (hS44 : zIm S 44 sn44) (hS74 : zIm S 74 sn74) {a : List Int} {g : rHp} : ∀ (ρ : Nat → Int) (γ : Nat → rHp), jn91 a g 0 (zAg (zNA a91_ 0) ρ) (γ 1) → zO 27 S a g q91a0_0 ρ γ → zGl (fun i vs g1 => jn91 a g i vs g1) (sn91 a g) q91a0_0 ρ γ := by
  intro ρ γ hJ h
  obtain ⟨ha, hg, hr, hf, hm, hc, hl⟩ := h
  have ha : a = [ρ 0, ρ 1, ρ 2, ρ 3, ρ 4, ρ 5, ρ 6, ρ 7, ρ 8, ρ 9, ρ 10, ρ 11, ρ 12, ρ 13, ρ 14, ρ 15, ρ 16, ρ 17, ρ 18, ρ 19, ρ 20, ρ 21, ρ 22, ρ 23, ρ 24, ρ 25, ρ 26] := ha
  subst ha
  subst hg
  have hJ : jn91 [ρ 0, ρ 1, ρ 2, ρ 3, ρ 4, ρ 5, ρ 6, ρ 7, ρ 8, ρ 9, ρ 10, ρ 11, ρ 12, ρ 13, ρ 14, ρ 15, ρ 16, ρ 17, ρ 18, ρ 19, ρ 20, ρ 21, ρ 22, ρ 23, ρ 24, ρ 25, ρ 26] (γ 0) 0 [ρ 0, ρ 1, ρ 2, ρ 3, ρ 4, ρ 5, ρ 6, ρ 7, ρ 8, ρ 9, ρ 10, ρ 11, ρ 12, ρ 13, ρ 14, ρ 15, ρ 16, ρ 17, ρ 18, ρ 19, ρ 20, ρ 21, ρ 22, ρ 23, ρ 24, ρ 25, ρ 26, ρ 27, ρ 28, ρ 29, ρ 30, ρ 31, ρ 32, ρ 33, ρ 34, ρ 35, ρ 36, ρ 37, ρ 38, ρ 39, ρ 40, ρ 41, ρ 42, ρ 43, ρ 44] (γ 1) := hJ
  have r27 : (800 : Int) ≤ ρ 27 ∧ ρ 27 ≤ 800 := zRnA hr 27
  have w_0 : ρ 27 ≥ 800 := by omega
  have m46 : γ 1 15 0 93 = ρ 43 := zAllA hm 46
  show sn91 [ρ 0, ρ 1, ρ 2, ρ 3, ρ 4, ρ 5, ρ 6, ρ 7, ρ 8, ρ 9, ρ 10, ρ 11, ρ 12, ρ 13, ρ 14, ρ 15, ρ 16, ρ 17, ρ 18, ρ 19, ρ 20, ρ 21, ρ 22, ρ 23, ρ 24, ρ 25, ρ 26] (γ 0) 0 (ρ 43) (γ 1)
  have hD : en91 (γ 0) (0, [ρ 27], γ 1) = .inr (0, ρ 43, γ 1) := by
    unfold en91
    refine zIP (show (0 : Nat) = 0 by decide) (zLV (γ 1) rfl (zLV (ρ 27) rfl (zLE m46 (zIP w_0 ?_))))
    rfl
  exact zGoo_aend hJ hD
theorem vn91a0_1 {S : Nat → zSpc} (hS1 : zIm S 1 sn1) (hS5 : zIm S 5 sn5) (hS7 : zIm S 7 sn7) (hS8 : zIm S 8 sn8) (hS28 : zIm S 28 sn28) (hS32 : zIm S 32 sn32) (hS38 : zIm S 38 sn38) (hS44 : zIm S 44 sn44) (hS74 : zIm S 74 sn74) {a : List Int} {g : rHp} : ∀ (ρ : Nat → Int) (γ : Nat → rHp), jn91 a g 0 (zAg (zNA a91_ 0) ρ) (γ 1) → zO 27 S a g q91a0_1 ρ γ → zGl (fun i vs g1 => jn91 a g i vs g1) (sn91 a g) q91a0_1 ρ γ := by
  intro ρ γ hJ h
  obtain ⟨ha, hg, hr, hf, hm, hc, hl⟩ := h
  have ha : a = [ρ 0, ρ 1, ρ 2, ρ 3, ρ 4, ρ 5, ρ 6, ρ 7, ρ 8, ρ 9, ρ 10, ρ 11, ρ 12, ρ 13, ρ 14, ρ 15, ρ 16, ρ 17, ρ 18, ρ 19, ρ 20, ρ 21, ρ 22, ρ 23, ρ 24, ρ 25, ρ 26] := ha
  subst ha
  subst hg
  have hJ : jn91 [ρ 0, ρ 1, ρ 2, ρ 3, ρ 4, ρ 5, ρ 6, ρ 7, ρ 8, ρ 9, ρ 10, ρ 11, ρ 12, ρ 13, ρ 14, ρ 15, ρ 16, ρ 17, ρ 18, ρ 19, ρ 20, ρ 21, ρ 22, ρ 23, ρ 24, ρ 25, ρ 26] (γ 0) 0 [ρ 0, ρ 1, ρ 2, ρ 3, ρ 4, ρ 5, ρ 6, ρ 7, ρ 8, ρ 9, ρ 10, ρ 11, ρ 12, ρ 13, ρ 14, ρ 15, ρ 16, ρ 17, ρ 18, ρ 19, ρ 20, ρ 21, ρ 22, ρ 23, ρ 24, ρ 25, ρ 26, ρ 27, ρ 28, ρ 29, ρ 30, ρ 31, ρ 32, ρ 33, ρ 34, ρ 35, ρ 36, ρ 37, ρ 38, ρ 39, ρ 40, ρ 41, ρ 42, ρ 43, ρ 44] (γ 1) := hJ
  have r27 : (0 : Int) ≤ ρ 27 ∧ ρ 27 ≤ 799 := zRnA hr 27
  have w_0 : ¬ (ρ 27 ≥ 800) := by omega
  have m46 : γ 1 15 0 93 = ρ 43 := zAllA hm 46
  have m48 : γ 1 111 0 (ρ 27) = ρ 45 := zAllA hm 48
  have c2 : γ 2 = rUp (γ 1) 110 0 (ρ 27) (ρ 45) := And.right (zChA hc 0)
  show jn91 [ρ 0, ρ 1, ρ 2, ρ 3, ρ 4, ρ 5, ρ 6, ρ 7, ρ 8, ρ 9, ρ 10, ρ 11, ρ 12, ρ 13, ρ 14, ρ 15, ρ 16, ρ 17, ρ 18, ρ 19, ρ 20, ρ 21, ρ 22, ρ 23, ρ 24, ρ 25, ρ 26] (γ 0) 0 [ρ 0, ρ 1, ρ 2, ρ 3, ρ 4, ρ 5, ρ 6, ρ 7, ρ 8, ρ 9, ρ 10, ρ 11, ρ 12, ρ 13, ρ 14, ρ 15, ρ 16, ρ 17, ρ 18, ρ 19, ρ 20, ρ 21, ρ 22, ρ 23, ρ 24, ρ 25, ρ 26, ρ 27 + 1, ρ 28, ρ 29, ρ 30, ρ 31, ρ 32, ρ 33, ρ 34, ρ 35, ρ 36, ρ 37, ρ 38, ρ 39, ρ 40, ρ 41, ρ 42, ρ 43, ρ 44] (γ 2)
  have hD : en91 (γ 0) (0, [ρ 27], γ 1) = .inl (0, [ρ 27 + 1], γ 2) := by
    unfold en91
    refine zIP (show (0 : Nat) = 0 by decide) (zLV (γ 1) rfl (zLV (ρ 27) rfl (zLE m46 (zIN w_0 (zLE m48 (zLE c2.symm ?_))))))
    rfl
  exact zGoo_ato hJ hD
theorem yn91 {S : Nat → zSpc} (hS1 : zIm S 1 sn1) (hS5 : zIm S 5 sn5) (hS7 : zIm S 7 sn7) (hS8 : zIm S 8 sn8) (hS28 : zIm S 28 sn28) (hS32 : zIm S 32 sn32) (hS38 : zIm S 38 sn38) (hS44 : zIm S 44 sn44) (hS74 : zIm S 74 sn74) : ∀ x g o v gz, zSem uW uT w91_.2.2.2.1 w91_.2.2.1.1.length S q91 (fun i => q91a.getD i []) (zNA a91_) x g o v gz → sn91 x g o v gz := by
  intro a g o v gz h
  exact zSem_all (l0 := q91) (las := q91a) (S := S) (J := (fun i vs g1 => jn91 a g i vs g1)) (P := sn91 a g) (fun _ => (show zAll _ [q91_0, q91_1, q91_2, q91_3, q91_4, q91_5] from (zAll_c (vn91_0 hS1 hS5 hS7 hS8 hS28 hS32 hS38 hS44 hS74) (zAll_c (vn91_1 hS1 hS5 hS7 hS8 hS28 hS32 hS38 hS44 hS74) (zAll_c (vn91_2 hS1 hS5 hS7 hS8 hS28 hS32 hS38 hS44 hS74) (zAll_c (vn91_3 hS1 hS5 hS7 hS8 hS28 hS32 hS38 hS44 hS74) (zAll_c (vn91_4 hS1 hS5 hS7 hS8 hS28 hS32 hS38 hS44 hS74) (zAll_c (vn91_5 hS1 hS5 hS7 hS8 hS28 hS32 hS38 hS44 hS74) zAll_n)))))))) (fun _ => (show zAllI _ 0 [q91a0] from ⟨(show zAll _ [q91a0_0, q91a0_1] from (zAll_c (vn91a0_0 hS1 hS5 hS7 hS8 hS28 hS32 hS38 hS44 hS74) (zAll_c (vn91a0_1 hS1 hS5 hS7 hS8 hS28 hS32 hS38 hS44 hS74) zAll_n))), trivial⟩)) h
theorem vn92_0 {S : Nat → zSpc}  {a : List Int} {g : rHp} : ∀ (ρ : Nat → Int) (γ : Nat → rHp), zO 2 S a g q92_0 ρ γ → zGl (fun i vs g1 => jn92 a g i vs g1) (sn92 a g) q92_0 ρ γ := by
  intro ρ γ h
  obtain ⟨ha, hg, hr, hf, hm, hc, hl⟩ := h
  have ha : a = [ρ 0, ρ 1] := ha
  subst ha
  subst hg
  show jn92 [ρ 0, ρ 1] (γ 0) 0 [ρ 0, ρ 1, 0] (γ 0)
  have hD : dn92 [ρ 0] (γ 0) = .inl (0, [ρ 0, 0], γ 0) := by
    unfold dn92
    refine zLV (ρ 0) rfl ?_
    rfl
  exact zGoo_to hD
theorem vn92a0_0 {S : Nat → zSpc}  {a : List Int} {g : rHp} : ∀ (ρ : Nat → Int) (γ : Nat → rHp), jn92 a g 0 (zAg (zNA a92_ 0) ρ) (γ 1) → zO 2 S a g q92a0_0 ρ γ → zGl (fun i vs g1 => jn92 a g i vs g1) (sn92 a g) q92a0_0 ρ γ := by
  intro ρ γ hJ h
  obtain ⟨ha, hg, hr, hf, hm, hc, hl⟩ := h
  have ha : a = [ρ 0, ρ 1] := ha
  subst ha
  subst hg
  have hJ : jn92 [ρ 0, ρ 1] (γ 0) 0 [ρ 0, ρ 1, ρ 2] (γ 1) := hJ
  have r1 : (0 : Int) ≤ ρ 1 ∧ ρ 1 ≤ 5119 := zRnA hr 1
  have f0 : (0 : Int) ≤ ρ 2 + -ρ 1 := zAllA hf 0
  obtain ⟨w_0, w_1⟩ : (ρ 2 ≥ ρ 1) ∧ (ρ 1 < 5120) := ⟨by omega, by omega⟩
  have m0 : γ 0 3 0 1 = ρ 1 := zAllA hm 0
  have c2 : γ 2 = rUp (γ 1) 26 0 (ρ 1) (ρ 0) := And.right (zChA hc 1)
  have c3 : γ 3 = rUp (γ 2) 3 0 1 (ρ 1 + 1) := And.right (zChA hc 0)
  show sn92 [ρ 0, ρ 1] (γ 0) 0 (ρ 1) (γ 3)
  have hD : en92 (γ 0) (0, [ρ 0, ρ 2], γ 1) = .inr (0, ρ 1, γ 3) := by
    unfold en92
    refine zIP (show (0 : Nat) = 0 by decide) (zLV (γ 1) rfl (zLV (ρ 0) rfl (zLV (ρ 2) rfl (zLE m0 (zIP w_0 (zIP w_1 (zLE c2.symm ?_)))))))
    refine zLE c3.symm ?_
    rfl
  exact zGoo_aend hJ hD
theorem vn92a0_1 {S : Nat → zSpc}  {a : List Int} {g : rHp} : ∀ (ρ : Nat → Int) (γ : Nat → rHp), jn92 a g 0 (zAg (zNA a92_ 0) ρ) (γ 1) → zO 2 S a g q92a0_1 ρ γ → zGl (fun i vs g1 => jn92 a g i vs g1) (sn92 a g) q92a0_1 ρ γ := by
  intro ρ γ hJ h
  obtain ⟨ha, hg, hr, hf, hm, hc, hl⟩ := h
  have ha : a = [ρ 0, ρ 1] := ha
  subst ha
  subst hg
  have hJ : jn92 [ρ 0, ρ 1] (γ 0) 0 [ρ 0, ρ 1, ρ 2] (γ 1) := hJ
  have r1 : (5120 : Int) ≤ ρ 1 ∧ ρ 1 ≤ 5120 := zRnA hr 1
  have f0 : (0 : Int) ≤ ρ 2 + -ρ 1 := zAllA hf 0
  obtain ⟨w_0, w_1⟩ : (ρ 2 ≥ ρ 1) ∧ (¬ (ρ 1 < 5120)) := ⟨by omega, by omega⟩
  have m0 : γ 0 3 0 1 = ρ 1 := zAllA hm 0
  show sn92 [ρ 0, ρ 1] (γ 0) 0 (-1) (γ 1)
  have hD : en92 (γ 0) (0, [ρ 0, ρ 2], γ 1) = .inr (0, (-1), γ 1) := by
    unfold en92
    refine zIP (show (0 : Nat) = 0 by decide) (zLV (γ 1) rfl (zLV (ρ 0) rfl (zLV (ρ 2) rfl (zLE m0 (zIP w_0 (zIN w_1 ?_))))))
    rfl
  exact zGoo_aend hJ hD
theorem vn92a0_2 {S : Nat → zSpc}  {a : List Int} {g : rHp} : ∀ (ρ : Nat → Int) (γ : Nat → rHp), jn92 a g 0 (zAg (zNA a92_ 0) ρ) (γ 1) → zO 2 S a g q92a0_2 ρ γ → zGl (fun i vs g1 => jn92 a g i vs g1) (sn92 a g) q92a0_2 ρ γ := by
  intro ρ γ hJ h
  obtain ⟨ha, hg, hr, hf, hm, hc, hl⟩ := h
  have ha : a = [ρ 0, ρ 1] := ha
  subst ha
  subst hg
  have hJ : jn92 [ρ 0, ρ 1] (γ 0) 0 [ρ 0, ρ 1, ρ 2] (γ 1) := hJ
  have r0 : ((-9223372036854775808) : Int) ≤ ρ 0 ∧ ρ 0 ≤ 9223372036854775807 := zRnA hr 0
  have r3 : ((-9223372036854775808) : Int) ≤ ρ 3 ∧ ρ 3 ≤ 9223372036854775807 := zRnA hr 3
  have f0 : (0 : Int) ≤ -ρ 2 + ρ 1 + (-1) := zAllA hf 0
  have w_0 : ¬ (ρ 2 ≥ ρ 1) := by omega
  have m0 : γ 0 3 0 1 = ρ 1 := zAllA hm 0
  have m1 : γ 0 26 0 (ρ 2) = ρ 3 := zAllA hm 1
  have l0 : ρ 3 ≠ ρ 0 := zAllA hl 0
  have wl_0 : ρ 3 ≠ ρ 0 := by omega
  show jn92 [ρ 0, ρ 1] (γ 0) 0 [ρ 0, ρ 1, ρ 2 + 1] (γ 1)
  have hD : en92 (γ 0) (0, [ρ 0, ρ 2], γ 1) = .inl (0, [ρ 0, ρ 2 + 1], γ 1) := by
    unfold en92
    refine zIP (show (0 : Nat) = 0 by decide) (zLV (γ 1) rfl (zLV (ρ 0) rfl (zLV (ρ 2) rfl (zLE m0 (zIN w_0 (zLE m1 (zIP wl_0 ?_)))))))
    rfl
  exact zGoo_ato hJ hD
theorem vn92a0_3 {S : Nat → zSpc}  {a : List Int} {g : rHp} : ∀ (ρ : Nat → Int) (γ : Nat → rHp), jn92 a g 0 (zAg (zNA a92_ 0) ρ) (γ 1) → zO 2 S a g q92a0_3 ρ γ → zGl (fun i vs g1 => jn92 a g i vs g1) (sn92 a g) q92a0_3 ρ γ := by
  intro ρ γ hJ h
  obtain ⟨ha, hg, hr, hf, hm, hc, hl⟩ := h
  have ha : a = [ρ 0, ρ 1] := ha
  subst ha
  subst hg
  have hJ : jn92 [ρ 0, ρ 1] (γ 0) 0 [ρ 0, ρ 1, ρ 2] (γ 1) := hJ
  have f0 : (0 : Int) ≤ -ρ 3 + ρ 0 := zAllA hf 0
  have f1 : (0 : Int) ≤ ρ 3 + -ρ 0 := zAllA hf 1
  have f2 : (0 : Int) ≤ -ρ 2 + ρ 1 + (-1) := zAllA hf 2
  obtain ⟨w_0, w_1⟩ : (¬ (ρ 2 ≥ ρ 1)) ∧ (¬ (ρ 3 ≠ ρ 0)) := ⟨by omega, by omega⟩
  have m0 : γ 0 3 0 1 = ρ 1 := zAllA hm 0
  have m1 : γ 0 26 0 (ρ 2) = ρ 3 := zAllA hm 1
  show sn92 [ρ 0, ρ 1] (γ 0) 0 (ρ 2) (γ 1)
  have hD : en92 (γ 0) (0, [ρ 0, ρ 2], γ 1) = .inr (0, ρ 2, γ 1) := by
    unfold en92
    refine zIP (show (0 : Nat) = 0 by decide) (zLV (γ 1) rfl (zLV (ρ 0) rfl (zLV (ρ 2) rfl (zLE m0 (zIN w_0 (zLE m1 (zIN w_1 ?_)))))))
    rfl
  exact zGoo_aend hJ hD
theorem yn92 {S : Nat → zSpc}  : ∀ x g o v gz, zSem uW uT w92_.2.2.2.1 w92_.2.2.1.1.length S q92 (fun i => q92a.getD i []) (zNA a92_) x g o v gz → sn92 x g o v gz := by
  intro a g o v gz h
  exact zSem_all (l0 := q92) (las := q92a) (S := S) (J := (fun i vs g1 => jn92 a g i vs g1)) (P := sn92 a g) (fun _ => (show zAll _ [q92_0] from (zAll_c (vn92_0 ) zAll_n))) (fun _ => (show zAllI _ 0 [q92a0] from ⟨(show zAll _ [q92a0_0, q92a0_1, q92a0_2, q92a0_3] from (zAll_c (vn92a0_0 ) (zAll_c (vn92a0_1 ) (zAll_c (vn92a0_2 ) (zAll_c (vn92a0_3 ) zAll_n))))), trivial⟩)) h
theorem vn94_0 {S : Nat → zSpc}  {a : List Int} {g : rHp} : ∀ (ρ : Nat → Int) (γ : Nat → rHp), zO 1 S a g q94_0 ρ γ → zGl (fun i vs g1 => jn94 a g i vs g1) (sn94 a g) q94_0 ρ γ := by
  intro ρ γ h
  obtain ⟨ha, hg, hr, hf, hm, hc, hl⟩ := h
  have ha : a = [ρ 0] := ha
  subst ha
  subst hg
  show jn94 [ρ 0] (γ 0) 0 [ρ 0, 0] (γ 0)
  have hD : dn94 [ρ 0] (γ 0) = .inl (0, [ρ 0, 0], γ 0) := by
    unfold dn94
    refine zLV (ρ 0) rfl ?_
    rfl
  exact zGoo_to hD
theorem vn94a0_0 {S : Nat → zSpc}  {a : List Int} {g : rHp} : ∀ (ρ : Nat → Int) (γ : Nat → rHp), jn94 a g 0 (zAg (zNA a94_ 0) ρ) (γ 1) → zO 1 S a g q94a0_0 ρ γ → zGl (fun i vs g1 => jn94 a g i vs g1) (sn94 a g) q94a0_0 ρ γ := by
  intro ρ γ hJ h
  obtain ⟨ha, hg, hr, hf, hm, hc, hl⟩ := h
  have ha : a = [ρ 0] := ha
  subst ha
  subst hg
  have hJ : jn94 [ρ 0] (γ 0) 0 [ρ 0, ρ 1] (γ 1) := hJ
  have r1 : (20 : Int) ≤ ρ 1 ∧ ρ 1 ≤ 20 := zRnA hr 1
  have w_0 : ρ 1 ≥ 20 := by omega
  show sn94 [ρ 0] (γ 0) 0 0 (γ 1)
  have hD : en94 (γ 0) (0, [ρ 0, ρ 1], γ 1) = .inr (0, 0, γ 1) := by
    unfold en94
    refine zIP (show (0 : Nat) = 0 by decide) (zLV (γ 1) rfl (zLV (ρ 0) rfl (zLV (ρ 1) rfl (zIP w_0 ?_))))
    rfl
  exact zGoo_aend hJ hD
theorem vn94a0_1 {S : Nat → zSpc}  {a : List Int} {g : rHp} : ∀ (ρ : Nat → Int) (γ : Nat → rHp), jn94 a g 0 (zAg (zNA a94_ 0) ρ) (γ 1) → zO 1 S a g q94a0_1 ρ γ → zGl (fun i vs g1 => jn94 a g i vs g1) (sn94 a g) q94a0_1 ρ γ := by
  intro ρ γ hJ h
  obtain ⟨ha, hg, hr, hf, hm, hc, hl⟩ := h
  have ha : a = [ρ 0] := ha
  subst ha
  subst hg
  have hJ : jn94 [ρ 0] (γ 0) 0 [ρ 0, ρ 1] (γ 1) := hJ
  have r1 : (0 : Int) ≤ ρ 1 ∧ ρ 1 ≤ 19 := zRnA hr 1
  have w_0 : ¬ (ρ 1 ≥ 20) := by omega
  have c2 : γ 2 = rUp (γ 1) 18 0 (ρ 1) (ρ 0) := And.right (zChA hc 0)
  show jn94 [ρ 0] (γ 0) 0 [ρ 0, ρ 1 + 1] (γ 2)
  have hD : en94 (γ 0) (0, [ρ 0, ρ 1], γ 1) = .inl (0, [ρ 0, ρ 1 + 1], γ 2) := by
    unfold en94
    refine zIP (show (0 : Nat) = 0 by decide) (zLV (γ 1) rfl (zLV (ρ 0) rfl (zLV (ρ 1) rfl (zIN w_0 (zLE c2.symm ?_)))))
    rfl
  exact zGoo_ato hJ hD
theorem yn94 {S : Nat → zSpc}  : ∀ x g o v gz, zSem uW uT w94_.2.2.2.1 w94_.2.2.1.1.length S q94 (fun i => q94a.getD i []) (zNA a94_) x g o v gz → sn94 x g o v gz := by
  intro a g o v gz h
  exact zSem_all (l0 := q94) (las := q94a) (S := S) (J := (fun i vs g1 => jn94 a g i vs g1)) (P := sn94 a g) (fun _ => (show zAll _ [q94_0] from (zAll_c (vn94_0 ) zAll_n))) (fun _ => (show zAllI _ 0 [q94a0] from ⟨(show zAll _ [q94a0_0, q94a0_1] from (zAll_c (vn94a0_0 ) (zAll_c (vn94a0_1 ) zAll_n))), trivial⟩)) h
theorem vn95_0 {S : Nat → zSpc}  {a : List Int} {g : rHp} : ∀ (ρ : Nat → Int) (γ : Nat → rHp), zO 1 S a g q95_0 ρ γ → zGl (fun i vs g1 => jn95 a g i vs g1) (sn95 a g) q95_0 ρ γ := by
  intro ρ γ h
  obtain ⟨ha, hg, hr, hf, hm, hc, hl⟩ := h
  have ha : a = [ρ 0] := ha
  subst ha
  subst hg
  show jn95 [ρ 0] (γ 0) 0 [ρ 0, 0] (γ 0)
  have hD : dn95 [ρ 0] (γ 0) = .inl (0, [ρ 0, 0], γ 0) := by
    unfold dn95
    refine zLV (ρ 0) rfl ?_
    rfl
  exact zGoo_to hD
theorem vn95a0_0 {S : Nat → zSpc}  {a : List Int} {g : rHp} : ∀ (ρ : Nat → Int) (γ : Nat → rHp), jn95 a g 0 (zAg (zNA a95_ 0) ρ) (γ 1) → zO 1 S a g q95a0_0 ρ γ → zGl (fun i vs g1 => jn95 a g i vs g1) (sn95 a g) q95a0_0 ρ γ := by
  intro ρ γ hJ h
  obtain ⟨ha, hg, hr, hf, hm, hc, hl⟩ := h
  have ha : a = [ρ 0] := ha
  subst ha
  subst hg
  have hJ : jn95 [ρ 0] (γ 0) 0 [ρ 0, ρ 1] (γ 1) := hJ
  have r1 : (64 : Int) ≤ ρ 1 ∧ ρ 1 ≤ 64 := zRnA hr 1
  have w_0 : ρ 1 ≥ 64 := by omega
  show sn95 [ρ 0] (γ 0) 0 0 (γ 1)
  have hD : en95 (γ 0) (0, [ρ 0, ρ 1], γ 1) = .inr (0, 0, γ 1) := by
    unfold en95
    refine zIP (show (0 : Nat) = 0 by decide) (zLV (γ 1) rfl (zLV (ρ 0) rfl (zLV (ρ 1) rfl (zIP w_0 ?_))))
    rfl
  exact zGoo_aend hJ hD
theorem vn95a0_1 {S : Nat → zSpc}  {a : List Int} {g : rHp} : ∀ (ρ : Nat → Int) (γ : Nat → rHp), jn95 a g 0 (zAg (zNA a95_ 0) ρ) (γ 1) → zO 1 S a g q95a0_1 ρ γ → zGl (fun i vs g1 => jn95 a g i vs g1) (sn95 a g) q95a0_1 ρ γ := by
  intro ρ γ hJ h
  obtain ⟨ha, hg, hr, hf, hm, hc, hl⟩ := h
  have ha : a = [ρ 0] := ha
  subst ha
  subst hg
  have hJ : jn95 [ρ 0] (γ 0) 0 [ρ 0, ρ 1] (γ 1) := hJ
  have r1 : (0 : Int) ≤ ρ 1 ∧ ρ 1 ≤ 63 := zRnA hr 1
  have w_0 : ¬ (ρ 1 ≥ 64) := by omega
  have c2 : γ 2 = rUp (γ 1) 47 0 (ρ 1) (ρ 0) := And.right (zChA hc 0)
  show jn95 [ρ 0] (γ 0) 0 [ρ 0, ρ 1 + 1] (γ 2)
  have hD : en95 (γ 0) (0, [ρ 0, ρ 1], γ 1) = .inl (0, [ρ 0, ρ 1 + 1], γ 2) := by
    unfold en95
    refine zIP (show (0 : Nat) = 0 by decide) (zLV (γ 1) rfl (zLV (ρ 0) rfl (zLV (ρ 1) rfl (zIN w_0 (zLE c2.symm ?_)))))
    rfl
  exact zGoo_ato hJ hD
theorem yn95 {S : Nat → zSpc}  : ∀ x g o v gz, zSem uW uT w95_.2.2.2.1 w95_.2.2.1.1.length S q95 (fun i => q95a.getD i []) (zNA a95_) x g o v gz → sn95 x g o v gz := by
  intro a g o v gz h
  exact zSem_all (l0 := q95) (las := q95a) (S := S) (J := (fun i vs g1 => jn95 a g i vs g1)) (P := sn95 a g) (fun _ => (show zAll _ [q95_0] from (zAll_c (vn95_0 ) zAll_n))) (fun _ => (show zAllI _ 0 [q95a0] from ⟨(show zAll _ [q95a0_0, q95a0_1] from (zAll_c (vn95a0_0 ) (zAll_c (vn95a0_1 ) zAll_n))), trivial⟩)) h
theorem vn96_0 {S : Nat → zSpc}  {a : List Int} {g : rHp} : ∀ (ρ : Nat → Int) (γ : Nat → rHp), zO 1 S a g q96_0 ρ γ → zGl (fun i vs g1 => jn96 a g i vs g1) (sn96 a g) q96_0 ρ γ := by
  intro ρ γ h
  obtain ⟨ha, hg, hr, hf, hm, hc, hl⟩ := h
  have ha : a = [ρ 0] := ha
  subst ha
  subst hg
  show jn96 [ρ 0] (γ 0) 0 [ρ 0, 0] (γ 0)
  have hD : dn96 [ρ 0] (γ 0) = .inl (0, [ρ 0, 0], γ 0) := by
    unfold dn96
    refine zLV (ρ 0) rfl ?_
    rfl
  exact zGoo_to hD
theorem vn96a0_0 {S : Nat → zSpc}  {a : List Int} {g : rHp} : ∀ (ρ : Nat → Int) (γ : Nat → rHp), jn96 a g 0 (zAg (zNA a96_ 0) ρ) (γ 1) → zO 1 S a g q96a0_0 ρ γ → zGl (fun i vs g1 => jn96 a g i vs g1) (sn96 a g) q96a0_0 ρ γ := by
  intro ρ γ hJ h
  obtain ⟨ha, hg, hr, hf, hm, hc, hl⟩ := h
  have ha : a = [ρ 0] := ha
  subst ha
  subst hg
  have hJ : jn96 [ρ 0] (γ 0) 0 [ρ 0, ρ 1] (γ 1) := hJ
  have r1 : (4096 : Int) ≤ ρ 1 ∧ ρ 1 ≤ 4096 := zRnA hr 1
  have w_0 : ρ 1 ≥ 4096 := by omega
  show sn96 [ρ 0] (γ 0) 0 0 (γ 1)
  have hD : en96 (γ 0) (0, [ρ 0, ρ 1], γ 1) = .inr (0, 0, γ 1) := by
    unfold en96
    refine zIP (show (0 : Nat) = 0 by decide) (zLV (γ 1) rfl (zLV (ρ 0) rfl (zLV (ρ 1) rfl (zIP w_0 ?_))))
    rfl
  exact zGoo_aend hJ hD
theorem vn96a0_1 {S : Nat → zSpc}  {a : List Int} {g : rHp} : ∀ (ρ : Nat → Int) (γ : Nat → rHp), jn96 a g 0 (zAg (zNA a96_ 0) ρ) (γ 1) → zO 1 S a g q96a0_1 ρ γ → zGl (fun i vs g1 => jn96 a g i vs g1) (sn96 a g) q96a0_1 ρ γ := by
  intro ρ γ hJ h
  obtain ⟨ha, hg, hr, hf, hm, hc, hl⟩ := h
  have ha : a = [ρ 0] := ha
  subst ha
  subst hg
  have hJ : jn96 [ρ 0] (γ 0) 0 [ρ 0, ρ 1] (γ 1) := hJ
  have r1 : (0 : Int) ≤ ρ 1 ∧ ρ 1 ≤ 4095 := zRnA hr 1
  have w_0 : ¬ (ρ 1 ≥ 4096) := by omega
  have c2 : γ 2 = rUp (γ 1) 50 0 (ρ 1) (ρ 0) := And.right (zChA hc 0)
  show jn96 [ρ 0] (γ 0) 0 [ρ 0, ρ 1 + 1] (γ 2)
  have hD : en96 (γ 0) (0, [ρ 0, ρ 1], γ 1) = .inl (0, [ρ 0, ρ 1 + 1], γ 2) := by
    unfold en96
    refine zIP (show (0 : Nat) = 0 by decide) (zLV (γ 1) rfl (zLV (ρ 0) rfl (zLV (ρ 1) rfl (zIN w_0 (zLE c2.symm ?_)))))
    rfl
  exact zGoo_ato hJ hD
theorem yn96 {S : Nat → zSpc}  : ∀ x g o v gz, zSem uW uT w96_.2.2.2.1 w96_.2.2.1.1.length S q96 (fun i => q96a.getD i []) (zNA a96_) x g o v gz → sn96 x g o v gz := by
  intro a g o v gz h
  exact zSem_all (l0 := q96) (las := q96a) (S := S) (J := (fun i vs g1 => jn96 a g i vs g1)) (P := sn96 a g) (fun _ => (show zAll _ [q96_0] from (zAll_c (vn96_0 ) zAll_n))) (fun _ => (show zAllI _ 0 [q96a0] from ⟨(show zAll _ [q96a0_0, q96a0_1] from (zAll_c (vn96a0_0 ) (zAll_c (vn96a0_1 ) zAll_n))), trivial⟩)) h
theorem vn97_0 {S : Nat → zSpc}  {a : List Int} {g : rHp} : ∀ (ρ : Nat → Int) (γ : Nat → rHp), zO 1 S a g q97_0 ρ γ → zGl (fun i vs g1 => jn97 a g i vs g1) (sn97 a g) q97_0 ρ γ := by
  intro ρ γ h
  obtain ⟨ha, hg, hr, hf, hm, hc, hl⟩ := h
  have ha : a = [ρ 0] := ha
  subst ha
  subst hg
  show jn97 [ρ 0] (γ 0) 0 [ρ 0, 0] (γ 0)
  have hD : dn97 [ρ 0] (γ 0) = .inl (0, [ρ 0, 0], γ 0) := by
    unfold dn97
    refine zLV (ρ 0) rfl ?_
    rfl
  exact zGoo_to hD
theorem vn97a0_0 {S : Nat → zSpc}  {a : List Int} {g : rHp} : ∀ (ρ : Nat → Int) (γ : Nat → rHp), jn97 a g 0 (zAg (zNA a97_ 0) ρ) (γ 1) → zO 1 S a g q97a0_0 ρ γ → zGl (fun i vs g1 => jn97 a g i vs g1) (sn97 a g) q97a0_0 ρ γ := by
  intro ρ γ hJ h
  obtain ⟨ha, hg, hr, hf, hm, hc, hl⟩ := h
  have ha : a = [ρ 0] := ha
  subst ha
  subst hg
  have hJ : jn97 [ρ 0] (γ 0) 0 [ρ 0, ρ 1] (γ 1) := hJ
  have r1 : (2048 : Int) ≤ ρ 1 ∧ ρ 1 ≤ 2048 := zRnA hr 1
  have w_0 : ρ 1 ≥ 2048 := by omega
  show sn97 [ρ 0] (γ 0) 0 0 (γ 1)
  have hD : en97 (γ 0) (0, [ρ 0, ρ 1], γ 1) = .inr (0, 0, γ 1) := by
    unfold en97
    refine zIP (show (0 : Nat) = 0 by decide) (zLV (γ 1) rfl (zLV (ρ 0) rfl (zLV (ρ 1) rfl (zIP w_0 ?_))))
    rfl
  exact zGoo_aend hJ hD
theorem vn97a0_1 {S : Nat → zSpc}  {a : List Int} {g : rHp} : ∀ (ρ : Nat → Int) (γ : Nat → rHp), jn97 a g 0 (zAg (zNA a97_ 0) ρ) (γ 1) → zO 1 S a g q97a0_1 ρ γ → zGl (fun i vs g1 => jn97 a g i vs g1) (sn97 a g) q97a0_1 ρ γ := by
  intro ρ γ hJ h
  obtain ⟨ha, hg, hr, hf, hm, hc, hl⟩ := h
  have ha : a = [ρ 0] := ha
  subst ha
  subst hg
  have hJ : jn97 [ρ 0] (γ 0) 0 [ρ 0, ρ 1] (γ 1) := hJ
  have r1 : (0 : Int) ≤ ρ 1 ∧ ρ 1 ≤ 2047 := zRnA hr 1
  have w_0 : ¬ (ρ 1 ≥ 2048) := by omega
  have c2 : γ 2 = rUp (γ 1) 53 0 (ρ 1) (ρ 0) := And.right (zChA hc 0)
  show jn97 [ρ 0] (γ 0) 0 [ρ 0, ρ 1 + 1] (γ 2)
  have hD : en97 (γ 0) (0, [ρ 0, ρ 1], γ 1) = .inl (0, [ρ 0, ρ 1 + 1], γ 2) := by
    unfold en97
    refine zIP (show (0 : Nat) = 0 by decide) (zLV (γ 1) rfl (zLV (ρ 0) rfl (zLV (ρ 1) rfl (zIN w_0 (zLE c2.symm ?_)))))
    rfl
  exact zGoo_ato hJ hD
theorem yn97 {S : Nat → zSpc}  : ∀ x g o v gz, zSem uW uT w97_.2.2.2.1 w97_.2.2.1.1.length S q97 (fun i => q97a.getD i []) (zNA a97_) x g o v gz → sn97 x g o v gz := by
  intro a g o v gz h
  exact zSem_all (l0 := q97) (las := q97a) (S := S) (J := (fun i vs g1 => jn97 a g i vs g1)) (P := sn97 a g) (fun _ => (show zAll _ [q97_0] from (zAll_c (vn97_0 ) zAll_n))) (fun _ => (show zAllI _ 0 [q97a0] from ⟨(show zAll _ [q97a0_0, q97a0_1] from (zAll_c (vn97a0_0 ) (zAll_c (vn97a0_1 ) zAll_n))), trivial⟩)) h
theorem vn98_0 {S : Nat → zSpc}  {a : List Int} {g : rHp} : ∀ (ρ : Nat → Int) (γ : Nat → rHp), zO 1 S a g q98_0 ρ γ → zGl (fun i vs g1 => jn98 a g i vs g1) (sn98 a g) q98_0 ρ γ := by
  intro ρ γ h
  obtain ⟨ha, hg, hr, hf, hm, hc, hl⟩ := h
  have ha : a = [ρ 0] := ha
  subst ha
  subst hg
  show jn98 [ρ 0] (γ 0) 0 [ρ 0, 0] (γ 0)
  have hD : dn98 [ρ 0] (γ 0) = .inl (0, [ρ 0, 0], γ 0) := by
    unfold dn98
    refine zLV (ρ 0) rfl ?_
    rfl
  exact zGoo_to hD
theorem vn98a0_0 {S : Nat → zSpc}  {a : List Int} {g : rHp} : ∀ (ρ : Nat → Int) (γ : Nat → rHp), jn98 a g 0 (zAg (zNA a98_ 0) ρ) (γ 1) → zO 1 S a g q98a0_0 ρ γ → zGl (fun i vs g1 => jn98 a g i vs g1) (sn98 a g) q98a0_0 ρ γ := by
  intro ρ γ hJ h
  obtain ⟨ha, hg, hr, hf, hm, hc, hl⟩ := h
  have ha : a = [ρ 0] := ha
  subst ha
  subst hg
  have hJ : jn98 [ρ 0] (γ 0) 0 [ρ 0, ρ 1] (γ 1) := hJ
  have r1 : (512 : Int) ≤ ρ 1 ∧ ρ 1 ≤ 512 := zRnA hr 1
  have w_0 : ρ 1 ≥ 512 := by omega
  show sn98 [ρ 0] (γ 0) 0 0 (γ 1)
  have hD : en98 (γ 0) (0, [ρ 0, ρ 1], γ 1) = .inr (0, 0, γ 1) := by
    unfold en98
    refine zIP (show (0 : Nat) = 0 by decide) (zLV (γ 1) rfl (zLV (ρ 0) rfl (zLV (ρ 1) rfl (zIP w_0 ?_))))
    rfl
  exact zGoo_aend hJ hD
theorem vn98a0_1 {S : Nat → zSpc}  {a : List Int} {g : rHp} : ∀ (ρ : Nat → Int) (γ : Nat → rHp), jn98 a g 0 (zAg (zNA a98_ 0) ρ) (γ 1) → zO 1 S a g q98a0_1 ρ γ → zGl (fun i vs g1 => jn98 a g i vs g1) (sn98 a g) q98a0_1 ρ γ := by
  intro ρ γ hJ h
  obtain ⟨ha, hg, hr, hf, hm, hc, hl⟩ := h
  have ha : a = [ρ 0] := ha
  subst ha
  subst hg
  have hJ : jn98 [ρ 0] (γ 0) 0 [ρ 0, ρ 1] (γ 1) := hJ
  have r1 : (0 : Int) ≤ ρ 1 ∧ ρ 1 ≤ 511 := zRnA hr 1
  have w_0 : ¬ (ρ 1 ≥ 512) := by omega
  have c2 : γ 2 = rUp (γ 1) 56 0 (ρ 1) (ρ 0) := And.right (zChA hc 0)
  show jn98 [ρ 0] (γ 0) 0 [ρ 0, ρ 1 + 1] (γ 2)
  have hD : en98 (γ 0) (0, [ρ 0, ρ 1], γ 1) = .inl (0, [ρ 0, ρ 1 + 1], γ 2) := by
    unfold en98
    refine zIP (show (0 : Nat) = 0 by decide) (zLV (γ 1) rfl (zLV (ρ 0) rfl (zLV (ρ 1) rfl (zIN w_0 (zLE c2.symm ?_)))))
    rfl
  exact zGoo_ato hJ hD
theorem yn98 {S : Nat → zSpc}  : ∀ x g o v gz, zSem uW uT w98_.2.2.2.1 w98_.2.2.1.1.length S q98 (fun i => q98a.getD i []) (zNA a98_) x g o v gz → sn98 x g o v gz := by
  intro a g o v gz h
  exact zSem_all (l0 := q98) (las := q98a) (S := S) (J := (fun i vs g1 => jn98 a g i vs g1)) (P := sn98 a g) (fun _ => (show zAll _ [q98_0] from (zAll_c (vn98_0 ) zAll_n))) (fun _ => (show zAllI _ 0 [q98a0] from ⟨(show zAll _ [q98a0_0, q98a0_1] from (zAll_c (vn98a0_0 ) (zAll_c (vn98a0_1 ) zAll_n))), trivial⟩)) h
theorem vn99_0 {S : Nat → zSpc}  {a : List Int} {g : rHp} : ∀ (ρ : Nat → Int) (γ : Nat → rHp), zO 2 S a g q99_0 ρ γ → zGl (fun i vs g1 => jn99 a g i vs g1) (sn99 a g) q99_0 ρ γ := by
  intro ρ γ h
  obtain ⟨ha, hg, hr, hf, hm, hc, hl⟩ := h
  have ha : a = [ρ 0, ρ 1] := ha
  subst ha
  subst hg
  show jn99 [ρ 0, ρ 1] (γ 0) 0 [ρ 0, ρ 1, 0] (γ 0)
  have hD : dn99 [ρ 0, ρ 1] (γ 0) = .inl (0, [ρ 0, ρ 1, 0], γ 0) := by
    unfold dn99
    refine zLV (ρ 0) rfl (zLV (ρ 1) rfl ?_)
    rfl
  exact zGoo_to hD
theorem vn99a0_0 {S : Nat → zSpc}  {a : List Int} {g : rHp} : ∀ (ρ : Nat → Int) (γ : Nat → rHp), jn99 a g 0 (zAg (zNA a99_ 0) ρ) (γ 1) → zO 2 S a g q99a0_0 ρ γ → zGl (fun i vs g1 => jn99 a g i vs g1) (sn99 a g) q99a0_0 ρ γ := by
  intro ρ γ hJ h
  obtain ⟨ha, hg, hr, hf, hm, hc, hl⟩ := h
  have ha : a = [ρ 0, ρ 1] := ha
  subst ha
  subst hg
  have hJ : jn99 [ρ 0, ρ 1] (γ 0) 0 [ρ 0, ρ 1, ρ 2] (γ 1) := hJ
  have r2 : (4 : Int) ≤ ρ 2 ∧ ρ 2 ≤ 4 := zRnA hr 2
  have w_0 : ρ 2 ≥ 4 := by omega
  show sn99 [ρ 0, ρ 1] (γ 0) 0 0 (γ 1)
  have hD : en99 (γ 0) (0, [ρ 0, ρ 1, ρ 2], γ 1) = .inr (0, 0, γ 1) := by
    unfold en99
    refine zIP (show (0 : Nat) = 0 by decide) (zLV (γ 1) rfl (zLV (ρ 0) rfl (zLV (ρ 1) rfl (zLV (ρ 2) rfl (zIP w_0 ?_)))))
    rfl
  exact zGoo_aend hJ hD
theorem vn99a0_1 {S : Nat → zSpc}  {a : List Int} {g : rHp} : ∀ (ρ : Nat → Int) (γ : Nat → rHp), jn99 a g 0 (zAg (zNA a99_ 0) ρ) (γ 1) → zO 2 S a g q99a0_1 ρ γ → zGl (fun i vs g1 => jn99 a g i vs g1) (sn99 a g) q99a0_1 ρ γ := by
  intro ρ γ hJ h
  obtain ⟨ha, hg, hr, hf, hm, hc, hl⟩ := h
  have ha : a = [ρ 0, ρ 1] := ha
  subst ha
  subst hg
  have hJ : jn99 [ρ 0, ρ 1] (γ 0) 0 [ρ 0, ρ 1, ρ 2] (γ 1) := hJ
  have r2 : (0 : Int) ≤ ρ 2 ∧ ρ 2 ≤ 3 := zRnA hr 2
  have w_0 : ¬ (ρ 2 ≥ 4) := by omega
  have c2 : γ 2 = rUp (γ 1) 46 (ρ 0) (ρ 2) (ρ 1) := And.right (zChA hc 0)
  show jn99 [ρ 0, ρ 1] (γ 0) 0 [ρ 0, ρ 1, ρ 2 + 1] (γ 2)
  have hD : en99 (γ 0) (0, [ρ 0, ρ 1, ρ 2], γ 1) = .inl (0, [ρ 0, ρ 1, ρ 2 + 1], γ 2) := by
    unfold en99
    refine zIP (show (0 : Nat) = 0 by decide) (zLV (γ 1) rfl (zLV (ρ 0) rfl (zLV (ρ 1) rfl (zLV (ρ 2) rfl (zIN w_0 (zLE c2.symm ?_))))))
    rfl
  exact zGoo_ato hJ hD
theorem yn99 {S : Nat → zSpc}  : ∀ x g o v gz, zSem uW uT w99_.2.2.2.1 w99_.2.2.1.1.length S q99 (fun i => q99a.getD i []) (zNA a99_) x g o v gz → sn99 x g o v gz := by
  intro a g o v gz h
  exact zSem_all (l0 := q99) (las := q99a) (S := S) (J := (fun i vs g1 => jn99 a g i vs g1)) (P := sn99 a g) (fun _ => (show zAll _ [q99_0] from (zAll_c (vn99_0 ) zAll_n))) (fun _ => (show zAllI _ 0 [q99a0] from ⟨(show zAll _ [q99a0_0, q99a0_1] from (zAll_c (vn99a0_0 ) (zAll_c (vn99a0_1 ) zAll_n))), trivial⟩)) h
theorem vn100_0 {S : Nat → zSpc}  {a : List Int} {g : rHp} : ∀ (ρ : Nat → Int) (γ : Nat → rHp), zO 2 S a g q100_0 ρ γ → zGl (fun _ _ _ => True) (sn100 a g) q100_0 ρ γ := by
  intro ρ γ h
  obtain ⟨ha, hg, hr, hf, hm, hc, hl⟩ := h
  have ha : a = [ρ 0, ρ 1] := ha
  subst ha
  subst hg
  have f0 : (0 : Int) ≤ -ρ 1 + ρ 0 + (-1) := zAllA hf 0
  have w_0 : ρ 0 > ρ 1 := by omega
  show sn100 [ρ 0, ρ 1] (γ 0) 0 (ρ 1) (γ 0)
  refine Eq.symm ?_
  show fn100 [ρ 0, ρ 1] (γ 0) = _
  unfold fn100
  refine zLV (ρ 0) rfl (zLV (ρ 1) rfl (zIP w_0 ?_))
  rfl
theorem vn100_1 {S : Nat → zSpc}  {a : List Int} {g : rHp} : ∀ (ρ : Nat → Int) (γ : Nat → rHp), zO 2 S a g q100_1 ρ γ → zGl (fun _ _ _ => True) (sn100 a g) q100_1 ρ γ := by
  intro ρ γ h
  obtain ⟨ha, hg, hr, hf, hm, hc, hl⟩ := h
  have ha : a = [ρ 0, ρ 1] := ha
  subst ha
  subst hg
  have f0 : (0 : Int) ≤ ρ 1 + -ρ 0 := zAllA hf 0
  have w_0 : ¬ (ρ 0 > ρ 1) := by omega
  show sn100 [ρ 0, ρ 1] (γ 0) 0 (ρ 0) (γ 0)
  refine Eq.symm ?_
  show fn100 [ρ 0, ρ 1] (γ 0) = _
  unfold fn100
  refine zLV (ρ 0) rfl (zLV (ρ 1) rfl (zIN w_0 ?_))
  rfl
theorem yn100 {S : Nat → zSpc}  : ∀ x g o v gz, zSem uW uT w100_.2.2.2.1 w100_.2.2.1.1.length S q100 (fun i => q100a.getD i []) (zNA a100_) x g o v gz → sn100 x g o v gz := by
  intro a g o v gz h
  exact zSem_all (l0 := q100) (las := q100a) (S := S) (J := (fun _ _ _ => True)) (P := sn100 a g) (fun _ => (show zAll _ [q100_0, q100_1] from (zAll_c (vn100_0 ) (zAll_c (vn100_1 ) zAll_n)))) (fun _ => (show zAllI _ 0 [] from trivial)) h
theorem vn101_0 {S : Nat → zSpc}  {a : List Int} {g : rHp} : ∀ (ρ : Nat → Int) (γ : Nat → rHp), zO 2 S a g q101_0 ρ γ → zGl (fun _ _ _ => True) (sn101 a g) q101_0 ρ γ := by
  intro ρ γ h
  obtain ⟨ha, hg, hr, hf, hm, hc, hl⟩ := h
  have ha : a = [ρ 0, ρ 1] := ha
  subst ha
  subst hg
  have f0 : (0 : Int) ≤ ρ 1 + -ρ 0 + (-1) := zAllA hf 0
  have w_0 : ρ 0 < ρ 1 := by omega
  show sn101 [ρ 0, ρ 1] (γ 0) 0 (ρ 1) (γ 0)
  refine Eq.symm ?_
  show fn101 [ρ 0, ρ 1] (γ 0) = _
  unfold fn101
  refine zLV (ρ 0) rfl (zLV (ρ 1) rfl (zIP w_0 ?_))
  rfl
theorem vn101_1 {S : Nat → zSpc}  {a : List Int} {g : rHp} : ∀ (ρ : Nat → Int) (γ : Nat → rHp), zO 2 S a g q101_1 ρ γ → zGl (fun _ _ _ => True) (sn101 a g) q101_1 ρ γ := by
  intro ρ γ h
  obtain ⟨ha, hg, hr, hf, hm, hc, hl⟩ := h
  have ha : a = [ρ 0, ρ 1] := ha
  subst ha
  subst hg
  have f0 : (0 : Int) ≤ -ρ 1 + ρ 0 := zAllA hf 0
  have w_0 : ¬ (ρ 0 < ρ 1) := by omega
  show sn101 [ρ 0, ρ 1] (γ 0) 0 (ρ 0) (γ 0)
  refine Eq.symm ?_
  show fn101 [ρ 0, ρ 1] (γ 0) = _
  unfold fn101
  refine zLV (ρ 0) rfl (zLV (ρ 1) rfl (zIN w_0 ?_))
  rfl
theorem yn101 {S : Nat → zSpc}  : ∀ x g o v gz, zSem uW uT w101_.2.2.2.1 w101_.2.2.1.1.length S q101 (fun i => q101a.getD i []) (zNA a101_) x g o v gz → sn101 x g o v gz := by
  intro a g o v gz h
  exact zSem_all (l0 := q101) (las := q101a) (S := S) (J := (fun _ _ _ => True)) (P := sn101 a g) (fun _ => (show zAll _ [q101_0, q101_1] from (zAll_c (vn101_0 ) (zAll_c (vn101_1 ) zAll_n)))) (fun _ => (show zAllI _ 0 [] from trivial)) h
theorem vn102_0 {S : Nat → zSpc} (hS99 : zIm S 99 sn99) {a : List Int} {g : rHp} : ∀ (ρ : Nat → Int) (γ : Nat → rHp), zO 11 S a g q102_0 ρ γ → zGl (fun _ _ _ => True) (sn102 a g) q102_0 ρ γ := by
  intro ρ γ h
  obtain ⟨ha, hg, hr, hf, hm, hc, hl⟩ := h
  have ha : a = [ρ 0, ρ 1, ρ 2, ρ 3, ρ 4, ρ 5, ρ 6, ρ 7, ρ 8, ρ 9, ρ 10] := ha
  subst ha
  subst hg
  have m0 : γ 0 1 0 10 = ρ 2 := zAllA hm 0
  have m1 : γ 0 40 0 (ρ 2) = ρ 3 := zAllA hm 1
  have c1 : γ 1 = rUp (γ 0) 10 (9 * ρ 3) 4 0 := And.right (zChA hc 7)
  have c2 : γ 2 = rUp (γ 1) 10 (9 * ρ 3) 6 (ρ 0) := And.right (zChA hc 6)
  have c3 : γ 3 = rUp (γ 2) 10 (9 * ρ 3) 7 (ρ 1) := And.right (zChA hc 5)
  have c4 : γ 4 = rUp (γ 3) 10 (9 * ρ 3) 5 0 := And.right (zChA hc 4)
  have c5 : γ 5 = rUp (γ 4) 10 (9 * ρ 3) 8 (-1) := And.right (zChA hc 3)
  have c6 : γ 6 = rUp (γ 5) 10 (9 * ρ 3) 9 (-1) := And.right (zChA hc 2)
  have c7 : γ 7 = rUp (γ 6) 10 (9 * ρ 3) 12 0 := And.right (zChA hc 1)
  have l0 : sn99 [9 * ρ 3, 0] (γ 7) 0 0 (γ 8) := hS99 _ _ _ _ _ (zAllA hl 0)
  show sn102 [ρ 0, ρ 1, ρ 2, ρ 3, ρ 4, ρ 5, ρ 6, ρ 7, ρ 8, ρ 9, ρ 10] (γ 0) 0 0 (γ 8)
  refine Eq.symm ?_
  show fn102 [ρ 0, ρ 1] (γ 0) = _
  unfold fn102
  refine zLV (ρ 0) rfl (zLV (ρ 1) rfl (zLE m0 (zLE m1 (zLE c1.symm (zLE c2.symm (zLE c3.symm (zLE c4.symm ?_)))))))
  refine zLE c5.symm (zLE c6.symm (zLE c7.symm (zLE (show fn99 [9 * ρ 3, 0] (γ 7) = (0, 0, γ 8) from l0.symm) (zLV (γ 8) rfl ?_))))
  rfl
theorem yn102 {S : Nat → zSpc} (hS99 : zIm S 99 sn99) : ∀ x g o v gz, zSem uW uT w102_.2.2.2.1 w102_.2.2.1.1.length S q102 (fun i => q102a.getD i []) (zNA a102_) x g o v gz → sn102 x g o v gz := by
  intro a g o v gz h
  exact zSem_all (l0 := q102) (las := q102a) (S := S) (J := (fun _ _ _ => True)) (P := sn102 a g) (fun _ => (show zAll _ [q102_0] from (zAll_c (vn102_0 hS99) zAll_n))) (fun _ => (show zAllI _ 0 [] from trivial)) h
theorem vn103_0 {S : Nat → zSpc} (hS99 : zIm S 99 sn99) {a : List Int} {g : rHp} : ∀ (ρ : Nat → Int) (γ : Nat → rHp), zO 14 S a g q103_0 ρ γ → zGl (fun _ _ _ => True) (sn103 a g) q103_0 ρ γ := by
  intro ρ γ h
  obtain ⟨ha, hg, hr, hf, hm, hc, hl⟩ := h
  have ha : a = [ρ 0, ρ 1, ρ 2, ρ 3, ρ 4, ρ 5, ρ 6, ρ 7, ρ 8, ρ 9, ρ 10, ρ 11, ρ 12, ρ 13] := ha
  subst ha
  subst hg
  have m0 : γ 0 1 0 10 = ρ 3 := zAllA hm 0
  have m1 : γ 0 40 0 (ρ 3) = ρ 4 := zAllA hm 1
  have m2 : γ 0 9 (ρ 4) 2 = ρ 5 := zAllA hm 2
  have c1 : γ 1 = rUp (γ 0) 10 (ρ 5 + 9 * ρ 4 + 1) 4 (ρ 0) := And.right (zChA hc 7)
  have c2 : γ 2 = rUp (γ 1) 10 (ρ 5 + 9 * ρ 4 + 1) 6 (ρ 1) := And.right (zChA hc 6)
  have c3 : γ 3 = rUp (γ 2) 10 (ρ 5 + 9 * ρ 4 + 1) 7 (ρ 2) := And.right (zChA hc 5)
  have c4 : γ 4 = rUp (γ 3) 10 (ρ 5 + 9 * ρ 4 + 1) 5 0 := And.right (zChA hc 4)
  have c5 : γ 5 = rUp (γ 4) 10 (ρ 5 + 9 * ρ 4 + 1) 8 (-1) := And.right (zChA hc 3)
  have c6 : γ 6 = rUp (γ 5) 10 (ρ 5 + 9 * ρ 4 + 1) 9 (-1) := And.right (zChA hc 2)
  have c7 : γ 7 = rUp (γ 6) 10 (ρ 5 + 9 * ρ 4 + 1) 12 0 := And.right (zChA hc 1)
  have l0 : sn99 [ρ 5 + 9 * ρ 4 + 1, 0] (γ 7) 0 0 (γ 8) := hS99 _ _ _ _ _ (zAllA hl 0)
  show sn103 [ρ 0, ρ 1, ρ 2, ρ 3, ρ 4, ρ 5, ρ 6, ρ 7, ρ 8, ρ 9, ρ 10, ρ 11, ρ 12, ρ 13] (γ 0) 0 0 (γ 8)
  refine Eq.symm ?_
  show fn103 [ρ 0, ρ 1, ρ 2] (γ 0) = _
  unfold fn103
  refine zLV (ρ 0) rfl (zLV (ρ 1) rfl (zLV (ρ 2) rfl (zLE m0 (zLE m1 (zLE m2 (zLE c1.symm (zLE c2.symm ?_)))))))
  refine zLE c3.symm (zLE c4.symm (zLE c5.symm (zLE c6.symm (zLE c7.symm (zLE (show fn99 [ρ 5 + 9 * ρ 4 + 1, 0] (γ 7) = (0, 0, γ 8) from l0.symm) (zLV (γ 8) rfl ?_))))))
  rfl
theorem yn103 {S : Nat → zSpc} (hS99 : zIm S 99 sn99) : ∀ x g o v gz, zSem uW uT w103_.2.2.2.1 w103_.2.2.1.1.length S q103 (fun i => q103a.getD i []) (zNA a103_) x g o v gz → sn103 x g o v gz := by
  intro a g o v gz h
  exact zSem_all (l0 := q103) (las := q103a) (S := S) (J := (fun _ _ _ => True)) (P := sn103 a g) (fun _ => (show zAll _ [q103_0] from (zAll_c (vn103_0 hS99) zAll_n))) (fun _ => (show zAllI _ 0 [] from trivial)) h
theorem vn104_0 {S : Nat → zSpc}  {a : List Int} {g : rHp} : ∀ (ρ : Nat → Int) (γ : Nat → rHp), zO 6 S a g q104_0 ρ γ → zGl (fun _ _ _ => True) (sn104 a g) q104_0 ρ γ := by
  intro ρ γ h
  obtain ⟨ha, hg, hr, hf, hm, hc, hl⟩ := h
  have ha : a = [ρ 0, ρ 1, ρ 2, ρ 3, ρ 4, ρ 5] := ha
  subst ha
  subst hg
  have r5 : (4 : Int) ≤ ρ 5 ∧ ρ 5 ≤ 4 := zRnA hr 5
  have w_0 : ρ 5 ≥ 4 := by omega
  have m0 : γ 0 10 (ρ 0) 5 = ρ 5 := zAllA hm 0
  show sn104 [ρ 0, ρ 1, ρ 2, ρ 3, ρ 4, ρ 5] (γ 0) 0 0 (γ 0)
  refine Eq.symm ?_
  show fn104 [ρ 0, ρ 1, ρ 2, ρ 3, ρ 4] (γ 0) = _
  unfold fn104
  refine zLV (ρ 0) rfl (zLV (ρ 1) rfl (zLV (ρ 2) rfl (zLV (ρ 3) rfl (zLV (ρ 4) rfl (zLE m0 (zIP w_0 ?_))))))
  rfl
theorem vn104_1 {S : Nat → zSpc}  {a : List Int} {g : rHp} : ∀ (ρ : Nat → Int) (γ : Nat → rHp), zO 6 S a g q104_1 ρ γ → zGl (fun _ _ _ => True) (sn104 a g) q104_1 ρ γ := by
  intro ρ γ h
  obtain ⟨ha, hg, hr, hf, hm, hc, hl⟩ := h
  have ha : a = [ρ 0, ρ 1, ρ 2, ρ 3, ρ 4, ρ 5] := ha
  subst ha
  subst hg
  have r5 : (0 : Int) ≤ ρ 5 ∧ ρ 5 ≤ 3 := zRnA hr 5
  have w_0 : ¬ (ρ 5 ≥ 4) := by omega
  have m0 : γ 0 10 (ρ 0) 5 = ρ 5 := zAllA hm 0
  have c1 : γ 1 = rUp (γ 0) 43 (ρ 0) (ρ 5) (ρ 1) := And.right (zChA hc 4)
  have c2 : γ 2 = rUp (γ 1) 45 (ρ 0) (ρ 5) (ρ 2) := And.right (zChA hc 3)
  have c3 : γ 3 = rUp (γ 2) 44 (ρ 0) (ρ 5) (ρ 3) := And.right (zChA hc 2)
  have c4 : γ 4 = rUp (γ 3) 46 (ρ 0) (ρ 5) (ρ 4) := And.right (zChA hc 1)
  have c5 : γ 5 = rUp (γ 4) 10 (ρ 0) 5 (ρ 5 + 1) := And.right (zChA hc 0)
  show sn104 [ρ 0, ρ 1, ρ 2, ρ 3, ρ 4, ρ 5] (γ 0) 0 0 (γ 5)
  refine Eq.symm ?_
  show fn104 [ρ 0, ρ 1, ρ 2, ρ 3, ρ 4] (γ 0) = _
  unfold fn104
  refine zLV (ρ 0) rfl (zLV (ρ 1) rfl (zLV (ρ 2) rfl (zLV (ρ 3) rfl (zLV (ρ 4) rfl (zLE m0 (zIN w_0 (zLE c1.symm ?_)))))))
  refine zLE c2.symm (zLE c3.symm (zLE c4.symm (zLE c5.symm ?_)))
  rfl
theorem yn104 {S : Nat → zSpc}  : ∀ x g o v gz, zSem uW uT w104_.2.2.2.1 w104_.2.2.1.1.length S q104 (fun i => q104a.getD i []) (zNA a104_) x g o v gz → sn104 x g o v gz := by
  intro a g o v gz h
  exact zSem_all (l0 := q104) (las := q104a) (S := S) (J := (fun _ _ _ => True)) (P := sn104 a g) (fun _ => (show zAll _ [q104_0, q104_1] from (zAll_c (vn104_0 ) (zAll_c (vn104_1 ) zAll_n)))) (fun _ => (show zAllI _ 0 [] from trivial)) h
theorem vn105_0 {S : Nat → zSpc}  {a : List Int} {g : rHp} : ∀ (ρ : Nat → Int) (γ : Nat → rHp), zO 1 S a g q105_0 ρ γ → zGl (fun _ _ _ => True) (sn105 a g) q105_0 ρ γ := by
  intro ρ γ h
  obtain ⟨ha, hg, hr, hf, hm, hc, hl⟩ := h
  have ha : a = [ρ 0] := ha
  subst ha
  subst hg
  have r0 : ((-2147483648) : Int) ≤ ρ 0 ∧ ρ 0 ≤ 96 := zRnA hr 0
  have w_0 : ρ 0 < 97 := by omega
  show sn105 [ρ 0] (γ 0) 0 0 (γ 0)
  refine Eq.symm ?_
  show fn105 [ρ 0] (γ 0) = _
  unfold fn105
  refine zLV (ρ 0) rfl (zIP w_0 ?_)
  rfl
theorem vn105_1 {S : Nat → zSpc}  {a : List Int} {g : rHp} : ∀ (ρ : Nat → Int) (γ : Nat → rHp), zO 1 S a g q105_1 ρ γ → zGl (fun _ _ _ => True) (sn105 a g) q105_1 ρ γ := by
  intro ρ γ h
  obtain ⟨ha, hg, hr, hf, hm, hc, hl⟩ := h
  have ha : a = [ρ 0] := ha
  subst ha
  subst hg
  have r0 : (123 : Int) ≤ ρ 0 ∧ ρ 0 ≤ 2147483647 := zRnA hr 0
  obtain ⟨w_0, w_1⟩ : (¬ (ρ 0 < 97)) ∧ (ρ 0 > 122) := ⟨by omega, by omega⟩
  show sn105 [ρ 0] (γ 0) 0 0 (γ 0)
  refine Eq.symm ?_
  show fn105 [ρ 0] (γ 0) = _
  unfold fn105
  refine zLV (ρ 0) rfl (zIN w_0 (zIP w_1 ?_))
  rfl
theorem vn105_2 {S : Nat → zSpc}  {a : List Int} {g : rHp} : ∀ (ρ : Nat → Int) (γ : Nat → rHp), zO 1 S a g q105_2 ρ γ → zGl (fun _ _ _ => True) (sn105 a g) q105_2 ρ γ := by
  intro ρ γ h
  obtain ⟨ha, hg, hr, hf, hm, hc, hl⟩ := h
  have ha : a = [ρ 0] := ha
  subst ha
  subst hg
  have r0 : (97 : Int) ≤ ρ 0 ∧ ρ 0 ≤ 122 := zRnA hr 0
  obtain ⟨w_0, w_1⟩ : (¬ (ρ 0 < 97)) ∧ (¬ (ρ 0 > 122)) := ⟨by omega, by omega⟩
  show sn105 [ρ 0] (γ 0) 0 1 (γ 0)
  refine Eq.symm ?_
  show fn105 [ρ 0] (γ 0) = _
  unfold fn105
  refine zLV (ρ 0) rfl (zIN w_0 (zIN w_1 ?_))
  rfl
theorem yn105 {S : Nat → zSpc}  : ∀ x g o v gz, zSem uW uT w105_.2.2.2.1 w105_.2.2.1.1.length S q105 (fun i => q105a.getD i []) (zNA a105_) x g o v gz → sn105 x g o v gz := by
  intro a g o v gz h
  exact zSem_all (l0 := q105) (las := q105a) (S := S) (J := (fun _ _ _ => True)) (P := sn105 a g) (fun _ => (show zAll _ [q105_0, q105_1, q105_2] from (zAll_c (vn105_0 ) (zAll_c (vn105_1 ) (zAll_c (vn105_2 ) zAll_n))))) (fun _ => (show zAllI _ 0 [] from trivial)) h
theorem vn106_0 {S : Nat → zSpc}  {a : List Int} {g : rHp} : ∀ (ρ : Nat → Int) (γ : Nat → rHp), zO 1 S a g q106_0 ρ γ → zGl (fun _ _ _ => True) (sn106 a g) q106_0 ρ γ := by
  intro ρ γ h
  obtain ⟨ha, hg, hr, hf, hm, hc, hl⟩ := h
  have ha : a = [ρ 0] := ha
  subst ha
  subst hg
  have r0 : ((-2147483648) : Int) ≤ ρ 0 ∧ ρ 0 ≤ 64 := zRnA hr 0
  have w_0 : ρ 0 < 65 := by omega
  show sn106 [ρ 0] (γ 0) 0 0 (γ 0)
  refine Eq.symm ?_
  show fn106 [ρ 0] (γ 0) = _
  unfold fn106
  refine zLV (ρ 0) rfl (zIP w_0 ?_)
  rfl
theorem vn106_1 {S : Nat → zSpc}  {a : List Int} {g : rHp} : ∀ (ρ : Nat → Int) (γ : Nat → rHp), zO 1 S a g q106_1 ρ γ → zGl (fun _ _ _ => True) (sn106 a g) q106_1 ρ γ := by
  intro ρ γ h
  obtain ⟨ha, hg, hr, hf, hm, hc, hl⟩ := h
  have ha : a = [ρ 0] := ha
  subst ha
  subst hg
  have r0 : (91 : Int) ≤ ρ 0 ∧ ρ 0 ≤ 2147483647 := zRnA hr 0
  obtain ⟨w_0, w_1⟩ : (¬ (ρ 0 < 65)) ∧ (ρ 0 > 90) := ⟨by omega, by omega⟩
  show sn106 [ρ 0] (γ 0) 0 0 (γ 0)
  refine Eq.symm ?_
  show fn106 [ρ 0] (γ 0) = _
  unfold fn106
  refine zLV (ρ 0) rfl (zIN w_0 (zIP w_1 ?_))
  rfl
theorem vn106_2 {S : Nat → zSpc}  {a : List Int} {g : rHp} : ∀ (ρ : Nat → Int) (γ : Nat → rHp), zO 1 S a g q106_2 ρ γ → zGl (fun _ _ _ => True) (sn106 a g) q106_2 ρ γ := by
  intro ρ γ h
  obtain ⟨ha, hg, hr, hf, hm, hc, hl⟩ := h
  have ha : a = [ρ 0] := ha
  subst ha
  subst hg
  have r0 : (65 : Int) ≤ ρ 0 ∧ ρ 0 ≤ 90 := zRnA hr 0
  obtain ⟨w_0, w_1⟩ : (¬ (ρ 0 < 65)) ∧ (¬ (ρ 0 > 90)) := ⟨by omega, by omega⟩
  show sn106 [ρ 0] (γ 0) 0 1 (γ 0)
  refine Eq.symm ?_
  show fn106 [ρ 0] (γ 0) = _
  unfold fn106
  refine zLV (ρ 0) rfl (zIN w_0 (zIN w_1 ?_))
  rfl
theorem yn106 {S : Nat → zSpc}  : ∀ x g o v gz, zSem uW uT w106_.2.2.2.1 w106_.2.2.1.1.length S q106 (fun i => q106a.getD i []) (zNA a106_) x g o v gz → sn106 x g o v gz := by
  intro a g o v gz h
  exact zSem_all (l0 := q106) (las := q106a) (S := S) (J := (fun _ _ _ => True)) (P := sn106 a g) (fun _ => (show zAll _ [q106_0, q106_1, q106_2] from (zAll_c (vn106_0 ) (zAll_c (vn106_1 ) (zAll_c (vn106_2 ) zAll_n))))) (fun _ => (show zAllI _ 0 [] from trivial)) h
theorem vn107_0 {S : Nat → zSpc}  {a : List Int} {g : rHp} : ∀ (ρ : Nat → Int) (γ : Nat → rHp), zO 1 S a g q107_0 ρ γ → zGl (fun _ _ _ => True) (sn107 a g) q107_0 ρ γ := by
  intro ρ γ h
  obtain ⟨ha, hg, hr, hf, hm, hc, hl⟩ := h
  have ha : a = [ρ 0] := ha
  subst ha
  subst hg
  have r0 : ((-2147483648) : Int) ≤ ρ 0 ∧ ρ 0 ≤ 47 := zRnA hr 0
  have w_0 : ρ 0 < 48 := by omega
  show sn107 [ρ 0] (γ 0) 0 0 (γ 0)
  refine Eq.symm ?_
  show fn107 [ρ 0] (γ 0) = _
  unfold fn107
  refine zLV (ρ 0) rfl (zIP w_0 ?_)
  rfl
theorem vn107_1 {S : Nat → zSpc}  {a : List Int} {g : rHp} : ∀ (ρ : Nat → Int) (γ : Nat → rHp), zO 1 S a g q107_1 ρ γ → zGl (fun _ _ _ => True) (sn107 a g) q107_1 ρ γ := by
  intro ρ γ h
  obtain ⟨ha, hg, hr, hf, hm, hc, hl⟩ := h
  have ha : a = [ρ 0] := ha
  subst ha
  subst hg
  have r0 : (58 : Int) ≤ ρ 0 ∧ ρ 0 ≤ 2147483647 := zRnA hr 0
  obtain ⟨w_0, w_1⟩ : (¬ (ρ 0 < 48)) ∧ (ρ 0 > 57) := ⟨by omega, by omega⟩
  show sn107 [ρ 0] (γ 0) 0 0 (γ 0)
  refine Eq.symm ?_
  show fn107 [ρ 0] (γ 0) = _
  unfold fn107
  refine zLV (ρ 0) rfl (zIN w_0 (zIP w_1 ?_))
  rfl
theorem vn107_2 {S : Nat → zSpc}  {a : List Int} {g : rHp} : ∀ (ρ : Nat → Int) (γ : Nat → rHp), zO 1 S a g q107_2 ρ γ → zGl (fun _ _ _ => True) (sn107 a g) q107_2 ρ γ := by
  intro ρ γ h
  obtain ⟨ha, hg, hr, hf, hm, hc, hl⟩ := h
  have ha : a = [ρ 0] := ha
  subst ha
  subst hg
  have r0 : (48 : Int) ≤ ρ 0 ∧ ρ 0 ≤ 57 := zRnA hr 0
  obtain ⟨w_0, w_1⟩ : (¬ (ρ 0 < 48)) ∧ (¬ (ρ 0 > 57)) := ⟨by omega, by omega⟩
  show sn107 [ρ 0] (γ 0) 0 1 (γ 0)
  refine Eq.symm ?_
  show fn107 [ρ 0] (γ 0) = _
  unfold fn107
  refine zLV (ρ 0) rfl (zIN w_0 (zIN w_1 ?_))
  rfl
theorem yn107 {S : Nat → zSpc}  : ∀ x g o v gz, zSem uW uT w107_.2.2.2.1 w107_.2.2.1.1.length S q107 (fun i => q107a.getD i []) (zNA a107_) x g o v gz → sn107 x g o v gz := by
  intro a g o v gz h
  exact zSem_all (l0 := q107) (las := q107a) (S := S) (J := (fun _ _ _ => True)) (P := sn107 a g) (fun _ => (show zAll _ [q107_0, q107_1, q107_2] from (zAll_c (vn107_0 ) (zAll_c (vn107_1 ) (zAll_c (vn107_2 ) zAll_n))))) (fun _ => (show zAllI _ 0 [] from trivial)) h
theorem vn108_0 {S : Nat → zSpc}  {a : List Int} {g : rHp} : ∀ (ρ : Nat → Int) (γ : Nat → rHp), zO 1 S a g q108_0 ρ γ → zGl (fun _ _ _ => True) (sn108 a g) q108_0 ρ γ := by
  intro ρ γ h
  obtain ⟨ha, hg, hr, hf, hm, hc, hl⟩ := h
  have ha : a = [ρ 0] := ha
  subst ha
  subst hg
  have r0 : ((-2147483648) : Int) ≤ ρ 0 ∧ ρ 0 ≤ 47 := zRnA hr 0
  obtain ⟨w_0, w_1⟩ : (ρ 0 < 97) ∧ (ρ 0 < 48) := ⟨by omega, by omega⟩
  show sn108 [ρ 0] (γ 0) 0 0 (γ 0)
  refine Eq.symm ?_
  show fn108 [ρ 0] (γ 0) = _
  unfold fn108
  refine zLV (ρ 0) rfl (zIP w_0 (zIP w_1 ?_))
  rfl
theorem vn108_1 {S : Nat → zSpc}  {a : List Int} {g : rHp} : ∀ (ρ : Nat → Int) (γ : Nat → rHp), zO 1 S a g q108_1 ρ γ → zGl (fun _ _ _ => True) (sn108 a g) q108_1 ρ γ := by
  intro ρ γ h
  obtain ⟨ha, hg, hr, hf, hm, hc, hl⟩ := h
  have ha : a = [ρ 0] := ha
  subst ha
  subst hg
  have r0 : (58 : Int) ≤ ρ 0 ∧ ρ 0 ≤ 96 := zRnA hr 0
  obtain ⟨w_0, w_1, w_2⟩ : (ρ 0 < 97) ∧ (¬ (ρ 0 < 48)) ∧ (ρ 0 > 57) := ⟨by omega, by omega, by omega⟩
  have l0 : ρ 0 ≠ 95 := zAllA hl 0
  have wl_0 : ρ 0 ≠ 95 := by omega
  show sn108 [ρ 0] (γ 0) 0 0 (γ 0)
  refine Eq.symm ?_
  show fn108 [ρ 0] (γ 0) = _
  unfold fn108
  refine zLV (ρ 0) rfl (zIP w_0 (zIN w_1 (zIP w_2 (zIP wl_0 ?_))))
  rfl
theorem vn108_2 {S : Nat → zSpc}  {a : List Int} {g : rHp} : ∀ (ρ : Nat → Int) (γ : Nat → rHp), zO 1 S a g q108_2 ρ γ → zGl (fun _ _ _ => True) (sn108 a g) q108_2 ρ γ := by
  intro ρ γ h
  obtain ⟨ha, hg, hr, hf, hm, hc, hl⟩ := h
  have ha : a = [ρ 0] := ha
  subst ha
  subst hg
  have r0 : (95 : Int) ≤ ρ 0 ∧ ρ 0 ≤ 95 := zRnA hr 0
  obtain ⟨w_0, w_1, w_2, w_3⟩ : (ρ 0 < 97) ∧ (¬ (ρ 0 < 48)) ∧ (ρ 0 > 57) ∧ (¬ (ρ 0 ≠ 95)) := ⟨by omega, by omega, by omega, by omega⟩
  show sn108 [ρ 0] (γ 0) 0 37 (γ 0)
  refine Eq.symm ?_
  show fn108 [ρ 0] (γ 0) = _
  unfold fn108
  refine zLV (ρ 0) rfl (zIP w_0 (zIN w_1 (zIP w_2 (zIN w_3 ?_))))
  rfl
theorem vn108_3 {S : Nat → zSpc}  {a : List Int} {g : rHp} : ∀ (ρ : Nat → Int) (γ : Nat → rHp), zO 1 S a g q108_3 ρ γ → zGl (fun _ _ _ => True) (sn108 a g) q108_3 ρ γ := by
  intro ρ γ h
  obtain ⟨ha, hg, hr, hf, hm, hc, hl⟩ := h
  have ha : a = [ρ 0] := ha
  subst ha
  subst hg
  have r0 : (48 : Int) ≤ ρ 0 ∧ ρ 0 ≤ 57 := zRnA hr 0
  obtain ⟨w_0, w_1, w_2⟩ : (ρ 0 < 97) ∧ (¬ (ρ 0 < 48)) ∧ (¬ (ρ 0 > 57)) := ⟨by omega, by omega, by omega⟩
  show sn108 [ρ 0] (γ 0) 0 (ρ 0 + (-21)) (γ 0)
  refine Eq.symm ?_
  show fn108 [ρ 0] (γ 0) = _
  unfold fn108
  refine zLV (ρ 0) rfl (zIP w_0 (zIN w_1 (zIN w_2 ?_)))
  rfl
theorem vn108_4 {S : Nat → zSpc}  {a : List Int} {g : rHp} : ∀ (ρ : Nat → Int) (γ : Nat → rHp), zO 1 S a g q108_4 ρ γ → zGl (fun _ _ _ => True) (sn108 a g) q108_4 ρ γ := by
  intro ρ γ h
  obtain ⟨ha, hg, hr, hf, hm, hc, hl⟩ := h
  have ha : a = [ρ 0] := ha
  subst ha
  subst hg
  have r0 : (123 : Int) ≤ ρ 0 ∧ ρ 0 ≤ 2147483647 := zRnA hr 0
  obtain ⟨w_0, w_1⟩ : (¬ (ρ 0 < 97)) ∧ (ρ 0 > 122) := ⟨by omega, by omega⟩
  show sn108 [ρ 0] (γ 0) 0 0 (γ 0)
  refine Eq.symm ?_
  show fn108 [ρ 0] (γ 0) = _
  unfold fn108
  refine zLV (ρ 0) rfl (zIN w_0 (zIP w_1 ?_))
  rfl
theorem vn108_5 {S : Nat → zSpc}  {a : List Int} {g : rHp} : ∀ (ρ : Nat → Int) (γ : Nat → rHp), zO 1 S a g q108_5 ρ γ → zGl (fun _ _ _ => True) (sn108 a g) q108_5 ρ γ := by
  intro ρ γ h
  obtain ⟨ha, hg, hr, hf, hm, hc, hl⟩ := h
  have ha : a = [ρ 0] := ha
  subst ha
  subst hg
  have r0 : (97 : Int) ≤ ρ 0 ∧ ρ 0 ≤ 122 := zRnA hr 0
  obtain ⟨w_0, w_1⟩ : (¬ (ρ 0 < 97)) ∧ (¬ (ρ 0 > 122)) := ⟨by omega, by omega⟩
  show sn108 [ρ 0] (γ 0) 0 (ρ 0 + (-96)) (γ 0)
  refine Eq.symm ?_
  show fn108 [ρ 0] (γ 0) = _
  unfold fn108
  refine zLV (ρ 0) rfl (zIN w_0 (zIN w_1 ?_))
  rfl
theorem yn108 {S : Nat → zSpc}  : ∀ x g o v gz, zSem uW uT w108_.2.2.2.1 w108_.2.2.1.1.length S q108 (fun i => q108a.getD i []) (zNA a108_) x g o v gz → sn108 x g o v gz := by
  intro a g o v gz h
  exact zSem_all (l0 := q108) (las := q108a) (S := S) (J := (fun _ _ _ => True)) (P := sn108 a g) (fun _ => (show zAll _ [q108_0, q108_1, q108_2, q108_3, q108_4, q108_5] from (zAll_c (vn108_0 ) (zAll_c (vn108_1 ) (zAll_c (vn108_2 ) (zAll_c (vn108_3 ) (zAll_c (vn108_4 ) (zAll_c (vn108_5 ) zAll_n)))))))) (fun _ => (show zAllI _ 0 [] from trivial)) h
theorem vn109_0 {S : Nat → zSpc}  {a : List Int} {g : rHp} : ∀ (ρ : Nat → Int) (γ : Nat → rHp), zO 2 S a g q109_0 ρ γ → zGl (fun _ _ _ => True) (sn109 a g) q109_0 ρ γ := by
  intro ρ γ h
  obtain ⟨ha, hg, hr, hf, hm, hc, hl⟩ := h
  have ha : a = [ρ 0, ρ 1] := ha
  subst ha
  subst hg
  have c1 : γ 1 = rUp (γ 0) 2 0 4 (ρ 0) := And.right (zChA hc 0)
  show sn109 [ρ 0, ρ 1] (γ 0) 0 0 (γ 1)
  refine Eq.symm ?_
  show fn109 [ρ 0] (γ 0) = _
  unfold fn109
  refine zLV (ρ 0) rfl (zLE c1.symm ?_)
  rfl
theorem yn109 {S : Nat → zSpc}  : ∀ x g o v gz, zSem uW uT w109_.2.2.2.1 w109_.2.2.1.1.length S q109 (fun i => q109a.getD i []) (zNA a109_) x g o v gz → sn109 x g o v gz := by
  intro a g o v gz h
  exact zSem_all (l0 := q109) (las := q109a) (S := S) (J := (fun _ _ _ => True)) (P := sn109 a g) (fun _ => (show zAll _ [q109_0] from (zAll_c (vn109_0 ) zAll_n))) (fun _ => (show zAllI _ 0 [] from trivial)) h
theorem vn110_0 {S : Nat → zSpc}  {a : List Int} {g : rHp} : ∀ (ρ : Nat → Int) (γ : Nat → rHp), zO 3 S a g q110_0 ρ γ → zGl (fun _ _ _ => True) (sn110 a g) q110_0 ρ γ := by
  intro ρ γ h
  obtain ⟨ha, hg, hr, hf, hm, hc, hl⟩ := h
  have ha : a = [ρ 0, ρ 1, ρ 2] := ha
  subst ha
  subst hg
  have c1 : γ 1 = rUp (γ 0) 2 0 13 0 := And.right (zChA hc 2)
  have c2 : γ 2 = rUp (γ 1) 2 0 16 0 := And.right (zChA hc 1)
  have c3 : γ 3 = rUp (γ 2) 2 0 5 0 := And.right (zChA hc 0)
  show sn110 [ρ 0, ρ 1, ρ 2] (γ 0) 0 0 (γ 3)
  refine Eq.symm ?_
  show fn110 [] (γ 0) = _
  unfold fn110
  refine zLE c1.symm (zLE c2.symm (zLE c3.symm ?_))
  rfl
theorem yn110 {S : Nat → zSpc}  : ∀ x g o v gz, zSem uW uT w110_.2.2.2.1 w110_.2.2.1.1.length S q110 (fun i => q110a.getD i []) (zNA a110_) x g o v gz → sn110 x g o v gz := by
  intro a g o v gz h
  exact zSem_all (l0 := q110) (las := q110a) (S := S) (J := (fun _ _ _ => True)) (P := sn110 a g) (fun _ => (show zAll _ [q110_0] from (zAll_c (vn110_0 ) zAll_n))) (fun _ => (show zAllI _ 0 [] from trivial)) h
theorem vn111_0 {S : Nat → zSpc} (hS110 : zIm S 110 sn110) {a : List Int} {g : rHp} : ∀ (ρ : Nat → Int) (γ : Nat → rHp), zO 6 S a g q111_0 ρ γ → zGl (fun _ _ _ => True) (sn111 a g) q111_0 ρ γ := by
  intro ρ γ h
  obtain ⟨ha, hg, hr, hf, hm, hc, hl⟩ := h
  have ha : a = [ρ 0, ρ 1, ρ 2, ρ 3, ρ 4, ρ 5] := ha
  subst ha
  subst hg
  have c1 : γ 1 = rUp (γ 0) 2 0 7 (ρ 0) := And.right (zChA hc 2)
  have c2 : γ 2 = rUp (γ 1) 2 0 6 0 := And.right (zChA hc 1)
  have l0 : sn110 [ρ 1, ρ 4, ρ 5] (γ 2) 0 0 (γ 3) := hS110 _ _ _ _ _ (zAllA hl 0)
  show sn111 [ρ 0, ρ 1, ρ 2, ρ 3, ρ 4, ρ 5] (γ 0) 0 0 (γ 3)
  refine Eq.symm ?_
  show fn111 [ρ 0] (γ 0) = _
  unfold fn111
  refine zLV (ρ 0) rfl (zLE c1.symm (zLE c2.symm (zLE (show fn110 [] (γ 2) = (0, 0, γ 3) from l0.symm) (zLV (γ 3) rfl ?_))))
  rfl
theorem yn111 {S : Nat → zSpc} (hS110 : zIm S 110 sn110) : ∀ x g o v gz, zSem uW uT w111_.2.2.2.1 w111_.2.2.1.1.length S q111 (fun i => q111a.getD i []) (zNA a111_) x g o v gz → sn111 x g o v gz := by
  intro a g o v gz h
  exact zSem_all (l0 := q111) (las := q111a) (S := S) (J := (fun _ _ _ => True)) (P := sn111 a g) (fun _ => (show zAll _ [q111_0] from (zAll_c (vn111_0 hS110) zAll_n))) (fun _ => (show zAllI _ 0 [] from trivial)) h
theorem vn112_0 {S : Nat → zSpc}  {a : List Int} {g : rHp} : ∀ (ρ : Nat → Int) (γ : Nat → rHp), zO 1 S a g q112_0 ρ γ → zGl (fun _ _ _ => True) (sn112 a g) q112_0 ρ γ := by
  intro ρ γ h
  obtain ⟨ha, hg, hr, hf, hm, hc, hl⟩ := h
  have ha : a = [ρ 0] := ha
  subst ha
  subst hg
  have c1 : γ 1 = rUp (γ 0) 2 0 3 0 := And.right (zChA hc 0)
  show sn112 [ρ 0] (γ 0) 0 0 (γ 1)
  refine Eq.symm ?_
  show fn112 [] (γ 0) = _
  unfold fn112
  refine zLE c1.symm ?_
  rfl
theorem yn112 {S : Nat → zSpc}  : ∀ x g o v gz, zSem uW uT w112_.2.2.2.1 w112_.2.2.1.1.length S q112 (fun i => q112a.getD i []) (zNA a112_) x g o v gz → sn112 x g o v gz := by
  intro a g o v gz h
  exact zSem_all (l0 := q112) (las := q112a) (S := S) (J := (fun _ _ _ => True)) (P := sn112 a g) (fun _ => (show zAll _ [q112_0] from (zAll_c (vn112_0 ) zAll_n))) (fun _ => (show zAllI _ 0 [] from trivial)) h
theorem vn113_0 {S : Nat → zSpc}  {a : List Int} {g : rHp} : ∀ (ρ : Nat → Int) (γ : Nat → rHp), zO 2 S a g q113_0 ρ γ → zGl (fun _ _ _ => True) (sn113 a g) q113_0 ρ γ := by
  intro ρ γ h
  obtain ⟨ha, hg, hr, hf, hm, hc, hl⟩ := h
  have ha : a = [ρ 0, ρ 1] := ha
  subst ha
  subst hg
  have m0 : γ 0 2 0 3 = ρ 1 := zAllA hm 0
  have c1 : γ 1 = rUp (γ 0) 21 0 (ρ 1) (ρ 3) := And.right (zChA hc 7)
  have c2 : γ 2 = rUp (γ 1) 2 0 3 (ρ 1 + 1) := And.right (zChA hc 6)
  have c3 : γ 3 = rUp (γ 2) 21 0 (ρ 1 + 1) (ρ 5) := And.right (zChA hc 5)
  have c4 : γ 4 = rUp (γ 3) 2 0 3 (ρ 1 + 2) := And.right (zChA hc 4)
  have c5 : γ 5 = rUp (γ 4) 21 0 (ρ 1 + 2) (ρ 7) := And.right (zChA hc 3)
  have c6 : γ 6 = rUp (γ 5) 2 0 3 (ρ 1 + 3) := And.right (zChA hc 2)
  have c7 : γ 7 = rUp (γ 6) 21 0 (ρ 1 + 3) (ρ 9) := And.right (zChA hc 1)
  have c8 : γ 8 = rUp (γ 7) 2 0 3 (ρ 1 + 4) := And.right (zChA hc 0)
  have l0 : zOpP (.iushr) (γ 0) (γ 1) [ρ 0, 24] (ρ 2) := zAllA hl 0
  have l1 : zOpP (.i2b) (γ 0) (γ 1) [ρ 2] (ρ 3) := zAllA hl 1
  have l2 : zOpP (.iushr) (γ 0) (γ 1) [ρ 0, 16] (ρ 4) := zAllA hl 2
  have l3 : zOpP (.i2b) (γ 0) (γ 1) [ρ 4] (ρ 5) := zAllA hl 3
  have l4 : zOpP (.iushr) (γ 0) (γ 1) [ρ 0, 8] (ρ 6) := zAllA hl 4
  have l5 : zOpP (.i2b) (γ 0) (γ 1) [ρ 6] (ρ 7) := zAllA hl 5
  have l6 : zOpP (.iushr) (γ 0) (γ 1) [ρ 0, 0] (ρ 8) := zAllA hl 6
  have l7 : zOpP (.i2b) (γ 0) (γ 1) [ρ 8] (ρ 9) := zAllA hl 7
  show sn113 [ρ 0, ρ 1] (γ 0) 0 0 (γ 8)
  refine Eq.symm ?_
  show fn113 [ρ 0] (γ 0) = _
  unfold fn113
  refine zLV (ρ 0) rfl (zLE m0 (zLE (zF2_ok l0) (zLE (zF1_ok l1) (zLE c1.symm (zLE c2.symm (zLE (zF2_ok l2) (zLE (zF1_ok l3) ?_)))))))
  refine zLE c3.symm (zLE c4.symm (zLE (zF2_ok l4) (zLE (zF1_ok l5) (zLE c5.symm (zLE c6.symm (zLE (zF2_ok l6) (zLE (zF1_ok l7) ?_)))))))
  refine zLE c7.symm (zLE c8.symm ?_)
  rfl
theorem yn113 {S : Nat → zSpc}  : ∀ x g o v gz, zSem uW uT w113_.2.2.2.1 w113_.2.2.1.1.length S q113 (fun i => q113a.getD i []) (zNA a113_) x g o v gz → sn113 x g o v gz := by
  intro a g o v gz h
  exact zSem_all (l0 := q113) (las := q113a) (S := S) (J := (fun _ _ _ => True)) (P := sn113 a g) (fun _ => (show zAll _ [q113_0] from (zAll_c (vn113_0 ) zAll_n))) (fun _ => (show zAllI _ 0 [] from trivial)) h
theorem vn114_0 {S : Nat → zSpc}  {a : List Int} {g : rHp} : ∀ (ρ : Nat → Int) (γ : Nat → rHp), zO 2 S a g q114_0 ρ γ → zGl (fun i vs g1 => jn114 a g i vs g1) (sn114 a g) q114_0 ρ γ := by
  intro ρ γ h
  obtain ⟨ha, hg, hr, hf, hm, hc, hl⟩ := h
  have ha : a = [ρ 0, ρ 1] := ha
  subst ha
  subst hg
  have f0 : (0 : Int) ≤ -ρ 1 + ρ 0 := zAllA hf 0
  have w_0 : ρ 0 ≥ ρ 1 := by omega
  have m0 : γ 0 2 0 6 = ρ 0 := zAllA hm 0
  have m1 : γ 0 2 0 3 = ρ 1 := zAllA hm 1
  show sn114 [ρ 0, ρ 1] (γ 0) 0 (-1) (γ 0)
  have hD : dn114 [] (γ 0) = .inr (0, (-1), γ 0) := by
    unfold dn114
    refine zLE m0 (zLE m1 (zIP w_0 ?_))
    rfl
  exact zGoo_end hD
theorem vn114_1 {S : Nat → zSpc}  {a : List Int} {g : rHp} : ∀ (ρ : Nat → Int) (γ : Nat → rHp), zO 2 S a g q114_1 ρ γ → zGl (fun i vs g1 => jn114 a g i vs g1) (sn114 a g) q114_1 ρ γ := by
  intro ρ γ h
  obtain ⟨ha, hg, hr, hf, hm, hc, hl⟩ := h
  have ha : a = [ρ 0, ρ 1] := ha
  subst ha
  subst hg
  have r2 : (10 : Int) ≤ ρ 2 ∧ ρ 2 ≤ 10 := zRnA hr 2
  have f0 : (0 : Int) ≤ ρ 1 + -ρ 0 + (-1) := zAllA hf 0
  obtain ⟨w_0, w_1⟩ : (¬ (ρ 0 ≥ ρ 1)) ∧ (ρ 2 = 10) := ⟨by omega, by omega⟩
  have m0 : γ 0 2 0 6 = ρ 0 := zAllA hm 0
  have m1 : γ 0 2 0 3 = ρ 1 := zAllA hm 1
  have m2 : γ 0 21 0 (ρ 0) = ρ 2 := zAllA hm 2
  have c1 : γ 1 = rUp (γ 0) 2 0 6 (ρ 0 + 1) := And.right (zChA hc 0)
  show jn114 [ρ 0, ρ 1] (γ 0) 0 [ρ 0, ρ 1, ρ 0 + 1] (γ 1)
  have hD : dn114 [] (γ 0) = .inl (0, [], γ 1) := by
    unfold dn114
    refine zLE m0 (zLE m1 (zIN w_0 (zLE m2 (zIP w_1 (zLE c1.symm ?_)))))
    rfl
  exact zGoo_to hD
theorem vn114_2 {S : Nat → zSpc}  {a : List Int} {g : rHp} : ∀ (ρ : Nat → Int) (γ : Nat → rHp), zO 2 S a g q114_2 ρ γ → zGl (fun i vs g1 => jn114 a g i vs g1) (sn114 a g) q114_2 ρ γ := by
  intro ρ γ h
  obtain ⟨ha, hg, hr, hf, hm, hc, hl⟩ := h
  have ha : a = [ρ 0, ρ 1] := ha
  subst ha
  subst hg
  have r2 : ((-128) : Int) ≤ ρ 2 ∧ ρ 2 ≤ 127 := zRnA hr 2
  have f0 : (0 : Int) ≤ ρ 1 + -ρ 0 + (-1) := zAllA hf 0
  have w_0 : ¬ (ρ 0 ≥ ρ 1) := by omega
  have m0 : γ 0 2 0 6 = ρ 0 := zAllA hm 0
  have m1 : γ 0 2 0 3 = ρ 1 := zAllA hm 1
  have m2 : γ 0 21 0 (ρ 0) = ρ 2 := zAllA hm 2
  have l0 : ρ 2 ≠ 10 := zAllA hl 0
  have l1 : ρ 2 ≠ 32 := zAllA hl 1
  have l2 : zOpP (.iand) (γ 0) (γ 1) [ρ 2, 255] (ρ 3) := zAllA hl 2
  obtain ⟨wl_0, wl_1⟩ : (¬ (ρ 2 = 10)) ∧ (ρ 2 ≠ 32) := ⟨by omega, by omega⟩
  show sn114 [ρ 0, ρ 1] (γ 0) 0 (ρ 3) (γ 0)
  have hD : dn114 [] (γ 0) = .inr (0, ρ 3, γ 0) := by
    unfold dn114
    refine zLE m0 (zLE m1 (zIN w_0 (zLE m2 (zIN wl_0 (zIP wl_1 (zLE (zF2_ok l2) ?_))))))
    rfl
  exact zGoo_end hD
theorem vn114_3 {S : Nat → zSpc}  {a : List Int} {g : rHp} : ∀ (ρ : Nat → Int) (γ : Nat → rHp), zO 2 S a g q114_3 ρ γ → zGl (fun i vs g1 => jn114 a g i vs g1) (sn114 a g) q114_3 ρ γ := by
  intro ρ γ h
  obtain ⟨ha, hg, hr, hf, hm, hc, hl⟩ := h
  have ha : a = [ρ 0, ρ 1] := ha
  subst ha
  subst hg
  have r2 : (32 : Int) ≤ ρ 2 ∧ ρ 2 ≤ 32 := zRnA hr 2
  have f0 : (0 : Int) ≤ ρ 1 + -ρ 0 + (-1) := zAllA hf 0
  obtain ⟨w_0, w_1, w_2⟩ : (¬ (ρ 0 ≥ ρ 1)) ∧ (¬ (ρ 2 = 10)) ∧ (¬ (ρ 2 ≠ 32)) := ⟨by omega, by omega, by omega⟩
  have m0 : γ 0 2 0 6 = ρ 0 := zAllA hm 0
  have m1 : γ 0 2 0 3 = ρ 1 := zAllA hm 1
  have m2 : γ 0 21 0 (ρ 0) = ρ 2 := zAllA hm 2
  have c1 : γ 1 = rUp (γ 0) 2 0 6 (ρ 0 + 1) := And.right (zChA hc 0)
  have l0 : ρ 2 ≠ 10 := zAllA hl 0
  show jn114 [ρ 0, ρ 1] (γ 0) 0 [ρ 0, ρ 1, ρ 0 + 1] (γ 1)
  have hD : dn114 [] (γ 0) = .inl (0, [], γ 1) := by
    unfold dn114
    refine zLE m0 (zLE m1 (zIN w_0 (zLE m2 (zIN w_1 (zIN w_2 (zLE c1.symm ?_))))))
    rfl
  exact zGoo_to hD
theorem vn114a0_0 {S : Nat → zSpc}  {a : List Int} {g : rHp} : ∀ (ρ : Nat → Int) (γ : Nat → rHp), jn114 a g 0 (zAg (zNA a114_ 0) ρ) (γ 1) → zO 2 S a g q114a0_0 ρ γ → zGl (fun i vs g1 => jn114 a g i vs g1) (sn114 a g) q114a0_0 ρ γ := by
  intro ρ γ hJ h
  obtain ⟨ha, hg, hr, hf, hm, hc, hl⟩ := h
  have ha : a = [ρ 0, ρ 1] := ha
  subst ha
  subst hg
  have hJ : jn114 [ρ 0, ρ 1] (γ 0) 0 [ρ 0, ρ 1, ρ 2] (γ 1) := hJ
  have f0 : (0 : Int) ≤ ρ 2 + -ρ 1 := zAllA hf 0
  have w_0 : ρ 2 ≥ ρ 1 := by omega
  have m1 : γ 0 2 0 3 = ρ 1 := zAllA hm 1
  have m2 : γ 1 2 0 6 = ρ 2 := zAllA hm 2
  show sn114 [ρ 0, ρ 1] (γ 0) 0 (-1) (γ 1)
  have hD : en114 (γ 0) (0, [], γ 1) = .inr (0, (-1), γ 1) := by
    unfold en114
    refine zIP (show (0 : Nat) = 0 by decide) (zLV (γ 1) rfl (zLE m1 (zLE m2 (zIP w_0 ?_))))
    rfl
  exact zGoo_aend hJ hD
theorem vn114a0_1 {S : Nat → zSpc}  {a : List Int} {g : rHp} : ∀ (ρ : Nat → Int) (γ : Nat → rHp), jn114 a g 0 (zAg (zNA a114_ 0) ρ) (γ 1) → zO 2 S a g q114a0_1 ρ γ → zGl (fun i vs g1 => jn114 a g i vs g1) (sn114 a g) q114a0_1 ρ γ := by
  intro ρ γ hJ h
  obtain ⟨ha, hg, hr, hf, hm, hc, hl⟩ := h
  have ha : a = [ρ 0, ρ 1] := ha
  subst ha
  subst hg
  have hJ : jn114 [ρ 0, ρ 1] (γ 0) 0 [ρ 0, ρ 1, ρ 2] (γ 1) := hJ
  have r3 : (10 : Int) ≤ ρ 3 ∧ ρ 3 ≤ 10 := zRnA hr 3
  have f0 : (0 : Int) ≤ -ρ 2 + ρ 1 + (-1) := zAllA hf 0
  obtain ⟨w_0, w_1⟩ : (¬ (ρ 2 ≥ ρ 1)) ∧ (ρ 3 = 10) := ⟨by omega, by omega⟩
  have m1 : γ 0 2 0 3 = ρ 1 := zAllA hm 1
  have m2 : γ 1 2 0 6 = ρ 2 := zAllA hm 2
  have m3 : γ 0 21 0 (ρ 2) = ρ 3 := zAllA hm 3
  have c2 : γ 2 = rUp (γ 1) 2 0 6 (ρ 2 + 1) := And.right (zChA hc 0)
  show jn114 [ρ 0, ρ 1] (γ 0) 0 [ρ 0, ρ 1, ρ 2 + 1] (γ 2)
  have hD : en114 (γ 0) (0, [], γ 1) = .inl (0, [], γ 2) := by
    unfold en114
    refine zIP (show (0 : Nat) = 0 by decide) (zLV (γ 1) rfl (zLE m1 (zLE m2 (zIN w_0 (zLE m3 (zIP w_1 (zLE c2.symm ?_)))))))
    rfl
  exact zGoo_ato hJ hD
theorem vn114a0_2 {S : Nat → zSpc}  {a : List Int} {g : rHp} : ∀ (ρ : Nat → Int) (γ : Nat → rHp), jn114 a g 0 (zAg (zNA a114_ 0) ρ) (γ 1) → zO 2 S a g q114a0_2 ρ γ → zGl (fun i vs g1 => jn114 a g i vs g1) (sn114 a g) q114a0_2 ρ γ := by
  intro ρ γ hJ h
  obtain ⟨ha, hg, hr, hf, hm, hc, hl⟩ := h
  have ha : a = [ρ 0, ρ 1] := ha
  subst ha
  subst hg
  have hJ : jn114 [ρ 0, ρ 1] (γ 0) 0 [ρ 0, ρ 1, ρ 2] (γ 1) := hJ
  have r3 : ((-128) : Int) ≤ ρ 3 ∧ ρ 3 ≤ 127 := zRnA hr 3
  have f0 : (0 : Int) ≤ -ρ 2 + ρ 1 + (-1) := zAllA hf 0
  have w_0 : ¬ (ρ 2 ≥ ρ 1) := by omega
  have m1 : γ 0 2 0 3 = ρ 1 := zAllA hm 1
  have m2 : γ 1 2 0 6 = ρ 2 := zAllA hm 2
  have m3 : γ 0 21 0 (ρ 2) = ρ 3 := zAllA hm 3
  have l0 : ρ 3 ≠ 10 := zAllA hl 0
  have l1 : ρ 3 ≠ 32 := zAllA hl 1
  have l2 : zOpP (.iand) (γ 0) (γ 1) [ρ 3, 255] (ρ 4) := zAllA hl 2
  obtain ⟨wl_0, wl_1⟩ : (¬ (ρ 3 = 10)) ∧ (ρ 3 ≠ 32) := ⟨by omega, by omega⟩
  show sn114 [ρ 0, ρ 1] (γ 0) 0 (ρ 4) (γ 1)
  have hD : en114 (γ 0) (0, [], γ 1) = .inr (0, ρ 4, γ 1) := by
    unfold en114
    refine zIP (show (0 : Nat) = 0 by decide) (zLV (γ 1) rfl (zLE m1 (zLE m2 (zIN w_0 (zLE m3 (zIN wl_0 (zIP wl_1 ?_)))))))
    refine zLE (zF2_ok l2) ?_
    rfl
  exact zGoo_aend hJ hD
theorem vn114a0_3 {S : Nat → zSpc}  {a : List Int} {g : rHp} : ∀ (ρ : Nat → Int) (γ : Nat → rHp), jn114 a g 0 (zAg (zNA a114_ 0) ρ) (γ 1) → zO 2 S a g q114a0_3 ρ γ → zGl (fun i vs g1 => jn114 a g i vs g1) (sn114 a g) q114a0_3 ρ γ := by
  intro ρ γ hJ h
  obtain ⟨ha, hg, hr, hf, hm, hc, hl⟩ := h
  have ha : a = [ρ 0, ρ 1] := ha
  subst ha
  subst hg
  have hJ : jn114 [ρ 0, ρ 1] (γ 0) 0 [ρ 0, ρ 1, ρ 2] (γ 1) := hJ
  have r3 : (32 : Int) ≤ ρ 3 ∧ ρ 3 ≤ 32 := zRnA hr 3
  have f0 : (0 : Int) ≤ -ρ 2 + ρ 1 + (-1) := zAllA hf 0
  obtain ⟨w_0, w_1, w_2⟩ : (¬ (ρ 2 ≥ ρ 1)) ∧ (¬ (ρ 3 = 10)) ∧ (¬ (ρ 3 ≠ 32)) := ⟨by omega, by omega, by omega⟩
  have m1 : γ 0 2 0 3 = ρ 1 := zAllA hm 1
  have m2 : γ 1 2 0 6 = ρ 2 := zAllA hm 2
  have m3 : γ 0 21 0 (ρ 2) = ρ 3 := zAllA hm 3
  have c2 : γ 2 = rUp (γ 1) 2 0 6 (ρ 2 + 1) := And.right (zChA hc 0)
  have l0 : ρ 3 ≠ 10 := zAllA hl 0
  show jn114 [ρ 0, ρ 1] (γ 0) 0 [ρ 0, ρ 1, ρ 2 + 1] (γ 2)
  have hD : en114 (γ 0) (0, [], γ 1) = .inl (0, [], γ 2) := by
    unfold en114
    refine zIP (show (0 : Nat) = 0 by decide) (zLV (γ 1) rfl (zLE m1 (zLE m2 (zIN w_0 (zLE m3 (zIN w_1 (zIN w_2 ?_)))))))
    refine zLE c2.symm ?_
    rfl
  exact zGoo_ato hJ hD
theorem yn114 {S : Nat → zSpc}  : ∀ x g o v gz, zSem uW uT w114_.2.2.2.1 w114_.2.2.1.1.length S q114 (fun i => q114a.getD i []) (zNA a114_) x g o v gz → sn114 x g o v gz := by
  intro a g o v gz h
  exact zSem_all (l0 := q114) (las := q114a) (S := S) (J := (fun i vs g1 => jn114 a g i vs g1)) (P := sn114 a g) (fun _ => (show zAll _ [q114_0, q114_1, q114_2, q114_3] from (zAll_c (vn114_0 ) (zAll_c (vn114_1 ) (zAll_c (vn114_2 ) (zAll_c (vn114_3 ) zAll_n)))))) (fun _ => (show zAllI _ 0 [q114a0] from ⟨(show zAll _ [q114a0_0, q114a0_1, q114a0_2, q114a0_3] from (zAll_c (vn114a0_0 ) (zAll_c (vn114a0_1 ) (zAll_c (vn114a0_2 ) (zAll_c (vn114a0_3 ) zAll_n))))), trivial⟩)) h
theorem vn115_0 {S : Nat → zSpc} (hS108 : zIm S 108 sn108) (hS109 : zIm S 109 sn109) {a : List Int} {g : rHp} : ∀ (ρ : Nat → Int) (γ : Nat → rHp), zO 4 S a g q115_0 ρ γ → zGl (fun i vs g1 => jn115 a g i vs g1) (sn115 a g) q115_0 ρ γ := by
  intro ρ γ h
  obtain ⟨ha, hg, hr, hf, hm, hc, hl⟩ := h
  have ha : a = [ρ 0, ρ 1, ρ 2, ρ 3] := ha
  subst ha
  subst hg
  have f0 : (0 : Int) ≤ -ρ 1 + ρ 0 + 1 := zAllA hf 0
  have w_0 : ρ 0 + 1 ≥ ρ 1 := by omega
  have m0 : γ 0 2 0 6 = ρ 0 := zAllA hm 0
  have m1 : γ 0 2 0 3 = ρ 1 := zAllA hm 1
  have m4 : γ 0 21 0 (ρ 0) = ρ 4 := zAllA hm 4
  have c1 : γ 1 = rUp (γ 0) 2 0 9 (ρ 0) := And.right (zChA hc 2)
  have c2 : γ 2 = rUp (γ 1) 2 0 8 (ρ 5) := And.right (zChA hc 1)
  have c3 : γ 3 = rUp (γ 2) 2 0 6 (ρ 0 + 1) := And.right (zChA hc 0)
  have l0 : zOpP (.iand) (γ 0) (γ 1) [ρ 4, 31] (ρ 5) := zAllA hl 0
  show jn115 [ρ 0, ρ 1, ρ 2, ρ 3] (γ 0) 0 [ρ 0, ρ 1, ρ 2, ρ 3, 0, ρ 0 + 1] (γ 3)
  have hD : dn115 [] (γ 0) = .inl (0, [0], γ 3) := by
    unfold dn115
    refine zLE m0 (zLE m1 (zLE c1.symm (zLE m4 (zLE (zF2_ok l0) (zLE c2.symm (zLE c3.symm (zIP w_0 ?_)))))))
    rfl
  exact zGoo_to hD
theorem vn115_1 {S : Nat → zSpc} (hS108 : zIm S 108 sn108) (hS109 : zIm S 109 sn109) {a : List Int} {g : rHp} : ∀ (ρ : Nat → Int) (γ : Nat → rHp), zO 4 S a g q115_1 ρ γ → zGl (fun i vs g1 => jn115 a g i vs g1) (sn115 a g) q115_1 ρ γ := by
  intro ρ γ h
  obtain ⟨ha, hg, hr, hf, hm, hc, hl⟩ := h
  have ha : a = [ρ 0, ρ 1, ρ 2, ρ 3] := ha
  subst ha
  subst hg
  have f0 : (0 : Int) ≤ ρ 1 + -ρ 0 + (-2) := zAllA hf 0
  have w_0 : ¬ (ρ 0 + 1 ≥ ρ 1) := by omega
  have m0 : γ 0 2 0 6 = ρ 0 := zAllA hm 0
  have m1 : γ 0 2 0 3 = ρ 1 := zAllA hm 1
  have m4 : γ 0 21 0 (ρ 0) = ρ 4 := zAllA hm 4
  have m5 : γ 0 21 0 (ρ 0 + 1) = ρ 6 := zAllA hm 5
  have c1 : γ 1 = rUp (γ 0) 2 0 9 (ρ 0) := And.right (zChA hc 3)
  have c2 : γ 2 = rUp (γ 1) 2 0 8 (ρ 5) := And.right (zChA hc 2)
  have c3 : γ 3 = rUp (γ 2) 2 0 6 (ρ 0 + 1) := And.right (zChA hc 1)
  have l0 : zOpP (.iand) (γ 0) (γ 1) [ρ 4, 31] (ρ 5) := zAllA hl 0
  have l1 : sn108 [ρ 6] (γ 3) 0 (ρ 7) (γ 4) := hS108 _ _ _ _ _ (zAllA hl 1)
  show jn115 [ρ 0, ρ 1, ρ 2, ρ 3] (γ 0) 0 [ρ 0, ρ 1, ρ 2, ρ 3, ρ 7, ρ 0 + 1] (γ 4)
  have hD : dn115 [] (γ 0) = .inl (0, [ρ 7], γ 4) := by
    unfold dn115
    refine zLE m0 (zLE m1 (zLE c1.symm (zLE m4 (zLE (zF2_ok l0) (zLE c2.symm (zLE c3.symm (zIN w_0 ?_)))))))
    refine zLE m5 (zLE (show fn108 [ρ 6] (γ 3) = (0, ρ 7, γ 4) from l1.symm) (zLV (γ 4) rfl (zLV (ρ 7) rfl ?_)))
    rfl
  exact zGoo_to hD
theorem vn115a0_0 {S : Nat → zSpc} (hS108 : zIm S 108 sn108) (hS109 : zIm S 109 sn109) {a : List Int} {g : rHp} : ∀ (ρ : Nat → Int) (γ : Nat → rHp), jn115 a g 0 (zAg (zNA a115_ 0) ρ) (γ 1) → zO 4 S a g q115a0_0 ρ γ → zGl (fun i vs g1 => jn115 a g i vs g1) (sn115 a g) q115a0_0 ρ γ := by
  intro ρ γ hJ h
  obtain ⟨ha, hg, hr, hf, hm, hc, hl⟩ := h
  have ha : a = [ρ 0, ρ 1, ρ 2, ρ 3] := ha
  subst ha
  subst hg
  have hJ : jn115 [ρ 0, ρ 1, ρ 2, ρ 3] (γ 0) 0 [ρ 0, ρ 1, ρ 2, ρ 3, ρ 4, ρ 5] (γ 1) := hJ
  have r4 : (0 : Int) ≤ ρ 4 ∧ ρ 4 ≤ 0 := zRnA hr 4
  have f0 : (0 : Int) ≤ -ρ 5 + ρ 0 + 12 := zAllA hf 0
  obtain ⟨w_0, w_1⟩ : (ρ 4 ≤ 0) ∧ (ρ 5 + -ρ 0 ≤ 12) := ⟨by omega, by omega⟩
  have m0 : γ 0 2 0 6 = ρ 0 := zAllA hm 0
  have m1 : γ 0 2 0 3 = ρ 1 := zAllA hm 1
  have m4 : γ 1 2 0 6 = ρ 5 := zAllA hm 4
  show sn115 [ρ 0, ρ 1, ρ 2, ρ 3] (γ 0) 0 1 (γ 1)
  have hD : en115 (γ 0) (0, [ρ 4], γ 1) = .inr (0, 1, γ 1) := by
    unfold en115
    refine zIP (show (0 : Nat) = 0 by decide) (zLV (γ 1) rfl (zLV (ρ 4) rfl (zLE m0 (zLE m1 (zLE m4 (zIP w_0 (zIP w_1 ?_)))))))
    rfl
  exact zGoo_aend hJ hD
theorem vn115a0_1 {S : Nat → zSpc} (hS108 : zIm S 108 sn108) (hS109 : zIm S 109 sn109) {a : List Int} {g : rHp} : ∀ (ρ : Nat → Int) (γ : Nat → rHp), jn115 a g 0 (zAg (zNA a115_ 0) ρ) (γ 1) → zO 4 S a g q115a0_1 ρ γ → zGl (fun i vs g1 => jn115 a g i vs g1) (sn115 a g) q115a0_1 ρ γ := by
  intro ρ γ hJ h
  obtain ⟨ha, hg, hr, hf, hm, hc, hl⟩ := h
  have ha : a = [ρ 0, ρ 1, ρ 2, ρ 3] := ha
  subst ha
  subst hg
  have hJ : jn115 [ρ 0, ρ 1, ρ 2, ρ 3] (γ 0) 0 [ρ 0, ρ 1, ρ 2, ρ 3, ρ 4, ρ 5] (γ 1) := hJ
  have r4 : (0 : Int) ≤ ρ 4 ∧ ρ 4 ≤ 0 := zRnA hr 4
  have f0 : (0 : Int) ≤ ρ 5 + -ρ 0 + (-13) := zAllA hf 0
  obtain ⟨w_0, w_1⟩ : (ρ 4 ≤ 0) ∧ (¬ (ρ 5 + -ρ 0 ≤ 12)) := ⟨by omega, by omega⟩
  have m0 : γ 0 2 0 6 = ρ 0 := zAllA hm 0
  have m1 : γ 0 2 0 3 = ρ 1 := zAllA hm 1
  have m4 : γ 1 2 0 6 = ρ 5 := zAllA hm 4
  have l0 : sn109 [ρ 0, ρ 2] (γ 1) 0 0 (γ 2) := hS109 _ _ _ _ _ (zAllA hl 0)
  show sn115 [ρ 0, ρ 1, ρ 2, ρ 3] (γ 0) 0 0 (γ 2)
  have hD : en115 (γ 0) (0, [ρ 4], γ 1) = .inr (0, 0, γ 2) := by
    unfold en115
    refine zIP (show (0 : Nat) = 0 by decide) (zLV (γ 1) rfl (zLV (ρ 4) rfl (zLE m0 (zLE m1 (zLE m4 (zIP w_0 (zIN w_1 ?_)))))))
    refine zLE (show fn109 [ρ 0] (γ 1) = (0, 0, γ 2) from l0.symm) (zLV (γ 2) rfl ?_)
    rfl
  exact zGoo_aend hJ hD
theorem vn115a0_2 {S : Nat → zSpc} (hS108 : zIm S 108 sn108) (hS109 : zIm S 109 sn109) {a : List Int} {g : rHp} : ∀ (ρ : Nat → Int) (γ : Nat → rHp), jn115 a g 0 (zAg (zNA a115_ 0) ρ) (γ 1) → zO 4 S a g q115a0_2 ρ γ → zGl (fun i vs g1 => jn115 a g i vs g1) (sn115 a g) q115a0_2 ρ γ := by
  intro ρ γ hJ h
  obtain ⟨ha, hg, hr, hf, hm, hc, hl⟩ := h
  have ha : a = [ρ 0, ρ 1, ρ 2, ρ 3] := ha
  subst ha
  subst hg
  have hJ : jn115 [ρ 0, ρ 1, ρ 2, ρ 3] (γ 0) 0 [ρ 0, ρ 1, ρ 2, ρ 3, ρ 4, ρ 5] (γ 1) := hJ
  have r4 : (1 : Int) ≤ ρ 4 ∧ ρ 4 ≤ 37 := zRnA hr 4
  have f0 : (0 : Int) ≤ -ρ 5 + ρ 0 + 12 := zAllA hf 0
  have f1 : (0 : Int) ≤ ρ 5 + -ρ 1 := zAllA hf 1
  obtain ⟨w_0, w_1, w_2⟩ : (¬ (ρ 4 ≤ 0)) ∧ (ρ 5 ≥ ρ 1) ∧ (ρ 5 + -ρ 0 ≤ 12) := ⟨by omega, by omega, by omega⟩
  have m0 : γ 0 2 0 6 = ρ 0 := zAllA hm 0
  have m1 : γ 0 2 0 3 = ρ 1 := zAllA hm 1
  have m4 : γ 1 2 0 6 = ρ 5 := zAllA hm 4
  show sn115 [ρ 0, ρ 1, ρ 2, ρ 3] (γ 0) 0 1 (γ 1)
  have hD : en115 (γ 0) (0, [ρ 4], γ 1) = .inr (0, 1, γ 1) := by
    unfold en115
    refine zIP (show (0 : Nat) = 0 by decide) (zLV (γ 1) rfl (zLV (ρ 4) rfl (zLE m0 (zLE m1 (zLE m4 (zIN w_0 (zIP w_1 ?_)))))))
    refine zIP w_2 ?_
    rfl
  exact zGoo_aend hJ hD
theorem vn115a0_3 {S : Nat → zSpc} (hS108 : zIm S 108 sn108) (hS109 : zIm S 109 sn109) {a : List Int} {g : rHp} : ∀ (ρ : Nat → Int) (γ : Nat → rHp), jn115 a g 0 (zAg (zNA a115_ 0) ρ) (γ 1) → zO 4 S a g q115a0_3 ρ γ → zGl (fun i vs g1 => jn115 a g i vs g1) (sn115 a g) q115a0_3 ρ γ := by
  intro ρ γ hJ h
  obtain ⟨ha, hg, hr, hf, hm, hc, hl⟩ := h
  have ha : a = [ρ 0, ρ 1, ρ 2, ρ 3] := ha
  subst ha
  subst hg
  have hJ : jn115 [ρ 0, ρ 1, ρ 2, ρ 3] (γ 0) 0 [ρ 0, ρ 1, ρ 2, ρ 3, ρ 4, ρ 5] (γ 1) := hJ
  have r4 : (1 : Int) ≤ ρ 4 ∧ ρ 4 ≤ 37 := zRnA hr 4
  have f0 : (0 : Int) ≤ ρ 5 + -ρ 0 + (-13) := zAllA hf 0
  have f1 : (0 : Int) ≤ ρ 5 + -ρ 1 := zAllA hf 1
  obtain ⟨w_0, w_1, w_2⟩ : (¬ (ρ 4 ≤ 0)) ∧ (ρ 5 ≥ ρ 1) ∧ (¬ (ρ 5 + -ρ 0 ≤ 12)) := ⟨by omega, by omega, by omega⟩
  have m0 : γ 0 2 0 6 = ρ 0 := zAllA hm 0
  have m1 : γ 0 2 0 3 = ρ 1 := zAllA hm 1
  have m4 : γ 1 2 0 6 = ρ 5 := zAllA hm 4
  have l0 : sn109 [ρ 0, ρ 2] (γ 1) 0 0 (γ 2) := hS109 _ _ _ _ _ (zAllA hl 0)
  show sn115 [ρ 0, ρ 1, ρ 2, ρ 3] (γ 0) 0 0 (γ 2)
  have hD : en115 (γ 0) (0, [ρ 4], γ 1) = .inr (0, 0, γ 2) := by
    unfold en115
    refine zIP (show (0 : Nat) = 0 by decide) (zLV (γ 1) rfl (zLV (ρ 4) rfl (zLE m0 (zLE m1 (zLE m4 (zIN w_0 (zIP w_1 ?_)))))))
    refine zIN w_2 (zLE (show fn109 [ρ 0] (γ 1) = (0, 0, γ 2) from l0.symm) (zLV (γ 2) rfl ?_))
    rfl
  exact zGoo_aend hJ hD
theorem vn115a0_4 {S : Nat → zSpc} (hS108 : zIm S 108 sn108) (hS109 : zIm S 109 sn109) {a : List Int} {g : rHp} : ∀ (ρ : Nat → Int) (γ : Nat → rHp), jn115 a g 0 (zAg (zNA a115_ 0) ρ) (γ 1) → zO 4 S a g q115a0_4 ρ γ → zGl (fun i vs g1 => jn115 a g i vs g1) (sn115 a g) q115a0_4 ρ γ := by
  intro ρ γ hJ h
  obtain ⟨ha, hg, hr, hf, hm, hc, hl⟩ := h
  have ha : a = [ρ 0, ρ 1, ρ 2, ρ 3] := ha
  subst ha
  subst hg
  have hJ : jn115 [ρ 0, ρ 1, ρ 2, ρ 3] (γ 0) 0 [ρ 0, ρ 1, ρ 2, ρ 3, ρ 4, ρ 5] (γ 1) := hJ
  have r4 : (1 : Int) ≤ ρ 4 ∧ ρ 4 ≤ 37 := zRnA hr 4
  have f0 : (0 : Int) ≤ ρ 5 + -ρ 1 + 1 := zAllA hf 0
  have f1 : (0 : Int) ≤ -ρ 5 + ρ 1 + (-1) := zAllA hf 1
  obtain ⟨w_0, w_1, w_2⟩ : (¬ (ρ 4 ≤ 0)) ∧ (¬ (ρ 5 ≥ ρ 1)) ∧ (ρ 5 + 1 ≥ ρ 1) := ⟨by omega, by omega, by omega⟩
  have m0 : γ 0 2 0 6 = ρ 0 := zAllA hm 0
  have m1 : γ 0 2 0 3 = ρ 1 := zAllA hm 1
  have m4 : γ 1 2 0 6 = ρ 5 := zAllA hm 4
  have m6 : γ 1 2 0 8 = ρ 6 := zAllA hm 6
  have c2 : γ 2 = rUp (γ 1) 2 0 8 (ρ 8) := And.right (zChA hc 1)
  have c3 : γ 3 = rUp (γ 2) 2 0 6 (ρ 5 + 1) := And.right (zChA hc 0)
  have l0 : zOpP (.lmul) (γ 0) (γ 1) [ρ 6, 38] (ρ 7) := zAllA hl 0
  have l1 : zOpP (.ladd) (γ 0) (γ 1) [ρ 7, ρ 4] (ρ 8) := zAllA hl 1
  show jn115 [ρ 0, ρ 1, ρ 2, ρ 3] (γ 0) 0 [ρ 0, ρ 1, ρ 2, ρ 3, 0, ρ 5 + 1] (γ 3)
  have hD : en115 (γ 0) (0, [ρ 4], γ 1) = .inl (0, [0], γ 3) := by
    unfold en115
    refine zIP (show (0 : Nat) = 0 by decide) (zLV (γ 1) rfl (zLV (ρ 4) rfl (zLE m0 (zLE m1 (zLE m4 (zIN w_0 (zIN w_1 ?_)))))))
    refine zLE m6 (zLE (zF2_ok l0) (zLE (zF2_ok l1) (zLE c2.symm (zLE c3.symm (zIP w_2 ?_)))))
    rfl
  exact zGoo_ato hJ hD
theorem vn115a0_5 {S : Nat → zSpc} (hS108 : zIm S 108 sn108) (hS109 : zIm S 109 sn109) {a : List Int} {g : rHp} : ∀ (ρ : Nat → Int) (γ : Nat → rHp), jn115 a g 0 (zAg (zNA a115_ 0) ρ) (γ 1) → zO 4 S a g q115a0_5 ρ γ → zGl (fun i vs g1 => jn115 a g i vs g1) (sn115 a g) q115a0_5 ρ γ := by
  intro ρ γ hJ h
  obtain ⟨ha, hg, hr, hf, hm, hc, hl⟩ := h
  have ha : a = [ρ 0, ρ 1, ρ 2, ρ 3] := ha
  subst ha
  subst hg
  have hJ : jn115 [ρ 0, ρ 1, ρ 2, ρ 3] (γ 0) 0 [ρ 0, ρ 1, ρ 2, ρ 3, ρ 4, ρ 5] (γ 1) := hJ
  have r4 : (1 : Int) ≤ ρ 4 ∧ ρ 4 ≤ 37 := zRnA hr 4
  have f0 : (0 : Int) ≤ -ρ 5 + ρ 1 + (-2) := zAllA hf 0
  obtain ⟨w_0, w_1, w_2⟩ : (¬ (ρ 4 ≤ 0)) ∧ (¬ (ρ 5 ≥ ρ 1)) ∧ (¬ (ρ 5 + 1 ≥ ρ 1)) := ⟨by omega, by omega, by omega⟩
  have m0 : γ 0 2 0 6 = ρ 0 := zAllA hm 0
  have m1 : γ 0 2 0 3 = ρ 1 := zAllA hm 1
  have m4 : γ 1 2 0 6 = ρ 5 := zAllA hm 4
  have m6 : γ 1 2 0 8 = ρ 6 := zAllA hm 6
  have m7 : γ 0 21 0 (ρ 5 + 1) = ρ 9 := zAllA hm 7
  have c2 : γ 2 = rUp (γ 1) 2 0 8 (ρ 8) := And.right (zChA hc 2)
  have c3 : γ 3 = rUp (γ 2) 2 0 6 (ρ 5 + 1) := And.right (zChA hc 1)
  have l0 : zOpP (.lmul) (γ 0) (γ 1) [ρ 6, 38] (ρ 7) := zAllA hl 0
  have l1 : zOpP (.ladd) (γ 0) (γ 1) [ρ 7, ρ 4] (ρ 8) := zAllA hl 1
  have l2 : sn108 [ρ 9] (γ 3) 0 (ρ 10) (γ 4) := hS108 _ _ _ _ _ (zAllA hl 2)
  show jn115 [ρ 0, ρ 1, ρ 2, ρ 3] (γ 0) 0 [ρ 0, ρ 1, ρ 2, ρ 3, ρ 10, ρ 5 + 1] (γ 4)
  have hD : en115 (γ 0) (0, [ρ 4], γ 1) = .inl (0, [ρ 10], γ 4) := by
    unfold en115
    refine zIP (show (0 : Nat) = 0 by decide) (zLV (γ 1) rfl (zLV (ρ 4) rfl (zLE m0 (zLE m1 (zLE m4 (zIN w_0 (zIN w_1 ?_)))))))
    refine zLE m6 (zLE (zF2_ok l0) (zLE (zF2_ok l1) (zLE c2.symm (zLE c3.symm (zIN w_2 (zLE m7 (zLE (show fn108 [ρ 9] (γ 3) = (0, ρ 10, γ 4) from l2.symm) ?_)))))))
    refine zLV (γ 4) rfl (zLV (ρ 10) rfl ?_)
    rfl
  exact zGoo_ato hJ hD
theorem yn115 {S : Nat → zSpc} (hS108 : zIm S 108 sn108) (hS109 : zIm S 109 sn109) : ∀ x g o v gz, zSem uW uT w115_.2.2.2.1 w115_.2.2.1.1.length S q115 (fun i => q115a.getD i []) (zNA a115_) x g o v gz → sn115 x g o v gz := by
  intro a g o v gz h
  exact zSem_all (l0 := q115) (las := q115a) (S := S) (J := (fun i vs g1 => jn115 a g i vs g1)) (P := sn115 a g) (fun _ => (show zAll _ [q115_0, q115_1] from (zAll_c (vn115_0 hS108 hS109) (zAll_c (vn115_1 hS108 hS109) zAll_n)))) (fun _ => (show zAllI _ 0 [q115a0] from ⟨(show zAll _ [q115a0_0, q115a0_1, q115a0_2, q115a0_3, q115a0_4, q115a0_5] from (zAll_c (vn115a0_0 hS108 hS109) (zAll_c (vn115a0_1 hS108 hS109) (zAll_c (vn115a0_2 hS108 hS109) (zAll_c (vn115a0_3 hS108 hS109) (zAll_c (vn115a0_4 hS108 hS109) (zAll_c (vn115a0_5 hS108 hS109) zAll_n))))))), trivial⟩)) h
theorem vn116_0 {S : Nat → zSpc} (hS107 : zIm S 107 sn107) (hS109 : zIm S 109 sn109) {a : List Int} {g : rHp} : ∀ (ρ : Nat → Int) (γ : Nat → rHp), zO 3 S a g q116_0 ρ γ → zGl (fun i vs g1 => jn116 a g i vs g1) (sn116 a g) q116_0 ρ γ := by
  intro ρ γ h
  obtain ⟨ha, hg, hr, hf, hm, hc, hl⟩ := h
  have ha : a = [ρ 0, ρ 1, ρ 2] := ha
  subst ha
  subst hg
  have f0 : (0 : Int) ≤ -ρ 1 + ρ 0 := zAllA hf 0
  have w_0 : ρ 0 ≥ ρ 1 := by omega
  have m0 : γ 0 2 0 6 = ρ 0 := zAllA hm 0
  have m1 : γ 0 2 0 3 = ρ 1 := zAllA hm 1
  have c1 : γ 1 = rUp (γ 0) 2 0 10 0 := And.right (zChA hc 0)
  show jn116 [ρ 0, ρ 1, ρ 2] (γ 0) 0 [ρ 0, ρ 1, ρ 2, ρ 0, 0, ρ 0] (γ 1)
  have hD : dn116 [] (γ 0) = .inl (0, [ρ 0, 0], γ 1) := by
    unfold dn116
    refine zLE m0 (zLE m1 (zIP w_0 (zLE c1.symm ?_)))
    rfl
  exact zGoo_to hD
theorem vn116_1 {S : Nat → zSpc} (hS107 : zIm S 107 sn107) (hS109 : zIm S 109 sn109) {a : List Int} {g : rHp} : ∀ (ρ : Nat → Int) (γ : Nat → rHp), zO 3 S a g q116_1 ρ γ → zGl (fun i vs g1 => jn116 a g i vs g1) (sn116 a g) q116_1 ρ γ := by
  intro ρ γ h
  obtain ⟨ha, hg, hr, hf, hm, hc, hl⟩ := h
  have ha : a = [ρ 0, ρ 1, ρ 2] := ha
  subst ha
  subst hg
  have r3 : ((-128) : Int) ≤ ρ 3 ∧ ρ 3 ≤ 127 := zRnA hr 3
  have f0 : (0 : Int) ≤ ρ 1 + -ρ 0 + (-1) := zAllA hf 0
  have w_0 : ¬ (ρ 0 ≥ ρ 1) := by omega
  have m0 : γ 0 2 0 6 = ρ 0 := zAllA hm 0
  have m1 : γ 0 2 0 3 = ρ 1 := zAllA hm 1
  have m3 : γ 0 21 0 (ρ 0) = ρ 3 := zAllA hm 3
  have c1 : γ 1 = rUp (γ 0) 2 0 10 0 := And.right (zChA hc 0)
  have l0 : ρ 3 ≠ 45 := zAllA hl 0
  have wl_0 : ρ 3 ≠ 45 := by omega
  show jn116 [ρ 0, ρ 1, ρ 2] (γ 0) 0 [ρ 0, ρ 1, ρ 2, ρ 0, 0, ρ 0] (γ 1)
  have hD : dn116 [] (γ 0) = .inl (0, [ρ 0, 0], γ 1) := by
    unfold dn116
    refine zLE m0 (zLE m1 (zIN w_0 (zLE m3 (zIP wl_0 (zLE c1.symm ?_)))))
    rfl
  exact zGoo_to hD
theorem vn116_2 {S : Nat → zSpc} (hS107 : zIm S 107 sn107) (hS109 : zIm S 109 sn109) {a : List Int} {g : rHp} : ∀ (ρ : Nat → Int) (γ : Nat → rHp), zO 3 S a g q116_2 ρ γ → zGl (fun i vs g1 => jn116 a g i vs g1) (sn116 a g) q116_2 ρ γ := by
  intro ρ γ h
  obtain ⟨ha, hg, hr, hf, hm, hc, hl⟩ := h
  have ha : a = [ρ 0, ρ 1, ρ 2] := ha
  subst ha
  subst hg
  have r3 : (45 : Int) ≤ ρ 3 ∧ ρ 3 ≤ 45 := zRnA hr 3
  have f0 : (0 : Int) ≤ ρ 1 + -ρ 0 + (-1) := zAllA hf 0
  obtain ⟨w_0, w_1⟩ : (¬ (ρ 0 ≥ ρ 1)) ∧ (¬ (ρ 3 ≠ 45)) := ⟨by omega, by omega⟩
  have m0 : γ 0 2 0 6 = ρ 0 := zAllA hm 0
  have m1 : γ 0 2 0 3 = ρ 1 := zAllA hm 1
  have m3 : γ 0 21 0 (ρ 0) = ρ 3 := zAllA hm 3
  have c1 : γ 1 = rUp (γ 0) 2 0 6 (ρ 0 + 1) := And.right (zChA hc 1)
  have c2 : γ 2 = rUp (γ 1) 2 0 10 0 := And.right (zChA hc 0)
  show jn116 [ρ 0, ρ 1, ρ 2] (γ 0) 0 [ρ 0, ρ 1, ρ 2, ρ 0 + 1, 1, ρ 0 + 1] (γ 2)
  have hD : dn116 [] (γ 0) = .inl (0, [ρ 0 + 1, 1], γ 2) := by
    unfold dn116
    refine zLE m0 (zLE m1 (zIN w_0 (zLE m3 (zIN w_1 (zLE c1.symm (zLE c2.symm ?_))))))
    rfl
  exact zGoo_to hD
theorem vn116a0_0 {S : Nat → zSpc} (hS107 : zIm S 107 sn107) (hS109 : zIm S 109 sn109) {a : List Int} {g : rHp} : ∀ (ρ : Nat → Int) (γ : Nat → rHp), jn116 a g 0 (zAg (zNA a116_ 0) ρ) (γ 1) → zO 3 S a g q116a0_0 ρ γ → zGl (fun i vs g1 => jn116 a g i vs g1) (sn116 a g) q116a0_0 ρ γ := by
  intro ρ γ hJ h
  obtain ⟨ha, hg, hr, hf, hm, hc, hl⟩ := h
  have ha : a = [ρ 0, ρ 1, ρ 2] := ha
  subst ha
  subst hg
  have hJ : jn116 [ρ 0, ρ 1, ρ 2] (γ 0) 0 [ρ 0, ρ 1, ρ 2, ρ 3, ρ 4, ρ 5] (γ 1) := hJ
  have f0 : (0 : Int) ≤ -ρ 5 + ρ 3 := zAllA hf 0
  have f1 : (0 : Int) ≤ ρ 5 + -ρ 3 := zAllA hf 1
  have f2 : (0 : Int) ≤ ρ 5 + -ρ 1 := zAllA hf 2
  obtain ⟨w_0, w_1⟩ : (ρ 5 ≥ ρ 1) ∧ (ρ 5 = ρ 3) := ⟨by omega, by omega⟩
  have m0 : γ 0 2 0 6 = ρ 0 := zAllA hm 0
  have m1 : γ 0 2 0 3 = ρ 1 := zAllA hm 1
  have m3 : γ 1 2 0 6 = ρ 5 := zAllA hm 3
  have l0 : sn109 [ρ 0, ρ 2] (γ 1) 0 0 (γ 2) := hS109 _ _ _ _ _ (zAllA hl 0)
  show sn116 [ρ 0, ρ 1, ρ 2] (γ 0) 0 0 (γ 2)
  have hD : en116 (γ 0) (0, [ρ 3, ρ 4], γ 1) = .inr (0, 0, γ 2) := by
    unfold en116
    refine zIP (show (0 : Nat) = 0 by decide) (zLV (γ 1) rfl (zLV (ρ 3) rfl (zLV (ρ 4) rfl (zLE m0 (zLE m1 (zLE m3 (zIP w_0 ?_)))))))
    refine zIP w_1 (zLE (show fn109 [ρ 0] (γ 1) = (0, 0, γ 2) from l0.symm) (zLV (γ 2) rfl ?_))
    rfl
  exact zGoo_aend hJ hD
theorem vn116a0_1 {S : Nat → zSpc} (hS107 : zIm S 107 sn107) (hS109 : zIm S 109 sn109) {a : List Int} {g : rHp} : ∀ (ρ : Nat → Int) (γ : Nat → rHp), jn116 a g 0 (zAg (zNA a116_ 0) ρ) (γ 1) → zO 3 S a g q116a0_1 ρ γ → zGl (fun i vs g1 => jn116 a g i vs g1) (sn116 a g) q116a0_1 ρ γ := by
  intro ρ γ hJ h
  obtain ⟨ha, hg, hr, hf, hm, hc, hl⟩ := h
  have ha : a = [ρ 0, ρ 1, ρ 2] := ha
  subst ha
  subst hg
  have hJ : jn116 [ρ 0, ρ 1, ρ 2] (γ 0) 0 [ρ 0, ρ 1, ρ 2, ρ 3, ρ 4, ρ 5] (γ 1) := hJ
  have r4 : (0 : Int) ≤ ρ 4 ∧ ρ 4 ≤ 0 := zRnA hr 4
  have f0 : (0 : Int) ≤ -ρ 5 + ρ 3 + 7 := zAllA hf 0
  have f1 : (0 : Int) ≤ ρ 5 + -ρ 3 + (-1) := zAllA hf 1
  have f2 : (0 : Int) ≤ ρ 5 + -ρ 1 := zAllA hf 2
  obtain ⟨w_0, w_1, w_2, w_3⟩ : (ρ 5 ≥ ρ 1) ∧ (¬ (ρ 5 = ρ 3)) ∧ (ρ 5 + -ρ 3 ≤ 7) ∧ (ρ 4 = 0) := ⟨by omega, by omega, by omega, by omega⟩
  have m0 : γ 0 2 0 6 = ρ 0 := zAllA hm 0
  have m1 : γ 0 2 0 3 = ρ 1 := zAllA hm 1
  have m3 : γ 1 2 0 6 = ρ 5 := zAllA hm 3
  have m4 : γ 1 2 0 10 = ρ 6 := zAllA hm 4
  have c2 : γ 2 = rUp (γ 1) 2 0 10 (ρ 6) := And.right (zChA hc 0)
  show sn116 [ρ 0, ρ 1, ρ 2] (γ 0) 0 1 (γ 2)
  have hD : en116 (γ 0) (0, [ρ 3, ρ 4], γ 1) = .inr (0, 1, γ 2) := by
    unfold en116
    refine zIP (show (0 : Nat) = 0 by decide) (zLV (γ 1) rfl (zLV (ρ 3) rfl (zLV (ρ 4) rfl (zLE m0 (zLE m1 (zLE m3 (zIP w_0 ?_)))))))
    refine zIN w_1 (zIP w_2 (zIP w_3 (zLE m4 (zLE c2.symm ?_))))
    rfl
  exact zGoo_aend hJ hD
theorem vn116a0_2 {S : Nat → zSpc} (hS107 : zIm S 107 sn107) (hS109 : zIm S 109 sn109) {a : List Int} {g : rHp} : ∀ (ρ : Nat → Int) (γ : Nat → rHp), jn116 a g 0 (zAg (zNA a116_ 0) ρ) (γ 1) → zO 3 S a g q116a0_2 ρ γ → zGl (fun i vs g1 => jn116 a g i vs g1) (sn116 a g) q116a0_2 ρ γ := by
  intro ρ γ hJ h
  obtain ⟨ha, hg, hr, hf, hm, hc, hl⟩ := h
  have ha : a = [ρ 0, ρ 1, ρ 2] := ha
  subst ha
  subst hg
  have hJ : jn116 [ρ 0, ρ 1, ρ 2] (γ 0) 0 [ρ 0, ρ 1, ρ 2, ρ 3, ρ 4, ρ 5] (γ 1) := hJ
  have r4 : (1 : Int) ≤ ρ 4 ∧ ρ 4 ≤ 1 := zRnA hr 4
  have f0 : (0 : Int) ≤ -ρ 5 + ρ 3 + 7 := zAllA hf 0
  have f1 : (0 : Int) ≤ ρ 5 + -ρ 3 + (-1) := zAllA hf 1
  have f2 : (0 : Int) ≤ ρ 5 + -ρ 1 := zAllA hf 2
  obtain ⟨w_0, w_1, w_2, w_3⟩ : (ρ 5 ≥ ρ 1) ∧ (¬ (ρ 5 = ρ 3)) ∧ (ρ 5 + -ρ 3 ≤ 7) ∧ (¬ (ρ 4 = 0)) := ⟨by omega, by omega, by omega, by omega⟩
  have m0 : γ 0 2 0 6 = ρ 0 := zAllA hm 0
  have m1 : γ 0 2 0 3 = ρ 1 := zAllA hm 1
  have m3 : γ 1 2 0 6 = ρ 5 := zAllA hm 3
  have m4 : γ 1 2 0 10 = ρ 6 := zAllA hm 4
  have c2 : γ 2 = rUp (γ 1) 2 0 10 (ρ 7) := And.right (zChA hc 0)
  have l0 : zOpP (.lneg) (γ 0) (γ 1) [ρ 6] (ρ 7) := zAllA hl 0
  show sn116 [ρ 0, ρ 1, ρ 2] (γ 0) 0 1 (γ 2)
  have hD : en116 (γ 0) (0, [ρ 3, ρ 4], γ 1) = .inr (0, 1, γ 2) := by
    unfold en116
    refine zIP (show (0 : Nat) = 0 by decide) (zLV (γ 1) rfl (zLV (ρ 3) rfl (zLV (ρ 4) rfl (zLE m0 (zLE m1 (zLE m3 (zIP w_0 ?_)))))))
    refine zIN w_1 (zIP w_2 (zIN w_3 (zLE m4 (zLE (zF1_ok l0) (zLE c2.symm ?_)))))
    rfl
  exact zGoo_aend hJ hD
theorem vn116a0_3 {S : Nat → zSpc} (hS107 : zIm S 107 sn107) (hS109 : zIm S 109 sn109) {a : List Int} {g : rHp} : ∀ (ρ : Nat → Int) (γ : Nat → rHp), jn116 a g 0 (zAg (zNA a116_ 0) ρ) (γ 1) → zO 3 S a g q116a0_3 ρ γ → zGl (fun i vs g1 => jn116 a g i vs g1) (sn116 a g) q116a0_3 ρ γ := by
  intro ρ γ hJ h
  obtain ⟨ha, hg, hr, hf, hm, hc, hl⟩ := h
  have ha : a = [ρ 0, ρ 1, ρ 2] := ha
  subst ha
  subst hg
  have hJ : jn116 [ρ 0, ρ 1, ρ 2] (γ 0) 0 [ρ 0, ρ 1, ρ 2, ρ 3, ρ 4, ρ 5] (γ 1) := hJ
  have f0 : (0 : Int) ≤ ρ 5 + -ρ 3 + (-8) := zAllA hf 0
  have f2 : (0 : Int) ≤ ρ 5 + -ρ 1 := zAllA hf 2
  obtain ⟨w_0, w_1, w_2⟩ : (ρ 5 ≥ ρ 1) ∧ (¬ (ρ 5 = ρ 3)) ∧ (¬ (ρ 5 + -ρ 3 ≤ 7)) := ⟨by omega, by omega, by omega⟩
  have m0 : γ 0 2 0 6 = ρ 0 := zAllA hm 0
  have m1 : γ 0 2 0 3 = ρ 1 := zAllA hm 1
  have m3 : γ 1 2 0 6 = ρ 5 := zAllA hm 3
  have l0 : sn109 [ρ 0, ρ 2] (γ 1) 0 0 (γ 2) := hS109 _ _ _ _ _ (zAllA hl 0)
  show sn116 [ρ 0, ρ 1, ρ 2] (γ 0) 0 0 (γ 2)
  have hD : en116 (γ 0) (0, [ρ 3, ρ 4], γ 1) = .inr (0, 0, γ 2) := by
    unfold en116
    refine zIP (show (0 : Nat) = 0 by decide) (zLV (γ 1) rfl (zLV (ρ 3) rfl (zLV (ρ 4) rfl (zLE m0 (zLE m1 (zLE m3 (zIP w_0 ?_)))))))
    refine zIN w_1 (zIN w_2 (zLE (show fn109 [ρ 0] (γ 1) = (0, 0, γ 2) from l0.symm) (zLV (γ 2) rfl ?_)))
    rfl
  exact zGoo_aend hJ hD
theorem vn116a0_4 {S : Nat → zSpc} (hS107 : zIm S 107 sn107) (hS109 : zIm S 109 sn109) {a : List Int} {g : rHp} : ∀ (ρ : Nat → Int) (γ : Nat → rHp), jn116 a g 0 (zAg (zNA a116_ 0) ρ) (γ 1) → zO 3 S a g q116a0_4 ρ γ → zGl (fun i vs g1 => jn116 a g i vs g1) (sn116 a g) q116a0_4 ρ γ := by
  intro ρ γ hJ h
  obtain ⟨ha, hg, hr, hf, hm, hc, hl⟩ := h
  have ha : a = [ρ 0, ρ 1, ρ 2] := ha
  subst ha
  subst hg
  have hJ : jn116 [ρ 0, ρ 1, ρ 2] (γ 0) 0 [ρ 0, ρ 1, ρ 2, ρ 3, ρ 4, ρ 5] (γ 1) := hJ
  have f0 : (0 : Int) ≤ -ρ 5 + ρ 3 := zAllA hf 0
  have f1 : (0 : Int) ≤ ρ 5 + -ρ 3 := zAllA hf 1
  have f2 : (0 : Int) ≤ -ρ 5 + ρ 1 + (-1) := zAllA hf 2
  obtain ⟨w_0, w_1⟩ : (¬ (ρ 5 ≥ ρ 1)) ∧ (ρ 5 = ρ 3) := ⟨by omega, by omega⟩
  have m0 : γ 0 2 0 6 = ρ 0 := zAllA hm 0
  have m1 : γ 0 2 0 3 = ρ 1 := zAllA hm 1
  have m3 : γ 1 2 0 6 = ρ 5 := zAllA hm 3
  have m4 : γ 0 21 0 (ρ 5) = ρ 6 := zAllA hm 4
  have l0 : sn107 [ρ 6] (γ 1) 0 0 (γ 2) := hS107 _ _ _ _ _ (zAllA hl 0)
  have l1 : sn109 [ρ 0, ρ 2] (γ 2) 0 0 (γ 3) := hS109 _ _ _ _ _ (zAllA hl 1)
  show sn116 [ρ 0, ρ 1, ρ 2] (γ 0) 0 0 (γ 3)
  have hD : en116 (γ 0) (0, [ρ 3, ρ 4], γ 1) = .inr (0, 0, γ 3) := by
    unfold en116
    refine zIP (show (0 : Nat) = 0 by decide) (zLV (γ 1) rfl (zLV (ρ 3) rfl (zLV (ρ 4) rfl (zLE m0 (zLE m1 (zLE m3 (zIN w_0 ?_)))))))
    refine zLE m4 (zLE (show fn107 [ρ 6] (γ 1) = (0, 0, γ 2) from l0.symm) (zLV (γ 2) rfl (zIN zQ0_ (zIP w_1 (zLE (show fn109 [ρ 0] (γ 2) = (0, 0, γ 3) from l1.symm) (zLV (γ 3) rfl ?_))))))
    rfl
  exact zGoo_aend hJ hD
theorem vn116a0_5 {S : Nat → zSpc} (hS107 : zIm S 107 sn107) (hS109 : zIm S 109 sn109) {a : List Int} {g : rHp} : ∀ (ρ : Nat → Int) (γ : Nat → rHp), jn116 a g 0 (zAg (zNA a116_ 0) ρ) (γ 1) → zO 3 S a g q116a0_5 ρ γ → zGl (fun i vs g1 => jn116 a g i vs g1) (sn116 a g) q116a0_5 ρ γ := by
  intro ρ γ hJ h
  obtain ⟨ha, hg, hr, hf, hm, hc, hl⟩ := h
  have ha : a = [ρ 0, ρ 1, ρ 2] := ha
  subst ha
  subst hg
  have hJ : jn116 [ρ 0, ρ 1, ρ 2] (γ 0) 0 [ρ 0, ρ 1, ρ 2, ρ 3, ρ 4, ρ 5] (γ 1) := hJ
  have r4 : (0 : Int) ≤ ρ 4 ∧ ρ 4 ≤ 0 := zRnA hr 4
  have f0 : (0 : Int) ≤ -ρ 5 + ρ 3 + 7 := zAllA hf 0
  have f1 : (0 : Int) ≤ ρ 5 + -ρ 3 + (-1) := zAllA hf 1
  have f2 : (0 : Int) ≤ -ρ 5 + ρ 1 + (-1) := zAllA hf 2
  obtain ⟨w_0, w_1, w_2, w_3⟩ : (¬ (ρ 5 ≥ ρ 1)) ∧ (¬ (ρ 5 = ρ 3)) ∧ (ρ 5 + -ρ 3 ≤ 7) ∧ (ρ 4 = 0) := ⟨by omega, by omega, by omega, by omega⟩
  have m0 : γ 0 2 0 6 = ρ 0 := zAllA hm 0
  have m1 : γ 0 2 0 3 = ρ 1 := zAllA hm 1
  have m3 : γ 1 2 0 6 = ρ 5 := zAllA hm 3
  have m4 : γ 0 21 0 (ρ 5) = ρ 6 := zAllA hm 4
  have m5 : γ 1 2 0 10 = ρ 7 := zAllA hm 5
  have c3 : γ 3 = rUp (γ 2) 2 0 10 (ρ 7) := And.right (zChA hc 0)
  have l0 : sn107 [ρ 6] (γ 1) 0 0 (γ 2) := hS107 _ _ _ _ _ (zAllA hl 0)
  show sn116 [ρ 0, ρ 1, ρ 2] (γ 0) 0 1 (γ 3)
  have hD : en116 (γ 0) (0, [ρ 3, ρ 4], γ 1) = .inr (0, 1, γ 3) := by
    unfold en116
    refine zIP (show (0 : Nat) = 0 by decide) (zLV (γ 1) rfl (zLV (ρ 3) rfl (zLV (ρ 4) rfl (zLE m0 (zLE m1 (zLE m3 (zIN w_0 ?_)))))))
    refine zLE m4 (zLE (show fn107 [ρ 6] (γ 1) = (0, 0, γ 2) from l0.symm) (zLV (γ 2) rfl (zIN zQ0_ (zIN w_1 (zIP w_2 (zIP w_3 (zLE m5 ?_)))))))
    refine zLE c3.symm ?_
    rfl
  exact zGoo_aend hJ hD
theorem vn116a0_6 {S : Nat → zSpc} (hS107 : zIm S 107 sn107) (hS109 : zIm S 109 sn109) {a : List Int} {g : rHp} : ∀ (ρ : Nat → Int) (γ : Nat → rHp), jn116 a g 0 (zAg (zNA a116_ 0) ρ) (γ 1) → zO 3 S a g q116a0_6 ρ γ → zGl (fun i vs g1 => jn116 a g i vs g1) (sn116 a g) q116a0_6 ρ γ := by
  intro ρ γ hJ h
  obtain ⟨ha, hg, hr, hf, hm, hc, hl⟩ := h
  have ha : a = [ρ 0, ρ 1, ρ 2] := ha
  subst ha
  subst hg
  have hJ : jn116 [ρ 0, ρ 1, ρ 2] (γ 0) 0 [ρ 0, ρ 1, ρ 2, ρ 3, ρ 4, ρ 5] (γ 1) := hJ
  have r4 : (1 : Int) ≤ ρ 4 ∧ ρ 4 ≤ 1 := zRnA hr 4
  have f0 : (0 : Int) ≤ -ρ 5 + ρ 3 + 7 := zAllA hf 0
  have f1 : (0 : Int) ≤ ρ 5 + -ρ 3 + (-1) := zAllA hf 1
  have f2 : (0 : Int) ≤ -ρ 5 + ρ 1 + (-1) := zAllA hf 2
  obtain ⟨w_0, w_1, w_2, w_3⟩ : (¬ (ρ 5 ≥ ρ 1)) ∧ (¬ (ρ 5 = ρ 3)) ∧ (ρ 5 + -ρ 3 ≤ 7) ∧ (¬ (ρ 4 = 0)) := ⟨by omega, by omega, by omega, by omega⟩
  have m0 : γ 0 2 0 6 = ρ 0 := zAllA hm 0
  have m1 : γ 0 2 0 3 = ρ 1 := zAllA hm 1
  have m3 : γ 1 2 0 6 = ρ 5 := zAllA hm 3
  have m4 : γ 0 21 0 (ρ 5) = ρ 6 := zAllA hm 4
  have m5 : γ 1 2 0 10 = ρ 7 := zAllA hm 5
  have c3 : γ 3 = rUp (γ 2) 2 0 10 (ρ 8) := And.right (zChA hc 0)
  have l0 : sn107 [ρ 6] (γ 1) 0 0 (γ 2) := hS107 _ _ _ _ _ (zAllA hl 0)
  have l1 : zOpP (.lneg) (γ 0) (γ 1) [ρ 7] (ρ 8) := zAllA hl 1
  show sn116 [ρ 0, ρ 1, ρ 2] (γ 0) 0 1 (γ 3)
  have hD : en116 (γ 0) (0, [ρ 3, ρ 4], γ 1) = .inr (0, 1, γ 3) := by
    unfold en116
    refine zIP (show (0 : Nat) = 0 by decide) (zLV (γ 1) rfl (zLV (ρ 3) rfl (zLV (ρ 4) rfl (zLE m0 (zLE m1 (zLE m3 (zIN w_0 ?_)))))))
    refine zLE m4 (zLE (show fn107 [ρ 6] (γ 1) = (0, 0, γ 2) from l0.symm) (zLV (γ 2) rfl (zIN zQ0_ (zIN w_1 (zIP w_2 (zIN w_3 (zLE m5 ?_)))))))
    refine zLE (zF1_ok l1) (zLE c3.symm ?_)
    rfl
  exact zGoo_aend hJ hD
theorem vn116a0_7 {S : Nat → zSpc} (hS107 : zIm S 107 sn107) (hS109 : zIm S 109 sn109) {a : List Int} {g : rHp} : ∀ (ρ : Nat → Int) (γ : Nat → rHp), jn116 a g 0 (zAg (zNA a116_ 0) ρ) (γ 1) → zO 3 S a g q116a0_7 ρ γ → zGl (fun i vs g1 => jn116 a g i vs g1) (sn116 a g) q116a0_7 ρ γ := by
  intro ρ γ hJ h
  obtain ⟨ha, hg, hr, hf, hm, hc, hl⟩ := h
  have ha : a = [ρ 0, ρ 1, ρ 2] := ha
  subst ha
  subst hg
  have hJ : jn116 [ρ 0, ρ 1, ρ 2] (γ 0) 0 [ρ 0, ρ 1, ρ 2, ρ 3, ρ 4, ρ 5] (γ 1) := hJ
  have f0 : (0 : Int) ≤ ρ 5 + -ρ 3 + (-8) := zAllA hf 0
  have f2 : (0 : Int) ≤ -ρ 5 + ρ 1 + (-1) := zAllA hf 2
  obtain ⟨w_0, w_1, w_2⟩ : (¬ (ρ 5 ≥ ρ 1)) ∧ (¬ (ρ 5 = ρ 3)) ∧ (¬ (ρ 5 + -ρ 3 ≤ 7)) := ⟨by omega, by omega, by omega⟩
  have m0 : γ 0 2 0 6 = ρ 0 := zAllA hm 0
  have m1 : γ 0 2 0 3 = ρ 1 := zAllA hm 1
  have m3 : γ 1 2 0 6 = ρ 5 := zAllA hm 3
  have m4 : γ 0 21 0 (ρ 5) = ρ 6 := zAllA hm 4
  have l0 : sn107 [ρ 6] (γ 1) 0 0 (γ 2) := hS107 _ _ _ _ _ (zAllA hl 0)
  have l1 : sn109 [ρ 0, ρ 2] (γ 2) 0 0 (γ 3) := hS109 _ _ _ _ _ (zAllA hl 1)
  show sn116 [ρ 0, ρ 1, ρ 2] (γ 0) 0 0 (γ 3)
  have hD : en116 (γ 0) (0, [ρ 3, ρ 4], γ 1) = .inr (0, 0, γ 3) := by
    unfold en116
    refine zIP (show (0 : Nat) = 0 by decide) (zLV (γ 1) rfl (zLV (ρ 3) rfl (zLV (ρ 4) rfl (zLE m0 (zLE m1 (zLE m3 (zIN w_0 ?_)))))))
    refine zLE m4 (zLE (show fn107 [ρ 6] (γ 1) = (0, 0, γ 2) from l0.symm) (zLV (γ 2) rfl (zIN zQ0_ (zIN w_1 (zIN w_2 (zLE (show fn109 [ρ 0] (γ 2) = (0, 0, γ 3) from l1.symm) (zLV (γ 3) rfl ?_)))))))
    rfl
  exact zGoo_aend hJ hD
theorem vn116a0_8 {S : Nat → zSpc} (hS107 : zIm S 107 sn107) (hS109 : zIm S 109 sn109) {a : List Int} {g : rHp} : ∀ (ρ : Nat → Int) (γ : Nat → rHp), jn116 a g 0 (zAg (zNA a116_ 0) ρ) (γ 1) → zO 3 S a g q116a0_8 ρ γ → zGl (fun i vs g1 => jn116 a g i vs g1) (sn116 a g) q116a0_8 ρ γ := by
  intro ρ γ hJ h
  obtain ⟨ha, hg, hr, hf, hm, hc, hl⟩ := h
  have ha : a = [ρ 0, ρ 1, ρ 2] := ha
  subst ha
  subst hg
  have hJ : jn116 [ρ 0, ρ 1, ρ 2] (γ 0) 0 [ρ 0, ρ 1, ρ 2, ρ 3, ρ 4, ρ 5] (γ 1) := hJ
  have f0 : (0 : Int) ≤ -ρ 5 + ρ 1 + (-1) := zAllA hf 0
  have w_0 : ¬ (ρ 5 ≥ ρ 1) := by omega
  have m0 : γ 0 2 0 6 = ρ 0 := zAllA hm 0
  have m1 : γ 0 2 0 3 = ρ 1 := zAllA hm 1
  have m3 : γ 1 2 0 6 = ρ 5 := zAllA hm 3
  have m4 : γ 0 21 0 (ρ 5) = ρ 6 := zAllA hm 4
  have m5 : γ 1 2 0 10 = ρ 7 := zAllA hm 5
  have c3 : γ 3 = rUp (γ 2) 2 0 10 (ρ 9) := And.right (zChA hc 1)
  have c4 : γ 4 = rUp (γ 3) 2 0 6 (ρ 5 + 1) := And.right (zChA hc 0)
  have l0 : sn107 [ρ 6] (γ 1) 0 1 (γ 2) := hS107 _ _ _ _ _ (zAllA hl 0)
  have l1 : zOpP (.lmul) (γ 0) (γ 1) [ρ 7, 10] (ρ 8) := zAllA hl 1
  have l2 : zOpP (.ladd) (γ 0) (γ 1) [ρ 8, ρ 6 + (-48)] (ρ 9) := zAllA hl 2
  show jn116 [ρ 0, ρ 1, ρ 2] (γ 0) 0 [ρ 0, ρ 1, ρ 2, ρ 3, ρ 4, ρ 5 + 1] (γ 4)
  have hD : en116 (γ 0) (0, [ρ 3, ρ 4], γ 1) = .inl (0, [ρ 3, ρ 4], γ 4) := by
    unfold en116
    refine zIP (show (0 : Nat) = 0 by decide) (zLV (γ 1) rfl (zLV (ρ 3) rfl (zLV (ρ 4) rfl (zLE m0 (zLE m1 (zLE m3 (zIN w_0 ?_)))))))
    refine zLE m4 (zLE (show fn107 [ρ 6] (γ 1) = (0, 1, γ 2) from l0.symm) (zLV (γ 2) rfl (zIP zQ1_ (zLE m5 (zLE (zF2_ok l1) (zLE (zF2_ok l2) (zLE c3.symm ?_)))))))
    refine zLE c4.symm ?_
    rfl
  exact zGoo_ato hJ hD
theorem yn116 {S : Nat → zSpc} (hS107 : zIm S 107 sn107) (hS109 : zIm S 109 sn109) : ∀ x g o v gz, zSem uW uT w116_.2.2.2.1 w116_.2.2.1.1.length S q116 (fun i => q116a.getD i []) (zNA a116_) x g o v gz → sn116 x g o v gz := by
  intro a g o v gz h
  exact zSem_all (l0 := q116) (las := q116a) (S := S) (J := (fun i vs g1 => jn116 a g i vs g1)) (P := sn116 a g) (fun _ => (show zAll _ [q116_0, q116_1, q116_2] from (zAll_c (vn116_0 hS107 hS109) (zAll_c (vn116_1 hS107 hS109) (zAll_c (vn116_2 hS107 hS109) zAll_n))))) (fun _ => (show zAllI _ 0 [q116a0] from ⟨(show zAll _ [q116a0_0, q116a0_1, q116a0_2, q116a0_3, q116a0_4, q116a0_5, q116a0_6, q116a0_7, q116a0_8] from (zAll_c (vn116a0_0 hS107 hS109) (zAll_c (vn116a0_1 hS107 hS109) (zAll_c (vn116a0_2 hS107 hS109) (zAll_c (vn116a0_3 hS107 hS109) (zAll_c (vn116a0_4 hS107 hS109) (zAll_c (vn116a0_5 hS107 hS109) (zAll_c (vn116a0_6 hS107 hS109) (zAll_c (vn116a0_7 hS107 hS109) (zAll_c (vn116a0_8 hS107 hS109) zAll_n)))))))))), trivial⟩)) h
