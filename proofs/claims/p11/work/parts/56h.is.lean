/-! ===== the runs are the functions ===== -/
theorem vn42_0 {S : Nat → zSpc} (hS6 : zIm S 6 sn6) (hS7 : zIm S 7 sn7) (hS8 : zIm S 8 sn8) (hS9 : zIm S 9 sn9) (hS12 : zIm S 12 sn12) (hS13 : zIm S 13 sn13) (hS15 : zIm S 15 sn15) (hS18 : zIm S 18 sn18) (hS20 : zIm S 20 sn20) (hS23 : zIm S 23 sn23) (hS33 : zIm S 33 sn33) (hS34 : zIm S 34 sn34) (hS40 : zIm S 40 sn40) (hS41 : zIm S 41 sn41) {a : List Int} {g : rHp} : ∀ (ρ : Nat → Int) (γ : Nat → rHp), zO 18 S a g q42_0 ρ γ → zGl (fun _ _ _ => True) (sn42 a g) q42_0 ρ γ := by
  intro ρ γ h
  obtain ⟨ha, hg, hr, hf, hm, hc, hl⟩ := h
  have ha : a = [ρ 0, ρ 1, ρ 2, ρ 3, ρ 4, ρ 5, ρ 6, ρ 7, ρ 8, ρ 9, ρ 10, ρ 11, ρ 12, ρ 13, ρ 14, ρ 15, ρ 16, ρ 17] := ha
  subst ha
  subst hg
  have r19 : ((-128) : Int) ≤ ρ 19 ∧ ρ 19 ≤ 127 := zRnA hr 19
  have f6 : (0 : Int) ≤ -ρ 18 + ρ 1 + (-1) := zAllA hf 6
  have w_0 : 0 ≤ -ρ 18 + ρ 1 + (-1) := by omega
  have m1 : γ 0 15 0 34 = ρ 1 := zAllA hm 1
  have m8 : γ 0 15 0 44 = ρ 8 := zAllA hm 8
  have m9 : γ 0 73 0 (ρ 8) = ρ 9 := zAllA hm 9
  have m17 : γ 0 15 0 45 = ρ 17 := zAllA hm 17
  have m18 : γ 1 15 0 35 = ρ 18 := zAllA hm 18
  have c3 : γ 3 = rUp (γ 2) 79 0 (ρ 9 + 8 * ρ 8) (ρ 17) := And.right (zChA hc 3)
  have l0 : sn7 [ρ 0, ρ 1] (γ 0) 0 0 (γ 1) := hS7 _ _ _ _ _ (zAllA hl 0)
  have l1 : sn33 [ρ 8, ρ 9] (γ 1) 0 (ρ 9 + 8 * ρ 8) (γ 2) := hS33 _ _ _ _ _ (zAllA hl 1)
  have l2 : sn6 [ρ 18, ρ 1] (γ 3) 0 (ρ 19) (γ 4) := hS6 _ _ _ _ _ (zAllA hl 2)
  have l3 : ρ 19 ≠ 33 := zAllA hl 3
  have l4 : sn9 [ρ 19] (γ 4) 0 0 (γ 5) := hS9 _ _ _ _ _ (zAllA hl 4)
  have l5 : sn20 [0, ρ 18, ρ 1, ρ 2, ρ 3, ρ 20, ρ 16, ρ 13, ρ 14, ρ 15, ρ 8] (γ 5) 0 0 (γ 6) := hS20 _ _ _ _ _ (zAllA hl 5)
  have wl_0 : ρ 19 ≠ 33 := by omega
  show sn42 [ρ 0, ρ 1, ρ 2, ρ 3, ρ 4, ρ 5, ρ 6, ρ 7, ρ 8, ρ 9, ρ 10, ρ 11, ρ 12, ρ 13, ρ 14, ρ 15, ρ 16, ρ 17] (γ 0) 0 0 (γ 6)
  refine Eq.symm ?_
  show fn42 [] (γ 0) = _
  unfold fn42
  refine zLE m1 (zLE m8 (zLE m9 (zLE m17 (zLE (show fn7 [] (γ 0) = (0, 0, γ 1) from l0.symm) (zLV (γ 1) rfl (zLE m18 (zLE (show fn33 [] (γ 1) = (0, ρ 9 + 8 * ρ 8, γ 2) from l1.symm) ?_)))))))
  refine zLV (γ 2) rfl (zLE c3.symm (zLE (show fn6 [ρ 18] (γ 3) = (0, ρ 19, γ 4) from l2.symm) (zLV (γ 4) rfl (zIP w_0 (zLV (ρ 19) rfl (zIP wl_0 (zLE (show fn9 [ρ 19] (γ 4) = (0, 0, γ 5) from l4.symm) ?_)))))))
  refine zLV (γ 5) rfl (zIN zQ0_ (zLE (show fn20 [0] (γ 5) = (0, 0, γ 6) from l5.symm) (zLV (γ 6) rfl (zIN zQ0_ ?_))))
  rfl
theorem vn42_1 {S : Nat → zSpc} (hS6 : zIm S 6 sn6) (hS7 : zIm S 7 sn7) (hS8 : zIm S 8 sn8) (hS9 : zIm S 9 sn9) (hS12 : zIm S 12 sn12) (hS13 : zIm S 13 sn13) (hS15 : zIm S 15 sn15) (hS18 : zIm S 18 sn18) (hS20 : zIm S 20 sn20) (hS23 : zIm S 23 sn23) (hS33 : zIm S 33 sn33) (hS34 : zIm S 34 sn34) (hS40 : zIm S 40 sn40) (hS41 : zIm S 41 sn41) {a : List Int} {g : rHp} : ∀ (ρ : Nat → Int) (γ : Nat → rHp), zO 18 S a g q42_1 ρ γ → zGl (fun _ _ _ => True) (sn42 a g) q42_1 ρ γ := by
  intro ρ γ h
  obtain ⟨ha, hg, hr, hf, hm, hc, hl⟩ := h
  have ha : a = [ρ 0, ρ 1, ρ 2, ρ 3, ρ 4, ρ 5, ρ 6, ρ 7, ρ 8, ρ 9, ρ 10, ρ 11, ρ 12, ρ 13, ρ 14, ρ 15, ρ 16, ρ 17] := ha
  subst ha
  subst hg
  have r19 : ((-128) : Int) ≤ ρ 19 ∧ ρ 19 ≤ 127 := zRnA hr 19
  have r25 : (0 : Int) ≤ ρ 25 ∧ ρ 25 ≤ 2 := zRnA hr 25
  have f20 : (0 : Int) ≤ -ρ 18 + ρ 1 + (-1) := zAllA hf 20
  have w_0 : 0 ≤ -ρ 18 + ρ 1 + (-1) := by omega
  have m1 : γ 0 15 0 34 = ρ 1 := zAllA hm 1
  have m8 : γ 0 15 0 44 = ρ 8 := zAllA hm 8
  have m9 : γ 0 73 0 (ρ 8) = ρ 9 := zAllA hm 9
  have m17 : γ 0 15 0 45 = ρ 17 := zAllA hm 17
  have m18 : γ 1 15 0 35 = ρ 18 := zAllA hm 18
  have m23 : γ 6 15 0 39 = ρ 24 := zAllA hm 23
  have m24 : γ 6 15 0 40 = ρ 25 := zAllA hm 24
  have m28 : γ 9 15 0 35 = ρ 28 := zAllA hm 28
  have c3 : γ 3 = rUp (γ 2) 79 0 (ρ 9 + 8 * ρ 8) (ρ 17) := And.right (zChA hc 7)
  have c7 : γ 7 = rUp (γ 6) 80 0 (4 * ρ 9 + 32 * ρ 8) (ρ 25) := And.right (zChA hc 3)
  have c8 : γ 8 = rUp (γ 7) 81 0 (4 * ρ 9 + 32 * ρ 8) (ρ 24) := And.right (zChA hc 2)
  have l0 : sn7 [ρ 0, ρ 1] (γ 0) 0 0 (γ 1) := hS7 _ _ _ _ _ (zAllA hl 0)
  have l1 : sn33 [ρ 8, ρ 9] (γ 1) 0 (ρ 9 + 8 * ρ 8) (γ 2) := hS33 _ _ _ _ _ (zAllA hl 1)
  have l2 : sn6 [ρ 18, ρ 1] (γ 3) 0 (ρ 19) (γ 4) := hS6 _ _ _ _ _ (zAllA hl 2)
  have l3 : ρ 19 ≠ 33 := zAllA hl 3
  have l4 : sn9 [ρ 19] (γ 4) 0 0 (γ 5) := hS9 _ _ _ _ _ (zAllA hl 4)
  have l5 : sn20 [0, ρ 18, ρ 1, ρ 2, ρ 3, ρ 20, ρ 16, ρ 13, ρ 14, ρ 15, ρ 8] (γ 5) 0 1 (γ 6) := hS20 _ _ _ _ _ (zAllA hl 5)
  have l6 : sn7 [ρ 21, ρ 1] (γ 8) 0 0 (γ 9) := hS7 _ _ _ _ _ (zAllA hl 6)
  have l7 : ρ 25 ≠ 1 := zAllA hl 7
  have l8 : sn40 [ρ 18, ρ 28, ρ 1, ρ 22, ρ 23, ρ 6, ρ 7, ρ 8, ρ 9, ρ 10, ρ 24, ρ 13, ρ 26, ρ 27, ρ 25, ρ 17] (γ 9) 0 0 (γ 10) := hS40 _ _ _ _ _ (zAllA hl 8)
  obtain ⟨wl_0, wl_1⟩ : (ρ 19 ≠ 33) ∧ (ρ 25 ≠ 1) := ⟨by omega, by omega⟩
  show sn42 [ρ 0, ρ 1, ρ 2, ρ 3, ρ 4, ρ 5, ρ 6, ρ 7, ρ 8, ρ 9, ρ 10, ρ 11, ρ 12, ρ 13, ρ 14, ρ 15, ρ 16, ρ 17] (γ 0) 0 0 (γ 10)
  refine Eq.symm ?_
  show fn42 [] (γ 0) = _
  unfold fn42
  refine zLE m1 (zLE m8 (zLE m9 (zLE m17 (zLE (show fn7 [] (γ 0) = (0, 0, γ 1) from l0.symm) (zLV (γ 1) rfl (zLE m18 (zLE (show fn33 [] (γ 1) = (0, ρ 9 + 8 * ρ 8, γ 2) from l1.symm) ?_)))))))
  refine zLV (γ 2) rfl (zLE c3.symm (zLE (show fn6 [ρ 18] (γ 3) = (0, ρ 19, γ 4) from l2.symm) (zLV (γ 4) rfl (zIP w_0 (zLV (ρ 19) rfl (zIP wl_0 (zLE (show fn9 [ρ 19] (γ 4) = (0, 0, γ 5) from l4.symm) ?_)))))))
  refine zLV (γ 5) rfl (zIN zQ0_ (zLE (show fn20 [0] (γ 5) = (0, 1, γ 6) from l5.symm) (zLV (γ 6) rfl (zIP zQ1_ (zLE m23 (zLE m24 (zLE c7.symm ?_)))))))
  refine zLE c8.symm (zLE (show fn7 [] (γ 8) = (0, 0, γ 9) from l6.symm) (zLV (γ 9) rfl (zLE m28 (zIP wl_1 (zLE (show fn40 [ρ 18] (γ 9) = (0, 0, γ 10) from l8.symm) (zLV (γ 10) rfl (zIN zQ0_ ?_)))))))
  rfl
theorem vn42_2 {S : Nat → zSpc} (hS6 : zIm S 6 sn6) (hS7 : zIm S 7 sn7) (hS8 : zIm S 8 sn8) (hS9 : zIm S 9 sn9) (hS12 : zIm S 12 sn12) (hS13 : zIm S 13 sn13) (hS15 : zIm S 15 sn15) (hS18 : zIm S 18 sn18) (hS20 : zIm S 20 sn20) (hS23 : zIm S 23 sn23) (hS33 : zIm S 33 sn33) (hS34 : zIm S 34 sn34) (hS40 : zIm S 40 sn40) (hS41 : zIm S 41 sn41) {a : List Int} {g : rHp} : ∀ (ρ : Nat → Int) (γ : Nat → rHp), zO 18 S a g q42_2 ρ γ → zGl (fun _ _ _ => True) (sn42 a g) q42_2 ρ γ := by
  intro ρ γ h
  obtain ⟨ha, hg, hr, hf, hm, hc, hl⟩ := h
  have ha : a = [ρ 0, ρ 1, ρ 2, ρ 3, ρ 4, ρ 5, ρ 6, ρ 7, ρ 8, ρ 9, ρ 10, ρ 11, ρ 12, ρ 13, ρ 14, ρ 15, ρ 16, ρ 17] := ha
  subst ha
  subst hg
  have r19 : ((-128) : Int) ≤ ρ 19 ∧ ρ 19 ≤ 127 := zRnA hr 19
  have r25 : (0 : Int) ≤ ρ 25 ∧ ρ 25 ≤ 2 := zRnA hr 25
  have f21 : (0 : Int) ≤ -ρ 18 + ρ 1 + (-1) := zAllA hf 21
  have w_0 : 0 ≤ -ρ 18 + ρ 1 + (-1) := by omega
  have m1 : γ 0 15 0 34 = ρ 1 := zAllA hm 1
  have m8 : γ 0 15 0 44 = ρ 8 := zAllA hm 8
  have m9 : γ 0 73 0 (ρ 8) = ρ 9 := zAllA hm 9
  have m17 : γ 0 15 0 45 = ρ 17 := zAllA hm 17
  have m18 : γ 1 15 0 35 = ρ 18 := zAllA hm 18
  have m23 : γ 6 15 0 39 = ρ 24 := zAllA hm 23
  have m24 : γ 6 15 0 40 = ρ 25 := zAllA hm 24
  have m28 : γ 9 15 0 35 = ρ 28 := zAllA hm 28
  have c3 : γ 3 = rUp (γ 2) 79 0 (ρ 9 + 8 * ρ 8) (ρ 17) := And.right (zChA hc 7)
  have c7 : γ 7 = rUp (γ 6) 80 0 (4 * ρ 9 + 32 * ρ 8) (ρ 25) := And.right (zChA hc 3)
  have c8 : γ 8 = rUp (γ 7) 81 0 (4 * ρ 9 + 32 * ρ 8) (ρ 24) := And.right (zChA hc 2)
  have l0 : sn7 [ρ 0, ρ 1] (γ 0) 0 0 (γ 1) := hS7 _ _ _ _ _ (zAllA hl 0)
  have l1 : sn33 [ρ 8, ρ 9] (γ 1) 0 (ρ 9 + 8 * ρ 8) (γ 2) := hS33 _ _ _ _ _ (zAllA hl 1)
  have l2 : sn6 [ρ 18, ρ 1] (γ 3) 0 (ρ 19) (γ 4) := hS6 _ _ _ _ _ (zAllA hl 2)
  have l3 : ρ 19 ≠ 33 := zAllA hl 3
  have l4 : sn9 [ρ 19] (γ 4) 0 0 (γ 5) := hS9 _ _ _ _ _ (zAllA hl 4)
  have l5 : sn20 [0, ρ 18, ρ 1, ρ 2, ρ 3, ρ 20, ρ 16, ρ 13, ρ 14, ρ 15, ρ 8] (γ 5) 0 1 (γ 6) := hS20 _ _ _ _ _ (zAllA hl 5)
  have l6 : sn7 [ρ 21, ρ 1] (γ 8) 0 0 (γ 9) := hS7 _ _ _ _ _ (zAllA hl 6)
  have l7 : ρ 25 ≠ 1 := zAllA hl 7
  have l8 : sn40 [ρ 18, ρ 28, ρ 1, ρ 22, ρ 23, ρ 6, ρ 7, ρ 8, ρ 9, ρ 10, ρ 24, ρ 13, ρ 26, ρ 27, ρ 25, ρ 17] (γ 9) 0 1 (γ 10) := hS40 _ _ _ _ _ (zAllA hl 8)
  obtain ⟨wl_0, wl_1⟩ : (ρ 19 ≠ 33) ∧ (ρ 25 ≠ 1) := ⟨by omega, by omega⟩
  show sn42 [ρ 0, ρ 1, ρ 2, ρ 3, ρ 4, ρ 5, ρ 6, ρ 7, ρ 8, ρ 9, ρ 10, ρ 11, ρ 12, ρ 13, ρ 14, ρ 15, ρ 16, ρ 17] (γ 0) 0 1 (γ 10)
  refine Eq.symm ?_
  show fn42 [] (γ 0) = _
  unfold fn42
  refine zLE m1 (zLE m8 (zLE m9 (zLE m17 (zLE (show fn7 [] (γ 0) = (0, 0, γ 1) from l0.symm) (zLV (γ 1) rfl (zLE m18 (zLE (show fn33 [] (γ 1) = (0, ρ 9 + 8 * ρ 8, γ 2) from l1.symm) ?_)))))))
  refine zLV (γ 2) rfl (zLE c3.symm (zLE (show fn6 [ρ 18] (γ 3) = (0, ρ 19, γ 4) from l2.symm) (zLV (γ 4) rfl (zIP w_0 (zLV (ρ 19) rfl (zIP wl_0 (zLE (show fn9 [ρ 19] (γ 4) = (0, 0, γ 5) from l4.symm) ?_)))))))
  refine zLV (γ 5) rfl (zIN zQ0_ (zLE (show fn20 [0] (γ 5) = (0, 1, γ 6) from l5.symm) (zLV (γ 6) rfl (zIP zQ1_ (zLE m23 (zLE m24 (zLE c7.symm ?_)))))))
  refine zLE c8.symm (zLE (show fn7 [] (γ 8) = (0, 0, γ 9) from l6.symm) (zLV (γ 9) rfl (zLE m28 (zIP wl_1 (zLE (show fn40 [ρ 18] (γ 9) = (0, 1, γ 10) from l8.symm) (zLV (γ 10) rfl (zIP zQ1_ ?_)))))))
  rfl
theorem vn42_3 {S : Nat → zSpc} (hS6 : zIm S 6 sn6) (hS7 : zIm S 7 sn7) (hS8 : zIm S 8 sn8) (hS9 : zIm S 9 sn9) (hS12 : zIm S 12 sn12) (hS13 : zIm S 13 sn13) (hS15 : zIm S 15 sn15) (hS18 : zIm S 18 sn18) (hS20 : zIm S 20 sn20) (hS23 : zIm S 23 sn23) (hS33 : zIm S 33 sn33) (hS34 : zIm S 34 sn34) (hS40 : zIm S 40 sn40) (hS41 : zIm S 41 sn41) {a : List Int} {g : rHp} : ∀ (ρ : Nat → Int) (γ : Nat → rHp), zO 18 S a g q42_3 ρ γ → zGl (fun _ _ _ => True) (sn42 a g) q42_3 ρ γ := by
  intro ρ γ h
  obtain ⟨ha, hg, hr, hf, hm, hc, hl⟩ := h
  have ha : a = [ρ 0, ρ 1, ρ 2, ρ 3, ρ 4, ρ 5, ρ 6, ρ 7, ρ 8, ρ 9, ρ 10, ρ 11, ρ 12, ρ 13, ρ 14, ρ 15, ρ 16, ρ 17] := ha
  subst ha
  subst hg
  have r19 : ((-128) : Int) ≤ ρ 19 ∧ ρ 19 ≤ 127 := zRnA hr 19
  have r25 : (1 : Int) ≤ ρ 25 ∧ ρ 25 ≤ 1 := zRnA hr 25
  have f12 : (0 : Int) ≤ -ρ 28 + ρ 1 + (-1) := zAllA hf 12
  have f21 : (0 : Int) ≤ -ρ 18 + ρ 1 + (-1) := zAllA hf 21
  obtain ⟨w_0, w_1, w_2⟩ : (0 ≤ -ρ 18 + ρ 1 + (-1)) ∧ (¬ (ρ 25 ≠ 1)) ∧ (0 ≤ -ρ 28 + ρ 1 + (-1)) := ⟨by omega, by omega, by omega⟩
  have m1 : γ 0 15 0 34 = ρ 1 := zAllA hm 1
  have m8 : γ 0 15 0 44 = ρ 8 := zAllA hm 8
  have m9 : γ 0 73 0 (ρ 8) = ρ 9 := zAllA hm 9
  have m17 : γ 0 15 0 45 = ρ 17 := zAllA hm 17
  have m18 : γ 1 15 0 35 = ρ 18 := zAllA hm 18
  have m23 : γ 6 15 0 39 = ρ 24 := zAllA hm 23
  have m24 : γ 6 15 0 40 = ρ 25 := zAllA hm 24
  have m28 : γ 9 15 0 35 = ρ 28 := zAllA hm 28
  have c3 : γ 3 = rUp (γ 2) 79 0 (ρ 9 + 8 * ρ 8) (ρ 17) := And.right (zChA hc 9)
  have c7 : γ 7 = rUp (γ 6) 80 0 (4 * ρ 9 + 32 * ρ 8) (ρ 25) := And.right (zChA hc 5)
  have c8 : γ 8 = rUp (γ 7) 81 0 (4 * ρ 9 + 32 * ρ 8) (ρ 24) := And.right (zChA hc 4)
  have l0 : sn7 [ρ 0, ρ 1] (γ 0) 0 0 (γ 1) := hS7 _ _ _ _ _ (zAllA hl 0)
  have l1 : sn33 [ρ 8, ρ 9] (γ 1) 0 (ρ 9 + 8 * ρ 8) (γ 2) := hS33 _ _ _ _ _ (zAllA hl 1)
  have l2 : sn6 [ρ 18, ρ 1] (γ 3) 0 (ρ 19) (γ 4) := hS6 _ _ _ _ _ (zAllA hl 2)
  have l3 : ρ 19 ≠ 33 := zAllA hl 3
  have l4 : sn9 [ρ 19] (γ 4) 0 0 (γ 5) := hS9 _ _ _ _ _ (zAllA hl 4)
  have l5 : sn20 [0, ρ 18, ρ 1, ρ 2, ρ 3, ρ 20, ρ 16, ρ 13, ρ 14, ρ 15, ρ 8] (γ 5) 0 1 (γ 6) := hS20 _ _ _ _ _ (zAllA hl 5)
  have l6 : sn7 [ρ 21, ρ 1] (γ 8) 0 0 (γ 9) := hS7 _ _ _ _ _ (zAllA hl 6)
  have l7 : sn6 [ρ 28, ρ 1] (γ 9) 0 (ρ 29) (γ 10) := hS6 _ _ _ _ _ (zAllA hl 7)
  have l8 : sn9 [ρ 29] (γ 10) 0 0 (γ 11) := hS9 _ _ _ _ _ (zAllA hl 8)
  have l9 : sn40 [ρ 18, ρ 28, ρ 1, ρ 22, ρ 23, ρ 6, ρ 7, ρ 8, ρ 9, ρ 10, ρ 24, ρ 13, ρ 26, ρ 27, ρ 25, ρ 17] (γ 11) 0 0 (γ 12) := hS40 _ _ _ _ _ (zAllA hl 9)
  have wl_0 : ρ 19 ≠ 33 := by omega
  show sn42 [ρ 0, ρ 1, ρ 2, ρ 3, ρ 4, ρ 5, ρ 6, ρ 7, ρ 8, ρ 9, ρ 10, ρ 11, ρ 12, ρ 13, ρ 14, ρ 15, ρ 16, ρ 17] (γ 0) 0 0 (γ 12)
  refine Eq.symm ?_
  show fn42 [] (γ 0) = _
  unfold fn42
  refine zLE m1 (zLE m8 (zLE m9 (zLE m17 (zLE (show fn7 [] (γ 0) = (0, 0, γ 1) from l0.symm) (zLV (γ 1) rfl (zLE m18 (zLE (show fn33 [] (γ 1) = (0, ρ 9 + 8 * ρ 8, γ 2) from l1.symm) ?_)))))))
  refine zLV (γ 2) rfl (zLE c3.symm (zLE (show fn6 [ρ 18] (γ 3) = (0, ρ 19, γ 4) from l2.symm) (zLV (γ 4) rfl (zIP w_0 (zLV (ρ 19) rfl (zIP wl_0 (zLE (show fn9 [ρ 19] (γ 4) = (0, 0, γ 5) from l4.symm) ?_)))))))
  refine zLV (γ 5) rfl (zIN zQ0_ (zLE (show fn20 [0] (γ 5) = (0, 1, γ 6) from l5.symm) (zLV (γ 6) rfl (zIP zQ1_ (zLE m23 (zLE m24 (zLE c7.symm ?_)))))))
  refine zLE c8.symm (zLE (show fn7 [] (γ 8) = (0, 0, γ 9) from l6.symm) (zLV (γ 9) rfl (zLE m28 (zIN w_1 (zLE (show fn6 [ρ 28] (γ 9) = (0, ρ 29, γ 10) from l7.symm) (zLV (γ 10) rfl (zIP w_2 ?_)))))))
  refine zLV (ρ 29) rfl (zLE (show fn9 [ρ 29] (γ 10) = (0, 0, γ 11) from l8.symm) (zLV (γ 11) rfl (zIN zQ0_ (zLE (show fn40 [ρ 18] (γ 11) = (0, 0, γ 12) from l9.symm) (zLV (γ 12) rfl (zIN zQ0_ ?_))))))
  rfl
theorem vn42_4 {S : Nat → zSpc} (hS6 : zIm S 6 sn6) (hS7 : zIm S 7 sn7) (hS8 : zIm S 8 sn8) (hS9 : zIm S 9 sn9) (hS12 : zIm S 12 sn12) (hS13 : zIm S 13 sn13) (hS15 : zIm S 15 sn15) (hS18 : zIm S 18 sn18) (hS20 : zIm S 20 sn20) (hS23 : zIm S 23 sn23) (hS33 : zIm S 33 sn33) (hS34 : zIm S 34 sn34) (hS40 : zIm S 40 sn40) (hS41 : zIm S 41 sn41) {a : List Int} {g : rHp} : ∀ (ρ : Nat → Int) (γ : Nat → rHp), zO 18 S a g q42_4 ρ γ → zGl (fun _ _ _ => True) (sn42 a g) q42_4 ρ γ := by
  intro ρ γ h
  obtain ⟨ha, hg, hr, hf, hm, hc, hl⟩ := h
  have ha : a = [ρ 0, ρ 1, ρ 2, ρ 3, ρ 4, ρ 5, ρ 6, ρ 7, ρ 8, ρ 9, ρ 10, ρ 11, ρ 12, ρ 13, ρ 14, ρ 15, ρ 16, ρ 17] := ha
  subst ha
  subst hg
  have r19 : ((-128) : Int) ≤ ρ 19 ∧ ρ 19 ≤ 127 := zRnA hr 19
  have r25 : (1 : Int) ≤ ρ 25 ∧ ρ 25 ≤ 1 := zRnA hr 25
  have f10 : (0 : Int) ≤ -ρ 28 + ρ 1 + (-1) := zAllA hf 10
  have f21 : (0 : Int) ≤ -ρ 18 + ρ 1 + (-1) := zAllA hf 21
  obtain ⟨w_0, w_1, w_2⟩ : (0 ≤ -ρ 18 + ρ 1 + (-1)) ∧ (¬ (ρ 25 ≠ 1)) ∧ (0 ≤ -ρ 28 + ρ 1 + (-1)) := ⟨by omega, by omega, by omega⟩
  have m1 : γ 0 15 0 34 = ρ 1 := zAllA hm 1
  have m8 : γ 0 15 0 44 = ρ 8 := zAllA hm 8
  have m9 : γ 0 73 0 (ρ 8) = ρ 9 := zAllA hm 9
  have m17 : γ 0 15 0 45 = ρ 17 := zAllA hm 17
  have m18 : γ 1 15 0 35 = ρ 18 := zAllA hm 18
  have m23 : γ 6 15 0 39 = ρ 24 := zAllA hm 23
  have m24 : γ 6 15 0 40 = ρ 25 := zAllA hm 24
  have m28 : γ 9 15 0 35 = ρ 28 := zAllA hm 28
  have c3 : γ 3 = rUp (γ 2) 79 0 (ρ 9 + 8 * ρ 8) (ρ 17) := And.right (zChA hc 9)
  have c7 : γ 7 = rUp (γ 6) 80 0 (4 * ρ 9 + 32 * ρ 8) (ρ 25) := And.right (zChA hc 5)
  have c8 : γ 8 = rUp (γ 7) 81 0 (4 * ρ 9 + 32 * ρ 8) (ρ 24) := And.right (zChA hc 4)
  have l0 : sn7 [ρ 0, ρ 1] (γ 0) 0 0 (γ 1) := hS7 _ _ _ _ _ (zAllA hl 0)
  have l1 : sn33 [ρ 8, ρ 9] (γ 1) 0 (ρ 9 + 8 * ρ 8) (γ 2) := hS33 _ _ _ _ _ (zAllA hl 1)
  have l2 : sn6 [ρ 18, ρ 1] (γ 3) 0 (ρ 19) (γ 4) := hS6 _ _ _ _ _ (zAllA hl 2)
  have l3 : ρ 19 ≠ 33 := zAllA hl 3
  have l4 : sn9 [ρ 19] (γ 4) 0 0 (γ 5) := hS9 _ _ _ _ _ (zAllA hl 4)
  have l5 : sn20 [0, ρ 18, ρ 1, ρ 2, ρ 3, ρ 20, ρ 16, ρ 13, ρ 14, ρ 15, ρ 8] (γ 5) 0 1 (γ 6) := hS20 _ _ _ _ _ (zAllA hl 5)
  have l6 : sn7 [ρ 21, ρ 1] (γ 8) 0 0 (γ 9) := hS7 _ _ _ _ _ (zAllA hl 6)
  have l7 : sn6 [ρ 28, ρ 1] (γ 9) 0 (ρ 29) (γ 10) := hS6 _ _ _ _ _ (zAllA hl 7)
  have l8 : sn9 [ρ 29] (γ 10) 0 0 (γ 11) := hS9 _ _ _ _ _ (zAllA hl 8)
  have l9 : sn40 [ρ 18, ρ 28, ρ 1, ρ 22, ρ 23, ρ 6, ρ 7, ρ 8, ρ 9, ρ 10, ρ 24, ρ 13, ρ 26, ρ 27, ρ 25, ρ 17] (γ 11) 0 1 (γ 12) := hS40 _ _ _ _ _ (zAllA hl 9)
  have wl_0 : ρ 19 ≠ 33 := by omega
  show sn42 [ρ 0, ρ 1, ρ 2, ρ 3, ρ 4, ρ 5, ρ 6, ρ 7, ρ 8, ρ 9, ρ 10, ρ 11, ρ 12, ρ 13, ρ 14, ρ 15, ρ 16, ρ 17] (γ 0) 0 1 (γ 12)
  refine Eq.symm ?_
  show fn42 [] (γ 0) = _
  unfold fn42
  refine zLE m1 (zLE m8 (zLE m9 (zLE m17 (zLE (show fn7 [] (γ 0) = (0, 0, γ 1) from l0.symm) (zLV (γ 1) rfl (zLE m18 (zLE (show fn33 [] (γ 1) = (0, ρ 9 + 8 * ρ 8, γ 2) from l1.symm) ?_)))))))
  refine zLV (γ 2) rfl (zLE c3.symm (zLE (show fn6 [ρ 18] (γ 3) = (0, ρ 19, γ 4) from l2.symm) (zLV (γ 4) rfl (zIP w_0 (zLV (ρ 19) rfl (zIP wl_0 (zLE (show fn9 [ρ 19] (γ 4) = (0, 0, γ 5) from l4.symm) ?_)))))))
  refine zLV (γ 5) rfl (zIN zQ0_ (zLE (show fn20 [0] (γ 5) = (0, 1, γ 6) from l5.symm) (zLV (γ 6) rfl (zIP zQ1_ (zLE m23 (zLE m24 (zLE c7.symm ?_)))))))
  refine zLE c8.symm (zLE (show fn7 [] (γ 8) = (0, 0, γ 9) from l6.symm) (zLV (γ 9) rfl (zLE m28 (zIN w_1 (zLE (show fn6 [ρ 28] (γ 9) = (0, ρ 29, γ 10) from l7.symm) (zLV (γ 10) rfl (zIP w_2 ?_)))))))
  refine zLV (ρ 29) rfl (zLE (show fn9 [ρ 29] (γ 10) = (0, 0, γ 11) from l8.symm) (zLV (γ 11) rfl (zIN zQ0_ (zLE (show fn40 [ρ 18] (γ 11) = (0, 1, γ 12) from l9.symm) (zLV (γ 12) rfl (zIP zQ1_ ?_))))))
  rfl
theorem vn42_5 {S : Nat → zSpc} (hS6 : zIm S 6 sn6) (hS7 : zIm S 7 sn7) (hS8 : zIm S 8 sn8) (hS9 : zIm S 9 sn9) (hS12 : zIm S 12 sn12) (hS13 : zIm S 13 sn13) (hS15 : zIm S 15 sn15) (hS18 : zIm S 18 sn18) (hS20 : zIm S 20 sn20) (hS23 : zIm S 23 sn23) (hS33 : zIm S 33 sn33) (hS34 : zIm S 34 sn34) (hS40 : zIm S 40 sn40) (hS41 : zIm S 41 sn41) {a : List Int} {g : rHp} : ∀ (ρ : Nat → Int) (γ : Nat → rHp), zO 18 S a g q42_5 ρ γ → zGl (fun _ _ _ => True) (sn42 a g) q42_5 ρ γ := by
  intro ρ γ h
  obtain ⟨ha, hg, hr, hf, hm, hc, hl⟩ := h
  have ha : a = [ρ 0, ρ 1, ρ 2, ρ 3, ρ 4, ρ 5, ρ 6, ρ 7, ρ 8, ρ 9, ρ 10, ρ 11, ρ 12, ρ 13, ρ 14, ρ 15, ρ 16, ρ 17] := ha
  subst ha
  subst hg
  have r19 : ((-128) : Int) ≤ ρ 19 ∧ ρ 19 ≤ 127 := zRnA hr 19
  have r25 : (1 : Int) ≤ ρ 25 ∧ ρ 25 ≤ 1 := zRnA hr 25
  have f0 : (0 : Int) ≤ -ρ 28 + ρ 1 + (-1) := zAllA hf 0
  have f12 : (0 : Int) ≤ -ρ 18 + ρ 1 + (-1) := zAllA hf 12
  obtain ⟨w_0, w_1, w_2⟩ : (0 ≤ -ρ 18 + ρ 1 + (-1)) ∧ (¬ (ρ 25 ≠ 1)) ∧ (0 ≤ -ρ 28 + ρ 1 + (-1)) := ⟨by omega, by omega, by omega⟩
  have m1 : γ 0 15 0 34 = ρ 1 := zAllA hm 1
  have m8 : γ 0 15 0 44 = ρ 8 := zAllA hm 8
  have m9 : γ 0 73 0 (ρ 8) = ρ 9 := zAllA hm 9
  have m17 : γ 0 15 0 45 = ρ 17 := zAllA hm 17
  have m18 : γ 1 15 0 35 = ρ 18 := zAllA hm 18
  have m23 : γ 6 15 0 39 = ρ 24 := zAllA hm 23
  have m24 : γ 6 15 0 40 = ρ 25 := zAllA hm 24
  have m28 : γ 9 15 0 35 = ρ 28 := zAllA hm 28
  have c3 : γ 3 = rUp (γ 2) 79 0 (ρ 9 + 8 * ρ 8) (ρ 17) := And.right (zChA hc 9)
  have c7 : γ 7 = rUp (γ 6) 80 0 (4 * ρ 9 + 32 * ρ 8) (ρ 25) := And.right (zChA hc 5)
  have c8 : γ 8 = rUp (γ 7) 81 0 (4 * ρ 9 + 32 * ρ 8) (ρ 24) := And.right (zChA hc 4)
  have l0 : sn7 [ρ 0, ρ 1] (γ 0) 0 0 (γ 1) := hS7 _ _ _ _ _ (zAllA hl 0)
  have l1 : sn33 [ρ 8, ρ 9] (γ 1) 0 (ρ 9 + 8 * ρ 8) (γ 2) := hS33 _ _ _ _ _ (zAllA hl 1)
  have l2 : sn6 [ρ 18, ρ 1] (γ 3) 0 (ρ 19) (γ 4) := hS6 _ _ _ _ _ (zAllA hl 2)
  have l3 : ρ 19 ≠ 33 := zAllA hl 3
  have l4 : sn9 [ρ 19] (γ 4) 0 0 (γ 5) := hS9 _ _ _ _ _ (zAllA hl 4)
  have l5 : sn20 [0, ρ 18, ρ 1, ρ 2, ρ 3, ρ 20, ρ 16, ρ 13, ρ 14, ρ 15, ρ 8] (γ 5) 0 1 (γ 6) := hS20 _ _ _ _ _ (zAllA hl 5)
  have l6 : sn7 [ρ 21, ρ 1] (γ 8) 0 0 (γ 9) := hS7 _ _ _ _ _ (zAllA hl 6)
  have l7 : sn6 [ρ 28, ρ 1] (γ 9) 0 (ρ 29) (γ 10) := hS6 _ _ _ _ _ (zAllA hl 7)
  have l8 : sn9 [ρ 29] (γ 10) 0 1 (γ 11) := hS9 _ _ _ _ _ (zAllA hl 8)
  have l9 : sn12 [ρ 28, ρ 1, ρ 26, ρ 13, ρ 27] (γ 11) 0 0 (γ 12) := hS12 _ _ _ _ _ (zAllA hl 9)
  have wl_0 : ρ 19 ≠ 33 := by omega
  show sn42 [ρ 0, ρ 1, ρ 2, ρ 3, ρ 4, ρ 5, ρ 6, ρ 7, ρ 8, ρ 9, ρ 10, ρ 11, ρ 12, ρ 13, ρ 14, ρ 15, ρ 16, ρ 17] (γ 0) 0 0 (γ 12)
  refine Eq.symm ?_
  show fn42 [] (γ 0) = _
  unfold fn42
  refine zLE m1 (zLE m8 (zLE m9 (zLE m17 (zLE (show fn7 [] (γ 0) = (0, 0, γ 1) from l0.symm) (zLV (γ 1) rfl (zLE m18 (zLE (show fn33 [] (γ 1) = (0, ρ 9 + 8 * ρ 8, γ 2) from l1.symm) ?_)))))))
  refine zLV (γ 2) rfl (zLE c3.symm (zLE (show fn6 [ρ 18] (γ 3) = (0, ρ 19, γ 4) from l2.symm) (zLV (γ 4) rfl (zIP w_0 (zLV (ρ 19) rfl (zIP wl_0 (zLE (show fn9 [ρ 19] (γ 4) = (0, 0, γ 5) from l4.symm) ?_)))))))
  refine zLV (γ 5) rfl (zIN zQ0_ (zLE (show fn20 [0] (γ 5) = (0, 1, γ 6) from l5.symm) (zLV (γ 6) rfl (zIP zQ1_ (zLE m23 (zLE m24 (zLE c7.symm ?_)))))))
  refine zLE c8.symm (zLE (show fn7 [] (γ 8) = (0, 0, γ 9) from l6.symm) (zLV (γ 9) rfl (zLE m28 (zIN w_1 (zLE (show fn6 [ρ 28] (γ 9) = (0, ρ 29, γ 10) from l7.symm) (zLV (γ 10) rfl (zIP w_2 ?_)))))))
  refine zLV (ρ 29) rfl (zLE (show fn9 [ρ 29] (γ 10) = (0, 1, γ 11) from l8.symm) (zLV (γ 11) rfl (zIP zQ1_ (zLE (show fn12 [] (γ 11) = (0, 0, γ 12) from l9.symm) (zLV (γ 12) rfl (zIN zQ0_ ?_))))))
  rfl
theorem vn42_6 {S : Nat → zSpc} (hS6 : zIm S 6 sn6) (hS7 : zIm S 7 sn7) (hS8 : zIm S 8 sn8) (hS9 : zIm S 9 sn9) (hS12 : zIm S 12 sn12) (hS13 : zIm S 13 sn13) (hS15 : zIm S 15 sn15) (hS18 : zIm S 18 sn18) (hS20 : zIm S 20 sn20) (hS23 : zIm S 23 sn23) (hS33 : zIm S 33 sn33) (hS34 : zIm S 34 sn34) (hS40 : zIm S 40 sn40) (hS41 : zIm S 41 sn41) {a : List Int} {g : rHp} : ∀ (ρ : Nat → Int) (γ : Nat → rHp), zO 18 S a g q42_6 ρ γ → zGl (fun _ _ _ => True) (sn42 a g) q42_6 ρ γ := by
  intro ρ γ h
  obtain ⟨ha, hg, hr, hf, hm, hc, hl⟩ := h
  have ha : a = [ρ 0, ρ 1, ρ 2, ρ 3, ρ 4, ρ 5, ρ 6, ρ 7, ρ 8, ρ 9, ρ 10, ρ 11, ρ 12, ρ 13, ρ 14, ρ 15, ρ 16, ρ 17] := ha
  subst ha
  subst hg
  have r19 : ((-128) : Int) ≤ ρ 19 ∧ ρ 19 ≤ 127 := zRnA hr 19
  have r25 : (1 : Int) ≤ ρ 25 ∧ ρ 25 ≤ 1 := zRnA hr 25
  have f2 : (0 : Int) ≤ -ρ 28 + ρ 1 + (-1) := zAllA hf 2
  have f16 : (0 : Int) ≤ -ρ 18 + ρ 1 + (-1) := zAllA hf 16
  obtain ⟨w_0, w_1, w_2⟩ : (0 ≤ -ρ 18 + ρ 1 + (-1)) ∧ (¬ (ρ 25 ≠ 1)) ∧ (0 ≤ -ρ 28 + ρ 1 + (-1)) := ⟨by omega, by omega, by omega⟩
  have m1 : γ 0 15 0 34 = ρ 1 := zAllA hm 1
  have m8 : γ 0 15 0 44 = ρ 8 := zAllA hm 8
  have m9 : γ 0 73 0 (ρ 8) = ρ 9 := zAllA hm 9
  have m17 : γ 0 15 0 45 = ρ 17 := zAllA hm 17
  have m18 : γ 1 15 0 35 = ρ 18 := zAllA hm 18
  have m23 : γ 6 15 0 39 = ρ 24 := zAllA hm 23
  have m24 : γ 6 15 0 40 = ρ 25 := zAllA hm 24
  have m28 : γ 9 15 0 35 = ρ 28 := zAllA hm 28
  have c3 : γ 3 = rUp (γ 2) 79 0 (ρ 9 + 8 * ρ 8) (ρ 17) := And.right (zChA hc 11)
  have c7 : γ 7 = rUp (γ 6) 80 0 (4 * ρ 9 + 32 * ρ 8) (ρ 25) := And.right (zChA hc 7)
  have c8 : γ 8 = rUp (γ 7) 81 0 (4 * ρ 9 + 32 * ρ 8) (ρ 24) := And.right (zChA hc 6)
  have l0 : sn7 [ρ 0, ρ 1] (γ 0) 0 0 (γ 1) := hS7 _ _ _ _ _ (zAllA hl 0)
  have l1 : sn33 [ρ 8, ρ 9] (γ 1) 0 (ρ 9 + 8 * ρ 8) (γ 2) := hS33 _ _ _ _ _ (zAllA hl 1)
  have l2 : sn6 [ρ 18, ρ 1] (γ 3) 0 (ρ 19) (γ 4) := hS6 _ _ _ _ _ (zAllA hl 2)
  have l3 : ρ 19 ≠ 33 := zAllA hl 3
  have l4 : sn9 [ρ 19] (γ 4) 0 0 (γ 5) := hS9 _ _ _ _ _ (zAllA hl 4)
  have l5 : sn20 [0, ρ 18, ρ 1, ρ 2, ρ 3, ρ 20, ρ 16, ρ 13, ρ 14, ρ 15, ρ 8] (γ 5) 0 1 (γ 6) := hS20 _ _ _ _ _ (zAllA hl 5)
  have l6 : sn7 [ρ 21, ρ 1] (γ 8) 0 0 (γ 9) := hS7 _ _ _ _ _ (zAllA hl 6)
  have l7 : sn6 [ρ 28, ρ 1] (γ 9) 0 (ρ 29) (γ 10) := hS6 _ _ _ _ _ (zAllA hl 7)
  have l8 : sn9 [ρ 29] (γ 10) 0 1 (γ 11) := hS9 _ _ _ _ _ (zAllA hl 8)
  have l9 : sn12 [ρ 28, ρ 1, ρ 26, ρ 13, ρ 27] (γ 11) 0 1 (γ 12) := hS12 _ _ _ _ _ (zAllA hl 9)
  have l10 : sn13 [105, 115, 0, 0, 0, ρ 28, ρ 31] (γ 12) 0 0 (γ 13) := hS13 _ _ _ _ _ (zAllA hl 10)
  have l11 : sn8 [ρ 28, ρ 1, ρ 13] (γ 13) 0 0 (γ 14) := hS8 _ _ _ _ _ (zAllA hl 11)
  have wl_0 : ρ 19 ≠ 33 := by omega
  show sn42 [ρ 0, ρ 1, ρ 2, ρ 3, ρ 4, ρ 5, ρ 6, ρ 7, ρ 8, ρ 9, ρ 10, ρ 11, ρ 12, ρ 13, ρ 14, ρ 15, ρ 16, ρ 17] (γ 0) 0 0 (γ 14)
  refine Eq.symm ?_
  show fn42 [] (γ 0) = _
  unfold fn42
  refine zLE m1 (zLE m8 (zLE m9 (zLE m17 (zLE (show fn7 [] (γ 0) = (0, 0, γ 1) from l0.symm) (zLV (γ 1) rfl (zLE m18 (zLE (show fn33 [] (γ 1) = (0, ρ 9 + 8 * ρ 8, γ 2) from l1.symm) ?_)))))))
  refine zLV (γ 2) rfl (zLE c3.symm (zLE (show fn6 [ρ 18] (γ 3) = (0, ρ 19, γ 4) from l2.symm) (zLV (γ 4) rfl (zIP w_0 (zLV (ρ 19) rfl (zIP wl_0 (zLE (show fn9 [ρ 19] (γ 4) = (0, 0, γ 5) from l4.symm) ?_)))))))
  refine zLV (γ 5) rfl (zIN zQ0_ (zLE (show fn20 [0] (γ 5) = (0, 1, γ 6) from l5.symm) (zLV (γ 6) rfl (zIP zQ1_ (zLE m23 (zLE m24 (zLE c7.symm ?_)))))))
  refine zLE c8.symm (zLE (show fn7 [] (γ 8) = (0, 0, γ 9) from l6.symm) (zLV (γ 9) rfl (zLE m28 (zIN w_1 (zLE (show fn6 [ρ 28] (γ 9) = (0, ρ 29, γ 10) from l7.symm) (zLV (γ 10) rfl (zIP w_2 ?_)))))))
  refine zLV (ρ 29) rfl (zLE (show fn9 [ρ 29] (γ 10) = (0, 1, γ 11) from l8.symm) (zLV (γ 11) rfl (zIP zQ1_ (zLE (show fn12 [] (γ 11) = (0, 1, γ 12) from l9.symm) (zLV (γ 12) rfl (zIP zQ1_ (zLE (show fn13 [105, 115, 0, 0, 0] (γ 12) = (0, 0, γ 13) from l10.symm) ?_)))))))
  refine zLV (γ 13) rfl (zIN zQ0_ (zLE (show fn8 [ρ 28] (γ 13) = (0, 0, γ 14) from l11.symm) (zLV (γ 14) rfl ?_)))
  rfl
theorem vn42_7 {S : Nat → zSpc} (hS6 : zIm S 6 sn6) (hS7 : zIm S 7 sn7) (hS8 : zIm S 8 sn8) (hS9 : zIm S 9 sn9) (hS12 : zIm S 12 sn12) (hS13 : zIm S 13 sn13) (hS15 : zIm S 15 sn15) (hS18 : zIm S 18 sn18) (hS20 : zIm S 20 sn20) (hS23 : zIm S 23 sn23) (hS33 : zIm S 33 sn33) (hS34 : zIm S 34 sn34) (hS40 : zIm S 40 sn40) (hS41 : zIm S 41 sn41) {a : List Int} {g : rHp} : ∀ (ρ : Nat → Int) (γ : Nat → rHp), zO 18 S a g q42_7 ρ γ → zGl (fun _ _ _ => True) (sn42 a g) q42_7 ρ γ := by
  intro ρ γ h
  obtain ⟨ha, hg, hr, hf, hm, hc, hl⟩ := h
  have ha : a = [ρ 0, ρ 1, ρ 2, ρ 3, ρ 4, ρ 5, ρ 6, ρ 7, ρ 8, ρ 9, ρ 10, ρ 11, ρ 12, ρ 13, ρ 14, ρ 15, ρ 16, ρ 17] := ha
  subst ha
  subst hg
  have r19 : ((-128) : Int) ≤ ρ 19 ∧ ρ 19 ≤ 127 := zRnA hr 19
  have r25 : (1 : Int) ≤ ρ 25 ∧ ρ 25 ≤ 1 := zRnA hr 25
  have f10 : (0 : Int) ≤ -ρ 28 + ρ 1 + (-1) := zAllA hf 10
  have f23 : (0 : Int) ≤ -ρ 18 + ρ 1 + (-1) := zAllA hf 23
  obtain ⟨w_0, w_1, w_2⟩ : (0 ≤ -ρ 18 + ρ 1 + (-1)) ∧ (¬ (ρ 25 ≠ 1)) ∧ (0 ≤ -ρ 28 + ρ 1 + (-1)) := ⟨by omega, by omega, by omega⟩
  have m1 : γ 0 15 0 34 = ρ 1 := zAllA hm 1
  have m8 : γ 0 15 0 44 = ρ 8 := zAllA hm 8
  have m9 : γ 0 73 0 (ρ 8) = ρ 9 := zAllA hm 9
  have m17 : γ 0 15 0 45 = ρ 17 := zAllA hm 17
  have m18 : γ 1 15 0 35 = ρ 18 := zAllA hm 18
  have m23 : γ 6 15 0 39 = ρ 24 := zAllA hm 23
  have m24 : γ 6 15 0 40 = ρ 25 := zAllA hm 24
  have m28 : γ 9 15 0 35 = ρ 28 := zAllA hm 28
  have c3 : γ 3 = rUp (γ 2) 79 0 (ρ 9 + 8 * ρ 8) (ρ 17) := And.right (zChA hc 12)
  have c7 : γ 7 = rUp (γ 6) 80 0 (4 * ρ 9 + 32 * ρ 8) (ρ 25) := And.right (zChA hc 8)
  have c8 : γ 8 = rUp (γ 7) 81 0 (4 * ρ 9 + 32 * ρ 8) (ρ 24) := And.right (zChA hc 7)
  have l0 : sn7 [ρ 0, ρ 1] (γ 0) 0 0 (γ 1) := hS7 _ _ _ _ _ (zAllA hl 0)
  have l1 : sn33 [ρ 8, ρ 9] (γ 1) 0 (ρ 9 + 8 * ρ 8) (γ 2) := hS33 _ _ _ _ _ (zAllA hl 1)
  have l2 : sn6 [ρ 18, ρ 1] (γ 3) 0 (ρ 19) (γ 4) := hS6 _ _ _ _ _ (zAllA hl 2)
  have l3 : ρ 19 ≠ 33 := zAllA hl 3
  have l4 : sn9 [ρ 19] (γ 4) 0 0 (γ 5) := hS9 _ _ _ _ _ (zAllA hl 4)
  have l5 : sn20 [0, ρ 18, ρ 1, ρ 2, ρ 3, ρ 20, ρ 16, ρ 13, ρ 14, ρ 15, ρ 8] (γ 5) 0 1 (γ 6) := hS20 _ _ _ _ _ (zAllA hl 5)
  have l6 : sn7 [ρ 21, ρ 1] (γ 8) 0 0 (γ 9) := hS7 _ _ _ _ _ (zAllA hl 6)
  have l7 : sn6 [ρ 28, ρ 1] (γ 9) 0 (ρ 29) (γ 10) := hS6 _ _ _ _ _ (zAllA hl 7)
  have l8 : sn9 [ρ 29] (γ 10) 0 1 (γ 11) := hS9 _ _ _ _ _ (zAllA hl 8)
  have l9 : sn12 [ρ 28, ρ 1, ρ 26, ρ 13, ρ 27] (γ 11) 0 1 (γ 12) := hS12 _ _ _ _ _ (zAllA hl 9)
  have l10 : sn13 [105, 115, 0, 0, 0, ρ 28, ρ 31] (γ 12) 0 1 (γ 13) := hS13 _ _ _ _ _ (zAllA hl 10)
  have l11 : sn18 [ρ 24, ρ 17] (γ 13) 0 0 (γ 14) := hS18 _ _ _ _ _ (zAllA hl 11)
  have l12 : sn34 [1, ρ 30, ρ 1, ρ 22, ρ 23, ρ 8, ρ 9, ρ 10, ρ 24, ρ 13, ρ 28, ρ 31, ρ 25, ρ 17] (γ 14) 0 0 (γ 15) := hS34 _ _ _ _ _ (zAllA hl 12)
  have wl_0 : ρ 19 ≠ 33 := by omega
  show sn42 [ρ 0, ρ 1, ρ 2, ρ 3, ρ 4, ρ 5, ρ 6, ρ 7, ρ 8, ρ 9, ρ 10, ρ 11, ρ 12, ρ 13, ρ 14, ρ 15, ρ 16, ρ 17] (γ 0) 0 0 (γ 15)
  refine Eq.symm ?_
  show fn42 [] (γ 0) = _
  unfold fn42
  refine zLE m1 (zLE m8 (zLE m9 (zLE m17 (zLE (show fn7 [] (γ 0) = (0, 0, γ 1) from l0.symm) (zLV (γ 1) rfl (zLE m18 (zLE (show fn33 [] (γ 1) = (0, ρ 9 + 8 * ρ 8, γ 2) from l1.symm) ?_)))))))
  refine zLV (γ 2) rfl (zLE c3.symm (zLE (show fn6 [ρ 18] (γ 3) = (0, ρ 19, γ 4) from l2.symm) (zLV (γ 4) rfl (zIP w_0 (zLV (ρ 19) rfl (zIP wl_0 (zLE (show fn9 [ρ 19] (γ 4) = (0, 0, γ 5) from l4.symm) ?_)))))))
  refine zLV (γ 5) rfl (zIN zQ0_ (zLE (show fn20 [0] (γ 5) = (0, 1, γ 6) from l5.symm) (zLV (γ 6) rfl (zIP zQ1_ (zLE m23 (zLE m24 (zLE c7.symm ?_)))))))
  refine zLE c8.symm (zLE (show fn7 [] (γ 8) = (0, 0, γ 9) from l6.symm) (zLV (γ 9) rfl (zLE m28 (zIN w_1 (zLE (show fn6 [ρ 28] (γ 9) = (0, ρ 29, γ 10) from l7.symm) (zLV (γ 10) rfl (zIP w_2 ?_)))))))
  refine zLV (ρ 29) rfl (zLE (show fn9 [ρ 29] (γ 10) = (0, 1, γ 11) from l8.symm) (zLV (γ 11) rfl (zIP zQ1_ (zLE (show fn12 [] (γ 11) = (0, 1, γ 12) from l9.symm) (zLV (γ 12) rfl (zIP zQ1_ (zLE (show fn13 [105, 115, 0, 0, 0] (γ 12) = (0, 1, γ 13) from l10.symm) ?_)))))))
  refine zLV (γ 13) rfl (zIP zQ1_ (zLE (show fn18 [ρ 24] (γ 13) = (0, 0, γ 14) from l11.symm) (zLV (γ 14) rfl (zIN zQ0_ (zLE (show fn34 [1] (γ 14) = (0, 0, γ 15) from l12.symm) (zLV (γ 15) rfl (zIN zQ0_ ?_)))))))
  rfl
theorem vn42_8 {S : Nat → zSpc} (hS6 : zIm S 6 sn6) (hS7 : zIm S 7 sn7) (hS8 : zIm S 8 sn8) (hS9 : zIm S 9 sn9) (hS12 : zIm S 12 sn12) (hS13 : zIm S 13 sn13) (hS15 : zIm S 15 sn15) (hS18 : zIm S 18 sn18) (hS20 : zIm S 20 sn20) (hS23 : zIm S 23 sn23) (hS33 : zIm S 33 sn33) (hS34 : zIm S 34 sn34) (hS40 : zIm S 40 sn40) (hS41 : zIm S 41 sn41) {a : List Int} {g : rHp} : ∀ (ρ : Nat → Int) (γ : Nat → rHp), zO 18 S a g q42_8 ρ γ → zGl (fun _ _ _ => True) (sn42 a g) q42_8 ρ γ := by
  intro ρ γ h
  obtain ⟨ha, hg, hr, hf, hm, hc, hl⟩ := h
  have ha : a = [ρ 0, ρ 1, ρ 2, ρ 3, ρ 4, ρ 5, ρ 6, ρ 7, ρ 8, ρ 9, ρ 10, ρ 11, ρ 12, ρ 13, ρ 14, ρ 15, ρ 16, ρ 17] := ha
  subst ha
  subst hg
  have r19 : ((-128) : Int) ≤ ρ 19 ∧ ρ 19 ≤ 127 := zRnA hr 19
  have r25 : (1 : Int) ≤ ρ 25 ∧ ρ 25 ≤ 1 := zRnA hr 25
  have r39 : (43 : Int) ≤ ρ 39 ∧ ρ 39 ≤ 43 := zRnA hr 39
  have f2 : (0 : Int) ≤ -ρ 38 + ρ 1 + (-1) := zAllA hf 2
  have f22 : (0 : Int) ≤ -ρ 28 + ρ 1 + (-1) := zAllA hf 22
  have f35 : (0 : Int) ≤ -ρ 18 + ρ 1 + (-1) := zAllA hf 35
  obtain ⟨w_0, w_1, w_2, w_3, w_4⟩ : (0 ≤ -ρ 18 + ρ 1 + (-1)) ∧ (¬ (ρ 25 ≠ 1)) ∧ (0 ≤ -ρ 28 + ρ 1 + (-1)) ∧ (0 ≤ -ρ 38 + ρ 1 + (-1)) ∧ (ρ 39 = 43) := ⟨by omega, by omega, by omega, by omega, by omega⟩
  have m1 : γ 0 15 0 34 = ρ 1 := zAllA hm 1
  have m8 : γ 0 15 0 44 = ρ 8 := zAllA hm 8
  have m9 : γ 0 73 0 (ρ 8) = ρ 9 := zAllA hm 9
  have m17 : γ 0 15 0 45 = ρ 17 := zAllA hm 17
  have m18 : γ 1 15 0 35 = ρ 18 := zAllA hm 18
  have m23 : γ 6 15 0 39 = ρ 24 := zAllA hm 23
  have m24 : γ 6 15 0 40 = ρ 25 := zAllA hm 24
  have m28 : γ 9 15 0 35 = ρ 28 := zAllA hm 28
  have m41 : γ 16 15 0 35 = ρ 38 := zAllA hm 41
  have c3 : γ 3 = rUp (γ 2) 79 0 (ρ 9 + 8 * ρ 8) (ρ 17) := And.right (zChA hc 17)
  have c7 : γ 7 = rUp (γ 6) 80 0 (4 * ρ 9 + 32 * ρ 8) (ρ 25) := And.right (zChA hc 13)
  have c8 : γ 8 = rUp (γ 7) 81 0 (4 * ρ 9 + 32 * ρ 8) (ρ 24) := And.right (zChA hc 12)
  have c18 : γ 18 = rUp (γ 17) 15 0 35 (ρ 38 + 1) := And.right (zChA hc 2)
  have c19 : γ 19 = rUp (γ 18) 77 0 (ρ 9 + 8 * ρ 8) 5 := And.right (zChA hc 1)
  have l0 : sn7 [ρ 0, ρ 1] (γ 0) 0 0 (γ 1) := hS7 _ _ _ _ _ (zAllA hl 0)
  have l1 : sn33 [ρ 8, ρ 9] (γ 1) 0 (ρ 9 + 8 * ρ 8) (γ 2) := hS33 _ _ _ _ _ (zAllA hl 1)
  have l2 : sn6 [ρ 18, ρ 1] (γ 3) 0 (ρ 19) (γ 4) := hS6 _ _ _ _ _ (zAllA hl 2)
  have l3 : ρ 19 ≠ 33 := zAllA hl 3
  have l4 : sn9 [ρ 19] (γ 4) 0 0 (γ 5) := hS9 _ _ _ _ _ (zAllA hl 4)
  have l5 : sn20 [0, ρ 18, ρ 1, ρ 2, ρ 3, ρ 20, ρ 16, ρ 13, ρ 14, ρ 15, ρ 8] (γ 5) 0 1 (γ 6) := hS20 _ _ _ _ _ (zAllA hl 5)
  have l6 : sn7 [ρ 21, ρ 1] (γ 8) 0 0 (γ 9) := hS7 _ _ _ _ _ (zAllA hl 6)
  have l7 : sn6 [ρ 28, ρ 1] (γ 9) 0 (ρ 29) (γ 10) := hS6 _ _ _ _ _ (zAllA hl 7)
  have l8 : sn9 [ρ 29] (γ 10) 0 1 (γ 11) := hS9 _ _ _ _ _ (zAllA hl 8)
  have l9 : sn12 [ρ 28, ρ 1, ρ 26, ρ 13, ρ 27] (γ 11) 0 1 (γ 12) := hS12 _ _ _ _ _ (zAllA hl 9)
  have l10 : sn13 [105, 115, 0, 0, 0, ρ 28, ρ 31] (γ 12) 0 1 (γ 13) := hS13 _ _ _ _ _ (zAllA hl 10)
  have l11 : sn18 [ρ 24, ρ 17] (γ 13) 0 0 (γ 14) := hS18 _ _ _ _ _ (zAllA hl 11)
  have l12 : sn34 [1, ρ 30, ρ 1, ρ 22, ρ 23, ρ 8, ρ 9, ρ 10, ρ 24, ρ 13, ρ 28, ρ 31, ρ 25, ρ 17] (γ 14) 0 1 (γ 15) := hS34 _ _ _ _ _ (zAllA hl 12)
  have l13 : sn7 [ρ 32, ρ 1] (γ 15) 0 0 (γ 16) := hS7 _ _ _ _ _ (zAllA hl 13)
  have l14 : sn6 [ρ 38, ρ 1] (γ 16) 0 (ρ 39) (γ 17) := hS6 _ _ _ _ _ (zAllA hl 14)
  have l15 : sn34 [2, ρ 38 + 1, ρ 1, ρ 33, ρ 34, ρ 8, ρ 9, 5, ρ 24, ρ 13, ρ 35, ρ 36, ρ 37, ρ 17] (γ 19) 0 0 (γ 20) := hS34 _ _ _ _ _ (zAllA hl 15)
  have wl_0 : ρ 19 ≠ 33 := by omega
  show sn42 [ρ 0, ρ 1, ρ 2, ρ 3, ρ 4, ρ 5, ρ 6, ρ 7, ρ 8, ρ 9, ρ 10, ρ 11, ρ 12, ρ 13, ρ 14, ρ 15, ρ 16, ρ 17] (γ 0) 0 0 (γ 20)
  refine Eq.symm ?_
  show fn42 [] (γ 0) = _
  unfold fn42
  refine zLE m1 (zLE m8 (zLE m9 (zLE m17 (zLE (show fn7 [] (γ 0) = (0, 0, γ 1) from l0.symm) (zLV (γ 1) rfl (zLE m18 (zLE (show fn33 [] (γ 1) = (0, ρ 9 + 8 * ρ 8, γ 2) from l1.symm) ?_)))))))
  refine zLV (γ 2) rfl (zLE c3.symm (zLE (show fn6 [ρ 18] (γ 3) = (0, ρ 19, γ 4) from l2.symm) (zLV (γ 4) rfl (zIP w_0 (zLV (ρ 19) rfl (zIP wl_0 (zLE (show fn9 [ρ 19] (γ 4) = (0, 0, γ 5) from l4.symm) ?_)))))))
  refine zLV (γ 5) rfl (zIN zQ0_ (zLE (show fn20 [0] (γ 5) = (0, 1, γ 6) from l5.symm) (zLV (γ 6) rfl (zIP zQ1_ (zLE m23 (zLE m24 (zLE c7.symm ?_)))))))
  refine zLE c8.symm (zLE (show fn7 [] (γ 8) = (0, 0, γ 9) from l6.symm) (zLV (γ 9) rfl (zLE m28 (zIN w_1 (zLE (show fn6 [ρ 28] (γ 9) = (0, ρ 29, γ 10) from l7.symm) (zLV (γ 10) rfl (zIP w_2 ?_)))))))
  refine zLV (ρ 29) rfl (zLE (show fn9 [ρ 29] (γ 10) = (0, 1, γ 11) from l8.symm) (zLV (γ 11) rfl (zIP zQ1_ (zLE (show fn12 [] (γ 11) = (0, 1, γ 12) from l9.symm) (zLV (γ 12) rfl (zIP zQ1_ (zLE (show fn13 [105, 115, 0, 0, 0] (γ 12) = (0, 1, γ 13) from l10.symm) ?_)))))))
  refine zLV (γ 13) rfl (zIP zQ1_ (zLE (show fn18 [ρ 24] (γ 13) = (0, 0, γ 14) from l11.symm) (zLV (γ 14) rfl (zIN zQ0_ (zLE (show fn34 [1] (γ 14) = (0, 1, γ 15) from l12.symm) (zLV (γ 15) rfl (zIP zQ1_ ?_)))))))
  refine zLE (show fn7 [] (γ 15) = (0, 0, γ 16) from l13.symm) (zLV (γ 16) rfl (zLE m41 (zLE (show fn6 [ρ 38] (γ 16) = (0, ρ 39, γ 17) from l14.symm) (zLV (γ 17) rfl (zIP w_3 (zLV (ρ 39) rfl (zIP w_4 ?_)))))))
  refine zLE c18.symm (zLE c19.symm (zLE (show fn34 [2] (γ 19) = (0, 0, γ 20) from l15.symm) (zLV (γ 20) rfl (zIN zQ0_ ?_))))
  rfl
theorem vn42_9 {S : Nat → zSpc} (hS6 : zIm S 6 sn6) (hS7 : zIm S 7 sn7) (hS8 : zIm S 8 sn8) (hS9 : zIm S 9 sn9) (hS12 : zIm S 12 sn12) (hS13 : zIm S 13 sn13) (hS15 : zIm S 15 sn15) (hS18 : zIm S 18 sn18) (hS20 : zIm S 20 sn20) (hS23 : zIm S 23 sn23) (hS33 : zIm S 33 sn33) (hS34 : zIm S 34 sn34) (hS40 : zIm S 40 sn40) (hS41 : zIm S 41 sn41) {a : List Int} {g : rHp} : ∀ (ρ : Nat → Int) (γ : Nat → rHp), zO 18 S a g q42_9 ρ γ → zGl (fun _ _ _ => True) (sn42 a g) q42_9 ρ γ := by
  intro ρ γ h
  obtain ⟨ha, hg, hr, hf, hm, hc, hl⟩ := h
  have ha : a = [ρ 0, ρ 1, ρ 2, ρ 3, ρ 4, ρ 5, ρ 6, ρ 7, ρ 8, ρ 9, ρ 10, ρ 11, ρ 12, ρ 13, ρ 14, ρ 15, ρ 16, ρ 17] := ha
  subst ha
  subst hg
  have r19 : ((-128) : Int) ≤ ρ 19 ∧ ρ 19 ≤ 127 := zRnA hr 19
  have r25 : (1 : Int) ≤ ρ 25 ∧ ρ 25 ≤ 1 := zRnA hr 25
  have r39 : (43 : Int) ≤ ρ 39 ∧ ρ 39 ≤ 43 := zRnA hr 39
  have f2 : (0 : Int) ≤ -ρ 38 + ρ 1 + (-1) := zAllA hf 2
  have f22 : (0 : Int) ≤ -ρ 28 + ρ 1 + (-1) := zAllA hf 22
  have f35 : (0 : Int) ≤ -ρ 18 + ρ 1 + (-1) := zAllA hf 35
  obtain ⟨w_0, w_1, w_2, w_3, w_4⟩ : (0 ≤ -ρ 18 + ρ 1 + (-1)) ∧ (¬ (ρ 25 ≠ 1)) ∧ (0 ≤ -ρ 28 + ρ 1 + (-1)) ∧ (0 ≤ -ρ 38 + ρ 1 + (-1)) ∧ (ρ 39 = 43) := ⟨by omega, by omega, by omega, by omega, by omega⟩
  have m1 : γ 0 15 0 34 = ρ 1 := zAllA hm 1
  have m8 : γ 0 15 0 44 = ρ 8 := zAllA hm 8
  have m9 : γ 0 73 0 (ρ 8) = ρ 9 := zAllA hm 9
  have m17 : γ 0 15 0 45 = ρ 17 := zAllA hm 17
  have m18 : γ 1 15 0 35 = ρ 18 := zAllA hm 18
  have m23 : γ 6 15 0 39 = ρ 24 := zAllA hm 23
  have m24 : γ 6 15 0 40 = ρ 25 := zAllA hm 24
  have m28 : γ 9 15 0 35 = ρ 28 := zAllA hm 28
  have m41 : γ 16 15 0 35 = ρ 38 := zAllA hm 41
  have c3 : γ 3 = rUp (γ 2) 79 0 (ρ 9 + 8 * ρ 8) (ρ 17) := And.right (zChA hc 18)
  have c7 : γ 7 = rUp (γ 6) 80 0 (4 * ρ 9 + 32 * ρ 8) (ρ 25) := And.right (zChA hc 14)
  have c8 : γ 8 = rUp (γ 7) 81 0 (4 * ρ 9 + 32 * ρ 8) (ρ 24) := And.right (zChA hc 13)
  have c18 : γ 18 = rUp (γ 17) 15 0 35 (ρ 38 + 1) := And.right (zChA hc 3)
  have c19 : γ 19 = rUp (γ 18) 77 0 (ρ 9 + 8 * ρ 8) 5 := And.right (zChA hc 2)
  have c21 : γ 21 = rUp (γ 20) 15 0 45 (ρ 47) := And.right (zChA hc 0)
  have l0 : sn7 [ρ 0, ρ 1] (γ 0) 0 0 (γ 1) := hS7 _ _ _ _ _ (zAllA hl 0)
  have l1 : sn33 [ρ 8, ρ 9] (γ 1) 0 (ρ 9 + 8 * ρ 8) (γ 2) := hS33 _ _ _ _ _ (zAllA hl 1)
  have l2 : sn6 [ρ 18, ρ 1] (γ 3) 0 (ρ 19) (γ 4) := hS6 _ _ _ _ _ (zAllA hl 2)
  have l3 : ρ 19 ≠ 33 := zAllA hl 3
  have l4 : sn9 [ρ 19] (γ 4) 0 0 (γ 5) := hS9 _ _ _ _ _ (zAllA hl 4)
  have l5 : sn20 [0, ρ 18, ρ 1, ρ 2, ρ 3, ρ 20, ρ 16, ρ 13, ρ 14, ρ 15, ρ 8] (γ 5) 0 1 (γ 6) := hS20 _ _ _ _ _ (zAllA hl 5)
  have l6 : sn7 [ρ 21, ρ 1] (γ 8) 0 0 (γ 9) := hS7 _ _ _ _ _ (zAllA hl 6)
  have l7 : sn6 [ρ 28, ρ 1] (γ 9) 0 (ρ 29) (γ 10) := hS6 _ _ _ _ _ (zAllA hl 7)
  have l8 : sn9 [ρ 29] (γ 10) 0 1 (γ 11) := hS9 _ _ _ _ _ (zAllA hl 8)
  have l9 : sn12 [ρ 28, ρ 1, ρ 26, ρ 13, ρ 27] (γ 11) 0 1 (γ 12) := hS12 _ _ _ _ _ (zAllA hl 9)
  have l10 : sn13 [105, 115, 0, 0, 0, ρ 28, ρ 31] (γ 12) 0 1 (γ 13) := hS13 _ _ _ _ _ (zAllA hl 10)
  have l11 : sn18 [ρ 24, ρ 17] (γ 13) 0 0 (γ 14) := hS18 _ _ _ _ _ (zAllA hl 11)
  have l12 : sn34 [1, ρ 30, ρ 1, ρ 22, ρ 23, ρ 8, ρ 9, ρ 10, ρ 24, ρ 13, ρ 28, ρ 31, ρ 25, ρ 17] (γ 14) 0 1 (γ 15) := hS34 _ _ _ _ _ (zAllA hl 12)
  have l13 : sn7 [ρ 32, ρ 1] (γ 15) 0 0 (γ 16) := hS7 _ _ _ _ _ (zAllA hl 13)
  have l14 : sn6 [ρ 38, ρ 1] (γ 16) 0 (ρ 39) (γ 17) := hS6 _ _ _ _ _ (zAllA hl 14)
  have l15 : sn34 [2, ρ 38 + 1, ρ 1, ρ 33, ρ 34, ρ 8, ρ 9, 5, ρ 24, ρ 13, ρ 35, ρ 36, ρ 37, ρ 17] (γ 19) 0 1 (γ 20) := hS34 _ _ _ _ _ (zAllA hl 15)
  have l16 : zOpP (.ishl) (γ 0) (γ 1) [1, ρ 24] (ρ 46) := zAllA hl 16
  have l17 : zOpP (.ior) (γ 0) (γ 1) [ρ 17, ρ 46] (ρ 47) := zAllA hl 17
  have wl_0 : ρ 19 ≠ 33 := by omega
  show sn42 [ρ 0, ρ 1, ρ 2, ρ 3, ρ 4, ρ 5, ρ 6, ρ 7, ρ 8, ρ 9, ρ 10, ρ 11, ρ 12, ρ 13, ρ 14, ρ 15, ρ 16, ρ 17] (γ 0) 0 1 (γ 21)
  refine Eq.symm ?_
  show fn42 [] (γ 0) = _
  unfold fn42
  refine zLE m1 (zLE m8 (zLE m9 (zLE m17 (zLE (show fn7 [] (γ 0) = (0, 0, γ 1) from l0.symm) (zLV (γ 1) rfl (zLE m18 (zLE (show fn33 [] (γ 1) = (0, ρ 9 + 8 * ρ 8, γ 2) from l1.symm) ?_)))))))
  refine zLV (γ 2) rfl (zLE c3.symm (zLE (show fn6 [ρ 18] (γ 3) = (0, ρ 19, γ 4) from l2.symm) (zLV (γ 4) rfl (zIP w_0 (zLV (ρ 19) rfl (zIP wl_0 (zLE (show fn9 [ρ 19] (γ 4) = (0, 0, γ 5) from l4.symm) ?_)))))))
  refine zLV (γ 5) rfl (zIN zQ0_ (zLE (show fn20 [0] (γ 5) = (0, 1, γ 6) from l5.symm) (zLV (γ 6) rfl (zIP zQ1_ (zLE m23 (zLE m24 (zLE c7.symm ?_)))))))
  refine zLE c8.symm (zLE (show fn7 [] (γ 8) = (0, 0, γ 9) from l6.symm) (zLV (γ 9) rfl (zLE m28 (zIN w_1 (zLE (show fn6 [ρ 28] (γ 9) = (0, ρ 29, γ 10) from l7.symm) (zLV (γ 10) rfl (zIP w_2 ?_)))))))
  refine zLV (ρ 29) rfl (zLE (show fn9 [ρ 29] (γ 10) = (0, 1, γ 11) from l8.symm) (zLV (γ 11) rfl (zIP zQ1_ (zLE (show fn12 [] (γ 11) = (0, 1, γ 12) from l9.symm) (zLV (γ 12) rfl (zIP zQ1_ (zLE (show fn13 [105, 115, 0, 0, 0] (γ 12) = (0, 1, γ 13) from l10.symm) ?_)))))))
  refine zLV (γ 13) rfl (zIP zQ1_ (zLE (show fn18 [ρ 24] (γ 13) = (0, 0, γ 14) from l11.symm) (zLV (γ 14) rfl (zIN zQ0_ (zLE (show fn34 [1] (γ 14) = (0, 1, γ 15) from l12.symm) (zLV (γ 15) rfl (zIP zQ1_ ?_)))))))
  refine zLE (show fn7 [] (γ 15) = (0, 0, γ 16) from l13.symm) (zLV (γ 16) rfl (zLE m41 (zLE (show fn6 [ρ 38] (γ 16) = (0, ρ 39, γ 17) from l14.symm) (zLV (γ 17) rfl (zIP w_3 (zLV (ρ 39) rfl (zIP w_4 ?_)))))))
  refine zLE c18.symm (zLE c19.symm (zLE (show fn34 [2] (γ 19) = (0, 1, γ 20) from l15.symm) (zLV (γ 20) rfl (zIP zQ1_ (zLE (zF2_ok l16) (zLE (zF2_ok l17) (zLE c21.symm ?_)))))))
  rfl
theorem vn42_10 {S : Nat → zSpc} (hS6 : zIm S 6 sn6) (hS7 : zIm S 7 sn7) (hS8 : zIm S 8 sn8) (hS9 : zIm S 9 sn9) (hS12 : zIm S 12 sn12) (hS13 : zIm S 13 sn13) (hS15 : zIm S 15 sn15) (hS18 : zIm S 18 sn18) (hS20 : zIm S 20 sn20) (hS23 : zIm S 23 sn23) (hS33 : zIm S 33 sn33) (hS34 : zIm S 34 sn34) (hS40 : zIm S 40 sn40) (hS41 : zIm S 41 sn41) {a : List Int} {g : rHp} : ∀ (ρ : Nat → Int) (γ : Nat → rHp), zO 18 S a g q42_10 ρ γ → zGl (fun _ _ _ => True) (sn42 a g) q42_10 ρ γ := by
  intro ρ γ h
  obtain ⟨ha, hg, hr, hf, hm, hc, hl⟩ := h
  have ha : a = [ρ 0, ρ 1, ρ 2, ρ 3, ρ 4, ρ 5, ρ 6, ρ 7, ρ 8, ρ 9, ρ 10, ρ 11, ρ 12, ρ 13, ρ 14, ρ 15, ρ 16, ρ 17] := ha
  subst ha
  subst hg
  have r19 : ((-128) : Int) ≤ ρ 19 ∧ ρ 19 ≤ 127 := zRnA hr 19
  have r25 : (1 : Int) ≤ ρ 25 ∧ ρ 25 ≤ 1 := zRnA hr 25
  have r39 : (45 : Int) ≤ ρ 39 ∧ ρ 39 ≤ 45 := zRnA hr 39
  have f2 : (0 : Int) ≤ -ρ 38 + ρ 1 + (-1) := zAllA hf 2
  have f22 : (0 : Int) ≤ -ρ 28 + ρ 1 + (-1) := zAllA hf 22
  have f35 : (0 : Int) ≤ -ρ 18 + ρ 1 + (-1) := zAllA hf 35
  obtain ⟨w_0, w_1, w_2, w_3, w_4, w_5⟩ : (0 ≤ -ρ 18 + ρ 1 + (-1)) ∧ (¬ (ρ 25 ≠ 1)) ∧ (0 ≤ -ρ 28 + ρ 1 + (-1)) ∧ (0 ≤ -ρ 38 + ρ 1 + (-1)) ∧ (¬ (ρ 39 = 43)) ∧ (ρ 39 = 45) := ⟨by omega, by omega, by omega, by omega, by omega, by omega⟩
  have m1 : γ 0 15 0 34 = ρ 1 := zAllA hm 1
  have m8 : γ 0 15 0 44 = ρ 8 := zAllA hm 8
  have m9 : γ 0 73 0 (ρ 8) = ρ 9 := zAllA hm 9
  have m17 : γ 0 15 0 45 = ρ 17 := zAllA hm 17
  have m18 : γ 1 15 0 35 = ρ 18 := zAllA hm 18
  have m23 : γ 6 15 0 39 = ρ 24 := zAllA hm 23
  have m24 : γ 6 15 0 40 = ρ 25 := zAllA hm 24
  have m28 : γ 9 15 0 35 = ρ 28 := zAllA hm 28
  have m41 : γ 16 15 0 35 = ρ 38 := zAllA hm 41
  have c3 : γ 3 = rUp (γ 2) 79 0 (ρ 9 + 8 * ρ 8) (ρ 17) := And.right (zChA hc 17)
  have c7 : γ 7 = rUp (γ 6) 80 0 (4 * ρ 9 + 32 * ρ 8) (ρ 25) := And.right (zChA hc 13)
  have c8 : γ 8 = rUp (γ 7) 81 0 (4 * ρ 9 + 32 * ρ 8) (ρ 24) := And.right (zChA hc 12)
  have c18 : γ 18 = rUp (γ 17) 15 0 35 (ρ 38 + 1) := And.right (zChA hc 2)
  have c19 : γ 19 = rUp (γ 18) 77 0 (ρ 9 + 8 * ρ 8) 6 := And.right (zChA hc 1)
  have l0 : sn7 [ρ 0, ρ 1] (γ 0) 0 0 (γ 1) := hS7 _ _ _ _ _ (zAllA hl 0)
  have l1 : sn33 [ρ 8, ρ 9] (γ 1) 0 (ρ 9 + 8 * ρ 8) (γ 2) := hS33 _ _ _ _ _ (zAllA hl 1)
  have l2 : sn6 [ρ 18, ρ 1] (γ 3) 0 (ρ 19) (γ 4) := hS6 _ _ _ _ _ (zAllA hl 2)
  have l3 : ρ 19 ≠ 33 := zAllA hl 3
  have l4 : sn9 [ρ 19] (γ 4) 0 0 (γ 5) := hS9 _ _ _ _ _ (zAllA hl 4)
  have l5 : sn20 [0, ρ 18, ρ 1, ρ 2, ρ 3, ρ 20, ρ 16, ρ 13, ρ 14, ρ 15, ρ 8] (γ 5) 0 1 (γ 6) := hS20 _ _ _ _ _ (zAllA hl 5)
  have l6 : sn7 [ρ 21, ρ 1] (γ 8) 0 0 (γ 9) := hS7 _ _ _ _ _ (zAllA hl 6)
  have l7 : sn6 [ρ 28, ρ 1] (γ 9) 0 (ρ 29) (γ 10) := hS6 _ _ _ _ _ (zAllA hl 7)
  have l8 : sn9 [ρ 29] (γ 10) 0 1 (γ 11) := hS9 _ _ _ _ _ (zAllA hl 8)
  have l9 : sn12 [ρ 28, ρ 1, ρ 26, ρ 13, ρ 27] (γ 11) 0 1 (γ 12) := hS12 _ _ _ _ _ (zAllA hl 9)
  have l10 : sn13 [105, 115, 0, 0, 0, ρ 28, ρ 31] (γ 12) 0 1 (γ 13) := hS13 _ _ _ _ _ (zAllA hl 10)
  have l11 : sn18 [ρ 24, ρ 17] (γ 13) 0 0 (γ 14) := hS18 _ _ _ _ _ (zAllA hl 11)
  have l12 : sn34 [1, ρ 30, ρ 1, ρ 22, ρ 23, ρ 8, ρ 9, ρ 10, ρ 24, ρ 13, ρ 28, ρ 31, ρ 25, ρ 17] (γ 14) 0 1 (γ 15) := hS34 _ _ _ _ _ (zAllA hl 12)
  have l13 : sn7 [ρ 32, ρ 1] (γ 15) 0 0 (γ 16) := hS7 _ _ _ _ _ (zAllA hl 13)
  have l14 : sn6 [ρ 38, ρ 1] (γ 16) 0 (ρ 39) (γ 17) := hS6 _ _ _ _ _ (zAllA hl 14)
  have l15 : ρ 39 ≠ 43 := zAllA hl 15
  have l16 : sn34 [2, ρ 38 + 1, ρ 1, ρ 33, ρ 34, ρ 8, ρ 9, 6, ρ 24, ρ 13, ρ 35, ρ 36, ρ 37, ρ 17] (γ 19) 0 0 (γ 20) := hS34 _ _ _ _ _ (zAllA hl 16)
  have wl_0 : ρ 19 ≠ 33 := by omega
  show sn42 [ρ 0, ρ 1, ρ 2, ρ 3, ρ 4, ρ 5, ρ 6, ρ 7, ρ 8, ρ 9, ρ 10, ρ 11, ρ 12, ρ 13, ρ 14, ρ 15, ρ 16, ρ 17] (γ 0) 0 0 (γ 20)
  refine Eq.symm ?_
  show fn42 [] (γ 0) = _
  unfold fn42
  refine zLE m1 (zLE m8 (zLE m9 (zLE m17 (zLE (show fn7 [] (γ 0) = (0, 0, γ 1) from l0.symm) (zLV (γ 1) rfl (zLE m18 (zLE (show fn33 [] (γ 1) = (0, ρ 9 + 8 * ρ 8, γ 2) from l1.symm) ?_)))))))
  refine zLV (γ 2) rfl (zLE c3.symm (zLE (show fn6 [ρ 18] (γ 3) = (0, ρ 19, γ 4) from l2.symm) (zLV (γ 4) rfl (zIP w_0 (zLV (ρ 19) rfl (zIP wl_0 (zLE (show fn9 [ρ 19] (γ 4) = (0, 0, γ 5) from l4.symm) ?_)))))))
  refine zLV (γ 5) rfl (zIN zQ0_ (zLE (show fn20 [0] (γ 5) = (0, 1, γ 6) from l5.symm) (zLV (γ 6) rfl (zIP zQ1_ (zLE m23 (zLE m24 (zLE c7.symm ?_)))))))
  refine zLE c8.symm (zLE (show fn7 [] (γ 8) = (0, 0, γ 9) from l6.symm) (zLV (γ 9) rfl (zLE m28 (zIN w_1 (zLE (show fn6 [ρ 28] (γ 9) = (0, ρ 29, γ 10) from l7.symm) (zLV (γ 10) rfl (zIP w_2 ?_)))))))
  refine zLV (ρ 29) rfl (zLE (show fn9 [ρ 29] (γ 10) = (0, 1, γ 11) from l8.symm) (zLV (γ 11) rfl (zIP zQ1_ (zLE (show fn12 [] (γ 11) = (0, 1, γ 12) from l9.symm) (zLV (γ 12) rfl (zIP zQ1_ (zLE (show fn13 [105, 115, 0, 0, 0] (γ 12) = (0, 1, γ 13) from l10.symm) ?_)))))))
  refine zLV (γ 13) rfl (zIP zQ1_ (zLE (show fn18 [ρ 24] (γ 13) = (0, 0, γ 14) from l11.symm) (zLV (γ 14) rfl (zIN zQ0_ (zLE (show fn34 [1] (γ 14) = (0, 1, γ 15) from l12.symm) (zLV (γ 15) rfl (zIP zQ1_ ?_)))))))
  refine zLE (show fn7 [] (γ 15) = (0, 0, γ 16) from l13.symm) (zLV (γ 16) rfl (zLE m41 (zLE (show fn6 [ρ 38] (γ 16) = (0, ρ 39, γ 17) from l14.symm) (zLV (γ 17) rfl (zIP w_3 (zLV (ρ 39) rfl (zIN w_4 ?_)))))))
  refine zIP w_5 (zLE c18.symm (zLE c19.symm (zLE (show fn34 [2] (γ 19) = (0, 0, γ 20) from l16.symm) (zLV (γ 20) rfl (zIN zQ0_ ?_)))))
  rfl
theorem vn42_11 {S : Nat → zSpc} (hS6 : zIm S 6 sn6) (hS7 : zIm S 7 sn7) (hS8 : zIm S 8 sn8) (hS9 : zIm S 9 sn9) (hS12 : zIm S 12 sn12) (hS13 : zIm S 13 sn13) (hS15 : zIm S 15 sn15) (hS18 : zIm S 18 sn18) (hS20 : zIm S 20 sn20) (hS23 : zIm S 23 sn23) (hS33 : zIm S 33 sn33) (hS34 : zIm S 34 sn34) (hS40 : zIm S 40 sn40) (hS41 : zIm S 41 sn41) {a : List Int} {g : rHp} : ∀ (ρ : Nat → Int) (γ : Nat → rHp), zO 18 S a g q42_11 ρ γ → zGl (fun _ _ _ => True) (sn42 a g) q42_11 ρ γ := by
  intro ρ γ h
  obtain ⟨ha, hg, hr, hf, hm, hc, hl⟩ := h
  have ha : a = [ρ 0, ρ 1, ρ 2, ρ 3, ρ 4, ρ 5, ρ 6, ρ 7, ρ 8, ρ 9, ρ 10, ρ 11, ρ 12, ρ 13, ρ 14, ρ 15, ρ 16, ρ 17] := ha
  subst ha
  subst hg
  have r19 : ((-128) : Int) ≤ ρ 19 ∧ ρ 19 ≤ 127 := zRnA hr 19
  have r25 : (1 : Int) ≤ ρ 25 ∧ ρ 25 ≤ 1 := zRnA hr 25
  have r39 : (45 : Int) ≤ ρ 39 ∧ ρ 39 ≤ 45 := zRnA hr 39
  have f2 : (0 : Int) ≤ -ρ 38 + ρ 1 + (-1) := zAllA hf 2
  have f22 : (0 : Int) ≤ -ρ 28 + ρ 1 + (-1) := zAllA hf 22
  have f35 : (0 : Int) ≤ -ρ 18 + ρ 1 + (-1) := zAllA hf 35
  obtain ⟨w_0, w_1, w_2, w_3, w_4, w_5⟩ : (0 ≤ -ρ 18 + ρ 1 + (-1)) ∧ (¬ (ρ 25 ≠ 1)) ∧ (0 ≤ -ρ 28 + ρ 1 + (-1)) ∧ (0 ≤ -ρ 38 + ρ 1 + (-1)) ∧ (¬ (ρ 39 = 43)) ∧ (ρ 39 = 45) := ⟨by omega, by omega, by omega, by omega, by omega, by omega⟩
  have m1 : γ 0 15 0 34 = ρ 1 := zAllA hm 1
  have m8 : γ 0 15 0 44 = ρ 8 := zAllA hm 8
  have m9 : γ 0 73 0 (ρ 8) = ρ 9 := zAllA hm 9
  have m17 : γ 0 15 0 45 = ρ 17 := zAllA hm 17
  have m18 : γ 1 15 0 35 = ρ 18 := zAllA hm 18
  have m23 : γ 6 15 0 39 = ρ 24 := zAllA hm 23
  have m24 : γ 6 15 0 40 = ρ 25 := zAllA hm 24
  have m28 : γ 9 15 0 35 = ρ 28 := zAllA hm 28
  have m41 : γ 16 15 0 35 = ρ 38 := zAllA hm 41
  have c3 : γ 3 = rUp (γ 2) 79 0 (ρ 9 + 8 * ρ 8) (ρ 17) := And.right (zChA hc 18)
  have c7 : γ 7 = rUp (γ 6) 80 0 (4 * ρ 9 + 32 * ρ 8) (ρ 25) := And.right (zChA hc 14)
  have c8 : γ 8 = rUp (γ 7) 81 0 (4 * ρ 9 + 32 * ρ 8) (ρ 24) := And.right (zChA hc 13)
  have c18 : γ 18 = rUp (γ 17) 15 0 35 (ρ 38 + 1) := And.right (zChA hc 3)
  have c19 : γ 19 = rUp (γ 18) 77 0 (ρ 9 + 8 * ρ 8) 6 := And.right (zChA hc 2)
  have c21 : γ 21 = rUp (γ 20) 15 0 45 (ρ 47) := And.right (zChA hc 0)
  have l0 : sn7 [ρ 0, ρ 1] (γ 0) 0 0 (γ 1) := hS7 _ _ _ _ _ (zAllA hl 0)
  have l1 : sn33 [ρ 8, ρ 9] (γ 1) 0 (ρ 9 + 8 * ρ 8) (γ 2) := hS33 _ _ _ _ _ (zAllA hl 1)
  have l2 : sn6 [ρ 18, ρ 1] (γ 3) 0 (ρ 19) (γ 4) := hS6 _ _ _ _ _ (zAllA hl 2)
  have l3 : ρ 19 ≠ 33 := zAllA hl 3
  have l4 : sn9 [ρ 19] (γ 4) 0 0 (γ 5) := hS9 _ _ _ _ _ (zAllA hl 4)
  have l5 : sn20 [0, ρ 18, ρ 1, ρ 2, ρ 3, ρ 20, ρ 16, ρ 13, ρ 14, ρ 15, ρ 8] (γ 5) 0 1 (γ 6) := hS20 _ _ _ _ _ (zAllA hl 5)
  have l6 : sn7 [ρ 21, ρ 1] (γ 8) 0 0 (γ 9) := hS7 _ _ _ _ _ (zAllA hl 6)
  have l7 : sn6 [ρ 28, ρ 1] (γ 9) 0 (ρ 29) (γ 10) := hS6 _ _ _ _ _ (zAllA hl 7)
  have l8 : sn9 [ρ 29] (γ 10) 0 1 (γ 11) := hS9 _ _ _ _ _ (zAllA hl 8)
  have l9 : sn12 [ρ 28, ρ 1, ρ 26, ρ 13, ρ 27] (γ 11) 0 1 (γ 12) := hS12 _ _ _ _ _ (zAllA hl 9)
  have l10 : sn13 [105, 115, 0, 0, 0, ρ 28, ρ 31] (γ 12) 0 1 (γ 13) := hS13 _ _ _ _ _ (zAllA hl 10)
  have l11 : sn18 [ρ 24, ρ 17] (γ 13) 0 0 (γ 14) := hS18 _ _ _ _ _ (zAllA hl 11)
  have l12 : sn34 [1, ρ 30, ρ 1, ρ 22, ρ 23, ρ 8, ρ 9, ρ 10, ρ 24, ρ 13, ρ 28, ρ 31, ρ 25, ρ 17] (γ 14) 0 1 (γ 15) := hS34 _ _ _ _ _ (zAllA hl 12)
  have l13 : sn7 [ρ 32, ρ 1] (γ 15) 0 0 (γ 16) := hS7 _ _ _ _ _ (zAllA hl 13)
  have l14 : sn6 [ρ 38, ρ 1] (γ 16) 0 (ρ 39) (γ 17) := hS6 _ _ _ _ _ (zAllA hl 14)
  have l15 : ρ 39 ≠ 43 := zAllA hl 15
  have l16 : sn34 [2, ρ 38 + 1, ρ 1, ρ 33, ρ 34, ρ 8, ρ 9, 6, ρ 24, ρ 13, ρ 35, ρ 36, ρ 37, ρ 17] (γ 19) 0 1 (γ 20) := hS34 _ _ _ _ _ (zAllA hl 16)
  have l17 : zOpP (.ishl) (γ 0) (γ 1) [1, ρ 24] (ρ 46) := zAllA hl 17
  have l18 : zOpP (.ior) (γ 0) (γ 1) [ρ 17, ρ 46] (ρ 47) := zAllA hl 18
  have wl_0 : ρ 19 ≠ 33 := by omega
  show sn42 [ρ 0, ρ 1, ρ 2, ρ 3, ρ 4, ρ 5, ρ 6, ρ 7, ρ 8, ρ 9, ρ 10, ρ 11, ρ 12, ρ 13, ρ 14, ρ 15, ρ 16, ρ 17] (γ 0) 0 1 (γ 21)
  refine Eq.symm ?_
  show fn42 [] (γ 0) = _
  unfold fn42
  refine zLE m1 (zLE m8 (zLE m9 (zLE m17 (zLE (show fn7 [] (γ 0) = (0, 0, γ 1) from l0.symm) (zLV (γ 1) rfl (zLE m18 (zLE (show fn33 [] (γ 1) = (0, ρ 9 + 8 * ρ 8, γ 2) from l1.symm) ?_)))))))
  refine zLV (γ 2) rfl (zLE c3.symm (zLE (show fn6 [ρ 18] (γ 3) = (0, ρ 19, γ 4) from l2.symm) (zLV (γ 4) rfl (zIP w_0 (zLV (ρ 19) rfl (zIP wl_0 (zLE (show fn9 [ρ 19] (γ 4) = (0, 0, γ 5) from l4.symm) ?_)))))))
  refine zLV (γ 5) rfl (zIN zQ0_ (zLE (show fn20 [0] (γ 5) = (0, 1, γ 6) from l5.symm) (zLV (γ 6) rfl (zIP zQ1_ (zLE m23 (zLE m24 (zLE c7.symm ?_)))))))
  refine zLE c8.symm (zLE (show fn7 [] (γ 8) = (0, 0, γ 9) from l6.symm) (zLV (γ 9) rfl (zLE m28 (zIN w_1 (zLE (show fn6 [ρ 28] (γ 9) = (0, ρ 29, γ 10) from l7.symm) (zLV (γ 10) rfl (zIP w_2 ?_)))))))
  refine zLV (ρ 29) rfl (zLE (show fn9 [ρ 29] (γ 10) = (0, 1, γ 11) from l8.symm) (zLV (γ 11) rfl (zIP zQ1_ (zLE (show fn12 [] (γ 11) = (0, 1, γ 12) from l9.symm) (zLV (γ 12) rfl (zIP zQ1_ (zLE (show fn13 [105, 115, 0, 0, 0] (γ 12) = (0, 1, γ 13) from l10.symm) ?_)))))))
  refine zLV (γ 13) rfl (zIP zQ1_ (zLE (show fn18 [ρ 24] (γ 13) = (0, 0, γ 14) from l11.symm) (zLV (γ 14) rfl (zIN zQ0_ (zLE (show fn34 [1] (γ 14) = (0, 1, γ 15) from l12.symm) (zLV (γ 15) rfl (zIP zQ1_ ?_)))))))
  refine zLE (show fn7 [] (γ 15) = (0, 0, γ 16) from l13.symm) (zLV (γ 16) rfl (zLE m41 (zLE (show fn6 [ρ 38] (γ 16) = (0, ρ 39, γ 17) from l14.symm) (zLV (γ 17) rfl (zIP w_3 (zLV (ρ 39) rfl (zIN w_4 ?_)))))))
  refine zIP w_5 (zLE c18.symm (zLE c19.symm (zLE (show fn34 [2] (γ 19) = (0, 1, γ 20) from l16.symm) (zLV (γ 20) rfl (zIP zQ1_ (zLE (zF2_ok l17) (zLE (zF2_ok l18) ?_)))))))
  refine zLE c21.symm ?_
  rfl
theorem vn42_12 {S : Nat → zSpc} (hS6 : zIm S 6 sn6) (hS7 : zIm S 7 sn7) (hS8 : zIm S 8 sn8) (hS9 : zIm S 9 sn9) (hS12 : zIm S 12 sn12) (hS13 : zIm S 13 sn13) (hS15 : zIm S 15 sn15) (hS18 : zIm S 18 sn18) (hS20 : zIm S 20 sn20) (hS23 : zIm S 23 sn23) (hS33 : zIm S 33 sn33) (hS34 : zIm S 34 sn34) (hS40 : zIm S 40 sn40) (hS41 : zIm S 41 sn41) {a : List Int} {g : rHp} : ∀ (ρ : Nat → Int) (γ : Nat → rHp), zO 18 S a g q42_12 ρ γ → zGl (fun _ _ _ => True) (sn42 a g) q42_12 ρ γ := by
  intro ρ γ h
  obtain ⟨ha, hg, hr, hf, hm, hc, hl⟩ := h
  have ha : a = [ρ 0, ρ 1, ρ 2, ρ 3, ρ 4, ρ 5, ρ 6, ρ 7, ρ 8, ρ 9, ρ 10, ρ 11, ρ 12, ρ 13, ρ 14, ρ 15, ρ 16, ρ 17] := ha
  subst ha
  subst hg
  have r19 : ((-128) : Int) ≤ ρ 19 ∧ ρ 19 ≤ 127 := zRnA hr 19
  have r25 : (1 : Int) ≤ ρ 25 ∧ ρ 25 ≤ 1 := zRnA hr 25
  have r39 : (42 : Int) ≤ ρ 39 ∧ ρ 39 ≤ 42 := zRnA hr 39
  have f2 : (0 : Int) ≤ -ρ 38 + ρ 1 + (-1) := zAllA hf 2
  have f22 : (0 : Int) ≤ -ρ 28 + ρ 1 + (-1) := zAllA hf 22
  have f35 : (0 : Int) ≤ -ρ 18 + ρ 1 + (-1) := zAllA hf 35
  obtain ⟨w_0, w_1, w_2, w_3, w_4, w_5, w_6⟩ : (0 ≤ -ρ 18 + ρ 1 + (-1)) ∧ (¬ (ρ 25 ≠ 1)) ∧ (0 ≤ -ρ 28 + ρ 1 + (-1)) ∧ (0 ≤ -ρ 38 + ρ 1 + (-1)) ∧ (¬ (ρ 39 = 43)) ∧ (¬ (ρ 39 = 45)) ∧ (ρ 39 = 42) := ⟨by omega, by omega, by omega, by omega, by omega, by omega, by omega⟩
  have m1 : γ 0 15 0 34 = ρ 1 := zAllA hm 1
  have m8 : γ 0 15 0 44 = ρ 8 := zAllA hm 8
  have m9 : γ 0 73 0 (ρ 8) = ρ 9 := zAllA hm 9
  have m17 : γ 0 15 0 45 = ρ 17 := zAllA hm 17
  have m18 : γ 1 15 0 35 = ρ 18 := zAllA hm 18
  have m23 : γ 6 15 0 39 = ρ 24 := zAllA hm 23
  have m24 : γ 6 15 0 40 = ρ 25 := zAllA hm 24
  have m28 : γ 9 15 0 35 = ρ 28 := zAllA hm 28
  have m41 : γ 16 15 0 35 = ρ 38 := zAllA hm 41
  have c3 : γ 3 = rUp (γ 2) 79 0 (ρ 9 + 8 * ρ 8) (ρ 17) := And.right (zChA hc 17)
  have c7 : γ 7 = rUp (γ 6) 80 0 (4 * ρ 9 + 32 * ρ 8) (ρ 25) := And.right (zChA hc 13)
  have c8 : γ 8 = rUp (γ 7) 81 0 (4 * ρ 9 + 32 * ρ 8) (ρ 24) := And.right (zChA hc 12)
  have c18 : γ 18 = rUp (γ 17) 15 0 35 (ρ 38 + 1) := And.right (zChA hc 2)
  have c19 : γ 19 = rUp (γ 18) 77 0 (ρ 9 + 8 * ρ 8) 7 := And.right (zChA hc 1)
  have l0 : sn7 [ρ 0, ρ 1] (γ 0) 0 0 (γ 1) := hS7 _ _ _ _ _ (zAllA hl 0)
  have l1 : sn33 [ρ 8, ρ 9] (γ 1) 0 (ρ 9 + 8 * ρ 8) (γ 2) := hS33 _ _ _ _ _ (zAllA hl 1)
  have l2 : sn6 [ρ 18, ρ 1] (γ 3) 0 (ρ 19) (γ 4) := hS6 _ _ _ _ _ (zAllA hl 2)
  have l3 : ρ 19 ≠ 33 := zAllA hl 3
  have l4 : sn9 [ρ 19] (γ 4) 0 0 (γ 5) := hS9 _ _ _ _ _ (zAllA hl 4)
  have l5 : sn20 [0, ρ 18, ρ 1, ρ 2, ρ 3, ρ 20, ρ 16, ρ 13, ρ 14, ρ 15, ρ 8] (γ 5) 0 1 (γ 6) := hS20 _ _ _ _ _ (zAllA hl 5)
  have l6 : sn7 [ρ 21, ρ 1] (γ 8) 0 0 (γ 9) := hS7 _ _ _ _ _ (zAllA hl 6)
  have l7 : sn6 [ρ 28, ρ 1] (γ 9) 0 (ρ 29) (γ 10) := hS6 _ _ _ _ _ (zAllA hl 7)
  have l8 : sn9 [ρ 29] (γ 10) 0 1 (γ 11) := hS9 _ _ _ _ _ (zAllA hl 8)
  have l9 : sn12 [ρ 28, ρ 1, ρ 26, ρ 13, ρ 27] (γ 11) 0 1 (γ 12) := hS12 _ _ _ _ _ (zAllA hl 9)
  have l10 : sn13 [105, 115, 0, 0, 0, ρ 28, ρ 31] (γ 12) 0 1 (γ 13) := hS13 _ _ _ _ _ (zAllA hl 10)
  have l11 : sn18 [ρ 24, ρ 17] (γ 13) 0 0 (γ 14) := hS18 _ _ _ _ _ (zAllA hl 11)
  have l12 : sn34 [1, ρ 30, ρ 1, ρ 22, ρ 23, ρ 8, ρ 9, ρ 10, ρ 24, ρ 13, ρ 28, ρ 31, ρ 25, ρ 17] (γ 14) 0 1 (γ 15) := hS34 _ _ _ _ _ (zAllA hl 12)
  have l13 : sn7 [ρ 32, ρ 1] (γ 15) 0 0 (γ 16) := hS7 _ _ _ _ _ (zAllA hl 13)
  have l14 : sn6 [ρ 38, ρ 1] (γ 16) 0 (ρ 39) (γ 17) := hS6 _ _ _ _ _ (zAllA hl 14)
  have l15 : ρ 39 ≠ 43 := zAllA hl 15
  have l16 : ρ 39 ≠ 45 := zAllA hl 16
  have l17 : sn34 [2, ρ 38 + 1, ρ 1, ρ 33, ρ 34, ρ 8, ρ 9, 7, ρ 24, ρ 13, ρ 35, ρ 36, ρ 37, ρ 17] (γ 19) 0 0 (γ 20) := hS34 _ _ _ _ _ (zAllA hl 17)
  have wl_0 : ρ 19 ≠ 33 := by omega
  show sn42 [ρ 0, ρ 1, ρ 2, ρ 3, ρ 4, ρ 5, ρ 6, ρ 7, ρ 8, ρ 9, ρ 10, ρ 11, ρ 12, ρ 13, ρ 14, ρ 15, ρ 16, ρ 17] (γ 0) 0 0 (γ 20)
  refine Eq.symm ?_
  show fn42 [] (γ 0) = _
  unfold fn42
  refine zLE m1 (zLE m8 (zLE m9 (zLE m17 (zLE (show fn7 [] (γ 0) = (0, 0, γ 1) from l0.symm) (zLV (γ 1) rfl (zLE m18 (zLE (show fn33 [] (γ 1) = (0, ρ 9 + 8 * ρ 8, γ 2) from l1.symm) ?_)))))))
  refine zLV (γ 2) rfl (zLE c3.symm (zLE (show fn6 [ρ 18] (γ 3) = (0, ρ 19, γ 4) from l2.symm) (zLV (γ 4) rfl (zIP w_0 (zLV (ρ 19) rfl (zIP wl_0 (zLE (show fn9 [ρ 19] (γ 4) = (0, 0, γ 5) from l4.symm) ?_)))))))
  refine zLV (γ 5) rfl (zIN zQ0_ (zLE (show fn20 [0] (γ 5) = (0, 1, γ 6) from l5.symm) (zLV (γ 6) rfl (zIP zQ1_ (zLE m23 (zLE m24 (zLE c7.symm ?_)))))))
  refine zLE c8.symm (zLE (show fn7 [] (γ 8) = (0, 0, γ 9) from l6.symm) (zLV (γ 9) rfl (zLE m28 (zIN w_1 (zLE (show fn6 [ρ 28] (γ 9) = (0, ρ 29, γ 10) from l7.symm) (zLV (γ 10) rfl (zIP w_2 ?_)))))))
  refine zLV (ρ 29) rfl (zLE (show fn9 [ρ 29] (γ 10) = (0, 1, γ 11) from l8.symm) (zLV (γ 11) rfl (zIP zQ1_ (zLE (show fn12 [] (γ 11) = (0, 1, γ 12) from l9.symm) (zLV (γ 12) rfl (zIP zQ1_ (zLE (show fn13 [105, 115, 0, 0, 0] (γ 12) = (0, 1, γ 13) from l10.symm) ?_)))))))
  refine zLV (γ 13) rfl (zIP zQ1_ (zLE (show fn18 [ρ 24] (γ 13) = (0, 0, γ 14) from l11.symm) (zLV (γ 14) rfl (zIN zQ0_ (zLE (show fn34 [1] (γ 14) = (0, 1, γ 15) from l12.symm) (zLV (γ 15) rfl (zIP zQ1_ ?_)))))))
  refine zLE (show fn7 [] (γ 15) = (0, 0, γ 16) from l13.symm) (zLV (γ 16) rfl (zLE m41 (zLE (show fn6 [ρ 38] (γ 16) = (0, ρ 39, γ 17) from l14.symm) (zLV (γ 17) rfl (zIP w_3 (zLV (ρ 39) rfl (zIN w_4 ?_)))))))
  refine zIN w_5 (zIP w_6 (zLE c18.symm (zLE c19.symm (zLE (show fn34 [2] (γ 19) = (0, 0, γ 20) from l17.symm) (zLV (γ 20) rfl (zIN zQ0_ ?_))))))
  rfl
theorem vn42_13 {S : Nat → zSpc} (hS6 : zIm S 6 sn6) (hS7 : zIm S 7 sn7) (hS8 : zIm S 8 sn8) (hS9 : zIm S 9 sn9) (hS12 : zIm S 12 sn12) (hS13 : zIm S 13 sn13) (hS15 : zIm S 15 sn15) (hS18 : zIm S 18 sn18) (hS20 : zIm S 20 sn20) (hS23 : zIm S 23 sn23) (hS33 : zIm S 33 sn33) (hS34 : zIm S 34 sn34) (hS40 : zIm S 40 sn40) (hS41 : zIm S 41 sn41) {a : List Int} {g : rHp} : ∀ (ρ : Nat → Int) (γ : Nat → rHp), zO 18 S a g q42_13 ρ γ → zGl (fun _ _ _ => True) (sn42 a g) q42_13 ρ γ := by
  intro ρ γ h
  obtain ⟨ha, hg, hr, hf, hm, hc, hl⟩ := h
  have ha : a = [ρ 0, ρ 1, ρ 2, ρ 3, ρ 4, ρ 5, ρ 6, ρ 7, ρ 8, ρ 9, ρ 10, ρ 11, ρ 12, ρ 13, ρ 14, ρ 15, ρ 16, ρ 17] := ha
  subst ha
  subst hg
  have r19 : ((-128) : Int) ≤ ρ 19 ∧ ρ 19 ≤ 127 := zRnA hr 19
  have r25 : (1 : Int) ≤ ρ 25 ∧ ρ 25 ≤ 1 := zRnA hr 25
  have r39 : (42 : Int) ≤ ρ 39 ∧ ρ 39 ≤ 42 := zRnA hr 39
  have f2 : (0 : Int) ≤ -ρ 38 + ρ 1 + (-1) := zAllA hf 2
  have f22 : (0 : Int) ≤ -ρ 28 + ρ 1 + (-1) := zAllA hf 22
  have f35 : (0 : Int) ≤ -ρ 18 + ρ 1 + (-1) := zAllA hf 35
  obtain ⟨w_0, w_1, w_2, w_3, w_4, w_5, w_6⟩ : (0 ≤ -ρ 18 + ρ 1 + (-1)) ∧ (¬ (ρ 25 ≠ 1)) ∧ (0 ≤ -ρ 28 + ρ 1 + (-1)) ∧ (0 ≤ -ρ 38 + ρ 1 + (-1)) ∧ (¬ (ρ 39 = 43)) ∧ (¬ (ρ 39 = 45)) ∧ (ρ 39 = 42) := ⟨by omega, by omega, by omega, by omega, by omega, by omega, by omega⟩
  have m1 : γ 0 15 0 34 = ρ 1 := zAllA hm 1
  have m8 : γ 0 15 0 44 = ρ 8 := zAllA hm 8
  have m9 : γ 0 73 0 (ρ 8) = ρ 9 := zAllA hm 9
  have m17 : γ 0 15 0 45 = ρ 17 := zAllA hm 17
  have m18 : γ 1 15 0 35 = ρ 18 := zAllA hm 18
  have m23 : γ 6 15 0 39 = ρ 24 := zAllA hm 23
  have m24 : γ 6 15 0 40 = ρ 25 := zAllA hm 24
  have m28 : γ 9 15 0 35 = ρ 28 := zAllA hm 28
  have m41 : γ 16 15 0 35 = ρ 38 := zAllA hm 41
  have c3 : γ 3 = rUp (γ 2) 79 0 (ρ 9 + 8 * ρ 8) (ρ 17) := And.right (zChA hc 18)
  have c7 : γ 7 = rUp (γ 6) 80 0 (4 * ρ 9 + 32 * ρ 8) (ρ 25) := And.right (zChA hc 14)
  have c8 : γ 8 = rUp (γ 7) 81 0 (4 * ρ 9 + 32 * ρ 8) (ρ 24) := And.right (zChA hc 13)
  have c18 : γ 18 = rUp (γ 17) 15 0 35 (ρ 38 + 1) := And.right (zChA hc 3)
  have c19 : γ 19 = rUp (γ 18) 77 0 (ρ 9 + 8 * ρ 8) 7 := And.right (zChA hc 2)
  have c21 : γ 21 = rUp (γ 20) 15 0 45 (ρ 47) := And.right (zChA hc 0)
  have l0 : sn7 [ρ 0, ρ 1] (γ 0) 0 0 (γ 1) := hS7 _ _ _ _ _ (zAllA hl 0)
  have l1 : sn33 [ρ 8, ρ 9] (γ 1) 0 (ρ 9 + 8 * ρ 8) (γ 2) := hS33 _ _ _ _ _ (zAllA hl 1)
  have l2 : sn6 [ρ 18, ρ 1] (γ 3) 0 (ρ 19) (γ 4) := hS6 _ _ _ _ _ (zAllA hl 2)
  have l3 : ρ 19 ≠ 33 := zAllA hl 3
  have l4 : sn9 [ρ 19] (γ 4) 0 0 (γ 5) := hS9 _ _ _ _ _ (zAllA hl 4)
  have l5 : sn20 [0, ρ 18, ρ 1, ρ 2, ρ 3, ρ 20, ρ 16, ρ 13, ρ 14, ρ 15, ρ 8] (γ 5) 0 1 (γ 6) := hS20 _ _ _ _ _ (zAllA hl 5)
  have l6 : sn7 [ρ 21, ρ 1] (γ 8) 0 0 (γ 9) := hS7 _ _ _ _ _ (zAllA hl 6)
  have l7 : sn6 [ρ 28, ρ 1] (γ 9) 0 (ρ 29) (γ 10) := hS6 _ _ _ _ _ (zAllA hl 7)
  have l8 : sn9 [ρ 29] (γ 10) 0 1 (γ 11) := hS9 _ _ _ _ _ (zAllA hl 8)
  have l9 : sn12 [ρ 28, ρ 1, ρ 26, ρ 13, ρ 27] (γ 11) 0 1 (γ 12) := hS12 _ _ _ _ _ (zAllA hl 9)
  have l10 : sn13 [105, 115, 0, 0, 0, ρ 28, ρ 31] (γ 12) 0 1 (γ 13) := hS13 _ _ _ _ _ (zAllA hl 10)
  have l11 : sn18 [ρ 24, ρ 17] (γ 13) 0 0 (γ 14) := hS18 _ _ _ _ _ (zAllA hl 11)
  have l12 : sn34 [1, ρ 30, ρ 1, ρ 22, ρ 23, ρ 8, ρ 9, ρ 10, ρ 24, ρ 13, ρ 28, ρ 31, ρ 25, ρ 17] (γ 14) 0 1 (γ 15) := hS34 _ _ _ _ _ (zAllA hl 12)
  have l13 : sn7 [ρ 32, ρ 1] (γ 15) 0 0 (γ 16) := hS7 _ _ _ _ _ (zAllA hl 13)
  have l14 : sn6 [ρ 38, ρ 1] (γ 16) 0 (ρ 39) (γ 17) := hS6 _ _ _ _ _ (zAllA hl 14)
  have l15 : ρ 39 ≠ 43 := zAllA hl 15
  have l16 : ρ 39 ≠ 45 := zAllA hl 16
  have l17 : sn34 [2, ρ 38 + 1, ρ 1, ρ 33, ρ 34, ρ 8, ρ 9, 7, ρ 24, ρ 13, ρ 35, ρ 36, ρ 37, ρ 17] (γ 19) 0 1 (γ 20) := hS34 _ _ _ _ _ (zAllA hl 17)
  have l18 : zOpP (.ishl) (γ 0) (γ 1) [1, ρ 24] (ρ 46) := zAllA hl 18
  have l19 : zOpP (.ior) (γ 0) (γ 1) [ρ 17, ρ 46] (ρ 47) := zAllA hl 19
  have wl_0 : ρ 19 ≠ 33 := by omega
  show sn42 [ρ 0, ρ 1, ρ 2, ρ 3, ρ 4, ρ 5, ρ 6, ρ 7, ρ 8, ρ 9, ρ 10, ρ 11, ρ 12, ρ 13, ρ 14, ρ 15, ρ 16, ρ 17] (γ 0) 0 1 (γ 21)
  refine Eq.symm ?_
  show fn42 [] (γ 0) = _
  unfold fn42
  refine zLE m1 (zLE m8 (zLE m9 (zLE m17 (zLE (show fn7 [] (γ 0) = (0, 0, γ 1) from l0.symm) (zLV (γ 1) rfl (zLE m18 (zLE (show fn33 [] (γ 1) = (0, ρ 9 + 8 * ρ 8, γ 2) from l1.symm) ?_)))))))
  refine zLV (γ 2) rfl (zLE c3.symm (zLE (show fn6 [ρ 18] (γ 3) = (0, ρ 19, γ 4) from l2.symm) (zLV (γ 4) rfl (zIP w_0 (zLV (ρ 19) rfl (zIP wl_0 (zLE (show fn9 [ρ 19] (γ 4) = (0, 0, γ 5) from l4.symm) ?_)))))))
  refine zLV (γ 5) rfl (zIN zQ0_ (zLE (show fn20 [0] (γ 5) = (0, 1, γ 6) from l5.symm) (zLV (γ 6) rfl (zIP zQ1_ (zLE m23 (zLE m24 (zLE c7.symm ?_)))))))
  refine zLE c8.symm (zLE (show fn7 [] (γ 8) = (0, 0, γ 9) from l6.symm) (zLV (γ 9) rfl (zLE m28 (zIN w_1 (zLE (show fn6 [ρ 28] (γ 9) = (0, ρ 29, γ 10) from l7.symm) (zLV (γ 10) rfl (zIP w_2 ?_)))))))
  refine zLV (ρ 29) rfl (zLE (show fn9 [ρ 29] (γ 10) = (0, 1, γ 11) from l8.symm) (zLV (γ 11) rfl (zIP zQ1_ (zLE (show fn12 [] (γ 11) = (0, 1, γ 12) from l9.symm) (zLV (γ 12) rfl (zIP zQ1_ (zLE (show fn13 [105, 115, 0, 0, 0] (γ 12) = (0, 1, γ 13) from l10.symm) ?_)))))))
  refine zLV (γ 13) rfl (zIP zQ1_ (zLE (show fn18 [ρ 24] (γ 13) = (0, 0, γ 14) from l11.symm) (zLV (γ 14) rfl (zIN zQ0_ (zLE (show fn34 [1] (γ 14) = (0, 1, γ 15) from l12.symm) (zLV (γ 15) rfl (zIP zQ1_ ?_)))))))
  refine zLE (show fn7 [] (γ 15) = (0, 0, γ 16) from l13.symm) (zLV (γ 16) rfl (zLE m41 (zLE (show fn6 [ρ 38] (γ 16) = (0, ρ 39, γ 17) from l14.symm) (zLV (γ 17) rfl (zIP w_3 (zLV (ρ 39) rfl (zIN w_4 ?_)))))))
  refine zIN w_5 (zIP w_6 (zLE c18.symm (zLE c19.symm (zLE (show fn34 [2] (γ 19) = (0, 1, γ 20) from l17.symm) (zLV (γ 20) rfl (zIP zQ1_ (zLE (zF2_ok l18) ?_)))))))
  refine zLE (zF2_ok l19) (zLE c21.symm ?_)
  rfl
theorem vn42_14 {S : Nat → zSpc} (hS6 : zIm S 6 sn6) (hS7 : zIm S 7 sn7) (hS8 : zIm S 8 sn8) (hS9 : zIm S 9 sn9) (hS12 : zIm S 12 sn12) (hS13 : zIm S 13 sn13) (hS15 : zIm S 15 sn15) (hS18 : zIm S 18 sn18) (hS20 : zIm S 20 sn20) (hS23 : zIm S 23 sn23) (hS33 : zIm S 33 sn33) (hS34 : zIm S 34 sn34) (hS40 : zIm S 40 sn40) (hS41 : zIm S 41 sn41) {a : List Int} {g : rHp} : ∀ (ρ : Nat → Int) (γ : Nat → rHp), zO 18 S a g q42_14 ρ γ → zGl (fun _ _ _ => True) (sn42 a g) q42_14 ρ γ := by
  intro ρ γ h
  obtain ⟨ha, hg, hr, hf, hm, hc, hl⟩ := h
  have ha : a = [ρ 0, ρ 1, ρ 2, ρ 3, ρ 4, ρ 5, ρ 6, ρ 7, ρ 8, ρ 9, ρ 10, ρ 11, ρ 12, ρ 13, ρ 14, ρ 15, ρ 16, ρ 17] := ha
  subst ha
  subst hg
  have r19 : ((-128) : Int) ≤ ρ 19 ∧ ρ 19 ≤ 127 := zRnA hr 19
  have r25 : (1 : Int) ≤ ρ 25 ∧ ρ 25 ≤ 1 := zRnA hr 25
  have r39 : ((-128) : Int) ≤ ρ 39 ∧ ρ 39 ≤ 127 := zRnA hr 39
  have f2 : (0 : Int) ≤ -ρ 38 + ρ 1 + (-1) := zAllA hf 2
  have f15 : (0 : Int) ≤ -ρ 28 + ρ 1 + (-1) := zAllA hf 15
  have f28 : (0 : Int) ≤ -ρ 18 + ρ 1 + (-1) := zAllA hf 28
  obtain ⟨w_0, w_1, w_2, w_3⟩ : (0 ≤ -ρ 18 + ρ 1 + (-1)) ∧ (¬ (ρ 25 ≠ 1)) ∧ (0 ≤ -ρ 28 + ρ 1 + (-1)) ∧ (0 ≤ -ρ 38 + ρ 1 + (-1)) := ⟨by omega, by omega, by omega, by omega⟩
  have m1 : γ 0 15 0 34 = ρ 1 := zAllA hm 1
  have m8 : γ 0 15 0 44 = ρ 8 := zAllA hm 8
  have m9 : γ 0 73 0 (ρ 8) = ρ 9 := zAllA hm 9
  have m17 : γ 0 15 0 45 = ρ 17 := zAllA hm 17
  have m18 : γ 1 15 0 35 = ρ 18 := zAllA hm 18
  have m23 : γ 6 15 0 39 = ρ 24 := zAllA hm 23
  have m24 : γ 6 15 0 40 = ρ 25 := zAllA hm 24
  have m28 : γ 9 15 0 35 = ρ 28 := zAllA hm 28
  have m41 : γ 16 15 0 35 = ρ 38 := zAllA hm 41
  have c3 : γ 3 = rUp (γ 2) 79 0 (ρ 9 + 8 * ρ 8) (ρ 17) := And.right (zChA hc 15)
  have c7 : γ 7 = rUp (γ 6) 80 0 (4 * ρ 9 + 32 * ρ 8) (ρ 25) := And.right (zChA hc 11)
  have c8 : γ 8 = rUp (γ 7) 81 0 (4 * ρ 9 + 32 * ρ 8) (ρ 24) := And.right (zChA hc 10)
  have l0 : sn7 [ρ 0, ρ 1] (γ 0) 0 0 (γ 1) := hS7 _ _ _ _ _ (zAllA hl 0)
  have l1 : sn33 [ρ 8, ρ 9] (γ 1) 0 (ρ 9 + 8 * ρ 8) (γ 2) := hS33 _ _ _ _ _ (zAllA hl 1)
  have l2 : sn6 [ρ 18, ρ 1] (γ 3) 0 (ρ 19) (γ 4) := hS6 _ _ _ _ _ (zAllA hl 2)
  have l3 : ρ 19 ≠ 33 := zAllA hl 3
  have l4 : sn9 [ρ 19] (γ 4) 0 0 (γ 5) := hS9 _ _ _ _ _ (zAllA hl 4)
  have l5 : sn20 [0, ρ 18, ρ 1, ρ 2, ρ 3, ρ 20, ρ 16, ρ 13, ρ 14, ρ 15, ρ 8] (γ 5) 0 1 (γ 6) := hS20 _ _ _ _ _ (zAllA hl 5)
  have l6 : sn7 [ρ 21, ρ 1] (γ 8) 0 0 (γ 9) := hS7 _ _ _ _ _ (zAllA hl 6)
  have l7 : sn6 [ρ 28, ρ 1] (γ 9) 0 (ρ 29) (γ 10) := hS6 _ _ _ _ _ (zAllA hl 7)
  have l8 : sn9 [ρ 29] (γ 10) 0 1 (γ 11) := hS9 _ _ _ _ _ (zAllA hl 8)
  have l9 : sn12 [ρ 28, ρ 1, ρ 26, ρ 13, ρ 27] (γ 11) 0 1 (γ 12) := hS12 _ _ _ _ _ (zAllA hl 9)
  have l10 : sn13 [105, 115, 0, 0, 0, ρ 28, ρ 31] (γ 12) 0 1 (γ 13) := hS13 _ _ _ _ _ (zAllA hl 10)
  have l11 : sn18 [ρ 24, ρ 17] (γ 13) 0 0 (γ 14) := hS18 _ _ _ _ _ (zAllA hl 11)
  have l12 : sn34 [1, ρ 30, ρ 1, ρ 22, ρ 23, ρ 8, ρ 9, ρ 10, ρ 24, ρ 13, ρ 28, ρ 31, ρ 25, ρ 17] (γ 14) 0 1 (γ 15) := hS34 _ _ _ _ _ (zAllA hl 12)
  have l13 : sn7 [ρ 32, ρ 1] (γ 15) 0 0 (γ 16) := hS7 _ _ _ _ _ (zAllA hl 13)
  have l14 : sn6 [ρ 38, ρ 1] (γ 16) 0 (ρ 39) (γ 17) := hS6 _ _ _ _ _ (zAllA hl 14)
  have l15 : ρ 39 ≠ 43 := zAllA hl 15
  have l16 : ρ 39 ≠ 45 := zAllA hl 16
  have l17 : ρ 39 ≠ 42 := zAllA hl 17
  have l18 : sn8 [ρ 38, ρ 1, ρ 13] (γ 17) 0 0 (γ 18) := hS8 _ _ _ _ _ (zAllA hl 18)
  obtain ⟨wl_0, wl_1, wl_2, wl_3⟩ : (ρ 19 ≠ 33) ∧ (¬ (ρ 39 = 43)) ∧ (¬ (ρ 39 = 45)) ∧ (¬ (ρ 39 = 42)) := ⟨by omega, by omega, by omega, by omega⟩
  show sn42 [ρ 0, ρ 1, ρ 2, ρ 3, ρ 4, ρ 5, ρ 6, ρ 7, ρ 8, ρ 9, ρ 10, ρ 11, ρ 12, ρ 13, ρ 14, ρ 15, ρ 16, ρ 17] (γ 0) 0 0 (γ 18)
  refine Eq.symm ?_
  show fn42 [] (γ 0) = _
  unfold fn42
  refine zLE m1 (zLE m8 (zLE m9 (zLE m17 (zLE (show fn7 [] (γ 0) = (0, 0, γ 1) from l0.symm) (zLV (γ 1) rfl (zLE m18 (zLE (show fn33 [] (γ 1) = (0, ρ 9 + 8 * ρ 8, γ 2) from l1.symm) ?_)))))))
  refine zLV (γ 2) rfl (zLE c3.symm (zLE (show fn6 [ρ 18] (γ 3) = (0, ρ 19, γ 4) from l2.symm) (zLV (γ 4) rfl (zIP w_0 (zLV (ρ 19) rfl (zIP wl_0 (zLE (show fn9 [ρ 19] (γ 4) = (0, 0, γ 5) from l4.symm) ?_)))))))
  refine zLV (γ 5) rfl (zIN zQ0_ (zLE (show fn20 [0] (γ 5) = (0, 1, γ 6) from l5.symm) (zLV (γ 6) rfl (zIP zQ1_ (zLE m23 (zLE m24 (zLE c7.symm ?_)))))))
  refine zLE c8.symm (zLE (show fn7 [] (γ 8) = (0, 0, γ 9) from l6.symm) (zLV (γ 9) rfl (zLE m28 (zIN w_1 (zLE (show fn6 [ρ 28] (γ 9) = (0, ρ 29, γ 10) from l7.symm) (zLV (γ 10) rfl (zIP w_2 ?_)))))))
  refine zLV (ρ 29) rfl (zLE (show fn9 [ρ 29] (γ 10) = (0, 1, γ 11) from l8.symm) (zLV (γ 11) rfl (zIP zQ1_ (zLE (show fn12 [] (γ 11) = (0, 1, γ 12) from l9.symm) (zLV (γ 12) rfl (zIP zQ1_ (zLE (show fn13 [105, 115, 0, 0, 0] (γ 12) = (0, 1, γ 13) from l10.symm) ?_)))))))
  refine zLV (γ 13) rfl (zIP zQ1_ (zLE (show fn18 [ρ 24] (γ 13) = (0, 0, γ 14) from l11.symm) (zLV (γ 14) rfl (zIN zQ0_ (zLE (show fn34 [1] (γ 14) = (0, 1, γ 15) from l12.symm) (zLV (γ 15) rfl (zIP zQ1_ ?_)))))))
  refine zLE (show fn7 [] (γ 15) = (0, 0, γ 16) from l13.symm) (zLV (γ 16) rfl (zLE m41 (zLE (show fn6 [ρ 38] (γ 16) = (0, ρ 39, γ 17) from l14.symm) (zLV (γ 17) rfl (zIP w_3 (zLV (ρ 39) rfl (zIN wl_1 ?_)))))))
  refine zIN wl_2 (zIN wl_3 (zLE (show fn8 [ρ 38] (γ 17) = (0, 0, γ 18) from l18.symm) (zLV (γ 18) rfl ?_)))
  rfl
theorem vn42_15 {S : Nat → zSpc} (hS6 : zIm S 6 sn6) (hS7 : zIm S 7 sn7) (hS8 : zIm S 8 sn8) (hS9 : zIm S 9 sn9) (hS12 : zIm S 12 sn12) (hS13 : zIm S 13 sn13) (hS15 : zIm S 15 sn15) (hS18 : zIm S 18 sn18) (hS20 : zIm S 20 sn20) (hS23 : zIm S 23 sn23) (hS33 : zIm S 33 sn33) (hS34 : zIm S 34 sn34) (hS40 : zIm S 40 sn40) (hS41 : zIm S 41 sn41) {a : List Int} {g : rHp} : ∀ (ρ : Nat → Int) (γ : Nat → rHp), zO 18 S a g q42_15 ρ γ → zGl (fun _ _ _ => True) (sn42 a g) q42_15 ρ γ := by
  intro ρ γ h
  obtain ⟨ha, hg, hr, hf, hm, hc, hl⟩ := h
  have ha : a = [ρ 0, ρ 1, ρ 2, ρ 3, ρ 4, ρ 5, ρ 6, ρ 7, ρ 8, ρ 9, ρ 10, ρ 11, ρ 12, ρ 13, ρ 14, ρ 15, ρ 16, ρ 17] := ha
  subst ha
  subst hg
  have r19 : ((-128) : Int) ≤ ρ 19 ∧ ρ 19 ≤ 127 := zRnA hr 19
  have r25 : (1 : Int) ≤ ρ 25 ∧ ρ 25 ≤ 1 := zRnA hr 25
  have f2 : (0 : Int) ≤ ρ 38 + -ρ 1 := zAllA hf 2
  have f15 : (0 : Int) ≤ -ρ 28 + ρ 1 + (-1) := zAllA hf 15
  have f28 : (0 : Int) ≤ -ρ 18 + ρ 1 + (-1) := zAllA hf 28
  obtain ⟨w_0, w_1, w_2, w_3⟩ : (0 ≤ -ρ 18 + ρ 1 + (-1)) ∧ (¬ (ρ 25 ≠ 1)) ∧ (0 ≤ -ρ 28 + ρ 1 + (-1)) ∧ (¬ (0 ≤ -ρ 38 + ρ 1 + (-1))) := ⟨by omega, by omega, by omega, by omega⟩
  have m1 : γ 0 15 0 34 = ρ 1 := zAllA hm 1
  have m8 : γ 0 15 0 44 = ρ 8 := zAllA hm 8
  have m9 : γ 0 73 0 (ρ 8) = ρ 9 := zAllA hm 9
  have m17 : γ 0 15 0 45 = ρ 17 := zAllA hm 17
  have m18 : γ 1 15 0 35 = ρ 18 := zAllA hm 18
  have m23 : γ 6 15 0 39 = ρ 24 := zAllA hm 23
  have m24 : γ 6 15 0 40 = ρ 25 := zAllA hm 24
  have m28 : γ 9 15 0 35 = ρ 28 := zAllA hm 28
  have m41 : γ 16 15 0 35 = ρ 38 := zAllA hm 41
  have c3 : γ 3 = rUp (γ 2) 79 0 (ρ 9 + 8 * ρ 8) (ρ 17) := And.right (zChA hc 15)
  have c7 : γ 7 = rUp (γ 6) 80 0 (4 * ρ 9 + 32 * ρ 8) (ρ 25) := And.right (zChA hc 11)
  have c8 : γ 8 = rUp (γ 7) 81 0 (4 * ρ 9 + 32 * ρ 8) (ρ 24) := And.right (zChA hc 10)
  have l0 : sn7 [ρ 0, ρ 1] (γ 0) 0 0 (γ 1) := hS7 _ _ _ _ _ (zAllA hl 0)
  have l1 : sn33 [ρ 8, ρ 9] (γ 1) 0 (ρ 9 + 8 * ρ 8) (γ 2) := hS33 _ _ _ _ _ (zAllA hl 1)
  have l2 : sn6 [ρ 18, ρ 1] (γ 3) 0 (ρ 19) (γ 4) := hS6 _ _ _ _ _ (zAllA hl 2)
  have l3 : ρ 19 ≠ 33 := zAllA hl 3
  have l4 : sn9 [ρ 19] (γ 4) 0 0 (γ 5) := hS9 _ _ _ _ _ (zAllA hl 4)
  have l5 : sn20 [0, ρ 18, ρ 1, ρ 2, ρ 3, ρ 20, ρ 16, ρ 13, ρ 14, ρ 15, ρ 8] (γ 5) 0 1 (γ 6) := hS20 _ _ _ _ _ (zAllA hl 5)
  have l6 : sn7 [ρ 21, ρ 1] (γ 8) 0 0 (γ 9) := hS7 _ _ _ _ _ (zAllA hl 6)
  have l7 : sn6 [ρ 28, ρ 1] (γ 9) 0 (ρ 29) (γ 10) := hS6 _ _ _ _ _ (zAllA hl 7)
  have l8 : sn9 [ρ 29] (γ 10) 0 1 (γ 11) := hS9 _ _ _ _ _ (zAllA hl 8)
  have l9 : sn12 [ρ 28, ρ 1, ρ 26, ρ 13, ρ 27] (γ 11) 0 1 (γ 12) := hS12 _ _ _ _ _ (zAllA hl 9)
  have l10 : sn13 [105, 115, 0, 0, 0, ρ 28, ρ 31] (γ 12) 0 1 (γ 13) := hS13 _ _ _ _ _ (zAllA hl 10)
  have l11 : sn18 [ρ 24, ρ 17] (γ 13) 0 0 (γ 14) := hS18 _ _ _ _ _ (zAllA hl 11)
  have l12 : sn34 [1, ρ 30, ρ 1, ρ 22, ρ 23, ρ 8, ρ 9, ρ 10, ρ 24, ρ 13, ρ 28, ρ 31, ρ 25, ρ 17] (γ 14) 0 1 (γ 15) := hS34 _ _ _ _ _ (zAllA hl 12)
  have l13 : sn7 [ρ 32, ρ 1] (γ 15) 0 0 (γ 16) := hS7 _ _ _ _ _ (zAllA hl 13)
  have l14 : sn6 [ρ 38, ρ 1] (γ 16) 0 (-1) (γ 17) := hS6 _ _ _ _ _ (zAllA hl 14)
  have l15 : sn8 [ρ 38, ρ 1, ρ 13] (γ 17) 0 0 (γ 18) := hS8 _ _ _ _ _ (zAllA hl 15)
  have wl_0 : ρ 19 ≠ 33 := by omega
  show sn42 [ρ 0, ρ 1, ρ 2, ρ 3, ρ 4, ρ 5, ρ 6, ρ 7, ρ 8, ρ 9, ρ 10, ρ 11, ρ 12, ρ 13, ρ 14, ρ 15, ρ 16, ρ 17] (γ 0) 0 0 (γ 18)
  refine Eq.symm ?_
  show fn42 [] (γ 0) = _
  unfold fn42
  refine zLE m1 (zLE m8 (zLE m9 (zLE m17 (zLE (show fn7 [] (γ 0) = (0, 0, γ 1) from l0.symm) (zLV (γ 1) rfl (zLE m18 (zLE (show fn33 [] (γ 1) = (0, ρ 9 + 8 * ρ 8, γ 2) from l1.symm) ?_)))))))
  refine zLV (γ 2) rfl (zLE c3.symm (zLE (show fn6 [ρ 18] (γ 3) = (0, ρ 19, γ 4) from l2.symm) (zLV (γ 4) rfl (zIP w_0 (zLV (ρ 19) rfl (zIP wl_0 (zLE (show fn9 [ρ 19] (γ 4) = (0, 0, γ 5) from l4.symm) ?_)))))))
  refine zLV (γ 5) rfl (zIN zQ0_ (zLE (show fn20 [0] (γ 5) = (0, 1, γ 6) from l5.symm) (zLV (γ 6) rfl (zIP zQ1_ (zLE m23 (zLE m24 (zLE c7.symm ?_)))))))
  refine zLE c8.symm (zLE (show fn7 [] (γ 8) = (0, 0, γ 9) from l6.symm) (zLV (γ 9) rfl (zLE m28 (zIN w_1 (zLE (show fn6 [ρ 28] (γ 9) = (0, ρ 29, γ 10) from l7.symm) (zLV (γ 10) rfl (zIP w_2 ?_)))))))
  refine zLV (ρ 29) rfl (zLE (show fn9 [ρ 29] (γ 10) = (0, 1, γ 11) from l8.symm) (zLV (γ 11) rfl (zIP zQ1_ (zLE (show fn12 [] (γ 11) = (0, 1, γ 12) from l9.symm) (zLV (γ 12) rfl (zIP zQ1_ (zLE (show fn13 [105, 115, 0, 0, 0] (γ 12) = (0, 1, γ 13) from l10.symm) ?_)))))))
  refine zLV (γ 13) rfl (zIP zQ1_ (zLE (show fn18 [ρ 24] (γ 13) = (0, 0, γ 14) from l11.symm) (zLV (γ 14) rfl (zIN zQ0_ (zLE (show fn34 [1] (γ 14) = (0, 1, γ 15) from l12.symm) (zLV (γ 15) rfl (zIP zQ1_ ?_)))))))
  refine zLE (show fn7 [] (γ 15) = (0, 0, γ 16) from l13.symm) (zLV (γ 16) rfl (zLE m41 (zLE (show fn6 [ρ 38] (γ 16) = (0, (-1), γ 17) from l14.symm) (zLV (γ 17) rfl (zIN w_3 (zLE (show fn8 [ρ 38] (γ 17) = (0, 0, γ 18) from l15.symm) (zLV (γ 18) rfl ?_)))))))
  rfl
theorem vn42_16 {S : Nat → zSpc} (hS6 : zIm S 6 sn6) (hS7 : zIm S 7 sn7) (hS8 : zIm S 8 sn8) (hS9 : zIm S 9 sn9) (hS12 : zIm S 12 sn12) (hS13 : zIm S 13 sn13) (hS15 : zIm S 15 sn15) (hS18 : zIm S 18 sn18) (hS20 : zIm S 20 sn20) (hS23 : zIm S 23 sn23) (hS33 : zIm S 33 sn33) (hS34 : zIm S 34 sn34) (hS40 : zIm S 40 sn40) (hS41 : zIm S 41 sn41) {a : List Int} {g : rHp} : ∀ (ρ : Nat → Int) (γ : Nat → rHp), zO 18 S a g q42_16 ρ γ → zGl (fun _ _ _ => True) (sn42 a g) q42_16 ρ γ := by
  intro ρ γ h
  obtain ⟨ha, hg, hr, hf, hm, hc, hl⟩ := h
  have ha : a = [ρ 0, ρ 1, ρ 2, ρ 3, ρ 4, ρ 5, ρ 6, ρ 7, ρ 8, ρ 9, ρ 10, ρ 11, ρ 12, ρ 13, ρ 14, ρ 15, ρ 16, ρ 17] := ha
  subst ha
  subst hg
  have r19 : ((-128) : Int) ≤ ρ 19 ∧ ρ 19 ≤ 127 := zRnA hr 19
  have r25 : (1 : Int) ≤ ρ 25 ∧ ρ 25 ≤ 1 := zRnA hr 25
  have f2 : (0 : Int) ≤ -ρ 28 + ρ 1 + (-1) := zAllA hf 2
  have f16 : (0 : Int) ≤ -ρ 18 + ρ 1 + (-1) := zAllA hf 16
  obtain ⟨w_0, w_1, w_2⟩ : (0 ≤ -ρ 18 + ρ 1 + (-1)) ∧ (¬ (ρ 25 ≠ 1)) ∧ (0 ≤ -ρ 28 + ρ 1 + (-1)) := ⟨by omega, by omega, by omega⟩
  have m1 : γ 0 15 0 34 = ρ 1 := zAllA hm 1
  have m8 : γ 0 15 0 44 = ρ 8 := zAllA hm 8
  have m9 : γ 0 73 0 (ρ 8) = ρ 9 := zAllA hm 9
  have m17 : γ 0 15 0 45 = ρ 17 := zAllA hm 17
  have m18 : γ 1 15 0 35 = ρ 18 := zAllA hm 18
  have m23 : γ 6 15 0 39 = ρ 24 := zAllA hm 23
  have m24 : γ 6 15 0 40 = ρ 25 := zAllA hm 24
  have m28 : γ 9 15 0 35 = ρ 28 := zAllA hm 28
  have c3 : γ 3 = rUp (γ 2) 79 0 (ρ 9 + 8 * ρ 8) (ρ 17) := And.right (zChA hc 12)
  have c7 : γ 7 = rUp (γ 6) 80 0 (4 * ρ 9 + 32 * ρ 8) (ρ 25) := And.right (zChA hc 8)
  have c8 : γ 8 = rUp (γ 7) 81 0 (4 * ρ 9 + 32 * ρ 8) (ρ 24) := And.right (zChA hc 7)
  have l0 : sn7 [ρ 0, ρ 1] (γ 0) 0 0 (γ 1) := hS7 _ _ _ _ _ (zAllA hl 0)
  have l1 : sn33 [ρ 8, ρ 9] (γ 1) 0 (ρ 9 + 8 * ρ 8) (γ 2) := hS33 _ _ _ _ _ (zAllA hl 1)
  have l2 : sn6 [ρ 18, ρ 1] (γ 3) 0 (ρ 19) (γ 4) := hS6 _ _ _ _ _ (zAllA hl 2)
  have l3 : ρ 19 ≠ 33 := zAllA hl 3
  have l4 : sn9 [ρ 19] (γ 4) 0 0 (γ 5) := hS9 _ _ _ _ _ (zAllA hl 4)
  have l5 : sn20 [0, ρ 18, ρ 1, ρ 2, ρ 3, ρ 20, ρ 16, ρ 13, ρ 14, ρ 15, ρ 8] (γ 5) 0 1 (γ 6) := hS20 _ _ _ _ _ (zAllA hl 5)
  have l6 : sn7 [ρ 21, ρ 1] (γ 8) 0 0 (γ 9) := hS7 _ _ _ _ _ (zAllA hl 6)
  have l7 : sn6 [ρ 28, ρ 1] (γ 9) 0 (ρ 29) (γ 10) := hS6 _ _ _ _ _ (zAllA hl 7)
  have l8 : sn9 [ρ 29] (γ 10) 0 1 (γ 11) := hS9 _ _ _ _ _ (zAllA hl 8)
  have l9 : sn12 [ρ 28, ρ 1, ρ 26, ρ 13, ρ 27] (γ 11) 0 1 (γ 12) := hS12 _ _ _ _ _ (zAllA hl 9)
  have l10 : sn13 [105, 115, 0, 0, 0, ρ 28, ρ 31] (γ 12) 0 1 (γ 13) := hS13 _ _ _ _ _ (zAllA hl 10)
  have l11 : sn18 [ρ 24, ρ 17] (γ 13) 0 1 (γ 14) := hS18 _ _ _ _ _ (zAllA hl 11)
  have l12 : sn8 [ρ 18, ρ 1, ρ 13] (γ 14) 0 0 (γ 15) := hS8 _ _ _ _ _ (zAllA hl 12)
  have wl_0 : ρ 19 ≠ 33 := by omega
  show sn42 [ρ 0, ρ 1, ρ 2, ρ 3, ρ 4, ρ 5, ρ 6, ρ 7, ρ 8, ρ 9, ρ 10, ρ 11, ρ 12, ρ 13, ρ 14, ρ 15, ρ 16, ρ 17] (γ 0) 0 0 (γ 15)
  refine Eq.symm ?_
  show fn42 [] (γ 0) = _
  unfold fn42
  refine zLE m1 (zLE m8 (zLE m9 (zLE m17 (zLE (show fn7 [] (γ 0) = (0, 0, γ 1) from l0.symm) (zLV (γ 1) rfl (zLE m18 (zLE (show fn33 [] (γ 1) = (0, ρ 9 + 8 * ρ 8, γ 2) from l1.symm) ?_)))))))
  refine zLV (γ 2) rfl (zLE c3.symm (zLE (show fn6 [ρ 18] (γ 3) = (0, ρ 19, γ 4) from l2.symm) (zLV (γ 4) rfl (zIP w_0 (zLV (ρ 19) rfl (zIP wl_0 (zLE (show fn9 [ρ 19] (γ 4) = (0, 0, γ 5) from l4.symm) ?_)))))))
  refine zLV (γ 5) rfl (zIN zQ0_ (zLE (show fn20 [0] (γ 5) = (0, 1, γ 6) from l5.symm) (zLV (γ 6) rfl (zIP zQ1_ (zLE m23 (zLE m24 (zLE c7.symm ?_)))))))
  refine zLE c8.symm (zLE (show fn7 [] (γ 8) = (0, 0, γ 9) from l6.symm) (zLV (γ 9) rfl (zLE m28 (zIN w_1 (zLE (show fn6 [ρ 28] (γ 9) = (0, ρ 29, γ 10) from l7.symm) (zLV (γ 10) rfl (zIP w_2 ?_)))))))
  refine zLV (ρ 29) rfl (zLE (show fn9 [ρ 29] (γ 10) = (0, 1, γ 11) from l8.symm) (zLV (γ 11) rfl (zIP zQ1_ (zLE (show fn12 [] (γ 11) = (0, 1, γ 12) from l9.symm) (zLV (γ 12) rfl (zIP zQ1_ (zLE (show fn13 [105, 115, 0, 0, 0] (γ 12) = (0, 1, γ 13) from l10.symm) ?_)))))))
  refine zLV (γ 13) rfl (zIP zQ1_ (zLE (show fn18 [ρ 24] (γ 13) = (0, 1, γ 14) from l11.symm) (zLV (γ 14) rfl (zIP zQ1_ (zLE (show fn8 [ρ 18] (γ 14) = (0, 0, γ 15) from l12.symm) (zLV (γ 15) rfl ?_))))))
  rfl
theorem vn42_17 {S : Nat → zSpc} (hS6 : zIm S 6 sn6) (hS7 : zIm S 7 sn7) (hS8 : zIm S 8 sn8) (hS9 : zIm S 9 sn9) (hS12 : zIm S 12 sn12) (hS13 : zIm S 13 sn13) (hS15 : zIm S 15 sn15) (hS18 : zIm S 18 sn18) (hS20 : zIm S 20 sn20) (hS23 : zIm S 23 sn23) (hS33 : zIm S 33 sn33) (hS34 : zIm S 34 sn34) (hS40 : zIm S 40 sn40) (hS41 : zIm S 41 sn41) {a : List Int} {g : rHp} : ∀ (ρ : Nat → Int) (γ : Nat → rHp), zO 18 S a g q42_17 ρ γ → zGl (fun _ _ _ => True) (sn42 a g) q42_17 ρ γ := by
  intro ρ γ h
  obtain ⟨ha, hg, hr, hf, hm, hc, hl⟩ := h
  have ha : a = [ρ 0, ρ 1, ρ 2, ρ 3, ρ 4, ρ 5, ρ 6, ρ 7, ρ 8, ρ 9, ρ 10, ρ 11, ρ 12, ρ 13, ρ 14, ρ 15, ρ 16, ρ 17] := ha
  subst ha
  subst hg
  have r19 : ((-128) : Int) ≤ ρ 19 ∧ ρ 19 ≤ 127 := zRnA hr 19
  have r25 : (1 : Int) ≤ ρ 25 ∧ ρ 25 ≤ 1 := zRnA hr 25
  have f12 : (0 : Int) ≤ ρ 28 + -ρ 1 := zAllA hf 12
  have f21 : (0 : Int) ≤ -ρ 18 + ρ 1 + (-1) := zAllA hf 21
  obtain ⟨w_0, w_1, w_2⟩ : (0 ≤ -ρ 18 + ρ 1 + (-1)) ∧ (¬ (ρ 25 ≠ 1)) ∧ (¬ (0 ≤ -ρ 28 + ρ 1 + (-1))) := ⟨by omega, by omega, by omega⟩
  have m1 : γ 0 15 0 34 = ρ 1 := zAllA hm 1
  have m8 : γ 0 15 0 44 = ρ 8 := zAllA hm 8
  have m9 : γ 0 73 0 (ρ 8) = ρ 9 := zAllA hm 9
  have m17 : γ 0 15 0 45 = ρ 17 := zAllA hm 17
  have m18 : γ 1 15 0 35 = ρ 18 := zAllA hm 18
  have m23 : γ 6 15 0 39 = ρ 24 := zAllA hm 23
  have m24 : γ 6 15 0 40 = ρ 25 := zAllA hm 24
  have m28 : γ 9 15 0 35 = ρ 28 := zAllA hm 28
  have c3 : γ 3 = rUp (γ 2) 79 0 (ρ 9 + 8 * ρ 8) (ρ 17) := And.right (zChA hc 9)
  have c7 : γ 7 = rUp (γ 6) 80 0 (4 * ρ 9 + 32 * ρ 8) (ρ 25) := And.right (zChA hc 5)
  have c8 : γ 8 = rUp (γ 7) 81 0 (4 * ρ 9 + 32 * ρ 8) (ρ 24) := And.right (zChA hc 4)
  have l0 : sn7 [ρ 0, ρ 1] (γ 0) 0 0 (γ 1) := hS7 _ _ _ _ _ (zAllA hl 0)
  have l1 : sn33 [ρ 8, ρ 9] (γ 1) 0 (ρ 9 + 8 * ρ 8) (γ 2) := hS33 _ _ _ _ _ (zAllA hl 1)
  have l2 : sn6 [ρ 18, ρ 1] (γ 3) 0 (ρ 19) (γ 4) := hS6 _ _ _ _ _ (zAllA hl 2)
  have l3 : ρ 19 ≠ 33 := zAllA hl 3
  have l4 : sn9 [ρ 19] (γ 4) 0 0 (γ 5) := hS9 _ _ _ _ _ (zAllA hl 4)
  have l5 : sn20 [0, ρ 18, ρ 1, ρ 2, ρ 3, ρ 20, ρ 16, ρ 13, ρ 14, ρ 15, ρ 8] (γ 5) 0 1 (γ 6) := hS20 _ _ _ _ _ (zAllA hl 5)
  have l6 : sn7 [ρ 21, ρ 1] (γ 8) 0 0 (γ 9) := hS7 _ _ _ _ _ (zAllA hl 6)
  have l7 : sn6 [ρ 28, ρ 1] (γ 9) 0 (-1) (γ 10) := hS6 _ _ _ _ _ (zAllA hl 7)
  have l8 : sn9 [(-1)] (γ 10) 0 0 (γ 11) := hS9 _ _ _ _ _ (zAllA hl 8)
  have l9 : sn40 [ρ 18, ρ 28, ρ 1, ρ 22, ρ 23, ρ 6, ρ 7, ρ 8, ρ 9, ρ 10, ρ 24, ρ 13, ρ 26, ρ 27, ρ 25, ρ 17] (γ 11) 0 0 (γ 12) := hS40 _ _ _ _ _ (zAllA hl 9)
  have wl_0 : ρ 19 ≠ 33 := by omega
  show sn42 [ρ 0, ρ 1, ρ 2, ρ 3, ρ 4, ρ 5, ρ 6, ρ 7, ρ 8, ρ 9, ρ 10, ρ 11, ρ 12, ρ 13, ρ 14, ρ 15, ρ 16, ρ 17] (γ 0) 0 0 (γ 12)
  refine Eq.symm ?_
  show fn42 [] (γ 0) = _
  unfold fn42
  refine zLE m1 (zLE m8 (zLE m9 (zLE m17 (zLE (show fn7 [] (γ 0) = (0, 0, γ 1) from l0.symm) (zLV (γ 1) rfl (zLE m18 (zLE (show fn33 [] (γ 1) = (0, ρ 9 + 8 * ρ 8, γ 2) from l1.symm) ?_)))))))
  refine zLV (γ 2) rfl (zLE c3.symm (zLE (show fn6 [ρ 18] (γ 3) = (0, ρ 19, γ 4) from l2.symm) (zLV (γ 4) rfl (zIP w_0 (zLV (ρ 19) rfl (zIP wl_0 (zLE (show fn9 [ρ 19] (γ 4) = (0, 0, γ 5) from l4.symm) ?_)))))))
  refine zLV (γ 5) rfl (zIN zQ0_ (zLE (show fn20 [0] (γ 5) = (0, 1, γ 6) from l5.symm) (zLV (γ 6) rfl (zIP zQ1_ (zLE m23 (zLE m24 (zLE c7.symm ?_)))))))
  refine zLE c8.symm (zLE (show fn7 [] (γ 8) = (0, 0, γ 9) from l6.symm) (zLV (γ 9) rfl (zLE m28 (zIN w_1 (zLE (show fn6 [ρ 28] (γ 9) = (0, (-1), γ 10) from l7.symm) (zLV (γ 10) rfl (zIN w_2 ?_)))))))
  refine zLE (show fn9 [(-1)] (γ 10) = (0, 0, γ 11) from l8.symm) (zLV (γ 11) rfl (zLE (show fn40 [ρ 18] (γ 11) = (0, 0, γ 12) from l9.symm) (zLV (γ 12) rfl ?_)))
  rfl
theorem vn42_18 {S : Nat → zSpc} (hS6 : zIm S 6 sn6) (hS7 : zIm S 7 sn7) (hS8 : zIm S 8 sn8) (hS9 : zIm S 9 sn9) (hS12 : zIm S 12 sn12) (hS13 : zIm S 13 sn13) (hS15 : zIm S 15 sn15) (hS18 : zIm S 18 sn18) (hS20 : zIm S 20 sn20) (hS23 : zIm S 23 sn23) (hS33 : zIm S 33 sn33) (hS34 : zIm S 34 sn34) (hS40 : zIm S 40 sn40) (hS41 : zIm S 41 sn41) {a : List Int} {g : rHp} : ∀ (ρ : Nat → Int) (γ : Nat → rHp), zO 18 S a g q42_18 ρ γ → zGl (fun _ _ _ => True) (sn42 a g) q42_18 ρ γ := by
  intro ρ γ h
  obtain ⟨ha, hg, hr, hf, hm, hc, hl⟩ := h
  have ha : a = [ρ 0, ρ 1, ρ 2, ρ 3, ρ 4, ρ 5, ρ 6, ρ 7, ρ 8, ρ 9, ρ 10, ρ 11, ρ 12, ρ 13, ρ 14, ρ 15, ρ 16, ρ 17] := ha
  subst ha
  subst hg
  have r19 : (97 : Int) ≤ ρ 19 ∧ ρ 19 ≤ 122 := zRnA hr 19
  have f0 : (0 : Int) ≤ -ρ 18 + ρ 1 + (-1) := zAllA hf 0
  obtain ⟨w_0, w_1⟩ : (0 ≤ -ρ 18 + ρ 1 + (-1)) ∧ (ρ 19 ≠ 33) := ⟨by omega, by omega⟩
  have m1 : γ 0 15 0 34 = ρ 1 := zAllA hm 1
  have m8 : γ 0 15 0 44 = ρ 8 := zAllA hm 8
  have m9 : γ 0 73 0 (ρ 8) = ρ 9 := zAllA hm 9
  have m17 : γ 0 15 0 45 = ρ 17 := zAllA hm 17
  have m18 : γ 1 15 0 35 = ρ 18 := zAllA hm 18
  have c3 : γ 3 = rUp (γ 2) 79 0 (ρ 9 + 8 * ρ 8) (ρ 17) := And.right (zChA hc 3)
  have l0 : sn7 [ρ 0, ρ 1] (γ 0) 0 0 (γ 1) := hS7 _ _ _ _ _ (zAllA hl 0)
  have l1 : sn33 [ρ 8, ρ 9] (γ 1) 0 (ρ 9 + 8 * ρ 8) (γ 2) := hS33 _ _ _ _ _ (zAllA hl 1)
  have l2 : sn6 [ρ 18, ρ 1] (γ 3) 0 (ρ 19) (γ 4) := hS6 _ _ _ _ _ (zAllA hl 2)
  have l3 : ρ 19 ≠ 33 := zAllA hl 3
  have l4 : sn9 [ρ 19] (γ 4) 0 1 (γ 5) := hS9 _ _ _ _ _ (zAllA hl 4)
  have l5 : sn12 [ρ 18, ρ 1, ρ 14, ρ 13, ρ 15] (γ 5) 0 0 (γ 6) := hS12 _ _ _ _ _ (zAllA hl 5)
  show sn42 [ρ 0, ρ 1, ρ 2, ρ 3, ρ 4, ρ 5, ρ 6, ρ 7, ρ 8, ρ 9, ρ 10, ρ 11, ρ 12, ρ 13, ρ 14, ρ 15, ρ 16, ρ 17] (γ 0) 0 0 (γ 6)
  refine Eq.symm ?_
  show fn42 [] (γ 0) = _
  unfold fn42
  refine zLE m1 (zLE m8 (zLE m9 (zLE m17 (zLE (show fn7 [] (γ 0) = (0, 0, γ 1) from l0.symm) (zLV (γ 1) rfl (zLE m18 (zLE (show fn33 [] (γ 1) = (0, ρ 9 + 8 * ρ 8, γ 2) from l1.symm) ?_)))))))
  refine zLV (γ 2) rfl (zLE c3.symm (zLE (show fn6 [ρ 18] (γ 3) = (0, ρ 19, γ 4) from l2.symm) (zLV (γ 4) rfl (zIP w_0 (zLV (ρ 19) rfl (zIP w_1 (zLE (show fn9 [ρ 19] (γ 4) = (0, 1, γ 5) from l4.symm) ?_)))))))
  refine zLV (γ 5) rfl (zIP zQ1_ (zLE (show fn12 [] (γ 5) = (0, 0, γ 6) from l5.symm) (zLV (γ 6) rfl (zIN zQ0_ ?_))))
  rfl
theorem vn42_19 {S : Nat → zSpc} (hS6 : zIm S 6 sn6) (hS7 : zIm S 7 sn7) (hS8 : zIm S 8 sn8) (hS9 : zIm S 9 sn9) (hS12 : zIm S 12 sn12) (hS13 : zIm S 13 sn13) (hS15 : zIm S 15 sn15) (hS18 : zIm S 18 sn18) (hS20 : zIm S 20 sn20) (hS23 : zIm S 23 sn23) (hS33 : zIm S 33 sn33) (hS34 : zIm S 34 sn34) (hS40 : zIm S 40 sn40) (hS41 : zIm S 41 sn41) {a : List Int} {g : rHp} : ∀ (ρ : Nat → Int) (γ : Nat → rHp), zO 18 S a g q42_19 ρ γ → zGl (fun _ _ _ => True) (sn42 a g) q42_19 ρ γ := by
  intro ρ γ h
  obtain ⟨ha, hg, hr, hf, hm, hc, hl⟩ := h
  have ha : a = [ρ 0, ρ 1, ρ 2, ρ 3, ρ 4, ρ 5, ρ 6, ρ 7, ρ 8, ρ 9, ρ 10, ρ 11, ρ 12, ρ 13, ρ 14, ρ 15, ρ 16, ρ 17] := ha
  subst ha
  subst hg
  have r19 : (97 : Int) ≤ ρ 19 ∧ ρ 19 ≤ 122 := zRnA hr 19
  have r23 : ((-128) : Int) ≤ ρ 23 ∧ ρ 23 ≤ 127 := zRnA hr 23
  have f21 : (0 : Int) ≤ -ρ 22 + ρ 1 + (-1) := zAllA hf 21
  have f24 : (0 : Int) ≤ -ρ 18 + ρ 1 + (-1) := zAllA hf 24
  obtain ⟨w_0, w_1, w_2⟩ : (0 ≤ -ρ 18 + ρ 1 + (-1)) ∧ (ρ 19 ≠ 33) ∧ (0 ≤ -ρ 22 + ρ 1 + (-1)) := ⟨by omega, by omega, by omega⟩
  have m1 : γ 0 15 0 34 = ρ 1 := zAllA hm 1
  have m8 : γ 0 15 0 44 = ρ 8 := zAllA hm 8
  have m9 : γ 0 73 0 (ρ 8) = ρ 9 := zAllA hm 9
  have m17 : γ 0 15 0 45 = ρ 17 := zAllA hm 17
  have m18 : γ 1 15 0 35 = ρ 18 := zAllA hm 18
  have m23 : γ 7 15 0 35 = ρ 22 := zAllA hm 23
  have c3 : γ 3 = rUp (γ 2) 79 0 (ρ 9 + 8 * ρ 8) (ρ 17) := And.right (zChA hc 12)
  have c10 : γ 10 = rUp (γ 9) 15 0 39 (ρ 24) := And.right (zChA hc 5)
  have c11 : γ 11 = rUp (γ 10) 15 0 40 0 := And.right (zChA hc 4)
  have c12 : γ 12 = rUp (γ 11) 80 0 (4 * ρ 9 + 32 * ρ 8) 0 := And.right (zChA hc 3)
  have c13 : γ 13 = rUp (γ 12) 81 0 (4 * ρ 9 + 32 * ρ 8) (ρ 24) := And.right (zChA hc 2)
  have l0 : sn7 [ρ 0, ρ 1] (γ 0) 0 0 (γ 1) := hS7 _ _ _ _ _ (zAllA hl 0)
  have l1 : sn33 [ρ 8, ρ 9] (γ 1) 0 (ρ 9 + 8 * ρ 8) (γ 2) := hS33 _ _ _ _ _ (zAllA hl 1)
  have l2 : sn6 [ρ 18, ρ 1] (γ 3) 0 (ρ 19) (γ 4) := hS6 _ _ _ _ _ (zAllA hl 2)
  have l3 : ρ 19 ≠ 33 := zAllA hl 3
  have l4 : sn9 [ρ 19] (γ 4) 0 1 (γ 5) := hS9 _ _ _ _ _ (zAllA hl 4)
  have l5 : sn12 [ρ 18, ρ 1, ρ 14, ρ 13, ρ 15] (γ 5) 0 1 (γ 6) := hS12 _ _ _ _ _ (zAllA hl 5)
  have l6 : sn7 [ρ 20, ρ 1] (γ 6) 0 0 (γ 7) := hS7 _ _ _ _ _ (zAllA hl 6)
  have l7 : sn6 [ρ 22, ρ 1] (γ 7) 0 (ρ 23) (γ 8) := hS6 _ _ _ _ _ (zAllA hl 7)
  have l8 : ρ 23 ≠ 40 := zAllA hl 8
  have l9 : sn15 [ρ 1, ρ 2, ρ 3, ρ 18, ρ 21] (γ 8) 0 (ρ 24) (γ 9) := hS15 _ _ _ _ _ (zAllA hl 9)
  have l10 : sn7 [ρ 22, ρ 1] (γ 13) 0 0 (γ 14) := hS7 _ _ _ _ _ (zAllA hl 10)
  have l11 : sn40 [ρ 18, ρ 27, ρ 1, ρ 25, ρ 26, ρ 6, ρ 7, ρ 8, ρ 9, ρ 10, ρ 24, ρ 13, ρ 18, ρ 21, 0, ρ 17] (γ 14) 0 0 (γ 15) := hS40 _ _ _ _ _ (zAllA hl 11)
  have wl_0 : ρ 23 ≠ 40 := by omega
  show sn42 [ρ 0, ρ 1, ρ 2, ρ 3, ρ 4, ρ 5, ρ 6, ρ 7, ρ 8, ρ 9, ρ 10, ρ 11, ρ 12, ρ 13, ρ 14, ρ 15, ρ 16, ρ 17] (γ 0) 0 0 (γ 15)
  refine Eq.symm ?_
  show fn42 [] (γ 0) = _
  unfold fn42
  refine zLE m1 (zLE m8 (zLE m9 (zLE m17 (zLE (show fn7 [] (γ 0) = (0, 0, γ 1) from l0.symm) (zLV (γ 1) rfl (zLE m18 (zLE (show fn33 [] (γ 1) = (0, ρ 9 + 8 * ρ 8, γ 2) from l1.symm) ?_)))))))
  refine zLV (γ 2) rfl (zLE c3.symm (zLE (show fn6 [ρ 18] (γ 3) = (0, ρ 19, γ 4) from l2.symm) (zLV (γ 4) rfl (zIP w_0 (zLV (ρ 19) rfl (zIP w_1 (zLE (show fn9 [ρ 19] (γ 4) = (0, 1, γ 5) from l4.symm) ?_)))))))
  refine zLV (γ 5) rfl (zIP zQ1_ (zLE (show fn12 [] (γ 5) = (0, 1, γ 6) from l5.symm) (zLV (γ 6) rfl (zIP zQ1_ (zLE (show fn7 [] (γ 6) = (0, 0, γ 7) from l6.symm) (zLV (γ 7) rfl (zLE m23 ?_)))))))
  refine zLE (show fn6 [ρ 22] (γ 7) = (0, ρ 23, γ 8) from l7.symm) (zLV (γ 8) rfl (zIP w_2 (zLV (ρ 23) rfl (zIP wl_0 (zLE (show fn15 [] (γ 8) = (0, ρ 24, γ 9) from l9.symm) (zLV (γ 9) rfl (zLV (ρ 24) rfl ?_)))))))
  refine zLE c10.symm (zLE c11.symm (zLE c12.symm (zLE c13.symm (zLE (show fn7 [] (γ 13) = (0, 0, γ 14) from l10.symm) (zLV (γ 14) rfl (zLE (show fn40 [ρ 18] (γ 14) = (0, 0, γ 15) from l11.symm) (zLV (γ 15) rfl ?_)))))))
  refine zIN zQ0_ ?_
  rfl
theorem vn42_20 {S : Nat → zSpc} (hS6 : zIm S 6 sn6) (hS7 : zIm S 7 sn7) (hS8 : zIm S 8 sn8) (hS9 : zIm S 9 sn9) (hS12 : zIm S 12 sn12) (hS13 : zIm S 13 sn13) (hS15 : zIm S 15 sn15) (hS18 : zIm S 18 sn18) (hS20 : zIm S 20 sn20) (hS23 : zIm S 23 sn23) (hS33 : zIm S 33 sn33) (hS34 : zIm S 34 sn34) (hS40 : zIm S 40 sn40) (hS41 : zIm S 41 sn41) {a : List Int} {g : rHp} : ∀ (ρ : Nat → Int) (γ : Nat → rHp), zO 18 S a g q42_20 ρ γ → zGl (fun _ _ _ => True) (sn42 a g) q42_20 ρ γ := by
  intro ρ γ h
  obtain ⟨ha, hg, hr, hf, hm, hc, hl⟩ := h
  have ha : a = [ρ 0, ρ 1, ρ 2, ρ 3, ρ 4, ρ 5, ρ 6, ρ 7, ρ 8, ρ 9, ρ 10, ρ 11, ρ 12, ρ 13, ρ 14, ρ 15, ρ 16, ρ 17] := ha
  subst ha
  subst hg
  have r19 : (97 : Int) ≤ ρ 19 ∧ ρ 19 ≤ 122 := zRnA hr 19
  have r23 : ((-128) : Int) ≤ ρ 23 ∧ ρ 23 ≤ 127 := zRnA hr 23
  have f22 : (0 : Int) ≤ -ρ 22 + ρ 1 + (-1) := zAllA hf 22
  have f25 : (0 : Int) ≤ -ρ 18 + ρ 1 + (-1) := zAllA hf 25
  obtain ⟨w_0, w_1, w_2⟩ : (0 ≤ -ρ 18 + ρ 1 + (-1)) ∧ (ρ 19 ≠ 33) ∧ (0 ≤ -ρ 22 + ρ 1 + (-1)) := ⟨by omega, by omega, by omega⟩
  have m1 : γ 0 15 0 34 = ρ 1 := zAllA hm 1
  have m8 : γ 0 15 0 44 = ρ 8 := zAllA hm 8
  have m9 : γ 0 73 0 (ρ 8) = ρ 9 := zAllA hm 9
  have m17 : γ 0 15 0 45 = ρ 17 := zAllA hm 17
  have m18 : γ 1 15 0 35 = ρ 18 := zAllA hm 18
  have m23 : γ 7 15 0 35 = ρ 22 := zAllA hm 23
  have c3 : γ 3 = rUp (γ 2) 79 0 (ρ 9 + 8 * ρ 8) (ρ 17) := And.right (zChA hc 12)
  have c10 : γ 10 = rUp (γ 9) 15 0 39 (ρ 24) := And.right (zChA hc 5)
  have c11 : γ 11 = rUp (γ 10) 15 0 40 0 := And.right (zChA hc 4)
  have c12 : γ 12 = rUp (γ 11) 80 0 (4 * ρ 9 + 32 * ρ 8) 0 := And.right (zChA hc 3)
  have c13 : γ 13 = rUp (γ 12) 81 0 (4 * ρ 9 + 32 * ρ 8) (ρ 24) := And.right (zChA hc 2)
  have l0 : sn7 [ρ 0, ρ 1] (γ 0) 0 0 (γ 1) := hS7 _ _ _ _ _ (zAllA hl 0)
  have l1 : sn33 [ρ 8, ρ 9] (γ 1) 0 (ρ 9 + 8 * ρ 8) (γ 2) := hS33 _ _ _ _ _ (zAllA hl 1)
  have l2 : sn6 [ρ 18, ρ 1] (γ 3) 0 (ρ 19) (γ 4) := hS6 _ _ _ _ _ (zAllA hl 2)
  have l3 : ρ 19 ≠ 33 := zAllA hl 3
  have l4 : sn9 [ρ 19] (γ 4) 0 1 (γ 5) := hS9 _ _ _ _ _ (zAllA hl 4)
  have l5 : sn12 [ρ 18, ρ 1, ρ 14, ρ 13, ρ 15] (γ 5) 0 1 (γ 6) := hS12 _ _ _ _ _ (zAllA hl 5)
  have l6 : sn7 [ρ 20, ρ 1] (γ 6) 0 0 (γ 7) := hS7 _ _ _ _ _ (zAllA hl 6)
  have l7 : sn6 [ρ 22, ρ 1] (γ 7) 0 (ρ 23) (γ 8) := hS6 _ _ _ _ _ (zAllA hl 7)
  have l8 : ρ 23 ≠ 40 := zAllA hl 8
  have l9 : sn15 [ρ 1, ρ 2, ρ 3, ρ 18, ρ 21] (γ 8) 0 (ρ 24) (γ 9) := hS15 _ _ _ _ _ (zAllA hl 9)
  have l10 : sn7 [ρ 22, ρ 1] (γ 13) 0 0 (γ 14) := hS7 _ _ _ _ _ (zAllA hl 10)
  have l11 : sn40 [ρ 18, ρ 27, ρ 1, ρ 25, ρ 26, ρ 6, ρ 7, ρ 8, ρ 9, ρ 10, ρ 24, ρ 13, ρ 18, ρ 21, 0, ρ 17] (γ 14) 0 1 (γ 15) := hS40 _ _ _ _ _ (zAllA hl 11)
  have wl_0 : ρ 23 ≠ 40 := by omega
  show sn42 [ρ 0, ρ 1, ρ 2, ρ 3, ρ 4, ρ 5, ρ 6, ρ 7, ρ 8, ρ 9, ρ 10, ρ 11, ρ 12, ρ 13, ρ 14, ρ 15, ρ 16, ρ 17] (γ 0) 0 1 (γ 15)
  refine Eq.symm ?_
  show fn42 [] (γ 0) = _
  unfold fn42
  refine zLE m1 (zLE m8 (zLE m9 (zLE m17 (zLE (show fn7 [] (γ 0) = (0, 0, γ 1) from l0.symm) (zLV (γ 1) rfl (zLE m18 (zLE (show fn33 [] (γ 1) = (0, ρ 9 + 8 * ρ 8, γ 2) from l1.symm) ?_)))))))
  refine zLV (γ 2) rfl (zLE c3.symm (zLE (show fn6 [ρ 18] (γ 3) = (0, ρ 19, γ 4) from l2.symm) (zLV (γ 4) rfl (zIP w_0 (zLV (ρ 19) rfl (zIP w_1 (zLE (show fn9 [ρ 19] (γ 4) = (0, 1, γ 5) from l4.symm) ?_)))))))
  refine zLV (γ 5) rfl (zIP zQ1_ (zLE (show fn12 [] (γ 5) = (0, 1, γ 6) from l5.symm) (zLV (γ 6) rfl (zIP zQ1_ (zLE (show fn7 [] (γ 6) = (0, 0, γ 7) from l6.symm) (zLV (γ 7) rfl (zLE m23 ?_)))))))
  refine zLE (show fn6 [ρ 22] (γ 7) = (0, ρ 23, γ 8) from l7.symm) (zLV (γ 8) rfl (zIP w_2 (zLV (ρ 23) rfl (zIP wl_0 (zLE (show fn15 [] (γ 8) = (0, ρ 24, γ 9) from l9.symm) (zLV (γ 9) rfl (zLV (ρ 24) rfl ?_)))))))
  refine zLE c10.symm (zLE c11.symm (zLE c12.symm (zLE c13.symm (zLE (show fn7 [] (γ 13) = (0, 0, γ 14) from l10.symm) (zLV (γ 14) rfl (zLE (show fn40 [ρ 18] (γ 14) = (0, 1, γ 15) from l11.symm) (zLV (γ 15) rfl ?_)))))))
  refine zIP zQ1_ ?_
  rfl
theorem vn42_21 {S : Nat → zSpc} (hS6 : zIm S 6 sn6) (hS7 : zIm S 7 sn7) (hS8 : zIm S 8 sn8) (hS9 : zIm S 9 sn9) (hS12 : zIm S 12 sn12) (hS13 : zIm S 13 sn13) (hS15 : zIm S 15 sn15) (hS18 : zIm S 18 sn18) (hS20 : zIm S 20 sn20) (hS23 : zIm S 23 sn23) (hS33 : zIm S 33 sn33) (hS34 : zIm S 34 sn34) (hS40 : zIm S 40 sn40) (hS41 : zIm S 41 sn41) {a : List Int} {g : rHp} : ∀ (ρ : Nat → Int) (γ : Nat → rHp), zO 18 S a g q42_21 ρ γ → zGl (fun _ _ _ => True) (sn42 a g) q42_21 ρ γ := by
  intro ρ γ h
  obtain ⟨ha, hg, hr, hf, hm, hc, hl⟩ := h
  have ha : a = [ρ 0, ρ 1, ρ 2, ρ 3, ρ 4, ρ 5, ρ 6, ρ 7, ρ 8, ρ 9, ρ 10, ρ 11, ρ 12, ρ 13, ρ 14, ρ 15, ρ 16, ρ 17] := ha
  subst ha
  subst hg
  have r19 : (97 : Int) ≤ ρ 19 ∧ ρ 19 ≤ 122 := zRnA hr 19
  have r23 : (40 : Int) ≤ ρ 23 ∧ ρ 23 ≤ 40 := zRnA hr 23
  have f2 : (0 : Int) ≤ -ρ 22 + ρ 1 + (-1) := zAllA hf 2
  have f18 : (0 : Int) ≤ -ρ 18 + ρ 1 + (-1) := zAllA hf 18
  obtain ⟨w_0, w_1, w_2, w_3⟩ : (0 ≤ -ρ 18 + ρ 1 + (-1)) ∧ (ρ 19 ≠ 33) ∧ (0 ≤ -ρ 22 + ρ 1 + (-1)) ∧ (¬ (ρ 23 ≠ 40)) := ⟨by omega, by omega, by omega, by omega⟩
  have m1 : γ 0 15 0 34 = ρ 1 := zAllA hm 1
  have m8 : γ 0 15 0 44 = ρ 8 := zAllA hm 8
  have m9 : γ 0 73 0 (ρ 8) = ρ 9 := zAllA hm 9
  have m17 : γ 0 15 0 45 = ρ 17 := zAllA hm 17
  have m18 : γ 1 15 0 35 = ρ 18 := zAllA hm 18
  have m23 : γ 7 15 0 35 = ρ 22 := zAllA hm 23
  have c3 : γ 3 = rUp (γ 2) 79 0 (ρ 9 + 8 * ρ 8) (ρ 17) := And.right (zChA hc 6)
  have l0 : sn7 [ρ 0, ρ 1] (γ 0) 0 0 (γ 1) := hS7 _ _ _ _ _ (zAllA hl 0)
  have l1 : sn33 [ρ 8, ρ 9] (γ 1) 0 (ρ 9 + 8 * ρ 8) (γ 2) := hS33 _ _ _ _ _ (zAllA hl 1)
  have l2 : sn6 [ρ 18, ρ 1] (γ 3) 0 (ρ 19) (γ 4) := hS6 _ _ _ _ _ (zAllA hl 2)
  have l3 : ρ 19 ≠ 33 := zAllA hl 3
  have l4 : sn9 [ρ 19] (γ 4) 0 1 (γ 5) := hS9 _ _ _ _ _ (zAllA hl 4)
  have l5 : sn12 [ρ 18, ρ 1, ρ 14, ρ 13, ρ 15] (γ 5) 0 1 (γ 6) := hS12 _ _ _ _ _ (zAllA hl 5)
  have l6 : sn7 [ρ 20, ρ 1] (γ 6) 0 0 (γ 7) := hS7 _ _ _ _ _ (zAllA hl 6)
  have l7 : sn6 [ρ 22, ρ 1] (γ 7) 0 (ρ 23) (γ 8) := hS6 _ _ _ _ _ (zAllA hl 7)
  have l8 : sn41 [0, ρ 22, ρ 1, ρ 2, ρ 3, ρ 4, ρ 18, ρ 21, ρ 5, ρ 6, ρ 7, ρ 8, ρ 9, ρ 10, ρ 11, ρ 12, ρ 13, ρ 16, ρ 17] (γ 8) 0 0 (γ 9) := hS41 _ _ _ _ _ (zAllA hl 8)
  show sn42 [ρ 0, ρ 1, ρ 2, ρ 3, ρ 4, ρ 5, ρ 6, ρ 7, ρ 8, ρ 9, ρ 10, ρ 11, ρ 12, ρ 13, ρ 14, ρ 15, ρ 16, ρ 17] (γ 0) 0 0 (γ 9)
  refine Eq.symm ?_
  show fn42 [] (γ 0) = _
  unfold fn42
  refine zLE m1 (zLE m8 (zLE m9 (zLE m17 (zLE (show fn7 [] (γ 0) = (0, 0, γ 1) from l0.symm) (zLV (γ 1) rfl (zLE m18 (zLE (show fn33 [] (γ 1) = (0, ρ 9 + 8 * ρ 8, γ 2) from l1.symm) ?_)))))))
  refine zLV (γ 2) rfl (zLE c3.symm (zLE (show fn6 [ρ 18] (γ 3) = (0, ρ 19, γ 4) from l2.symm) (zLV (γ 4) rfl (zIP w_0 (zLV (ρ 19) rfl (zIP w_1 (zLE (show fn9 [ρ 19] (γ 4) = (0, 1, γ 5) from l4.symm) ?_)))))))
  refine zLV (γ 5) rfl (zIP zQ1_ (zLE (show fn12 [] (γ 5) = (0, 1, γ 6) from l5.symm) (zLV (γ 6) rfl (zIP zQ1_ (zLE (show fn7 [] (γ 6) = (0, 0, γ 7) from l6.symm) (zLV (γ 7) rfl (zLE m23 ?_)))))))
  refine zLE (show fn6 [ρ 22] (γ 7) = (0, ρ 23, γ 8) from l7.symm) (zLV (γ 8) rfl (zIP w_2 (zLV (ρ 23) rfl (zIN w_3 (zLE (show fn41 [0] (γ 8) = (0, 0, γ 9) from l8.symm) (zLV (γ 9) rfl (zIN zQ0_ ?_)))))))
  rfl
theorem vn42_22 {S : Nat → zSpc} (hS6 : zIm S 6 sn6) (hS7 : zIm S 7 sn7) (hS8 : zIm S 8 sn8) (hS9 : zIm S 9 sn9) (hS12 : zIm S 12 sn12) (hS13 : zIm S 13 sn13) (hS15 : zIm S 15 sn15) (hS18 : zIm S 18 sn18) (hS20 : zIm S 20 sn20) (hS23 : zIm S 23 sn23) (hS33 : zIm S 33 sn33) (hS34 : zIm S 34 sn34) (hS40 : zIm S 40 sn40) (hS41 : zIm S 41 sn41) {a : List Int} {g : rHp} : ∀ (ρ : Nat → Int) (γ : Nat → rHp), zO 18 S a g q42_22 ρ γ → zGl (fun _ _ _ => True) (sn42 a g) q42_22 ρ γ := by
  intro ρ γ h
  obtain ⟨ha, hg, hr, hf, hm, hc, hl⟩ := h
  have ha : a = [ρ 0, ρ 1, ρ 2, ρ 3, ρ 4, ρ 5, ρ 6, ρ 7, ρ 8, ρ 9, ρ 10, ρ 11, ρ 12, ρ 13, ρ 14, ρ 15, ρ 16, ρ 17] := ha
  subst ha
  subst hg
  have r19 : (97 : Int) ≤ ρ 19 ∧ ρ 19 ≤ 122 := zRnA hr 19
  have r23 : (40 : Int) ≤ ρ 23 ∧ ρ 23 ≤ 40 := zRnA hr 23
  have f2 : (0 : Int) ≤ -ρ 22 + ρ 1 + (-1) := zAllA hf 2
  have f20 : (0 : Int) ≤ -ρ 18 + ρ 1 + (-1) := zAllA hf 20
  obtain ⟨w_0, w_1, w_2, w_3⟩ : (0 ≤ -ρ 18 + ρ 1 + (-1)) ∧ (ρ 19 ≠ 33) ∧ (0 ≤ -ρ 22 + ρ 1 + (-1)) ∧ (¬ (ρ 23 ≠ 40)) := ⟨by omega, by omega, by omega, by omega⟩
  have m1 : γ 0 15 0 34 = ρ 1 := zAllA hm 1
  have m8 : γ 0 15 0 44 = ρ 8 := zAllA hm 8
  have m9 : γ 0 73 0 (ρ 8) = ρ 9 := zAllA hm 9
  have m17 : γ 0 15 0 45 = ρ 17 := zAllA hm 17
  have m18 : γ 1 15 0 35 = ρ 18 := zAllA hm 18
  have m23 : γ 7 15 0 35 = ρ 22 := zAllA hm 23
  have c3 : γ 3 = rUp (γ 2) 79 0 (ρ 9 + 8 * ρ 8) (ρ 17) := And.right (zChA hc 6)
  have l0 : sn7 [ρ 0, ρ 1] (γ 0) 0 0 (γ 1) := hS7 _ _ _ _ _ (zAllA hl 0)
  have l1 : sn33 [ρ 8, ρ 9] (γ 1) 0 (ρ 9 + 8 * ρ 8) (γ 2) := hS33 _ _ _ _ _ (zAllA hl 1)
  have l2 : sn6 [ρ 18, ρ 1] (γ 3) 0 (ρ 19) (γ 4) := hS6 _ _ _ _ _ (zAllA hl 2)
  have l3 : ρ 19 ≠ 33 := zAllA hl 3
  have l4 : sn9 [ρ 19] (γ 4) 0 1 (γ 5) := hS9 _ _ _ _ _ (zAllA hl 4)
  have l5 : sn12 [ρ 18, ρ 1, ρ 14, ρ 13, ρ 15] (γ 5) 0 1 (γ 6) := hS12 _ _ _ _ _ (zAllA hl 5)
  have l6 : sn7 [ρ 20, ρ 1] (γ 6) 0 0 (γ 7) := hS7 _ _ _ _ _ (zAllA hl 6)
  have l7 : sn6 [ρ 22, ρ 1] (γ 7) 0 (ρ 23) (γ 8) := hS6 _ _ _ _ _ (zAllA hl 7)
  have l8 : sn41 [0, ρ 22, ρ 1, ρ 2, ρ 3, ρ 4, ρ 18, ρ 21, ρ 5, ρ 6, ρ 7, ρ 8, ρ 9, ρ 10, ρ 11, ρ 12, ρ 13, ρ 16, ρ 17] (γ 8) 0 1 (γ 9) := hS41 _ _ _ _ _ (zAllA hl 8)
  show sn42 [ρ 0, ρ 1, ρ 2, ρ 3, ρ 4, ρ 5, ρ 6, ρ 7, ρ 8, ρ 9, ρ 10, ρ 11, ρ 12, ρ 13, ρ 14, ρ 15, ρ 16, ρ 17] (γ 0) 0 1 (γ 9)
  refine Eq.symm ?_
  show fn42 [] (γ 0) = _
  unfold fn42
  refine zLE m1 (zLE m8 (zLE m9 (zLE m17 (zLE (show fn7 [] (γ 0) = (0, 0, γ 1) from l0.symm) (zLV (γ 1) rfl (zLE m18 (zLE (show fn33 [] (γ 1) = (0, ρ 9 + 8 * ρ 8, γ 2) from l1.symm) ?_)))))))
  refine zLV (γ 2) rfl (zLE c3.symm (zLE (show fn6 [ρ 18] (γ 3) = (0, ρ 19, γ 4) from l2.symm) (zLV (γ 4) rfl (zIP w_0 (zLV (ρ 19) rfl (zIP w_1 (zLE (show fn9 [ρ 19] (γ 4) = (0, 1, γ 5) from l4.symm) ?_)))))))
  refine zLV (γ 5) rfl (zIP zQ1_ (zLE (show fn12 [] (γ 5) = (0, 1, γ 6) from l5.symm) (zLV (γ 6) rfl (zIP zQ1_ (zLE (show fn7 [] (γ 6) = (0, 0, γ 7) from l6.symm) (zLV (γ 7) rfl (zLE m23 ?_)))))))
  refine zLE (show fn6 [ρ 22] (γ 7) = (0, ρ 23, γ 8) from l7.symm) (zLV (γ 8) rfl (zIP w_2 (zLV (ρ 23) rfl (zIN w_3 (zLE (show fn41 [0] (γ 8) = (0, 1, γ 9) from l8.symm) (zLV (γ 9) rfl (zIP zQ1_ ?_)))))))
  rfl
theorem vn42_23 {S : Nat → zSpc} (hS6 : zIm S 6 sn6) (hS7 : zIm S 7 sn7) (hS8 : zIm S 8 sn8) (hS9 : zIm S 9 sn9) (hS12 : zIm S 12 sn12) (hS13 : zIm S 13 sn13) (hS15 : zIm S 15 sn15) (hS18 : zIm S 18 sn18) (hS20 : zIm S 20 sn20) (hS23 : zIm S 23 sn23) (hS33 : zIm S 33 sn33) (hS34 : zIm S 34 sn34) (hS40 : zIm S 40 sn40) (hS41 : zIm S 41 sn41) {a : List Int} {g : rHp} : ∀ (ρ : Nat → Int) (γ : Nat → rHp), zO 18 S a g q42_23 ρ γ → zGl (fun _ _ _ => True) (sn42 a g) q42_23 ρ γ := by
  intro ρ γ h
  obtain ⟨ha, hg, hr, hf, hm, hc, hl⟩ := h
  have ha : a = [ρ 0, ρ 1, ρ 2, ρ 3, ρ 4, ρ 5, ρ 6, ρ 7, ρ 8, ρ 9, ρ 10, ρ 11, ρ 12, ρ 13, ρ 14, ρ 15, ρ 16, ρ 17] := ha
  subst ha
  subst hg
  have r19 : (97 : Int) ≤ ρ 19 ∧ ρ 19 ≤ 122 := zRnA hr 19
  have f21 : (0 : Int) ≤ ρ 22 + -ρ 1 := zAllA hf 21
  have f24 : (0 : Int) ≤ -ρ 18 + ρ 1 + (-1) := zAllA hf 24
  obtain ⟨w_0, w_1, w_2⟩ : (0 ≤ -ρ 18 + ρ 1 + (-1)) ∧ (ρ 19 ≠ 33) ∧ (¬ (0 ≤ -ρ 22 + ρ 1 + (-1))) := ⟨by omega, by omega, by omega⟩
  have m1 : γ 0 15 0 34 = ρ 1 := zAllA hm 1
  have m8 : γ 0 15 0 44 = ρ 8 := zAllA hm 8
  have m9 : γ 0 73 0 (ρ 8) = ρ 9 := zAllA hm 9
  have m17 : γ 0 15 0 45 = ρ 17 := zAllA hm 17
  have m18 : γ 1 15 0 35 = ρ 18 := zAllA hm 18
  have m23 : γ 7 15 0 35 = ρ 22 := zAllA hm 23
  have c3 : γ 3 = rUp (γ 2) 79 0 (ρ 9 + 8 * ρ 8) (ρ 17) := And.right (zChA hc 12)
  have c10 : γ 10 = rUp (γ 9) 15 0 39 (ρ 23) := And.right (zChA hc 5)
  have c11 : γ 11 = rUp (γ 10) 15 0 40 0 := And.right (zChA hc 4)
  have c12 : γ 12 = rUp (γ 11) 80 0 (4 * ρ 9 + 32 * ρ 8) 0 := And.right (zChA hc 3)
  have c13 : γ 13 = rUp (γ 12) 81 0 (4 * ρ 9 + 32 * ρ 8) (ρ 23) := And.right (zChA hc 2)
  have l0 : sn7 [ρ 0, ρ 1] (γ 0) 0 0 (γ 1) := hS7 _ _ _ _ _ (zAllA hl 0)
  have l1 : sn33 [ρ 8, ρ 9] (γ 1) 0 (ρ 9 + 8 * ρ 8) (γ 2) := hS33 _ _ _ _ _ (zAllA hl 1)
  have l2 : sn6 [ρ 18, ρ 1] (γ 3) 0 (ρ 19) (γ 4) := hS6 _ _ _ _ _ (zAllA hl 2)
  have l3 : ρ 19 ≠ 33 := zAllA hl 3
  have l4 : sn9 [ρ 19] (γ 4) 0 1 (γ 5) := hS9 _ _ _ _ _ (zAllA hl 4)
  have l5 : sn12 [ρ 18, ρ 1, ρ 14, ρ 13, ρ 15] (γ 5) 0 1 (γ 6) := hS12 _ _ _ _ _ (zAllA hl 5)
  have l6 : sn7 [ρ 20, ρ 1] (γ 6) 0 0 (γ 7) := hS7 _ _ _ _ _ (zAllA hl 6)
  have l7 : sn6 [ρ 22, ρ 1] (γ 7) 0 (-1) (γ 8) := hS6 _ _ _ _ _ (zAllA hl 7)
  have l8 : sn15 [ρ 1, ρ 2, ρ 3, ρ 18, ρ 21] (γ 8) 0 (ρ 23) (γ 9) := hS15 _ _ _ _ _ (zAllA hl 8)
  have l9 : sn7 [ρ 22, ρ 1] (γ 13) 0 0 (γ 14) := hS7 _ _ _ _ _ (zAllA hl 9)
  have l10 : sn40 [ρ 18, ρ 26, ρ 1, ρ 24, ρ 25, ρ 6, ρ 7, ρ 8, ρ 9, ρ 10, ρ 23, ρ 13, ρ 18, ρ 21, 0, ρ 17] (γ 14) 0 0 (γ 15) := hS40 _ _ _ _ _ (zAllA hl 10)
  show sn42 [ρ 0, ρ 1, ρ 2, ρ 3, ρ 4, ρ 5, ρ 6, ρ 7, ρ 8, ρ 9, ρ 10, ρ 11, ρ 12, ρ 13, ρ 14, ρ 15, ρ 16, ρ 17] (γ 0) 0 0 (γ 15)
  refine Eq.symm ?_
  show fn42 [] (γ 0) = _
  unfold fn42
  refine zLE m1 (zLE m8 (zLE m9 (zLE m17 (zLE (show fn7 [] (γ 0) = (0, 0, γ 1) from l0.symm) (zLV (γ 1) rfl (zLE m18 (zLE (show fn33 [] (γ 1) = (0, ρ 9 + 8 * ρ 8, γ 2) from l1.symm) ?_)))))))
  refine zLV (γ 2) rfl (zLE c3.symm (zLE (show fn6 [ρ 18] (γ 3) = (0, ρ 19, γ 4) from l2.symm) (zLV (γ 4) rfl (zIP w_0 (zLV (ρ 19) rfl (zIP w_1 (zLE (show fn9 [ρ 19] (γ 4) = (0, 1, γ 5) from l4.symm) ?_)))))))
  refine zLV (γ 5) rfl (zIP zQ1_ (zLE (show fn12 [] (γ 5) = (0, 1, γ 6) from l5.symm) (zLV (γ 6) rfl (zIP zQ1_ (zLE (show fn7 [] (γ 6) = (0, 0, γ 7) from l6.symm) (zLV (γ 7) rfl (zLE m23 ?_)))))))
  refine zLE (show fn6 [ρ 22] (γ 7) = (0, (-1), γ 8) from l7.symm) (zLV (γ 8) rfl (zIN w_2 (zLE (show fn15 [] (γ 8) = (0, ρ 23, γ 9) from l8.symm) (zLV (γ 9) rfl (zLV (ρ 23) rfl (zLE c10.symm (zLE c11.symm ?_)))))))
  refine zLE c12.symm (zLE c13.symm (zLE (show fn7 [] (γ 13) = (0, 0, γ 14) from l9.symm) (zLV (γ 14) rfl (zLE (show fn40 [ρ 18] (γ 14) = (0, 0, γ 15) from l10.symm) (zLV (γ 15) rfl ?_)))))
  rfl
theorem vn42_24 {S : Nat → zSpc} (hS6 : zIm S 6 sn6) (hS7 : zIm S 7 sn7) (hS8 : zIm S 8 sn8) (hS9 : zIm S 9 sn9) (hS12 : zIm S 12 sn12) (hS13 : zIm S 13 sn13) (hS15 : zIm S 15 sn15) (hS18 : zIm S 18 sn18) (hS20 : zIm S 20 sn20) (hS23 : zIm S 23 sn23) (hS33 : zIm S 33 sn33) (hS34 : zIm S 34 sn34) (hS40 : zIm S 40 sn40) (hS41 : zIm S 41 sn41) {a : List Int} {g : rHp} : ∀ (ρ : Nat → Int) (γ : Nat → rHp), zO 18 S a g q42_24 ρ γ → zGl (fun _ _ _ => True) (sn42 a g) q42_24 ρ γ := by
  intro ρ γ h
  obtain ⟨ha, hg, hr, hf, hm, hc, hl⟩ := h
  have ha : a = [ρ 0, ρ 1, ρ 2, ρ 3, ρ 4, ρ 5, ρ 6, ρ 7, ρ 8, ρ 9, ρ 10, ρ 11, ρ 12, ρ 13, ρ 14, ρ 15, ρ 16, ρ 17] := ha
  subst ha
  subst hg
  have r19 : (33 : Int) ≤ ρ 19 ∧ ρ 19 ≤ 33 := zRnA hr 19
  have f0 : (0 : Int) ≤ -ρ 18 + ρ 1 + (-1) := zAllA hf 0
  obtain ⟨w_0, w_1⟩ : (0 ≤ -ρ 18 + ρ 1 + (-1)) ∧ (¬ (ρ 19 ≠ 33)) := ⟨by omega, by omega⟩
  have m1 : γ 0 15 0 34 = ρ 1 := zAllA hm 1
  have m8 : γ 0 15 0 44 = ρ 8 := zAllA hm 8
  have m9 : γ 0 73 0 (ρ 8) = ρ 9 := zAllA hm 9
  have m17 : γ 0 15 0 45 = ρ 17 := zAllA hm 17
  have m18 : γ 1 15 0 35 = ρ 18 := zAllA hm 18
  have c3 : γ 3 = rUp (γ 2) 79 0 (ρ 9 + 8 * ρ 8) (ρ 17) := And.right (zChA hc 3)
  have c5 : γ 5 = rUp (γ 4) 15 0 35 (ρ 18 + 1) := And.right (zChA hc 1)
  have l0 : sn7 [ρ 0, ρ 1] (γ 0) 0 0 (γ 1) := hS7 _ _ _ _ _ (zAllA hl 0)
  have l1 : sn33 [ρ 8, ρ 9] (γ 1) 0 (ρ 9 + 8 * ρ 8) (γ 2) := hS33 _ _ _ _ _ (zAllA hl 1)
  have l2 : sn6 [ρ 18, ρ 1] (γ 3) 0 (ρ 19) (γ 4) := hS6 _ _ _ _ _ (zAllA hl 2)
  have l3 : sn23 [ρ 18 + 1, ρ 1, ρ 13, ρ 14, ρ 15] (γ 5) 0 0 (γ 6) := hS23 _ _ _ _ _ (zAllA hl 3)
  show sn42 [ρ 0, ρ 1, ρ 2, ρ 3, ρ 4, ρ 5, ρ 6, ρ 7, ρ 8, ρ 9, ρ 10, ρ 11, ρ 12, ρ 13, ρ 14, ρ 15, ρ 16, ρ 17] (γ 0) 0 0 (γ 6)
  refine Eq.symm ?_
  show fn42 [] (γ 0) = _
  unfold fn42
  refine zLE m1 (zLE m8 (zLE m9 (zLE m17 (zLE (show fn7 [] (γ 0) = (0, 0, γ 1) from l0.symm) (zLV (γ 1) rfl (zLE m18 (zLE (show fn33 [] (γ 1) = (0, ρ 9 + 8 * ρ 8, γ 2) from l1.symm) ?_)))))))
  refine zLV (γ 2) rfl (zLE c3.symm (zLE (show fn6 [ρ 18] (γ 3) = (0, ρ 19, γ 4) from l2.symm) (zLV (γ 4) rfl (zIP w_0 (zLV (ρ 19) rfl (zIN w_1 (zLE c5.symm ?_)))))))
  refine zLE (show fn23 [] (γ 5) = (0, 0, γ 6) from l3.symm) (zLV (γ 6) rfl (zIN zQ0_ ?_))
  rfl
theorem vn42_25 {S : Nat → zSpc} (hS6 : zIm S 6 sn6) (hS7 : zIm S 7 sn7) (hS8 : zIm S 8 sn8) (hS9 : zIm S 9 sn9) (hS12 : zIm S 12 sn12) (hS13 : zIm S 13 sn13) (hS15 : zIm S 15 sn15) (hS18 : zIm S 18 sn18) (hS20 : zIm S 20 sn20) (hS23 : zIm S 23 sn23) (hS33 : zIm S 33 sn33) (hS34 : zIm S 34 sn34) (hS40 : zIm S 40 sn40) (hS41 : zIm S 41 sn41) {a : List Int} {g : rHp} : ∀ (ρ : Nat → Int) (γ : Nat → rHp), zO 18 S a g q42_25 ρ γ → zGl (fun _ _ _ => True) (sn42 a g) q42_25 ρ γ := by
  intro ρ γ h
  obtain ⟨ha, hg, hr, hf, hm, hc, hl⟩ := h
  have ha : a = [ρ 0, ρ 1, ρ 2, ρ 3, ρ 4, ρ 5, ρ 6, ρ 7, ρ 8, ρ 9, ρ 10, ρ 11, ρ 12, ρ 13, ρ 14, ρ 15, ρ 16, ρ 17] := ha
  subst ha
  subst hg
  have r19 : (33 : Int) ≤ ρ 19 ∧ ρ 19 ≤ 33 := zRnA hr 19
  have r24 : ((-128) : Int) ≤ ρ 24 ∧ ρ 24 ≤ 127 := zRnA hr 24
  have f2 : (0 : Int) ≤ -ρ 23 + ρ 1 + (-1) := zAllA hf 2
  have f6 : (0 : Int) ≤ -ρ 18 + ρ 1 + (-1) := zAllA hf 6
  obtain ⟨w_0, w_1, w_2⟩ : (0 ≤ -ρ 18 + ρ 1 + (-1)) ∧ (¬ (ρ 19 ≠ 33)) ∧ (0 ≤ -ρ 23 + ρ 1 + (-1)) := ⟨by omega, by omega, by omega⟩
  have m1 : γ 0 15 0 34 = ρ 1 := zAllA hm 1
  have m8 : γ 0 15 0 44 = ρ 8 := zAllA hm 8
  have m9 : γ 0 73 0 (ρ 8) = ρ 9 := zAllA hm 9
  have m17 : γ 0 15 0 45 = ρ 17 := zAllA hm 17
  have m18 : γ 1 15 0 35 = ρ 18 := zAllA hm 18
  have m23 : γ 7 15 0 35 = ρ 23 := zAllA hm 23
  have c3 : γ 3 = rUp (γ 2) 79 0 (ρ 9 + 8 * ρ 8) (ρ 17) := And.right (zChA hc 6)
  have c5 : γ 5 = rUp (γ 4) 15 0 35 (ρ 18 + 1) := And.right (zChA hc 4)
  have l0 : sn7 [ρ 0, ρ 1] (γ 0) 0 0 (γ 1) := hS7 _ _ _ _ _ (zAllA hl 0)
  have l1 : sn33 [ρ 8, ρ 9] (γ 1) 0 (ρ 9 + 8 * ρ 8) (γ 2) := hS33 _ _ _ _ _ (zAllA hl 1)
  have l2 : sn6 [ρ 18, ρ 1] (γ 3) 0 (ρ 19) (γ 4) := hS6 _ _ _ _ _ (zAllA hl 2)
  have l3 : sn23 [ρ 18 + 1, ρ 1, ρ 13, ρ 14, ρ 15] (γ 5) 0 1 (γ 6) := hS23 _ _ _ _ _ (zAllA hl 3)
  have l4 : sn7 [ρ 20, ρ 1] (γ 6) 0 0 (γ 7) := hS7 _ _ _ _ _ (zAllA hl 4)
  have l5 : sn6 [ρ 23, ρ 1] (γ 7) 0 (ρ 24) (γ 8) := hS6 _ _ _ _ _ (zAllA hl 5)
  have l6 : ρ 24 ≠ 40 := zAllA hl 6
  have l7 : sn8 [ρ 23, ρ 1, ρ 13] (γ 8) 0 0 (γ 9) := hS8 _ _ _ _ _ (zAllA hl 7)
  have wl_0 : ρ 24 ≠ 40 := by omega
  show sn42 [ρ 0, ρ 1, ρ 2, ρ 3, ρ 4, ρ 5, ρ 6, ρ 7, ρ 8, ρ 9, ρ 10, ρ 11, ρ 12, ρ 13, ρ 14, ρ 15, ρ 16, ρ 17] (γ 0) 0 0 (γ 9)
  refine Eq.symm ?_
  show fn42 [] (γ 0) = _
  unfold fn42
  refine zLE m1 (zLE m8 (zLE m9 (zLE m17 (zLE (show fn7 [] (γ 0) = (0, 0, γ 1) from l0.symm) (zLV (γ 1) rfl (zLE m18 (zLE (show fn33 [] (γ 1) = (0, ρ 9 + 8 * ρ 8, γ 2) from l1.symm) ?_)))))))
  refine zLV (γ 2) rfl (zLE c3.symm (zLE (show fn6 [ρ 18] (γ 3) = (0, ρ 19, γ 4) from l2.symm) (zLV (γ 4) rfl (zIP w_0 (zLV (ρ 19) rfl (zIN w_1 (zLE c5.symm ?_)))))))
  refine zLE (show fn23 [] (γ 5) = (0, 1, γ 6) from l3.symm) (zLV (γ 6) rfl (zIP zQ1_ (zLE (show fn7 [] (γ 6) = (0, 0, γ 7) from l4.symm) (zLV (γ 7) rfl (zLE m23 (zLE (show fn6 [ρ 23] (γ 7) = (0, ρ 24, γ 8) from l5.symm) (zLV (γ 8) rfl ?_)))))))
  refine zIP w_2 (zLV (ρ 24) rfl (zIP wl_0 (zLE (show fn8 [ρ 23] (γ 8) = (0, 0, γ 9) from l7.symm) (zLV (γ 9) rfl ?_))))
  rfl
theorem vn42_26 {S : Nat → zSpc} (hS6 : zIm S 6 sn6) (hS7 : zIm S 7 sn7) (hS8 : zIm S 8 sn8) (hS9 : zIm S 9 sn9) (hS12 : zIm S 12 sn12) (hS13 : zIm S 13 sn13) (hS15 : zIm S 15 sn15) (hS18 : zIm S 18 sn18) (hS20 : zIm S 20 sn20) (hS23 : zIm S 23 sn23) (hS33 : zIm S 33 sn33) (hS34 : zIm S 34 sn34) (hS40 : zIm S 40 sn40) (hS41 : zIm S 41 sn41) {a : List Int} {g : rHp} : ∀ (ρ : Nat → Int) (γ : Nat → rHp), zO 18 S a g q42_26 ρ γ → zGl (fun _ _ _ => True) (sn42 a g) q42_26 ρ γ := by
  intro ρ γ h
  obtain ⟨ha, hg, hr, hf, hm, hc, hl⟩ := h
  have ha : a = [ρ 0, ρ 1, ρ 2, ρ 3, ρ 4, ρ 5, ρ 6, ρ 7, ρ 8, ρ 9, ρ 10, ρ 11, ρ 12, ρ 13, ρ 14, ρ 15, ρ 16, ρ 17] := ha
  subst ha
  subst hg
  have r19 : (33 : Int) ≤ ρ 19 ∧ ρ 19 ≤ 33 := zRnA hr 19
  have r24 : (40 : Int) ≤ ρ 24 ∧ ρ 24 ≤ 40 := zRnA hr 24
  have f2 : (0 : Int) ≤ -ρ 23 + ρ 1 + (-1) := zAllA hf 2
  have f18 : (0 : Int) ≤ -ρ 18 + ρ 1 + (-1) := zAllA hf 18
  obtain ⟨w_0, w_1, w_2, w_3⟩ : (0 ≤ -ρ 18 + ρ 1 + (-1)) ∧ (¬ (ρ 19 ≠ 33)) ∧ (0 ≤ -ρ 23 + ρ 1 + (-1)) ∧ (¬ (ρ 24 ≠ 40)) := ⟨by omega, by omega, by omega, by omega⟩
  have m1 : γ 0 15 0 34 = ρ 1 := zAllA hm 1
  have m8 : γ 0 15 0 44 = ρ 8 := zAllA hm 8
  have m9 : γ 0 73 0 (ρ 8) = ρ 9 := zAllA hm 9
  have m17 : γ 0 15 0 45 = ρ 17 := zAllA hm 17
  have m18 : γ 1 15 0 35 = ρ 18 := zAllA hm 18
  have m23 : γ 7 15 0 35 = ρ 23 := zAllA hm 23
  have c3 : γ 3 = rUp (γ 2) 79 0 (ρ 9 + 8 * ρ 8) (ρ 17) := And.right (zChA hc 6)
  have c5 : γ 5 = rUp (γ 4) 15 0 35 (ρ 18 + 1) := And.right (zChA hc 4)
  have l0 : sn7 [ρ 0, ρ 1] (γ 0) 0 0 (γ 1) := hS7 _ _ _ _ _ (zAllA hl 0)
  have l1 : sn33 [ρ 8, ρ 9] (γ 1) 0 (ρ 9 + 8 * ρ 8) (γ 2) := hS33 _ _ _ _ _ (zAllA hl 1)
  have l2 : sn6 [ρ 18, ρ 1] (γ 3) 0 (ρ 19) (γ 4) := hS6 _ _ _ _ _ (zAllA hl 2)
  have l3 : sn23 [ρ 18 + 1, ρ 1, ρ 13, ρ 14, ρ 15] (γ 5) 0 1 (γ 6) := hS23 _ _ _ _ _ (zAllA hl 3)
  have l4 : sn7 [ρ 20, ρ 1] (γ 6) 0 0 (γ 7) := hS7 _ _ _ _ _ (zAllA hl 4)
  have l5 : sn6 [ρ 23, ρ 1] (γ 7) 0 (ρ 24) (γ 8) := hS6 _ _ _ _ _ (zAllA hl 5)
  have l6 : sn41 [1, ρ 23, ρ 1, ρ 2, ρ 3, ρ 4, ρ 21, ρ 22, ρ 5, ρ 6, ρ 7, ρ 8, ρ 9, ρ 10, ρ 11, ρ 12, ρ 13, ρ 16, ρ 17] (γ 8) 0 0 (γ 9) := hS41 _ _ _ _ _ (zAllA hl 6)
  show sn42 [ρ 0, ρ 1, ρ 2, ρ 3, ρ 4, ρ 5, ρ 6, ρ 7, ρ 8, ρ 9, ρ 10, ρ 11, ρ 12, ρ 13, ρ 14, ρ 15, ρ 16, ρ 17] (γ 0) 0 0 (γ 9)
  refine Eq.symm ?_
  show fn42 [] (γ 0) = _
  unfold fn42
  refine zLE m1 (zLE m8 (zLE m9 (zLE m17 (zLE (show fn7 [] (γ 0) = (0, 0, γ 1) from l0.symm) (zLV (γ 1) rfl (zLE m18 (zLE (show fn33 [] (γ 1) = (0, ρ 9 + 8 * ρ 8, γ 2) from l1.symm) ?_)))))))
  refine zLV (γ 2) rfl (zLE c3.symm (zLE (show fn6 [ρ 18] (γ 3) = (0, ρ 19, γ 4) from l2.symm) (zLV (γ 4) rfl (zIP w_0 (zLV (ρ 19) rfl (zIN w_1 (zLE c5.symm ?_)))))))
  refine zLE (show fn23 [] (γ 5) = (0, 1, γ 6) from l3.symm) (zLV (γ 6) rfl (zIP zQ1_ (zLE (show fn7 [] (γ 6) = (0, 0, γ 7) from l4.symm) (zLV (γ 7) rfl (zLE m23 (zLE (show fn6 [ρ 23] (γ 7) = (0, ρ 24, γ 8) from l5.symm) (zLV (γ 8) rfl ?_)))))))
  refine zIP w_2 (zLV (ρ 24) rfl (zIN w_3 (zLE (show fn41 [1] (γ 8) = (0, 0, γ 9) from l6.symm) (zLV (γ 9) rfl (zIN zQ0_ ?_)))))
  rfl
theorem vn42_27 {S : Nat → zSpc} (hS6 : zIm S 6 sn6) (hS7 : zIm S 7 sn7) (hS8 : zIm S 8 sn8) (hS9 : zIm S 9 sn9) (hS12 : zIm S 12 sn12) (hS13 : zIm S 13 sn13) (hS15 : zIm S 15 sn15) (hS18 : zIm S 18 sn18) (hS20 : zIm S 20 sn20) (hS23 : zIm S 23 sn23) (hS33 : zIm S 33 sn33) (hS34 : zIm S 34 sn34) (hS40 : zIm S 40 sn40) (hS41 : zIm S 41 sn41) {a : List Int} {g : rHp} : ∀ (ρ : Nat → Int) (γ : Nat → rHp), zO 18 S a g q42_27 ρ γ → zGl (fun _ _ _ => True) (sn42 a g) q42_27 ρ γ := by
  intro ρ γ h
  obtain ⟨ha, hg, hr, hf, hm, hc, hl⟩ := h
  have ha : a = [ρ 0, ρ 1, ρ 2, ρ 3, ρ 4, ρ 5, ρ 6, ρ 7, ρ 8, ρ 9, ρ 10, ρ 11, ρ 12, ρ 13, ρ 14, ρ 15, ρ 16, ρ 17] := ha
  subst ha
  subst hg
  have r19 : (33 : Int) ≤ ρ 19 ∧ ρ 19 ≤ 33 := zRnA hr 19
  have r24 : (40 : Int) ≤ ρ 24 ∧ ρ 24 ≤ 40 := zRnA hr 24
  have f2 : (0 : Int) ≤ -ρ 23 + ρ 1 + (-1) := zAllA hf 2
  have f20 : (0 : Int) ≤ -ρ 18 + ρ 1 + (-1) := zAllA hf 20
  obtain ⟨w_0, w_1, w_2, w_3⟩ : (0 ≤ -ρ 18 + ρ 1 + (-1)) ∧ (¬ (ρ 19 ≠ 33)) ∧ (0 ≤ -ρ 23 + ρ 1 + (-1)) ∧ (¬ (ρ 24 ≠ 40)) := ⟨by omega, by omega, by omega, by omega⟩
  have m1 : γ 0 15 0 34 = ρ 1 := zAllA hm 1
  have m8 : γ 0 15 0 44 = ρ 8 := zAllA hm 8
  have m9 : γ 0 73 0 (ρ 8) = ρ 9 := zAllA hm 9
  have m17 : γ 0 15 0 45 = ρ 17 := zAllA hm 17
  have m18 : γ 1 15 0 35 = ρ 18 := zAllA hm 18
  have m23 : γ 7 15 0 35 = ρ 23 := zAllA hm 23
  have c3 : γ 3 = rUp (γ 2) 79 0 (ρ 9 + 8 * ρ 8) (ρ 17) := And.right (zChA hc 6)
  have c5 : γ 5 = rUp (γ 4) 15 0 35 (ρ 18 + 1) := And.right (zChA hc 4)
  have l0 : sn7 [ρ 0, ρ 1] (γ 0) 0 0 (γ 1) := hS7 _ _ _ _ _ (zAllA hl 0)
  have l1 : sn33 [ρ 8, ρ 9] (γ 1) 0 (ρ 9 + 8 * ρ 8) (γ 2) := hS33 _ _ _ _ _ (zAllA hl 1)
  have l2 : sn6 [ρ 18, ρ 1] (γ 3) 0 (ρ 19) (γ 4) := hS6 _ _ _ _ _ (zAllA hl 2)
  have l3 : sn23 [ρ 18 + 1, ρ 1, ρ 13, ρ 14, ρ 15] (γ 5) 0 1 (γ 6) := hS23 _ _ _ _ _ (zAllA hl 3)
  have l4 : sn7 [ρ 20, ρ 1] (γ 6) 0 0 (γ 7) := hS7 _ _ _ _ _ (zAllA hl 4)
  have l5 : sn6 [ρ 23, ρ 1] (γ 7) 0 (ρ 24) (γ 8) := hS6 _ _ _ _ _ (zAllA hl 5)
  have l6 : sn41 [1, ρ 23, ρ 1, ρ 2, ρ 3, ρ 4, ρ 21, ρ 22, ρ 5, ρ 6, ρ 7, ρ 8, ρ 9, ρ 10, ρ 11, ρ 12, ρ 13, ρ 16, ρ 17] (γ 8) 0 1 (γ 9) := hS41 _ _ _ _ _ (zAllA hl 6)
  show sn42 [ρ 0, ρ 1, ρ 2, ρ 3, ρ 4, ρ 5, ρ 6, ρ 7, ρ 8, ρ 9, ρ 10, ρ 11, ρ 12, ρ 13, ρ 14, ρ 15, ρ 16, ρ 17] (γ 0) 0 1 (γ 9)
  refine Eq.symm ?_
  show fn42 [] (γ 0) = _
  unfold fn42
  refine zLE m1 (zLE m8 (zLE m9 (zLE m17 (zLE (show fn7 [] (γ 0) = (0, 0, γ 1) from l0.symm) (zLV (γ 1) rfl (zLE m18 (zLE (show fn33 [] (γ 1) = (0, ρ 9 + 8 * ρ 8, γ 2) from l1.symm) ?_)))))))
  refine zLV (γ 2) rfl (zLE c3.symm (zLE (show fn6 [ρ 18] (γ 3) = (0, ρ 19, γ 4) from l2.symm) (zLV (γ 4) rfl (zIP w_0 (zLV (ρ 19) rfl (zIN w_1 (zLE c5.symm ?_)))))))
  refine zLE (show fn23 [] (γ 5) = (0, 1, γ 6) from l3.symm) (zLV (γ 6) rfl (zIP zQ1_ (zLE (show fn7 [] (γ 6) = (0, 0, γ 7) from l4.symm) (zLV (γ 7) rfl (zLE m23 (zLE (show fn6 [ρ 23] (γ 7) = (0, ρ 24, γ 8) from l5.symm) (zLV (γ 8) rfl ?_)))))))
  refine zIP w_2 (zLV (ρ 24) rfl (zIN w_3 (zLE (show fn41 [1] (γ 8) = (0, 1, γ 9) from l6.symm) (zLV (γ 9) rfl (zIP zQ1_ ?_)))))
  rfl
theorem vn42_28 {S : Nat → zSpc} (hS6 : zIm S 6 sn6) (hS7 : zIm S 7 sn7) (hS8 : zIm S 8 sn8) (hS9 : zIm S 9 sn9) (hS12 : zIm S 12 sn12) (hS13 : zIm S 13 sn13) (hS15 : zIm S 15 sn15) (hS18 : zIm S 18 sn18) (hS20 : zIm S 20 sn20) (hS23 : zIm S 23 sn23) (hS33 : zIm S 33 sn33) (hS34 : zIm S 34 sn34) (hS40 : zIm S 40 sn40) (hS41 : zIm S 41 sn41) {a : List Int} {g : rHp} : ∀ (ρ : Nat → Int) (γ : Nat → rHp), zO 18 S a g q42_28 ρ γ → zGl (fun _ _ _ => True) (sn42 a g) q42_28 ρ γ := by
  intro ρ γ h
  obtain ⟨ha, hg, hr, hf, hm, hc, hl⟩ := h
  have ha : a = [ρ 0, ρ 1, ρ 2, ρ 3, ρ 4, ρ 5, ρ 6, ρ 7, ρ 8, ρ 9, ρ 10, ρ 11, ρ 12, ρ 13, ρ 14, ρ 15, ρ 16, ρ 17] := ha
  subst ha
  subst hg
  have r19 : (33 : Int) ≤ ρ 19 ∧ ρ 19 ≤ 33 := zRnA hr 19
  have f2 : (0 : Int) ≤ ρ 23 + -ρ 1 := zAllA hf 2
  have f6 : (0 : Int) ≤ -ρ 18 + ρ 1 + (-1) := zAllA hf 6
  obtain ⟨w_0, w_1, w_2⟩ : (0 ≤ -ρ 18 + ρ 1 + (-1)) ∧ (¬ (ρ 19 ≠ 33)) ∧ (¬ (0 ≤ -ρ 23 + ρ 1 + (-1))) := ⟨by omega, by omega, by omega⟩
  have m1 : γ 0 15 0 34 = ρ 1 := zAllA hm 1
  have m8 : γ 0 15 0 44 = ρ 8 := zAllA hm 8
  have m9 : γ 0 73 0 (ρ 8) = ρ 9 := zAllA hm 9
  have m17 : γ 0 15 0 45 = ρ 17 := zAllA hm 17
  have m18 : γ 1 15 0 35 = ρ 18 := zAllA hm 18
  have m23 : γ 7 15 0 35 = ρ 23 := zAllA hm 23
  have c3 : γ 3 = rUp (γ 2) 79 0 (ρ 9 + 8 * ρ 8) (ρ 17) := And.right (zChA hc 6)
  have c5 : γ 5 = rUp (γ 4) 15 0 35 (ρ 18 + 1) := And.right (zChA hc 4)
  have l0 : sn7 [ρ 0, ρ 1] (γ 0) 0 0 (γ 1) := hS7 _ _ _ _ _ (zAllA hl 0)
  have l1 : sn33 [ρ 8, ρ 9] (γ 1) 0 (ρ 9 + 8 * ρ 8) (γ 2) := hS33 _ _ _ _ _ (zAllA hl 1)
  have l2 : sn6 [ρ 18, ρ 1] (γ 3) 0 (ρ 19) (γ 4) := hS6 _ _ _ _ _ (zAllA hl 2)
  have l3 : sn23 [ρ 18 + 1, ρ 1, ρ 13, ρ 14, ρ 15] (γ 5) 0 1 (γ 6) := hS23 _ _ _ _ _ (zAllA hl 3)
  have l4 : sn7 [ρ 20, ρ 1] (γ 6) 0 0 (γ 7) := hS7 _ _ _ _ _ (zAllA hl 4)
  have l5 : sn6 [ρ 23, ρ 1] (γ 7) 0 (-1) (γ 8) := hS6 _ _ _ _ _ (zAllA hl 5)
  have l6 : sn8 [ρ 23, ρ 1, ρ 13] (γ 8) 0 0 (γ 9) := hS8 _ _ _ _ _ (zAllA hl 6)
  show sn42 [ρ 0, ρ 1, ρ 2, ρ 3, ρ 4, ρ 5, ρ 6, ρ 7, ρ 8, ρ 9, ρ 10, ρ 11, ρ 12, ρ 13, ρ 14, ρ 15, ρ 16, ρ 17] (γ 0) 0 0 (γ 9)
  refine Eq.symm ?_
  show fn42 [] (γ 0) = _
  unfold fn42
  refine zLE m1 (zLE m8 (zLE m9 (zLE m17 (zLE (show fn7 [] (γ 0) = (0, 0, γ 1) from l0.symm) (zLV (γ 1) rfl (zLE m18 (zLE (show fn33 [] (γ 1) = (0, ρ 9 + 8 * ρ 8, γ 2) from l1.symm) ?_)))))))
  refine zLV (γ 2) rfl (zLE c3.symm (zLE (show fn6 [ρ 18] (γ 3) = (0, ρ 19, γ 4) from l2.symm) (zLV (γ 4) rfl (zIP w_0 (zLV (ρ 19) rfl (zIN w_1 (zLE c5.symm ?_)))))))
  refine zLE (show fn23 [] (γ 5) = (0, 1, γ 6) from l3.symm) (zLV (γ 6) rfl (zIP zQ1_ (zLE (show fn7 [] (γ 6) = (0, 0, γ 7) from l4.symm) (zLV (γ 7) rfl (zLE m23 (zLE (show fn6 [ρ 23] (γ 7) = (0, (-1), γ 8) from l5.symm) (zLV (γ 8) rfl ?_)))))))
  refine zIN w_2 (zLE (show fn8 [ρ 23] (γ 8) = (0, 0, γ 9) from l6.symm) (zLV (γ 9) rfl ?_))
  rfl
theorem vn42_29 {S : Nat → zSpc} (hS6 : zIm S 6 sn6) (hS7 : zIm S 7 sn7) (hS8 : zIm S 8 sn8) (hS9 : zIm S 9 sn9) (hS12 : zIm S 12 sn12) (hS13 : zIm S 13 sn13) (hS15 : zIm S 15 sn15) (hS18 : zIm S 18 sn18) (hS20 : zIm S 20 sn20) (hS23 : zIm S 23 sn23) (hS33 : zIm S 33 sn33) (hS34 : zIm S 34 sn34) (hS40 : zIm S 40 sn40) (hS41 : zIm S 41 sn41) {a : List Int} {g : rHp} : ∀ (ρ : Nat → Int) (γ : Nat → rHp), zO 18 S a g q42_29 ρ γ → zGl (fun _ _ _ => True) (sn42 a g) q42_29 ρ γ := by
  intro ρ γ h
  obtain ⟨ha, hg, hr, hf, hm, hc, hl⟩ := h
  have ha : a = [ρ 0, ρ 1, ρ 2, ρ 3, ρ 4, ρ 5, ρ 6, ρ 7, ρ 8, ρ 9, ρ 10, ρ 11, ρ 12, ρ 13, ρ 14, ρ 15, ρ 16, ρ 17] := ha
  subst ha
  subst hg
  have f6 : (0 : Int) ≤ ρ 18 + -ρ 1 := zAllA hf 6
  have w_0 : ¬ (0 ≤ -ρ 18 + ρ 1 + (-1)) := by omega
  have m1 : γ 0 15 0 34 = ρ 1 := zAllA hm 1
  have m8 : γ 0 15 0 44 = ρ 8 := zAllA hm 8
  have m9 : γ 0 73 0 (ρ 8) = ρ 9 := zAllA hm 9
  have m17 : γ 0 15 0 45 = ρ 17 := zAllA hm 17
  have m18 : γ 1 15 0 35 = ρ 18 := zAllA hm 18
  have c3 : γ 3 = rUp (γ 2) 79 0 (ρ 9 + 8 * ρ 8) (ρ 17) := And.right (zChA hc 3)
  have l0 : sn7 [ρ 0, ρ 1] (γ 0) 0 0 (γ 1) := hS7 _ _ _ _ _ (zAllA hl 0)
  have l1 : sn33 [ρ 8, ρ 9] (γ 1) 0 (ρ 9 + 8 * ρ 8) (γ 2) := hS33 _ _ _ _ _ (zAllA hl 1)
  have l2 : sn6 [ρ 18, ρ 1] (γ 3) 0 (-1) (γ 4) := hS6 _ _ _ _ _ (zAllA hl 2)
  have l3 : sn9 [(-1)] (γ 4) 0 0 (γ 5) := hS9 _ _ _ _ _ (zAllA hl 3)
  have l4 : sn20 [0, ρ 18, ρ 1, ρ 2, ρ 3, ρ 19, ρ 16, ρ 13, ρ 14, ρ 15, ρ 8] (γ 5) 0 0 (γ 6) := hS20 _ _ _ _ _ (zAllA hl 4)
  show sn42 [ρ 0, ρ 1, ρ 2, ρ 3, ρ 4, ρ 5, ρ 6, ρ 7, ρ 8, ρ 9, ρ 10, ρ 11, ρ 12, ρ 13, ρ 14, ρ 15, ρ 16, ρ 17] (γ 0) 0 0 (γ 6)
  refine Eq.symm ?_
  show fn42 [] (γ 0) = _
  unfold fn42
  refine zLE m1 (zLE m8 (zLE m9 (zLE m17 (zLE (show fn7 [] (γ 0) = (0, 0, γ 1) from l0.symm) (zLV (γ 1) rfl (zLE m18 (zLE (show fn33 [] (γ 1) = (0, ρ 9 + 8 * ρ 8, γ 2) from l1.symm) ?_)))))))
  refine zLV (γ 2) rfl (zLE c3.symm (zLE (show fn6 [ρ 18] (γ 3) = (0, (-1), γ 4) from l2.symm) (zLV (γ 4) rfl (zIN w_0 (zLE (show fn9 [(-1)] (γ 4) = (0, 0, γ 5) from l3.symm) (zLV (γ 5) rfl (zLE (show fn20 [0] (γ 5) = (0, 0, γ 6) from l4.symm) ?_)))))))
  refine zLV (γ 6) rfl ?_
  rfl
theorem yn42 {S : Nat → zSpc} (hS6 : zIm S 6 sn6) (hS7 : zIm S 7 sn7) (hS8 : zIm S 8 sn8) (hS9 : zIm S 9 sn9) (hS12 : zIm S 12 sn12) (hS13 : zIm S 13 sn13) (hS15 : zIm S 15 sn15) (hS18 : zIm S 18 sn18) (hS20 : zIm S 20 sn20) (hS23 : zIm S 23 sn23) (hS33 : zIm S 33 sn33) (hS34 : zIm S 34 sn34) (hS40 : zIm S 40 sn40) (hS41 : zIm S 41 sn41) : ∀ x g o v gz, zSem uW uT w42_.2.2.2.1 w42_.2.2.1.1.length S q42 (fun i => q42a.getD i []) (zNA a42_) x g o v gz → sn42 x g o v gz := by
  intro a g o v gz h
  exact zSem_all (l0 := q42) (las := q42a) (S := S) (J := (fun _ _ _ => True)) (P := sn42 a g) (fun _ => (show zAll _ [q42_0, q42_1, q42_2, q42_3, q42_4, q42_5, q42_6, q42_7, q42_8, q42_9, q42_10, q42_11, q42_12, q42_13, q42_14, q42_15, q42_16, q42_17, q42_18, q42_19, q42_20, q42_21, q42_22, q42_23, q42_24, q42_25, q42_26, q42_27, q42_28, q42_29] from (zAll_c (vn42_0 hS6 hS7 hS8 hS9 hS12 hS13 hS15 hS18 hS20 hS23 hS33 hS34 hS40 hS41) (zAll_c (vn42_1 hS6 hS7 hS8 hS9 hS12 hS13 hS15 hS18 hS20 hS23 hS33 hS34 hS40 hS41) (zAll_c (vn42_2 hS6 hS7 hS8 hS9 hS12 hS13 hS15 hS18 hS20 hS23 hS33 hS34 hS40 hS41) (zAll_c (vn42_3 hS6 hS7 hS8 hS9 hS12 hS13 hS15 hS18 hS20 hS23 hS33 hS34 hS40 hS41) (zAll_c (vn42_4 hS6 hS7 hS8 hS9 hS12 hS13 hS15 hS18 hS20 hS23 hS33 hS34 hS40 hS41) (zAll_c (vn42_5 hS6 hS7 hS8 hS9 hS12 hS13 hS15 hS18 hS20 hS23 hS33 hS34 hS40 hS41) (zAll_c (vn42_6 hS6 hS7 hS8 hS9 hS12 hS13 hS15 hS18 hS20 hS23 hS33 hS34 hS40 hS41) (zAll_c (vn42_7 hS6 hS7 hS8 hS9 hS12 hS13 hS15 hS18 hS20 hS23 hS33 hS34 hS40 hS41) (zAll_c (vn42_8 hS6 hS7 hS8 hS9 hS12 hS13 hS15 hS18 hS20 hS23 hS33 hS34 hS40 hS41) (zAll_c (vn42_9 hS6 hS7 hS8 hS9 hS12 hS13 hS15 hS18 hS20 hS23 hS33 hS34 hS40 hS41) (zAll_c (vn42_10 hS6 hS7 hS8 hS9 hS12 hS13 hS15 hS18 hS20 hS23 hS33 hS34 hS40 hS41) (zAll_c (vn42_11 hS6 hS7 hS8 hS9 hS12 hS13 hS15 hS18 hS20 hS23 hS33 hS34 hS40 hS41) (zAll_c (vn42_12 hS6 hS7 hS8 hS9 hS12 hS13 hS15 hS18 hS20 hS23 hS33 hS34 hS40 hS41) (zAll_c (vn42_13 hS6 hS7 hS8 hS9 hS12 hS13 hS15 hS18 hS20 hS23 hS33 hS34 hS40 hS41) (zAll_c (vn42_14 hS6 hS7 hS8 hS9 hS12 hS13 hS15 hS18 hS20 hS23 hS33 hS34 hS40 hS41) (zAll_c (vn42_15 hS6 hS7 hS8 hS9 hS12 hS13 hS15 hS18 hS20 hS23 hS33 hS34 hS40 hS41) (zAll_c (vn42_16 hS6 hS7 hS8 hS9 hS12 hS13 hS15 hS18 hS20 hS23 hS33 hS34 hS40 hS41) (zAll_c (vn42_17 hS6 hS7 hS8 hS9 hS12 hS13 hS15 hS18 hS20 hS23 hS33 hS34 hS40 hS41) (zAll_c (vn42_18 hS6 hS7 hS8 hS9 hS12 hS13 hS15 hS18 hS20 hS23 hS33 hS34 hS40 hS41) (zAll_c (vn42_19 hS6 hS7 hS8 hS9 hS12 hS13 hS15 hS18 hS20 hS23 hS33 hS34 hS40 hS41) (zAll_c (vn42_20 hS6 hS7 hS8 hS9 hS12 hS13 hS15 hS18 hS20 hS23 hS33 hS34 hS40 hS41) (zAll_c (vn42_21 hS6 hS7 hS8 hS9 hS12 hS13 hS15 hS18 hS20 hS23 hS33 hS34 hS40 hS41) (zAll_c (vn42_22 hS6 hS7 hS8 hS9 hS12 hS13 hS15 hS18 hS20 hS23 hS33 hS34 hS40 hS41) (zAll_c (vn42_23 hS6 hS7 hS8 hS9 hS12 hS13 hS15 hS18 hS20 hS23 hS33 hS34 hS40 hS41) (zAll_c (vn42_24 hS6 hS7 hS8 hS9 hS12 hS13 hS15 hS18 hS20 hS23 hS33 hS34 hS40 hS41) (zAll_c (vn42_25 hS6 hS7 hS8 hS9 hS12 hS13 hS15 hS18 hS20 hS23 hS33 hS34 hS40 hS41) (zAll_c (vn42_26 hS6 hS7 hS8 hS9 hS12 hS13 hS15 hS18 hS20 hS23 hS33 hS34 hS40 hS41) (zAll_c (vn42_27 hS6 hS7 hS8 hS9 hS12 hS13 hS15 hS18 hS20 hS23 hS33 hS34 hS40 hS41) (zAll_c (vn42_28 hS6 hS7 hS8 hS9 hS12 hS13 hS15 hS18 hS20 hS23 hS33 hS34 hS40 hS41) (zAll_c (vn42_29 hS6 hS7 hS8 hS9 hS12 hS13 hS15 hS18 hS20 hS23 hS33 hS34 hS40 hS41) zAll_n)))))))))))))))))))))))))))))))) (fun _ => (show zAllI _ 0 [] from trivial)) h
