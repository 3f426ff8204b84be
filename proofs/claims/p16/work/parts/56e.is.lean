/-! ===== the runs are the functions ===== -/
theorem vn37_0 {S : Nat → zSpc} (hS6 : zIm S 6 sn6) (hS7 : zIm S 7 sn7) (hS8 : zIm S 8 sn8) (hS9 : zIm S 9 sn9) (hS12 : zIm S 12 sn12) (hS13 : zIm S 13 sn13) (hS15 : zIm S 15 sn15) (hS18 : zIm S 18 sn18) (hS20 : zIm S 20 sn20) (hS23 : zIm S 23 sn23) (hS33 : zIm S 33 sn33) (hS34 : zIm S 34 sn34) (hS35 : zIm S 35 sn35) (hS36 : zIm S 36 sn36) {a : List Int} {g : rHp} : ∀ (ρ : Nat → Int) (γ : Nat → rHp), zO 16 S a g q37_0 ρ γ → zGl (fun _ _ _ => True) (sn37 a g) q37_0 ρ γ := by
  intro ρ γ h
  obtain ⟨ha, hg, hr, hf, hm, hc, hl⟩ := h
  have ha : a = [ρ 0, ρ 1, ρ 2, ρ 3, ρ 4, ρ 5, ρ 6, ρ 7, ρ 8, ρ 9, ρ 10, ρ 11, ρ 12, ρ 13, ρ 14, ρ 15] := ha
  subst ha
  subst hg
  have r17 : ((-128) : Int) ≤ ρ 17 ∧ ρ 17 ≤ 127 := zRnA hr 17
  have f6 : (0 : Int) ≤ -ρ 16 + ρ 2 + (-1) := zAllA hf 6
  have w_0 : 0 ≤ -ρ 16 + ρ 2 + (-1) := by omega
  have m1 : γ 0 15 0 34 = ρ 2 := zAllA hm 1
  have m5 : γ 0 15 0 44 = ρ 6 := zAllA hm 5
  have m6 : γ 0 73 0 (ρ 6) = ρ 7 := zAllA hm 6
  have m14 : γ 0 15 0 45 = ρ 15 := zAllA hm 14
  have m15 : γ 1 15 0 35 = ρ 16 := zAllA hm 15
  have c3 : γ 3 = rUp (γ 2) 79 0 (ρ 7 + 8 * ρ 6) (ρ 15) := And.right (zChA hc 3)
  have l0 : sn7 [ρ 1, ρ 2] (γ 0) 0 0 (γ 1) := hS7 _ _ _ _ _ (zAllA hl 0)
  have l1 : sn33 [ρ 6, ρ 7] (γ 1) 0 (ρ 7 + 8 * ρ 6) (γ 2) := hS33 _ _ _ _ _ (zAllA hl 1)
  have l2 : sn6 [ρ 16, ρ 2] (γ 3) 0 (ρ 17) (γ 4) := hS6 _ _ _ _ _ (zAllA hl 2)
  have l3 : ρ 17 ≠ 33 := zAllA hl 3
  have l4 : sn9 [ρ 17] (γ 4) 0 0 (γ 5) := hS9 _ _ _ _ _ (zAllA hl 4)
  have l5 : sn20 [0, ρ 16, ρ 2, ρ 3, ρ 4, ρ 18, ρ 14, ρ 11, ρ 12, ρ 13, ρ 6] (γ 5) 0 0 (γ 6) := hS20 _ _ _ _ _ (zAllA hl 5)
  have wl_0 : ρ 17 ≠ 33 := by omega
  show sn37 [ρ 0, ρ 1, ρ 2, ρ 3, ρ 4, ρ 5, ρ 6, ρ 7, ρ 8, ρ 9, ρ 10, ρ 11, ρ 12, ρ 13, ρ 14, ρ 15] (γ 0) 0 0 (γ 6)
  refine Eq.symm ?_
  show fn37 [ρ 0] (γ 0) = _
  unfold fn37
  refine zLV (ρ 0) rfl (zLE m1 (zLE m5 (zLE m6 (zLE m14 (zLE (show fn7 [] (γ 0) = (0, 0, γ 1) from l0.symm) (zLV (γ 1) rfl (zLE m15 ?_)))))))
  refine zLE (show fn33 [] (γ 1) = (0, ρ 7 + 8 * ρ 6, γ 2) from l1.symm) (zLV (γ 2) rfl (zLE c3.symm (zLE (show fn6 [ρ 16] (γ 3) = (0, ρ 17, γ 4) from l2.symm) (zLV (γ 4) rfl (zIP w_0 (zLV (ρ 17) rfl (zIP wl_0 ?_)))))))
  refine zLE (show fn9 [ρ 17] (γ 4) = (0, 0, γ 5) from l4.symm) (zLV (γ 5) rfl (zIN zQ0_ (zLE (show fn20 [0] (γ 5) = (0, 0, γ 6) from l5.symm) (zLV (γ 6) rfl (zIN zQ0_ ?_)))))
  rfl
theorem vn37_1 {S : Nat → zSpc} (hS6 : zIm S 6 sn6) (hS7 : zIm S 7 sn7) (hS8 : zIm S 8 sn8) (hS9 : zIm S 9 sn9) (hS12 : zIm S 12 sn12) (hS13 : zIm S 13 sn13) (hS15 : zIm S 15 sn15) (hS18 : zIm S 18 sn18) (hS20 : zIm S 20 sn20) (hS23 : zIm S 23 sn23) (hS33 : zIm S 33 sn33) (hS34 : zIm S 34 sn34) (hS35 : zIm S 35 sn35) (hS36 : zIm S 36 sn36) {a : List Int} {g : rHp} : ∀ (ρ : Nat → Int) (γ : Nat → rHp), zO 16 S a g q37_1 ρ γ → zGl (fun _ _ _ => True) (sn37 a g) q37_1 ρ γ := by
  intro ρ γ h
  obtain ⟨ha, hg, hr, hf, hm, hc, hl⟩ := h
  have ha : a = [ρ 0, ρ 1, ρ 2, ρ 3, ρ 4, ρ 5, ρ 6, ρ 7, ρ 8, ρ 9, ρ 10, ρ 11, ρ 12, ρ 13, ρ 14, ρ 15] := ha
  subst ha
  subst hg
  have r17 : ((-128) : Int) ≤ ρ 17 ∧ ρ 17 ≤ 127 := zRnA hr 17
  have r23 : (0 : Int) ≤ ρ 23 ∧ ρ 23 ≤ 2 := zRnA hr 23
  have f18 : (0 : Int) ≤ -ρ 16 + ρ 2 + (-1) := zAllA hf 18
  have w_0 : 0 ≤ -ρ 16 + ρ 2 + (-1) := by omega
  have m1 : γ 0 15 0 34 = ρ 2 := zAllA hm 1
  have m5 : γ 0 15 0 44 = ρ 6 := zAllA hm 5
  have m6 : γ 0 73 0 (ρ 6) = ρ 7 := zAllA hm 6
  have m14 : γ 0 15 0 45 = ρ 15 := zAllA hm 14
  have m15 : γ 1 15 0 35 = ρ 16 := zAllA hm 15
  have m20 : γ 6 15 0 39 = ρ 22 := zAllA hm 20
  have m21 : γ 6 15 0 40 = ρ 23 := zAllA hm 21
  have m25 : γ 9 15 0 35 = ρ 26 := zAllA hm 25
  have c3 : γ 3 = rUp (γ 2) 79 0 (ρ 7 + 8 * ρ 6) (ρ 15) := And.right (zChA hc 7)
  have c7 : γ 7 = rUp (γ 6) 80 0 (4 * ρ 7 + 32 * ρ 6) (ρ 23) := And.right (zChA hc 3)
  have c8 : γ 8 = rUp (γ 7) 81 0 (4 * ρ 7 + 32 * ρ 6) (ρ 22) := And.right (zChA hc 2)
  have l0 : sn7 [ρ 1, ρ 2] (γ 0) 0 0 (γ 1) := hS7 _ _ _ _ _ (zAllA hl 0)
  have l1 : sn33 [ρ 6, ρ 7] (γ 1) 0 (ρ 7 + 8 * ρ 6) (γ 2) := hS33 _ _ _ _ _ (zAllA hl 1)
  have l2 : sn6 [ρ 16, ρ 2] (γ 3) 0 (ρ 17) (γ 4) := hS6 _ _ _ _ _ (zAllA hl 2)
  have l3 : ρ 17 ≠ 33 := zAllA hl 3
  have l4 : sn9 [ρ 17] (γ 4) 0 0 (γ 5) := hS9 _ _ _ _ _ (zAllA hl 4)
  have l5 : sn20 [0, ρ 16, ρ 2, ρ 3, ρ 4, ρ 18, ρ 14, ρ 11, ρ 12, ρ 13, ρ 6] (γ 5) 0 1 (γ 6) := hS20 _ _ _ _ _ (zAllA hl 5)
  have l6 : sn7 [ρ 19, ρ 2] (γ 8) 0 0 (γ 9) := hS7 _ _ _ _ _ (zAllA hl 6)
  have l7 : ρ 23 ≠ 1 := zAllA hl 7
  have l8 : sn35 [ρ 16, ρ 26, ρ 2, ρ 20, ρ 21, ρ 6, ρ 7, ρ 8, ρ 22, ρ 11, ρ 24, ρ 25, ρ 23, ρ 15] (γ 9) 0 0 (γ 10) := hS35 _ _ _ _ _ (zAllA hl 8)
  obtain ⟨wl_0, wl_1⟩ : (ρ 17 ≠ 33) ∧ (ρ 23 ≠ 1) := ⟨by omega, by omega⟩
  show sn37 [ρ 0, ρ 1, ρ 2, ρ 3, ρ 4, ρ 5, ρ 6, ρ 7, ρ 8, ρ 9, ρ 10, ρ 11, ρ 12, ρ 13, ρ 14, ρ 15] (γ 0) 0 0 (γ 10)
  refine Eq.symm ?_
  show fn37 [ρ 0] (γ 0) = _
  unfold fn37
  refine zLV (ρ 0) rfl (zLE m1 (zLE m5 (zLE m6 (zLE m14 (zLE (show fn7 [] (γ 0) = (0, 0, γ 1) from l0.symm) (zLV (γ 1) rfl (zLE m15 ?_)))))))
  refine zLE (show fn33 [] (γ 1) = (0, ρ 7 + 8 * ρ 6, γ 2) from l1.symm) (zLV (γ 2) rfl (zLE c3.symm (zLE (show fn6 [ρ 16] (γ 3) = (0, ρ 17, γ 4) from l2.symm) (zLV (γ 4) rfl (zIP w_0 (zLV (ρ 17) rfl (zIP wl_0 ?_)))))))
  refine zLE (show fn9 [ρ 17] (γ 4) = (0, 0, γ 5) from l4.symm) (zLV (γ 5) rfl (zIN zQ0_ (zLE (show fn20 [0] (γ 5) = (0, 1, γ 6) from l5.symm) (zLV (γ 6) rfl (zIP zQ1_ (zLE m20 (zLE m21 ?_)))))))
  refine zLE c7.symm (zLE c8.symm (zLE (show fn7 [] (γ 8) = (0, 0, γ 9) from l6.symm) (zLV (γ 9) rfl (zLE m25 (zIP wl_1 (zLE (show fn35 [ρ 16] (γ 9) = (0, 0, γ 10) from l8.symm) (zLV (γ 10) rfl ?_)))))))
  refine zIN zQ0_ ?_
  rfl
theorem vn37_2 {S : Nat → zSpc} (hS6 : zIm S 6 sn6) (hS7 : zIm S 7 sn7) (hS8 : zIm S 8 sn8) (hS9 : zIm S 9 sn9) (hS12 : zIm S 12 sn12) (hS13 : zIm S 13 sn13) (hS15 : zIm S 15 sn15) (hS18 : zIm S 18 sn18) (hS20 : zIm S 20 sn20) (hS23 : zIm S 23 sn23) (hS33 : zIm S 33 sn33) (hS34 : zIm S 34 sn34) (hS35 : zIm S 35 sn35) (hS36 : zIm S 36 sn36) {a : List Int} {g : rHp} : ∀ (ρ : Nat → Int) (γ : Nat → rHp), zO 16 S a g q37_2 ρ γ → zGl (fun _ _ _ => True) (sn37 a g) q37_2 ρ γ := by
  intro ρ γ h
  obtain ⟨ha, hg, hr, hf, hm, hc, hl⟩ := h
  have ha : a = [ρ 0, ρ 1, ρ 2, ρ 3, ρ 4, ρ 5, ρ 6, ρ 7, ρ 8, ρ 9, ρ 10, ρ 11, ρ 12, ρ 13, ρ 14, ρ 15] := ha
  subst ha
  subst hg
  have r17 : ((-128) : Int) ≤ ρ 17 ∧ ρ 17 ≤ 127 := zRnA hr 17
  have r23 : (0 : Int) ≤ ρ 23 ∧ ρ 23 ≤ 2 := zRnA hr 23
  have f19 : (0 : Int) ≤ -ρ 16 + ρ 2 + (-1) := zAllA hf 19
  have w_0 : 0 ≤ -ρ 16 + ρ 2 + (-1) := by omega
  have m1 : γ 0 15 0 34 = ρ 2 := zAllA hm 1
  have m5 : γ 0 15 0 44 = ρ 6 := zAllA hm 5
  have m6 : γ 0 73 0 (ρ 6) = ρ 7 := zAllA hm 6
  have m14 : γ 0 15 0 45 = ρ 15 := zAllA hm 14
  have m15 : γ 1 15 0 35 = ρ 16 := zAllA hm 15
  have m20 : γ 6 15 0 39 = ρ 22 := zAllA hm 20
  have m21 : γ 6 15 0 40 = ρ 23 := zAllA hm 21
  have m25 : γ 9 15 0 35 = ρ 26 := zAllA hm 25
  have c3 : γ 3 = rUp (γ 2) 79 0 (ρ 7 + 8 * ρ 6) (ρ 15) := And.right (zChA hc 7)
  have c7 : γ 7 = rUp (γ 6) 80 0 (4 * ρ 7 + 32 * ρ 6) (ρ 23) := And.right (zChA hc 3)
  have c8 : γ 8 = rUp (γ 7) 81 0 (4 * ρ 7 + 32 * ρ 6) (ρ 22) := And.right (zChA hc 2)
  have l0 : sn7 [ρ 1, ρ 2] (γ 0) 0 0 (γ 1) := hS7 _ _ _ _ _ (zAllA hl 0)
  have l1 : sn33 [ρ 6, ρ 7] (γ 1) 0 (ρ 7 + 8 * ρ 6) (γ 2) := hS33 _ _ _ _ _ (zAllA hl 1)
  have l2 : sn6 [ρ 16, ρ 2] (γ 3) 0 (ρ 17) (γ 4) := hS6 _ _ _ _ _ (zAllA hl 2)
  have l3 : ρ 17 ≠ 33 := zAllA hl 3
  have l4 : sn9 [ρ 17] (γ 4) 0 0 (γ 5) := hS9 _ _ _ _ _ (zAllA hl 4)
  have l5 : sn20 [0, ρ 16, ρ 2, ρ 3, ρ 4, ρ 18, ρ 14, ρ 11, ρ 12, ρ 13, ρ 6] (γ 5) 0 1 (γ 6) := hS20 _ _ _ _ _ (zAllA hl 5)
  have l6 : sn7 [ρ 19, ρ 2] (γ 8) 0 0 (γ 9) := hS7 _ _ _ _ _ (zAllA hl 6)
  have l7 : ρ 23 ≠ 1 := zAllA hl 7
  have l8 : sn35 [ρ 16, ρ 26, ρ 2, ρ 20, ρ 21, ρ 6, ρ 7, ρ 8, ρ 22, ρ 11, ρ 24, ρ 25, ρ 23, ρ 15] (γ 9) 0 1 (γ 10) := hS35 _ _ _ _ _ (zAllA hl 8)
  obtain ⟨wl_0, wl_1⟩ : (ρ 17 ≠ 33) ∧ (ρ 23 ≠ 1) := ⟨by omega, by omega⟩
  show sn37 [ρ 0, ρ 1, ρ 2, ρ 3, ρ 4, ρ 5, ρ 6, ρ 7, ρ 8, ρ 9, ρ 10, ρ 11, ρ 12, ρ 13, ρ 14, ρ 15] (γ 0) 0 1 (γ 10)
  refine Eq.symm ?_
  show fn37 [ρ 0] (γ 0) = _
  unfold fn37
  refine zLV (ρ 0) rfl (zLE m1 (zLE m5 (zLE m6 (zLE m14 (zLE (show fn7 [] (γ 0) = (0, 0, γ 1) from l0.symm) (zLV (γ 1) rfl (zLE m15 ?_)))))))
  refine zLE (show fn33 [] (γ 1) = (0, ρ 7 + 8 * ρ 6, γ 2) from l1.symm) (zLV (γ 2) rfl (zLE c3.symm (zLE (show fn6 [ρ 16] (γ 3) = (0, ρ 17, γ 4) from l2.symm) (zLV (γ 4) rfl (zIP w_0 (zLV (ρ 17) rfl (zIP wl_0 ?_)))))))
  refine zLE (show fn9 [ρ 17] (γ 4) = (0, 0, γ 5) from l4.symm) (zLV (γ 5) rfl (zIN zQ0_ (zLE (show fn20 [0] (γ 5) = (0, 1, γ 6) from l5.symm) (zLV (γ 6) rfl (zIP zQ1_ (zLE m20 (zLE m21 ?_)))))))
  refine zLE c7.symm (zLE c8.symm (zLE (show fn7 [] (γ 8) = (0, 0, γ 9) from l6.symm) (zLV (γ 9) rfl (zLE m25 (zIP wl_1 (zLE (show fn35 [ρ 16] (γ 9) = (0, 1, γ 10) from l8.symm) (zLV (γ 10) rfl ?_)))))))
  refine zIP zQ1_ ?_
  rfl
theorem vn37_3 {S : Nat → zSpc} (hS6 : zIm S 6 sn6) (hS7 : zIm S 7 sn7) (hS8 : zIm S 8 sn8) (hS9 : zIm S 9 sn9) (hS12 : zIm S 12 sn12) (hS13 : zIm S 13 sn13) (hS15 : zIm S 15 sn15) (hS18 : zIm S 18 sn18) (hS20 : zIm S 20 sn20) (hS23 : zIm S 23 sn23) (hS33 : zIm S 33 sn33) (hS34 : zIm S 34 sn34) (hS35 : zIm S 35 sn35) (hS36 : zIm S 36 sn36) {a : List Int} {g : rHp} : ∀ (ρ : Nat → Int) (γ : Nat → rHp), zO 16 S a g q37_3 ρ γ → zGl (fun _ _ _ => True) (sn37 a g) q37_3 ρ γ := by
  intro ρ γ h
  obtain ⟨ha, hg, hr, hf, hm, hc, hl⟩ := h
  have ha : a = [ρ 0, ρ 1, ρ 2, ρ 3, ρ 4, ρ 5, ρ 6, ρ 7, ρ 8, ρ 9, ρ 10, ρ 11, ρ 12, ρ 13, ρ 14, ρ 15] := ha
  subst ha
  subst hg
  have r17 : ((-128) : Int) ≤ ρ 17 ∧ ρ 17 ≤ 127 := zRnA hr 17
  have r23 : (1 : Int) ≤ ρ 23 ∧ ρ 23 ≤ 1 := zRnA hr 23
  have f10 : (0 : Int) ≤ -ρ 26 + ρ 2 + (-1) := zAllA hf 10
  have f19 : (0 : Int) ≤ -ρ 16 + ρ 2 + (-1) := zAllA hf 19
  obtain ⟨w_0, w_1, w_2⟩ : (0 ≤ -ρ 16 + ρ 2 + (-1)) ∧ (¬ (ρ 23 ≠ 1)) ∧ (0 ≤ -ρ 26 + ρ 2 + (-1)) := ⟨by omega, by omega, by omega⟩
  have m1 : γ 0 15 0 34 = ρ 2 := zAllA hm 1
  have m5 : γ 0 15 0 44 = ρ 6 := zAllA hm 5
  have m6 : γ 0 73 0 (ρ 6) = ρ 7 := zAllA hm 6
  have m14 : γ 0 15 0 45 = ρ 15 := zAllA hm 14
  have m15 : γ 1 15 0 35 = ρ 16 := zAllA hm 15
  have m20 : γ 6 15 0 39 = ρ 22 := zAllA hm 20
  have m21 : γ 6 15 0 40 = ρ 23 := zAllA hm 21
  have m25 : γ 9 15 0 35 = ρ 26 := zAllA hm 25
  have c3 : γ 3 = rUp (γ 2) 79 0 (ρ 7 + 8 * ρ 6) (ρ 15) := And.right (zChA hc 9)
  have c7 : γ 7 = rUp (γ 6) 80 0 (4 * ρ 7 + 32 * ρ 6) (ρ 23) := And.right (zChA hc 5)
  have c8 : γ 8 = rUp (γ 7) 81 0 (4 * ρ 7 + 32 * ρ 6) (ρ 22) := And.right (zChA hc 4)
  have l0 : sn7 [ρ 1, ρ 2] (γ 0) 0 0 (γ 1) := hS7 _ _ _ _ _ (zAllA hl 0)
  have l1 : sn33 [ρ 6, ρ 7] (γ 1) 0 (ρ 7 + 8 * ρ 6) (γ 2) := hS33 _ _ _ _ _ (zAllA hl 1)
  have l2 : sn6 [ρ 16, ρ 2] (γ 3) 0 (ρ 17) (γ 4) := hS6 _ _ _ _ _ (zAllA hl 2)
  have l3 : ρ 17 ≠ 33 := zAllA hl 3
  have l4 : sn9 [ρ 17] (γ 4) 0 0 (γ 5) := hS9 _ _ _ _ _ (zAllA hl 4)
  have l5 : sn20 [0, ρ 16, ρ 2, ρ 3, ρ 4, ρ 18, ρ 14, ρ 11, ρ 12, ρ 13, ρ 6] (γ 5) 0 1 (γ 6) := hS20 _ _ _ _ _ (zAllA hl 5)
  have l6 : sn7 [ρ 19, ρ 2] (γ 8) 0 0 (γ 9) := hS7 _ _ _ _ _ (zAllA hl 6)
  have l7 : sn6 [ρ 26, ρ 2] (γ 9) 0 (ρ 27) (γ 10) := hS6 _ _ _ _ _ (zAllA hl 7)
  have l8 : sn9 [ρ 27] (γ 10) 0 0 (γ 11) := hS9 _ _ _ _ _ (zAllA hl 8)
  have l9 : sn35 [ρ 16, ρ 26, ρ 2, ρ 20, ρ 21, ρ 6, ρ 7, ρ 8, ρ 22, ρ 11, ρ 24, ρ 25, ρ 23, ρ 15] (γ 11) 0 0 (γ 12) := hS35 _ _ _ _ _ (zAllA hl 9)
  have wl_0 : ρ 17 ≠ 33 := by omega
  show sn37 [ρ 0, ρ 1, ρ 2, ρ 3, ρ 4, ρ 5, ρ 6, ρ 7, ρ 8, ρ 9, ρ 10, ρ 11, ρ 12, ρ 13, ρ 14, ρ 15] (γ 0) 0 0 (γ 12)
  refine Eq.symm ?_
  show fn37 [ρ 0] (γ 0) = _
  unfold fn37
  refine zLV (ρ 0) rfl (zLE m1 (zLE m5 (zLE m6 (zLE m14 (zLE (show fn7 [] (γ 0) = (0, 0, γ 1) from l0.symm) (zLV (γ 1) rfl (zLE m15 ?_)))))))
  refine zLE (show fn33 [] (γ 1) = (0, ρ 7 + 8 * ρ 6, γ 2) from l1.symm) (zLV (γ 2) rfl (zLE c3.symm (zLE (show fn6 [ρ 16] (γ 3) = (0, ρ 17, γ 4) from l2.symm) (zLV (γ 4) rfl (zIP w_0 (zLV (ρ 17) rfl (zIP wl_0 ?_)))))))
  refine zLE (show fn9 [ρ 17] (γ 4) = (0, 0, γ 5) from l4.symm) (zLV (γ 5) rfl (zIN zQ0_ (zLE (show fn20 [0] (γ 5) = (0, 1, γ 6) from l5.symm) (zLV (γ 6) rfl (zIP zQ1_ (zLE m20 (zLE m21 ?_)))))))
  refine zLE c7.symm (zLE c8.symm (zLE (show fn7 [] (γ 8) = (0, 0, γ 9) from l6.symm) (zLV (γ 9) rfl (zLE m25 (zIN w_1 (zLE (show fn6 [ρ 26] (γ 9) = (0, ρ 27, γ 10) from l7.symm) (zLV (γ 10) rfl ?_)))))))
  refine zIP w_2 (zLV (ρ 27) rfl (zLE (show fn9 [ρ 27] (γ 10) = (0, 0, γ 11) from l8.symm) (zLV (γ 11) rfl (zIN zQ0_ (zLE (show fn35 [ρ 16] (γ 11) = (0, 0, γ 12) from l9.symm) (zLV (γ 12) rfl (zIN zQ0_ ?_)))))))
  rfl
theorem vn37_4 {S : Nat → zSpc} (hS6 : zIm S 6 sn6) (hS7 : zIm S 7 sn7) (hS8 : zIm S 8 sn8) (hS9 : zIm S 9 sn9) (hS12 : zIm S 12 sn12) (hS13 : zIm S 13 sn13) (hS15 : zIm S 15 sn15) (hS18 : zIm S 18 sn18) (hS20 : zIm S 20 sn20) (hS23 : zIm S 23 sn23) (hS33 : zIm S 33 sn33) (hS34 : zIm S 34 sn34) (hS35 : zIm S 35 sn35) (hS36 : zIm S 36 sn36) {a : List Int} {g : rHp} : ∀ (ρ : Nat → Int) (γ : Nat → rHp), zO 16 S a g q37_4 ρ γ → zGl (fun _ _ _ => True) (sn37 a g) q37_4 ρ γ := by
  intro ρ γ h
  obtain ⟨ha, hg, hr, hf, hm, hc, hl⟩ := h
  have ha : a = [ρ 0, ρ 1, ρ 2, ρ 3, ρ 4, ρ 5, ρ 6, ρ 7, ρ 8, ρ 9, ρ 10, ρ 11, ρ 12, ρ 13, ρ 14, ρ 15] := ha
  subst ha
  subst hg
  have r17 : ((-128) : Int) ≤ ρ 17 ∧ ρ 17 ≤ 127 := zRnA hr 17
  have r23 : (1 : Int) ≤ ρ 23 ∧ ρ 23 ≤ 1 := zRnA hr 23
  have f8 : (0 : Int) ≤ -ρ 26 + ρ 2 + (-1) := zAllA hf 8
  have f19 : (0 : Int) ≤ -ρ 16 + ρ 2 + (-1) := zAllA hf 19
  obtain ⟨w_0, w_1, w_2⟩ : (0 ≤ -ρ 16 + ρ 2 + (-1)) ∧ (¬ (ρ 23 ≠ 1)) ∧ (0 ≤ -ρ 26 + ρ 2 + (-1)) := ⟨by omega, by omega, by omega⟩
  have m1 : γ 0 15 0 34 = ρ 2 := zAllA hm 1
  have m5 : γ 0 15 0 44 = ρ 6 := zAllA hm 5
  have m6 : γ 0 73 0 (ρ 6) = ρ 7 := zAllA hm 6
  have m14 : γ 0 15 0 45 = ρ 15 := zAllA hm 14
  have m15 : γ 1 15 0 35 = ρ 16 := zAllA hm 15
  have m20 : γ 6 15 0 39 = ρ 22 := zAllA hm 20
  have m21 : γ 6 15 0 40 = ρ 23 := zAllA hm 21
  have m25 : γ 9 15 0 35 = ρ 26 := zAllA hm 25
  have c3 : γ 3 = rUp (γ 2) 79 0 (ρ 7 + 8 * ρ 6) (ρ 15) := And.right (zChA hc 9)
  have c7 : γ 7 = rUp (γ 6) 80 0 (4 * ρ 7 + 32 * ρ 6) (ρ 23) := And.right (zChA hc 5)
  have c8 : γ 8 = rUp (γ 7) 81 0 (4 * ρ 7 + 32 * ρ 6) (ρ 22) := And.right (zChA hc 4)
  have l0 : sn7 [ρ 1, ρ 2] (γ 0) 0 0 (γ 1) := hS7 _ _ _ _ _ (zAllA hl 0)
  have l1 : sn33 [ρ 6, ρ 7] (γ 1) 0 (ρ 7 + 8 * ρ 6) (γ 2) := hS33 _ _ _ _ _ (zAllA hl 1)
  have l2 : sn6 [ρ 16, ρ 2] (γ 3) 0 (ρ 17) (γ 4) := hS6 _ _ _ _ _ (zAllA hl 2)
  have l3 : ρ 17 ≠ 33 := zAllA hl 3
  have l4 : sn9 [ρ 17] (γ 4) 0 0 (γ 5) := hS9 _ _ _ _ _ (zAllA hl 4)
  have l5 : sn20 [0, ρ 16, ρ 2, ρ 3, ρ 4, ρ 18, ρ 14, ρ 11, ρ 12, ρ 13, ρ 6] (γ 5) 0 1 (γ 6) := hS20 _ _ _ _ _ (zAllA hl 5)
  have l6 : sn7 [ρ 19, ρ 2] (γ 8) 0 0 (γ 9) := hS7 _ _ _ _ _ (zAllA hl 6)
  have l7 : sn6 [ρ 26, ρ 2] (γ 9) 0 (ρ 27) (γ 10) := hS6 _ _ _ _ _ (zAllA hl 7)
  have l8 : sn9 [ρ 27] (γ 10) 0 0 (γ 11) := hS9 _ _ _ _ _ (zAllA hl 8)
  have l9 : sn35 [ρ 16, ρ 26, ρ 2, ρ 20, ρ 21, ρ 6, ρ 7, ρ 8, ρ 22, ρ 11, ρ 24, ρ 25, ρ 23, ρ 15] (γ 11) 0 1 (γ 12) := hS35 _ _ _ _ _ (zAllA hl 9)
  have wl_0 : ρ 17 ≠ 33 := by omega
  show sn37 [ρ 0, ρ 1, ρ 2, ρ 3, ρ 4, ρ 5, ρ 6, ρ 7, ρ 8, ρ 9, ρ 10, ρ 11, ρ 12, ρ 13, ρ 14, ρ 15] (γ 0) 0 1 (γ 12)
  refine Eq.symm ?_
  show fn37 [ρ 0] (γ 0) = _
  unfold fn37
  refine zLV (ρ 0) rfl (zLE m1 (zLE m5 (zLE m6 (zLE m14 (zLE (show fn7 [] (γ 0) = (0, 0, γ 1) from l0.symm) (zLV (γ 1) rfl (zLE m15 ?_)))))))
  refine zLE (show fn33 [] (γ 1) = (0, ρ 7 + 8 * ρ 6, γ 2) from l1.symm) (zLV (γ 2) rfl (zLE c3.symm (zLE (show fn6 [ρ 16] (γ 3) = (0, ρ 17, γ 4) from l2.symm) (zLV (γ 4) rfl (zIP w_0 (zLV (ρ 17) rfl (zIP wl_0 ?_)))))))
  refine zLE (show fn9 [ρ 17] (γ 4) = (0, 0, γ 5) from l4.symm) (zLV (γ 5) rfl (zIN zQ0_ (zLE (show fn20 [0] (γ 5) = (0, 1, γ 6) from l5.symm) (zLV (γ 6) rfl (zIP zQ1_ (zLE m20 (zLE m21 ?_)))))))
  refine zLE c7.symm (zLE c8.symm (zLE (show fn7 [] (γ 8) = (0, 0, γ 9) from l6.symm) (zLV (γ 9) rfl (zLE m25 (zIN w_1 (zLE (show fn6 [ρ 26] (γ 9) = (0, ρ 27, γ 10) from l7.symm) (zLV (γ 10) rfl ?_)))))))
  refine zIP w_2 (zLV (ρ 27) rfl (zLE (show fn9 [ρ 27] (γ 10) = (0, 0, γ 11) from l8.symm) (zLV (γ 11) rfl (zIN zQ0_ (zLE (show fn35 [ρ 16] (γ 11) = (0, 1, γ 12) from l9.symm) (zLV (γ 12) rfl (zIP zQ1_ ?_)))))))
  rfl
theorem vn37_5 {S : Nat → zSpc} (hS6 : zIm S 6 sn6) (hS7 : zIm S 7 sn7) (hS8 : zIm S 8 sn8) (hS9 : zIm S 9 sn9) (hS12 : zIm S 12 sn12) (hS13 : zIm S 13 sn13) (hS15 : zIm S 15 sn15) (hS18 : zIm S 18 sn18) (hS20 : zIm S 20 sn20) (hS23 : zIm S 23 sn23) (hS33 : zIm S 33 sn33) (hS34 : zIm S 34 sn34) (hS35 : zIm S 35 sn35) (hS36 : zIm S 36 sn36) {a : List Int} {g : rHp} : ∀ (ρ : Nat → Int) (γ : Nat → rHp), zO 16 S a g q37_5 ρ γ → zGl (fun _ _ _ => True) (sn37 a g) q37_5 ρ γ := by
  intro ρ γ h
  obtain ⟨ha, hg, hr, hf, hm, hc, hl⟩ := h
  have ha : a = [ρ 0, ρ 1, ρ 2, ρ 3, ρ 4, ρ 5, ρ 6, ρ 7, ρ 8, ρ 9, ρ 10, ρ 11, ρ 12, ρ 13, ρ 14, ρ 15] := ha
  subst ha
  subst hg
  have r17 : ((-128) : Int) ≤ ρ 17 ∧ ρ 17 ≤ 127 := zRnA hr 17
  have r23 : (1 : Int) ≤ ρ 23 ∧ ρ 23 ≤ 1 := zRnA hr 23
  have f0 : (0 : Int) ≤ -ρ 26 + ρ 2 + (-1) := zAllA hf 0
  have f12 : (0 : Int) ≤ -ρ 16 + ρ 2 + (-1) := zAllA hf 12
  obtain ⟨w_0, w_1, w_2⟩ : (0 ≤ -ρ 16 + ρ 2 + (-1)) ∧ (¬ (ρ 23 ≠ 1)) ∧ (0 ≤ -ρ 26 + ρ 2 + (-1)) := ⟨by omega, by omega, by omega⟩
  have m1 : γ 0 15 0 34 = ρ 2 := zAllA hm 1
  have m5 : γ 0 15 0 44 = ρ 6 := zAllA hm 5
  have m6 : γ 0 73 0 (ρ 6) = ρ 7 := zAllA hm 6
  have m14 : γ 0 15 0 45 = ρ 15 := zAllA hm 14
  have m15 : γ 1 15 0 35 = ρ 16 := zAllA hm 15
  have m20 : γ 6 15 0 39 = ρ 22 := zAllA hm 20
  have m21 : γ 6 15 0 40 = ρ 23 := zAllA hm 21
  have m25 : γ 9 15 0 35 = ρ 26 := zAllA hm 25
  have c3 : γ 3 = rUp (γ 2) 79 0 (ρ 7 + 8 * ρ 6) (ρ 15) := And.right (zChA hc 9)
  have c7 : γ 7 = rUp (γ 6) 80 0 (4 * ρ 7 + 32 * ρ 6) (ρ 23) := And.right (zChA hc 5)
  have c8 : γ 8 = rUp (γ 7) 81 0 (4 * ρ 7 + 32 * ρ 6) (ρ 22) := And.right (zChA hc 4)
  have l0 : sn7 [ρ 1, ρ 2] (γ 0) 0 0 (γ 1) := hS7 _ _ _ _ _ (zAllA hl 0)
  have l1 : sn33 [ρ 6, ρ 7] (γ 1) 0 (ρ 7 + 8 * ρ 6) (γ 2) := hS33 _ _ _ _ _ (zAllA hl 1)
  have l2 : sn6 [ρ 16, ρ 2] (γ 3) 0 (ρ 17) (γ 4) := hS6 _ _ _ _ _ (zAllA hl 2)
  have l3 : ρ 17 ≠ 33 := zAllA hl 3
  have l4 : sn9 [ρ 17] (γ 4) 0 0 (γ 5) := hS9 _ _ _ _ _ (zAllA hl 4)
  have l5 : sn20 [0, ρ 16, ρ 2, ρ 3, ρ 4, ρ 18, ρ 14, ρ 11, ρ 12, ρ 13, ρ 6] (γ 5) 0 1 (γ 6) := hS20 _ _ _ _ _ (zAllA hl 5)
  have l6 : sn7 [ρ 19, ρ 2] (γ 8) 0 0 (γ 9) := hS7 _ _ _ _ _ (zAllA hl 6)
  have l7 : sn6 [ρ 26, ρ 2] (γ 9) 0 (ρ 27) (γ 10) := hS6 _ _ _ _ _ (zAllA hl 7)
  have l8 : sn9 [ρ 27] (γ 10) 0 1 (γ 11) := hS9 _ _ _ _ _ (zAllA hl 8)
  have l9 : sn12 [ρ 26, ρ 2, ρ 24, ρ 11, ρ 25] (γ 11) 0 0 (γ 12) := hS12 _ _ _ _ _ (zAllA hl 9)
  have wl_0 : ρ 17 ≠ 33 := by omega
  show sn37 [ρ 0, ρ 1, ρ 2, ρ 3, ρ 4, ρ 5, ρ 6, ρ 7, ρ 8, ρ 9, ρ 10, ρ 11, ρ 12, ρ 13, ρ 14, ρ 15] (γ 0) 0 0 (γ 12)
  refine Eq.symm ?_
  show fn37 [ρ 0] (γ 0) = _
  unfold fn37
  refine zLV (ρ 0) rfl (zLE m1 (zLE m5 (zLE m6 (zLE m14 (zLE (show fn7 [] (γ 0) = (0, 0, γ 1) from l0.symm) (zLV (γ 1) rfl (zLE m15 ?_)))))))
  refine zLE (show fn33 [] (γ 1) = (0, ρ 7 + 8 * ρ 6, γ 2) from l1.symm) (zLV (γ 2) rfl (zLE c3.symm (zLE (show fn6 [ρ 16] (γ 3) = (0, ρ 17, γ 4) from l2.symm) (zLV (γ 4) rfl (zIP w_0 (zLV (ρ 17) rfl (zIP wl_0 ?_)))))))
  refine zLE (show fn9 [ρ 17] (γ 4) = (0, 0, γ 5) from l4.symm) (zLV (γ 5) rfl (zIN zQ0_ (zLE (show fn20 [0] (γ 5) = (0, 1, γ 6) from l5.symm) (zLV (γ 6) rfl (zIP zQ1_ (zLE m20 (zLE m21 ?_)))))))
  refine zLE c7.symm (zLE c8.symm (zLE (show fn7 [] (γ 8) = (0, 0, γ 9) from l6.symm) (zLV (γ 9) rfl (zLE m25 (zIN w_1 (zLE (show fn6 [ρ 26] (γ 9) = (0, ρ 27, γ 10) from l7.symm) (zLV (γ 10) rfl ?_)))))))
  refine zIP w_2 (zLV (ρ 27) rfl (zLE (show fn9 [ρ 27] (γ 10) = (0, 1, γ 11) from l8.symm) (zLV (γ 11) rfl (zIP zQ1_ (zLE (show fn12 [] (γ 11) = (0, 0, γ 12) from l9.symm) (zLV (γ 12) rfl (zIN zQ0_ ?_)))))))
  rfl
theorem vn37_6 {S : Nat → zSpc} (hS6 : zIm S 6 sn6) (hS7 : zIm S 7 sn7) (hS8 : zIm S 8 sn8) (hS9 : zIm S 9 sn9) (hS12 : zIm S 12 sn12) (hS13 : zIm S 13 sn13) (hS15 : zIm S 15 sn15) (hS18 : zIm S 18 sn18) (hS20 : zIm S 20 sn20) (hS23 : zIm S 23 sn23) (hS33 : zIm S 33 sn33) (hS34 : zIm S 34 sn34) (hS35 : zIm S 35 sn35) (hS36 : zIm S 36 sn36) {a : List Int} {g : rHp} : ∀ (ρ : Nat → Int) (γ : Nat → rHp), zO 16 S a g q37_6 ρ γ → zGl (fun _ _ _ => True) (sn37 a g) q37_6 ρ γ := by
  intro ρ γ h
  obtain ⟨ha, hg, hr, hf, hm, hc, hl⟩ := h
  have ha : a = [ρ 0, ρ 1, ρ 2, ρ 3, ρ 4, ρ 5, ρ 6, ρ 7, ρ 8, ρ 9, ρ 10, ρ 11, ρ 12, ρ 13, ρ 14, ρ 15] := ha
  subst ha
  subst hg
  have r17 : ((-128) : Int) ≤ ρ 17 ∧ ρ 17 ≤ 127 := zRnA hr 17
  have r23 : (1 : Int) ≤ ρ 23 ∧ ρ 23 ≤ 1 := zRnA hr 23
  have f2 : (0 : Int) ≤ -ρ 26 + ρ 2 + (-1) := zAllA hf 2
  have f16 : (0 : Int) ≤ -ρ 16 + ρ 2 + (-1) := zAllA hf 16
  obtain ⟨w_0, w_1, w_2⟩ : (0 ≤ -ρ 16 + ρ 2 + (-1)) ∧ (¬ (ρ 23 ≠ 1)) ∧ (0 ≤ -ρ 26 + ρ 2 + (-1)) := ⟨by omega, by omega, by omega⟩
  have m1 : γ 0 15 0 34 = ρ 2 := zAllA hm 1
  have m5 : γ 0 15 0 44 = ρ 6 := zAllA hm 5
  have m6 : γ 0 73 0 (ρ 6) = ρ 7 := zAllA hm 6
  have m14 : γ 0 15 0 45 = ρ 15 := zAllA hm 14
  have m15 : γ 1 15 0 35 = ρ 16 := zAllA hm 15
  have m20 : γ 6 15 0 39 = ρ 22 := zAllA hm 20
  have m21 : γ 6 15 0 40 = ρ 23 := zAllA hm 21
  have m25 : γ 9 15 0 35 = ρ 26 := zAllA hm 25
  have c3 : γ 3 = rUp (γ 2) 79 0 (ρ 7 + 8 * ρ 6) (ρ 15) := And.right (zChA hc 11)
  have c7 : γ 7 = rUp (γ 6) 80 0 (4 * ρ 7 + 32 * ρ 6) (ρ 23) := And.right (zChA hc 7)
  have c8 : γ 8 = rUp (γ 7) 81 0 (4 * ρ 7 + 32 * ρ 6) (ρ 22) := And.right (zChA hc 6)
  have l0 : sn7 [ρ 1, ρ 2] (γ 0) 0 0 (γ 1) := hS7 _ _ _ _ _ (zAllA hl 0)
  have l1 : sn33 [ρ 6, ρ 7] (γ 1) 0 (ρ 7 + 8 * ρ 6) (γ 2) := hS33 _ _ _ _ _ (zAllA hl 1)
  have l2 : sn6 [ρ 16, ρ 2] (γ 3) 0 (ρ 17) (γ 4) := hS6 _ _ _ _ _ (zAllA hl 2)
  have l3 : ρ 17 ≠ 33 := zAllA hl 3
  have l4 : sn9 [ρ 17] (γ 4) 0 0 (γ 5) := hS9 _ _ _ _ _ (zAllA hl 4)
  have l5 : sn20 [0, ρ 16, ρ 2, ρ 3, ρ 4, ρ 18, ρ 14, ρ 11, ρ 12, ρ 13, ρ 6] (γ 5) 0 1 (γ 6) := hS20 _ _ _ _ _ (zAllA hl 5)
  have l6 : sn7 [ρ 19, ρ 2] (γ 8) 0 0 (γ 9) := hS7 _ _ _ _ _ (zAllA hl 6)
  have l7 : sn6 [ρ 26, ρ 2] (γ 9) 0 (ρ 27) (γ 10) := hS6 _ _ _ _ _ (zAllA hl 7)
  have l8 : sn9 [ρ 27] (γ 10) 0 1 (γ 11) := hS9 _ _ _ _ _ (zAllA hl 8)
  have l9 : sn12 [ρ 26, ρ 2, ρ 24, ρ 11, ρ 25] (γ 11) 0 1 (γ 12) := hS12 _ _ _ _ _ (zAllA hl 9)
  have l10 : sn13 [105, 115, 0, 0, 0, ρ 26, ρ 29] (γ 12) 0 0 (γ 13) := hS13 _ _ _ _ _ (zAllA hl 10)
  have l11 : sn8 [ρ 26, ρ 2, ρ 11] (γ 13) 0 0 (γ 14) := hS8 _ _ _ _ _ (zAllA hl 11)
  have wl_0 : ρ 17 ≠ 33 := by omega
  show sn37 [ρ 0, ρ 1, ρ 2, ρ 3, ρ 4, ρ 5, ρ 6, ρ 7, ρ 8, ρ 9, ρ 10, ρ 11, ρ 12, ρ 13, ρ 14, ρ 15] (γ 0) 0 0 (γ 14)
  refine Eq.symm ?_
  show fn37 [ρ 0] (γ 0) = _
  unfold fn37
  refine zLV (ρ 0) rfl (zLE m1 (zLE m5 (zLE m6 (zLE m14 (zLE (show fn7 [] (γ 0) = (0, 0, γ 1) from l0.symm) (zLV (γ 1) rfl (zLE m15 ?_)))))))
  refine zLE (show fn33 [] (γ 1) = (0, ρ 7 + 8 * ρ 6, γ 2) from l1.symm) (zLV (γ 2) rfl (zLE c3.symm (zLE (show fn6 [ρ 16] (γ 3) = (0, ρ 17, γ 4) from l2.symm) (zLV (γ 4) rfl (zIP w_0 (zLV (ρ 17) rfl (zIP wl_0 ?_)))))))
  refine zLE (show fn9 [ρ 17] (γ 4) = (0, 0, γ 5) from l4.symm) (zLV (γ 5) rfl (zIN zQ0_ (zLE (show fn20 [0] (γ 5) = (0, 1, γ 6) from l5.symm) (zLV (γ 6) rfl (zIP zQ1_ (zLE m20 (zLE m21 ?_)))))))
  refine zLE c7.symm (zLE c8.symm (zLE (show fn7 [] (γ 8) = (0, 0, γ 9) from l6.symm) (zLV (γ 9) rfl (zLE m25 (zIN w_1 (zLE (show fn6 [ρ 26] (γ 9) = (0, ρ 27, γ 10) from l7.symm) (zLV (γ 10) rfl ?_)))))))
  refine zIP w_2 (zLV (ρ 27) rfl (zLE (show fn9 [ρ 27] (γ 10) = (0, 1, γ 11) from l8.symm) (zLV (γ 11) rfl (zIP zQ1_ (zLE (show fn12 [] (γ 11) = (0, 1, γ 12) from l9.symm) (zLV (γ 12) rfl (zIP zQ1_ ?_)))))))
  refine zLE (show fn13 [105, 115, 0, 0, 0] (γ 12) = (0, 0, γ 13) from l10.symm) (zLV (γ 13) rfl (zIN zQ0_ (zLE (show fn8 [ρ 26] (γ 13) = (0, 0, γ 14) from l11.symm) (zLV (γ 14) rfl ?_))))
  rfl
theorem vn37_7 {S : Nat → zSpc} (hS6 : zIm S 6 sn6) (hS7 : zIm S 7 sn7) (hS8 : zIm S 8 sn8) (hS9 : zIm S 9 sn9) (hS12 : zIm S 12 sn12) (hS13 : zIm S 13 sn13) (hS15 : zIm S 15 sn15) (hS18 : zIm S 18 sn18) (hS20 : zIm S 20 sn20) (hS23 : zIm S 23 sn23) (hS33 : zIm S 33 sn33) (hS34 : zIm S 34 sn34) (hS35 : zIm S 35 sn35) (hS36 : zIm S 36 sn36) {a : List Int} {g : rHp} : ∀ (ρ : Nat → Int) (γ : Nat → rHp), zO 16 S a g q37_7 ρ γ → zGl (fun _ _ _ => True) (sn37 a g) q37_7 ρ γ := by
  intro ρ γ h
  obtain ⟨ha, hg, hr, hf, hm, hc, hl⟩ := h
  have ha : a = [ρ 0, ρ 1, ρ 2, ρ 3, ρ 4, ρ 5, ρ 6, ρ 7, ρ 8, ρ 9, ρ 10, ρ 11, ρ 12, ρ 13, ρ 14, ρ 15] := ha
  subst ha
  subst hg
  have r17 : ((-128) : Int) ≤ ρ 17 ∧ ρ 17 ≤ 127 := zRnA hr 17
  have r23 : (1 : Int) ≤ ρ 23 ∧ ρ 23 ≤ 1 := zRnA hr 23
  have f10 : (0 : Int) ≤ -ρ 26 + ρ 2 + (-1) := zAllA hf 10
  have f23 : (0 : Int) ≤ -ρ 16 + ρ 2 + (-1) := zAllA hf 23
  obtain ⟨w_0, w_1, w_2⟩ : (0 ≤ -ρ 16 + ρ 2 + (-1)) ∧ (¬ (ρ 23 ≠ 1)) ∧ (0 ≤ -ρ 26 + ρ 2 + (-1)) := ⟨by omega, by omega, by omega⟩
  have m1 : γ 0 15 0 34 = ρ 2 := zAllA hm 1
  have m5 : γ 0 15 0 44 = ρ 6 := zAllA hm 5
  have m6 : γ 0 73 0 (ρ 6) = ρ 7 := zAllA hm 6
  have m14 : γ 0 15 0 45 = ρ 15 := zAllA hm 14
  have m15 : γ 1 15 0 35 = ρ 16 := zAllA hm 15
  have m20 : γ 6 15 0 39 = ρ 22 := zAllA hm 20
  have m21 : γ 6 15 0 40 = ρ 23 := zAllA hm 21
  have m25 : γ 9 15 0 35 = ρ 26 := zAllA hm 25
  have c3 : γ 3 = rUp (γ 2) 79 0 (ρ 7 + 8 * ρ 6) (ρ 15) := And.right (zChA hc 12)
  have c7 : γ 7 = rUp (γ 6) 80 0 (4 * ρ 7 + 32 * ρ 6) (ρ 23) := And.right (zChA hc 8)
  have c8 : γ 8 = rUp (γ 7) 81 0 (4 * ρ 7 + 32 * ρ 6) (ρ 22) := And.right (zChA hc 7)
  have l0 : sn7 [ρ 1, ρ 2] (γ 0) 0 0 (γ 1) := hS7 _ _ _ _ _ (zAllA hl 0)
  have l1 : sn33 [ρ 6, ρ 7] (γ 1) 0 (ρ 7 + 8 * ρ 6) (γ 2) := hS33 _ _ _ _ _ (zAllA hl 1)
  have l2 : sn6 [ρ 16, ρ 2] (γ 3) 0 (ρ 17) (γ 4) := hS6 _ _ _ _ _ (zAllA hl 2)
  have l3 : ρ 17 ≠ 33 := zAllA hl 3
  have l4 : sn9 [ρ 17] (γ 4) 0 0 (γ 5) := hS9 _ _ _ _ _ (zAllA hl 4)
  have l5 : sn20 [0, ρ 16, ρ 2, ρ 3, ρ 4, ρ 18, ρ 14, ρ 11, ρ 12, ρ 13, ρ 6] (γ 5) 0 1 (γ 6) := hS20 _ _ _ _ _ (zAllA hl 5)
  have l6 : sn7 [ρ 19, ρ 2] (γ 8) 0 0 (γ 9) := hS7 _ _ _ _ _ (zAllA hl 6)
  have l7 : sn6 [ρ 26, ρ 2] (γ 9) 0 (ρ 27) (γ 10) := hS6 _ _ _ _ _ (zAllA hl 7)
  have l8 : sn9 [ρ 27] (γ 10) 0 1 (γ 11) := hS9 _ _ _ _ _ (zAllA hl 8)
  have l9 : sn12 [ρ 26, ρ 2, ρ 24, ρ 11, ρ 25] (γ 11) 0 1 (γ 12) := hS12 _ _ _ _ _ (zAllA hl 9)
  have l10 : sn13 [105, 115, 0, 0, 0, ρ 26, ρ 29] (γ 12) 0 1 (γ 13) := hS13 _ _ _ _ _ (zAllA hl 10)
  have l11 : sn18 [ρ 22, ρ 15] (γ 13) 0 0 (γ 14) := hS18 _ _ _ _ _ (zAllA hl 11)
  have l12 : sn34 [1, ρ 28, ρ 2, ρ 20, ρ 21, ρ 6, ρ 7, ρ 8, ρ 22, ρ 11, ρ 26, ρ 29, ρ 23, ρ 15] (γ 14) 0 0 (γ 15) := hS34 _ _ _ _ _ (zAllA hl 12)
  have wl_0 : ρ 17 ≠ 33 := by omega
  show sn37 [ρ 0, ρ 1, ρ 2, ρ 3, ρ 4, ρ 5, ρ 6, ρ 7, ρ 8, ρ 9, ρ 10, ρ 11, ρ 12, ρ 13, ρ 14, ρ 15] (γ 0) 0 0 (γ 15)
  refine Eq.symm ?_
  show fn37 [ρ 0] (γ 0) = _
  unfold fn37
  refine zLV (ρ 0) rfl (zLE m1 (zLE m5 (zLE m6 (zLE m14 (zLE (show fn7 [] (γ 0) = (0, 0, γ 1) from l0.symm) (zLV (γ 1) rfl (zLE m15 ?_)))))))
  refine zLE (show fn33 [] (γ 1) = (0, ρ 7 + 8 * ρ 6, γ 2) from l1.symm) (zLV (γ 2) rfl (zLE c3.symm (zLE (show fn6 [ρ 16] (γ 3) = (0, ρ 17, γ 4) from l2.symm) (zLV (γ 4) rfl (zIP w_0 (zLV (ρ 17) rfl (zIP wl_0 ?_)))))))
  refine zLE (show fn9 [ρ 17] (γ 4) = (0, 0, γ 5) from l4.symm) (zLV (γ 5) rfl (zIN zQ0_ (zLE (show fn20 [0] (γ 5) = (0, 1, γ 6) from l5.symm) (zLV (γ 6) rfl (zIP zQ1_ (zLE m20 (zLE m21 ?_)))))))
  refine zLE c7.symm (zLE c8.symm (zLE (show fn7 [] (γ 8) = (0, 0, γ 9) from l6.symm) (zLV (γ 9) rfl (zLE m25 (zIN w_1 (zLE (show fn6 [ρ 26] (γ 9) = (0, ρ 27, γ 10) from l7.symm) (zLV (γ 10) rfl ?_)))))))
  refine zIP w_2 (zLV (ρ 27) rfl (zLE (show fn9 [ρ 27] (γ 10) = (0, 1, γ 11) from l8.symm) (zLV (γ 11) rfl (zIP zQ1_ (zLE (show fn12 [] (γ 11) = (0, 1, γ 12) from l9.symm) (zLV (γ 12) rfl (zIP zQ1_ ?_)))))))
  refine zLE (show fn13 [105, 115, 0, 0, 0] (γ 12) = (0, 1, γ 13) from l10.symm) (zLV (γ 13) rfl (zIP zQ1_ (zLE (show fn18 [ρ 22] (γ 13) = (0, 0, γ 14) from l11.symm) (zLV (γ 14) rfl (zIN zQ0_ (zLE (show fn34 [1] (γ 14) = (0, 0, γ 15) from l12.symm) (zLV (γ 15) rfl ?_)))))))
  refine zIN zQ0_ ?_
  rfl
theorem vn37_8 {S : Nat → zSpc} (hS6 : zIm S 6 sn6) (hS7 : zIm S 7 sn7) (hS8 : zIm S 8 sn8) (hS9 : zIm S 9 sn9) (hS12 : zIm S 12 sn12) (hS13 : zIm S 13 sn13) (hS15 : zIm S 15 sn15) (hS18 : zIm S 18 sn18) (hS20 : zIm S 20 sn20) (hS23 : zIm S 23 sn23) (hS33 : zIm S 33 sn33) (hS34 : zIm S 34 sn34) (hS35 : zIm S 35 sn35) (hS36 : zIm S 36 sn36) {a : List Int} {g : rHp} : ∀ (ρ : Nat → Int) (γ : Nat → rHp), zO 16 S a g q37_8 ρ γ → zGl (fun _ _ _ => True) (sn37 a g) q37_8 ρ γ := by
  intro ρ γ h
  obtain ⟨ha, hg, hr, hf, hm, hc, hl⟩ := h
  have ha : a = [ρ 0, ρ 1, ρ 2, ρ 3, ρ 4, ρ 5, ρ 6, ρ 7, ρ 8, ρ 9, ρ 10, ρ 11, ρ 12, ρ 13, ρ 14, ρ 15] := ha
  subst ha
  subst hg
  have r17 : ((-128) : Int) ≤ ρ 17 ∧ ρ 17 ≤ 127 := zRnA hr 17
  have r23 : (1 : Int) ≤ ρ 23 ∧ ρ 23 ≤ 1 := zRnA hr 23
  have r37 : (43 : Int) ≤ ρ 37 ∧ ρ 37 ≤ 43 := zRnA hr 37
  have f2 : (0 : Int) ≤ -ρ 36 + ρ 2 + (-1) := zAllA hf 2
  have f22 : (0 : Int) ≤ -ρ 26 + ρ 2 + (-1) := zAllA hf 22
  have f35 : (0 : Int) ≤ -ρ 16 + ρ 2 + (-1) := zAllA hf 35
  obtain ⟨w_0, w_1, w_2, w_3, w_4⟩ : (0 ≤ -ρ 16 + ρ 2 + (-1)) ∧ (¬ (ρ 23 ≠ 1)) ∧ (0 ≤ -ρ 26 + ρ 2 + (-1)) ∧ (0 ≤ -ρ 36 + ρ 2 + (-1)) ∧ (ρ 37 = 43) := ⟨by omega, by omega, by omega, by omega, by omega⟩
  have m1 : γ 0 15 0 34 = ρ 2 := zAllA hm 1
  have m5 : γ 0 15 0 44 = ρ 6 := zAllA hm 5
  have m6 : γ 0 73 0 (ρ 6) = ρ 7 := zAllA hm 6
  have m14 : γ 0 15 0 45 = ρ 15 := zAllA hm 14
  have m15 : γ 1 15 0 35 = ρ 16 := zAllA hm 15
  have m20 : γ 6 15 0 39 = ρ 22 := zAllA hm 20
  have m21 : γ 6 15 0 40 = ρ 23 := zAllA hm 21
  have m25 : γ 9 15 0 35 = ρ 26 := zAllA hm 25
  have m38 : γ 16 15 0 35 = ρ 36 := zAllA hm 38
  have c3 : γ 3 = rUp (γ 2) 79 0 (ρ 7 + 8 * ρ 6) (ρ 15) := And.right (zChA hc 17)
  have c7 : γ 7 = rUp (γ 6) 80 0 (4 * ρ 7 + 32 * ρ 6) (ρ 23) := And.right (zChA hc 13)
  have c8 : γ 8 = rUp (γ 7) 81 0 (4 * ρ 7 + 32 * ρ 6) (ρ 22) := And.right (zChA hc 12)
  have c18 : γ 18 = rUp (γ 17) 15 0 35 (ρ 36 + 1) := And.right (zChA hc 2)
  have c19 : γ 19 = rUp (γ 18) 77 0 (ρ 7 + 8 * ρ 6) 5 := And.right (zChA hc 1)
  have l0 : sn7 [ρ 1, ρ 2] (γ 0) 0 0 (γ 1) := hS7 _ _ _ _ _ (zAllA hl 0)
  have l1 : sn33 [ρ 6, ρ 7] (γ 1) 0 (ρ 7 + 8 * ρ 6) (γ 2) := hS33 _ _ _ _ _ (zAllA hl 1)
  have l2 : sn6 [ρ 16, ρ 2] (γ 3) 0 (ρ 17) (γ 4) := hS6 _ _ _ _ _ (zAllA hl 2)
  have l3 : ρ 17 ≠ 33 := zAllA hl 3
  have l4 : sn9 [ρ 17] (γ 4) 0 0 (γ 5) := hS9 _ _ _ _ _ (zAllA hl 4)
  have l5 : sn20 [0, ρ 16, ρ 2, ρ 3, ρ 4, ρ 18, ρ 14, ρ 11, ρ 12, ρ 13, ρ 6] (γ 5) 0 1 (γ 6) := hS20 _ _ _ _ _ (zAllA hl 5)
  have l6 : sn7 [ρ 19, ρ 2] (γ 8) 0 0 (γ 9) := hS7 _ _ _ _ _ (zAllA hl 6)
  have l7 : sn6 [ρ 26, ρ 2] (γ 9) 0 (ρ 27) (γ 10) := hS6 _ _ _ _ _ (zAllA hl 7)
  have l8 : sn9 [ρ 27] (γ 10) 0 1 (γ 11) := hS9 _ _ _ _ _ (zAllA hl 8)
  have l9 : sn12 [ρ 26, ρ 2, ρ 24, ρ 11, ρ 25] (γ 11) 0 1 (γ 12) := hS12 _ _ _ _ _ (zAllA hl 9)
  have l10 : sn13 [105, 115, 0, 0, 0, ρ 26, ρ 29] (γ 12) 0 1 (γ 13) := hS13 _ _ _ _ _ (zAllA hl 10)
  have l11 : sn18 [ρ 22, ρ 15] (γ 13) 0 0 (γ 14) := hS18 _ _ _ _ _ (zAllA hl 11)
  have l12 : sn34 [1, ρ 28, ρ 2, ρ 20, ρ 21, ρ 6, ρ 7, ρ 8, ρ 22, ρ 11, ρ 26, ρ 29, ρ 23, ρ 15] (γ 14) 0 1 (γ 15) := hS34 _ _ _ _ _ (zAllA hl 12)
  have l13 : sn7 [ρ 30, ρ 2] (γ 15) 0 0 (γ 16) := hS7 _ _ _ _ _ (zAllA hl 13)
  have l14 : sn6 [ρ 36, ρ 2] (γ 16) 0 (ρ 37) (γ 17) := hS6 _ _ _ _ _ (zAllA hl 14)
  have l15 : sn34 [2, ρ 36 + 1, ρ 2, ρ 31, ρ 32, ρ 6, ρ 7, 5, ρ 22, ρ 11, ρ 33, ρ 34, ρ 35, ρ 15] (γ 19) 0 0 (γ 20) := hS34 _ _ _ _ _ (zAllA hl 15)
  have wl_0 : ρ 17 ≠ 33 := by omega
  show sn37 [ρ 0, ρ 1, ρ 2, ρ 3, ρ 4, ρ 5, ρ 6, ρ 7, ρ 8, ρ 9, ρ 10, ρ 11, ρ 12, ρ 13, ρ 14, ρ 15] (γ 0) 0 0 (γ 20)
  refine Eq.symm ?_
  show fn37 [ρ 0] (γ 0) = _
  unfold fn37
  refine zLV (ρ 0) rfl (zLE m1 (zLE m5 (zLE m6 (zLE m14 (zLE (show fn7 [] (γ 0) = (0, 0, γ 1) from l0.symm) (zLV (γ 1) rfl (zLE m15 ?_)))))))
  refine zLE (show fn33 [] (γ 1) = (0, ρ 7 + 8 * ρ 6, γ 2) from l1.symm) (zLV (γ 2) rfl (zLE c3.symm (zLE (show fn6 [ρ 16] (γ 3) = (0, ρ 17, γ 4) from l2.symm) (zLV (γ 4) rfl (zIP w_0 (zLV (ρ 17) rfl (zIP wl_0 ?_)))))))
  refine zLE (show fn9 [ρ 17] (γ 4) = (0, 0, γ 5) from l4.symm) (zLV (γ 5) rfl (zIN zQ0_ (zLE (show fn20 [0] (γ 5) = (0, 1, γ 6) from l5.symm) (zLV (γ 6) rfl (zIP zQ1_ (zLE m20 (zLE m21 ?_)))))))
  refine zLE c7.symm (zLE c8.symm (zLE (show fn7 [] (γ 8) = (0, 0, γ 9) from l6.symm) (zLV (γ 9) rfl (zLE m25 (zIN w_1 (zLE (show fn6 [ρ 26] (γ 9) = (0, ρ 27, γ 10) from l7.symm) (zLV (γ 10) rfl ?_)))))))
  refine zIP w_2 (zLV (ρ 27) rfl (zLE (show fn9 [ρ 27] (γ 10) = (0, 1, γ 11) from l8.symm) (zLV (γ 11) rfl (zIP zQ1_ (zLE (show fn12 [] (γ 11) = (0, 1, γ 12) from l9.symm) (zLV (γ 12) rfl (zIP zQ1_ ?_)))))))
  refine zLE (show fn13 [105, 115, 0, 0, 0] (γ 12) = (0, 1, γ 13) from l10.symm) (zLV (γ 13) rfl (zIP zQ1_ (zLE (show fn18 [ρ 22] (γ 13) = (0, 0, γ 14) from l11.symm) (zLV (γ 14) rfl (zIN zQ0_ (zLE (show fn34 [1] (γ 14) = (0, 1, γ 15) from l12.symm) (zLV (γ 15) rfl ?_)))))))
  refine zIP zQ1_ (zLE (show fn7 [] (γ 15) = (0, 0, γ 16) from l13.symm) (zLV (γ 16) rfl (zLE m38 (zLE (show fn6 [ρ 36] (γ 16) = (0, ρ 37, γ 17) from l14.symm) (zLV (γ 17) rfl (zIP w_3 (zLV (ρ 37) rfl ?_)))))))
  refine zIP w_4 (zLE c18.symm (zLE c19.symm (zLE (show fn34 [2] (γ 19) = (0, 0, γ 20) from l15.symm) (zLV (γ 20) rfl (zIN zQ0_ ?_)))))
  rfl
theorem vn37_9 {S : Nat → zSpc} (hS6 : zIm S 6 sn6) (hS7 : zIm S 7 sn7) (hS8 : zIm S 8 sn8) (hS9 : zIm S 9 sn9) (hS12 : zIm S 12 sn12) (hS13 : zIm S 13 sn13) (hS15 : zIm S 15 sn15) (hS18 : zIm S 18 sn18) (hS20 : zIm S 20 sn20) (hS23 : zIm S 23 sn23) (hS33 : zIm S 33 sn33) (hS34 : zIm S 34 sn34) (hS35 : zIm S 35 sn35) (hS36 : zIm S 36 sn36) {a : List Int} {g : rHp} : ∀ (ρ : Nat → Int) (γ : Nat → rHp), zO 16 S a g q37_9 ρ γ → zGl (fun _ _ _ => True) (sn37 a g) q37_9 ρ γ := by
  intro ρ γ h
  obtain ⟨ha, hg, hr, hf, hm, hc, hl⟩ := h
  have ha : a = [ρ 0, ρ 1, ρ 2, ρ 3, ρ 4, ρ 5, ρ 6, ρ 7, ρ 8, ρ 9, ρ 10, ρ 11, ρ 12, ρ 13, ρ 14, ρ 15] := ha
  subst ha
  subst hg
  have r17 : ((-128) : Int) ≤ ρ 17 ∧ ρ 17 ≤ 127 := zRnA hr 17
  have r23 : (1 : Int) ≤ ρ 23 ∧ ρ 23 ≤ 1 := zRnA hr 23
  have r37 : (43 : Int) ≤ ρ 37 ∧ ρ 37 ≤ 43 := zRnA hr 37
  have f2 : (0 : Int) ≤ -ρ 36 + ρ 2 + (-1) := zAllA hf 2
  have f22 : (0 : Int) ≤ -ρ 26 + ρ 2 + (-1) := zAllA hf 22
  have f35 : (0 : Int) ≤ -ρ 16 + ρ 2 + (-1) := zAllA hf 35
  obtain ⟨w_0, w_1, w_2, w_3, w_4⟩ : (0 ≤ -ρ 16 + ρ 2 + (-1)) ∧ (¬ (ρ 23 ≠ 1)) ∧ (0 ≤ -ρ 26 + ρ 2 + (-1)) ∧ (0 ≤ -ρ 36 + ρ 2 + (-1)) ∧ (ρ 37 = 43) := ⟨by omega, by omega, by omega, by omega, by omega⟩
  have m1 : γ 0 15 0 34 = ρ 2 := zAllA hm 1
  have m5 : γ 0 15 0 44 = ρ 6 := zAllA hm 5
  have m6 : γ 0 73 0 (ρ 6) = ρ 7 := zAllA hm 6
  have m14 : γ 0 15 0 45 = ρ 15 := zAllA hm 14
  have m15 : γ 1 15 0 35 = ρ 16 := zAllA hm 15
  have m20 : γ 6 15 0 39 = ρ 22 := zAllA hm 20
  have m21 : γ 6 15 0 40 = ρ 23 := zAllA hm 21
  have m25 : γ 9 15 0 35 = ρ 26 := zAllA hm 25
  have m38 : γ 16 15 0 35 = ρ 36 := zAllA hm 38
  have c3 : γ 3 = rUp (γ 2) 79 0 (ρ 7 + 8 * ρ 6) (ρ 15) := And.right (zChA hc 18)
  have c7 : γ 7 = rUp (γ 6) 80 0 (4 * ρ 7 + 32 * ρ 6) (ρ 23) := And.right (zChA hc 14)
  have c8 : γ 8 = rUp (γ 7) 81 0 (4 * ρ 7 + 32 * ρ 6) (ρ 22) := And.right (zChA hc 13)
  have c18 : γ 18 = rUp (γ 17) 15 0 35 (ρ 36 + 1) := And.right (zChA hc 3)
  have c19 : γ 19 = rUp (γ 18) 77 0 (ρ 7 + 8 * ρ 6) 5 := And.right (zChA hc 2)
  have c21 : γ 21 = rUp (γ 20) 15 0 45 (ρ 45) := And.right (zChA hc 0)
  have l0 : sn7 [ρ 1, ρ 2] (γ 0) 0 0 (γ 1) := hS7 _ _ _ _ _ (zAllA hl 0)
  have l1 : sn33 [ρ 6, ρ 7] (γ 1) 0 (ρ 7 + 8 * ρ 6) (γ 2) := hS33 _ _ _ _ _ (zAllA hl 1)
  have l2 : sn6 [ρ 16, ρ 2] (γ 3) 0 (ρ 17) (γ 4) := hS6 _ _ _ _ _ (zAllA hl 2)
  have l3 : ρ 17 ≠ 33 := zAllA hl 3
  have l4 : sn9 [ρ 17] (γ 4) 0 0 (γ 5) := hS9 _ _ _ _ _ (zAllA hl 4)
  have l5 : sn20 [0, ρ 16, ρ 2, ρ 3, ρ 4, ρ 18, ρ 14, ρ 11, ρ 12, ρ 13, ρ 6] (γ 5) 0 1 (γ 6) := hS20 _ _ _ _ _ (zAllA hl 5)
  have l6 : sn7 [ρ 19, ρ 2] (γ 8) 0 0 (γ 9) := hS7 _ _ _ _ _ (zAllA hl 6)
  have l7 : sn6 [ρ 26, ρ 2] (γ 9) 0 (ρ 27) (γ 10) := hS6 _ _ _ _ _ (zAllA hl 7)
  have l8 : sn9 [ρ 27] (γ 10) 0 1 (γ 11) := hS9 _ _ _ _ _ (zAllA hl 8)
  have l9 : sn12 [ρ 26, ρ 2, ρ 24, ρ 11, ρ 25] (γ 11) 0 1 (γ 12) := hS12 _ _ _ _ _ (zAllA hl 9)
  have l10 : sn13 [105, 115, 0, 0, 0, ρ 26, ρ 29] (γ 12) 0 1 (γ 13) := hS13 _ _ _ _ _ (zAllA hl 10)
  have l11 : sn18 [ρ 22, ρ 15] (γ 13) 0 0 (γ 14) := hS18 _ _ _ _ _ (zAllA hl 11)
  have l12 : sn34 [1, ρ 28, ρ 2, ρ 20, ρ 21, ρ 6, ρ 7, ρ 8, ρ 22, ρ 11, ρ 26, ρ 29, ρ 23, ρ 15] (γ 14) 0 1 (γ 15) := hS34 _ _ _ _ _ (zAllA hl 12)
  have l13 : sn7 [ρ 30, ρ 2] (γ 15) 0 0 (γ 16) := hS7 _ _ _ _ _ (zAllA hl 13)
  have l14 : sn6 [ρ 36, ρ 2] (γ 16) 0 (ρ 37) (γ 17) := hS6 _ _ _ _ _ (zAllA hl 14)
  have l15 : sn34 [2, ρ 36 + 1, ρ 2, ρ 31, ρ 32, ρ 6, ρ 7, 5, ρ 22, ρ 11, ρ 33, ρ 34, ρ 35, ρ 15] (γ 19) 0 1 (γ 20) := hS34 _ _ _ _ _ (zAllA hl 15)
  have l16 : zOpP (.ishl) (γ 0) (γ 1) [1, ρ 22] (ρ 44) := zAllA hl 16
  have l17 : zOpP (.ior) (γ 0) (γ 1) [ρ 15, ρ 44] (ρ 45) := zAllA hl 17
  have wl_0 : ρ 17 ≠ 33 := by omega
  show sn37 [ρ 0, ρ 1, ρ 2, ρ 3, ρ 4, ρ 5, ρ 6, ρ 7, ρ 8, ρ 9, ρ 10, ρ 11, ρ 12, ρ 13, ρ 14, ρ 15] (γ 0) 0 1 (γ 21)
  refine Eq.symm ?_
  show fn37 [ρ 0] (γ 0) = _
  unfold fn37
  refine zLV (ρ 0) rfl (zLE m1 (zLE m5 (zLE m6 (zLE m14 (zLE (show fn7 [] (γ 0) = (0, 0, γ 1) from l0.symm) (zLV (γ 1) rfl (zLE m15 ?_)))))))
  refine zLE (show fn33 [] (γ 1) = (0, ρ 7 + 8 * ρ 6, γ 2) from l1.symm) (zLV (γ 2) rfl (zLE c3.symm (zLE (show fn6 [ρ 16] (γ 3) = (0, ρ 17, γ 4) from l2.symm) (zLV (γ 4) rfl (zIP w_0 (zLV (ρ 17) rfl (zIP wl_0 ?_)))))))
  refine zLE (show fn9 [ρ 17] (γ 4) = (0, 0, γ 5) from l4.symm) (zLV (γ 5) rfl (zIN zQ0_ (zLE (show fn20 [0] (γ 5) = (0, 1, γ 6) from l5.symm) (zLV (γ 6) rfl (zIP zQ1_ (zLE m20 (zLE m21 ?_)))))))
  refine zLE c7.symm (zLE c8.symm (zLE (show fn7 [] (γ 8) = (0, 0, γ 9) from l6.symm) (zLV (γ 9) rfl (zLE m25 (zIN w_1 (zLE (show fn6 [ρ 26] (γ 9) = (0, ρ 27, γ 10) from l7.symm) (zLV (γ 10) rfl ?_)))))))
  refine zIP w_2 (zLV (ρ 27) rfl (zLE (show fn9 [ρ 27] (γ 10) = (0, 1, γ 11) from l8.symm) (zLV (γ 11) rfl (zIP zQ1_ (zLE (show fn12 [] (γ 11) = (0, 1, γ 12) from l9.symm) (zLV (γ 12) rfl (zIP zQ1_ ?_)))))))
  refine zLE (show fn13 [105, 115, 0, 0, 0] (γ 12) = (0, 1, γ 13) from l10.symm) (zLV (γ 13) rfl (zIP zQ1_ (zLE (show fn18 [ρ 22] (γ 13) = (0, 0, γ 14) from l11.symm) (zLV (γ 14) rfl (zIN zQ0_ (zLE (show fn34 [1] (γ 14) = (0, 1, γ 15) from l12.symm) (zLV (γ 15) rfl ?_)))))))
  refine zIP zQ1_ (zLE (show fn7 [] (γ 15) = (0, 0, γ 16) from l13.symm) (zLV (γ 16) rfl (zLE m38 (zLE (show fn6 [ρ 36] (γ 16) = (0, ρ 37, γ 17) from l14.symm) (zLV (γ 17) rfl (zIP w_3 (zLV (ρ 37) rfl ?_)))))))
  refine zIP w_4 (zLE c18.symm (zLE c19.symm (zLE (show fn34 [2] (γ 19) = (0, 1, γ 20) from l15.symm) (zLV (γ 20) rfl (zIP zQ1_ (zLE (zF2_ok l16) (zLE (zF2_ok l17) ?_)))))))
  refine zLE c21.symm ?_
  rfl
theorem vn37_10 {S : Nat → zSpc} (hS6 : zIm S 6 sn6) (hS7 : zIm S 7 sn7) (hS8 : zIm S 8 sn8) (hS9 : zIm S 9 sn9) (hS12 : zIm S 12 sn12) (hS13 : zIm S 13 sn13) (hS15 : zIm S 15 sn15) (hS18 : zIm S 18 sn18) (hS20 : zIm S 20 sn20) (hS23 : zIm S 23 sn23) (hS33 : zIm S 33 sn33) (hS34 : zIm S 34 sn34) (hS35 : zIm S 35 sn35) (hS36 : zIm S 36 sn36) {a : List Int} {g : rHp} : ∀ (ρ : Nat → Int) (γ : Nat → rHp), zO 16 S a g q37_10 ρ γ → zGl (fun _ _ _ => True) (sn37 a g) q37_10 ρ γ := by
  intro ρ γ h
  obtain ⟨ha, hg, hr, hf, hm, hc, hl⟩ := h
  have ha : a = [ρ 0, ρ 1, ρ 2, ρ 3, ρ 4, ρ 5, ρ 6, ρ 7, ρ 8, ρ 9, ρ 10, ρ 11, ρ 12, ρ 13, ρ 14, ρ 15] := ha
  subst ha
  subst hg
  have r17 : ((-128) : Int) ≤ ρ 17 ∧ ρ 17 ≤ 127 := zRnA hr 17
  have r23 : (1 : Int) ≤ ρ 23 ∧ ρ 23 ≤ 1 := zRnA hr 23
  have r37 : (45 : Int) ≤ ρ 37 ∧ ρ 37 ≤ 45 := zRnA hr 37
  have f2 : (0 : Int) ≤ -ρ 36 + ρ 2 + (-1) := zAllA hf 2
  have f22 : (0 : Int) ≤ -ρ 26 + ρ 2 + (-1) := zAllA hf 22
  have f35 : (0 : Int) ≤ -ρ 16 + ρ 2 + (-1) := zAllA hf 35
  obtain ⟨w_0, w_1, w_2, w_3, w_4, w_5⟩ : (0 ≤ -ρ 16 + ρ 2 + (-1)) ∧ (¬ (ρ 23 ≠ 1)) ∧ (0 ≤ -ρ 26 + ρ 2 + (-1)) ∧ (0 ≤ -ρ 36 + ρ 2 + (-1)) ∧ (¬ (ρ 37 = 43)) ∧ (ρ 37 = 45) := ⟨by omega, by omega, by omega, by omega, by omega, by omega⟩
  have m1 : γ 0 15 0 34 = ρ 2 := zAllA hm 1
  have m5 : γ 0 15 0 44 = ρ 6 := zAllA hm 5
  have m6 : γ 0 73 0 (ρ 6) = ρ 7 := zAllA hm 6
  have m14 : γ 0 15 0 45 = ρ 15 := zAllA hm 14
  have m15 : γ 1 15 0 35 = ρ 16 := zAllA hm 15
  have m20 : γ 6 15 0 39 = ρ 22 := zAllA hm 20
  have m21 : γ 6 15 0 40 = ρ 23 := zAllA hm 21
  have m25 : γ 9 15 0 35 = ρ 26 := zAllA hm 25
  have m38 : γ 16 15 0 35 = ρ 36 := zAllA hm 38
  have c3 : γ 3 = rUp (γ 2) 79 0 (ρ 7 + 8 * ρ 6) (ρ 15) := And.right (zChA hc 17)
  have c7 : γ 7 = rUp (γ 6) 80 0 (4 * ρ 7 + 32 * ρ 6) (ρ 23) := And.right (zChA hc 13)
  have c8 : γ 8 = rUp (γ 7) 81 0 (4 * ρ 7 + 32 * ρ 6) (ρ 22) := And.right (zChA hc 12)
  have c18 : γ 18 = rUp (γ 17) 15 0 35 (ρ 36 + 1) := And.right (zChA hc 2)
  have c19 : γ 19 = rUp (γ 18) 77 0 (ρ 7 + 8 * ρ 6) 6 := And.right (zChA hc 1)
  have l0 : sn7 [ρ 1, ρ 2] (γ 0) 0 0 (γ 1) := hS7 _ _ _ _ _ (zAllA hl 0)
  have l1 : sn33 [ρ 6, ρ 7] (γ 1) 0 (ρ 7 + 8 * ρ 6) (γ 2) := hS33 _ _ _ _ _ (zAllA hl 1)
  have l2 : sn6 [ρ 16, ρ 2] (γ 3) 0 (ρ 17) (γ 4) := hS6 _ _ _ _ _ (zAllA hl 2)
  have l3 : ρ 17 ≠ 33 := zAllA hl 3
  have l4 : sn9 [ρ 17] (γ 4) 0 0 (γ 5) := hS9 _ _ _ _ _ (zAllA hl 4)
  have l5 : sn20 [0, ρ 16, ρ 2, ρ 3, ρ 4, ρ 18, ρ 14, ρ 11, ρ 12, ρ 13, ρ 6] (γ 5) 0 1 (γ 6) := hS20 _ _ _ _ _ (zAllA hl 5)
  have l6 : sn7 [ρ 19, ρ 2] (γ 8) 0 0 (γ 9) := hS7 _ _ _ _ _ (zAllA hl 6)
  have l7 : sn6 [ρ 26, ρ 2] (γ 9) 0 (ρ 27) (γ 10) := hS6 _ _ _ _ _ (zAllA hl 7)
  have l8 : sn9 [ρ 27] (γ 10) 0 1 (γ 11) := hS9 _ _ _ _ _ (zAllA hl 8)
  have l9 : sn12 [ρ 26, ρ 2, ρ 24, ρ 11, ρ 25] (γ 11) 0 1 (γ 12) := hS12 _ _ _ _ _ (zAllA hl 9)
  have l10 : sn13 [105, 115, 0, 0, 0, ρ 26, ρ 29] (γ 12) 0 1 (γ 13) := hS13 _ _ _ _ _ (zAllA hl 10)
  have l11 : sn18 [ρ 22, ρ 15] (γ 13) 0 0 (γ 14) := hS18 _ _ _ _ _ (zAllA hl 11)
  have l12 : sn34 [1, ρ 28, ρ 2, ρ 20, ρ 21, ρ 6, ρ 7, ρ 8, ρ 22, ρ 11, ρ 26, ρ 29, ρ 23, ρ 15] (γ 14) 0 1 (γ 15) := hS34 _ _ _ _ _ (zAllA hl 12)
  have l13 : sn7 [ρ 30, ρ 2] (γ 15) 0 0 (γ 16) := hS7 _ _ _ _ _ (zAllA hl 13)
  have l14 : sn6 [ρ 36, ρ 2] (γ 16) 0 (ρ 37) (γ 17) := hS6 _ _ _ _ _ (zAllA hl 14)
  have l15 : ρ 37 ≠ 43 := zAllA hl 15
  have l16 : sn34 [2, ρ 36 + 1, ρ 2, ρ 31, ρ 32, ρ 6, ρ 7, 6, ρ 22, ρ 11, ρ 33, ρ 34, ρ 35, ρ 15] (γ 19) 0 0 (γ 20) := hS34 _ _ _ _ _ (zAllA hl 16)
  have wl_0 : ρ 17 ≠ 33 := by omega
  show sn37 [ρ 0, ρ 1, ρ 2, ρ 3, ρ 4, ρ 5, ρ 6, ρ 7, ρ 8, ρ 9, ρ 10, ρ 11, ρ 12, ρ 13, ρ 14, ρ 15] (γ 0) 0 0 (γ 20)
  refine Eq.symm ?_
  show fn37 [ρ 0] (γ 0) = _
  unfold fn37
  refine zLV (ρ 0) rfl (zLE m1 (zLE m5 (zLE m6 (zLE m14 (zLE (show fn7 [] (γ 0) = (0, 0, γ 1) from l0.symm) (zLV (γ 1) rfl (zLE m15 ?_)))))))
  refine zLE (show fn33 [] (γ 1) = (0, ρ 7 + 8 * ρ 6, γ 2) from l1.symm) (zLV (γ 2) rfl (zLE c3.symm (zLE (show fn6 [ρ 16] (γ 3) = (0, ρ 17, γ 4) from l2.symm) (zLV (γ 4) rfl (zIP w_0 (zLV (ρ 17) rfl (zIP wl_0 ?_)))))))
  refine zLE (show fn9 [ρ 17] (γ 4) = (0, 0, γ 5) from l4.symm) (zLV (γ 5) rfl (zIN zQ0_ (zLE (show fn20 [0] (γ 5) = (0, 1, γ 6) from l5.symm) (zLV (γ 6) rfl (zIP zQ1_ (zLE m20 (zLE m21 ?_)))))))
  refine zLE c7.symm (zLE c8.symm (zLE (show fn7 [] (γ 8) = (0, 0, γ 9) from l6.symm) (zLV (γ 9) rfl (zLE m25 (zIN w_1 (zLE (show fn6 [ρ 26] (γ 9) = (0, ρ 27, γ 10) from l7.symm) (zLV (γ 10) rfl ?_)))))))
  refine zIP w_2 (zLV (ρ 27) rfl (zLE (show fn9 [ρ 27] (γ 10) = (0, 1, γ 11) from l8.symm) (zLV (γ 11) rfl (zIP zQ1_ (zLE (show fn12 [] (γ 11) = (0, 1, γ 12) from l9.symm) (zLV (γ 12) rfl (zIP zQ1_ ?_)))))))
  refine zLE (show fn13 [105, 115, 0, 0, 0] (γ 12) = (0, 1, γ 13) from l10.symm) (zLV (γ 13) rfl (zIP zQ1_ (zLE (show fn18 [ρ 22] (γ 13) = (0, 0, γ 14) from l11.symm) (zLV (γ 14) rfl (zIN zQ0_ (zLE (show fn34 [1] (γ 14) = (0, 1, γ 15) from l12.symm) (zLV (γ 15) rfl ?_)))))))
  refine zIP zQ1_ (zLE (show fn7 [] (γ 15) = (0, 0, γ 16) from l13.symm) (zLV (γ 16) rfl (zLE m38 (zLE (show fn6 [ρ 36] (γ 16) = (0, ρ 37, γ 17) from l14.symm) (zLV (γ 17) rfl (zIP w_3 (zLV (ρ 37) rfl ?_)))))))
  refine zIN w_4 (zIP w_5 (zLE c18.symm (zLE c19.symm (zLE (show fn34 [2] (γ 19) = (0, 0, γ 20) from l16.symm) (zLV (γ 20) rfl (zIN zQ0_ ?_))))))
  rfl
theorem vn37_11 {S : Nat → zSpc} (hS6 : zIm S 6 sn6) (hS7 : zIm S 7 sn7) (hS8 : zIm S 8 sn8) (hS9 : zIm S 9 sn9) (hS12 : zIm S 12 sn12) (hS13 : zIm S 13 sn13) (hS15 : zIm S 15 sn15) (hS18 : zIm S 18 sn18) (hS20 : zIm S 20 sn20) (hS23 : zIm S 23 sn23) (hS33 : zIm S 33 sn33) (hS34 : zIm S 34 sn34) (hS35 : zIm S 35 sn35) (hS36 : zIm S 36 sn36) {a : List Int} {g : rHp} : ∀ (ρ : Nat → Int) (γ : Nat → rHp), zO 16 S a g q37_11 ρ γ → zGl (fun _ _ _ => True) (sn37 a g) q37_11 ρ γ := by
  intro ρ γ h
  obtain ⟨ha, hg, hr, hf, hm, hc, hl⟩ := h
  have ha : a = [ρ 0, ρ 1, ρ 2, ρ 3, ρ 4, ρ 5, ρ 6, ρ 7, ρ 8, ρ 9, ρ 10, ρ 11, ρ 12, ρ 13, ρ 14, ρ 15] := ha
  subst ha
  subst hg
  have r17 : ((-128) : Int) ≤ ρ 17 ∧ ρ 17 ≤ 127 := zRnA hr 17
  have r23 : (1 : Int) ≤ ρ 23 ∧ ρ 23 ≤ 1 := zRnA hr 23
  have r37 : (45 : Int) ≤ ρ 37 ∧ ρ 37 ≤ 45 := zRnA hr 37
  have f2 : (0 : Int) ≤ -ρ 36 + ρ 2 + (-1) := zAllA hf 2
  have f22 : (0 : Int) ≤ -ρ 26 + ρ 2 + (-1) := zAllA hf 22
  have f35 : (0 : Int) ≤ -ρ 16 + ρ 2 + (-1) := zAllA hf 35
  obtain ⟨w_0, w_1, w_2, w_3, w_4, w_5⟩ : (0 ≤ -ρ 16 + ρ 2 + (-1)) ∧ (¬ (ρ 23 ≠ 1)) ∧ (0 ≤ -ρ 26 + ρ 2 + (-1)) ∧ (0 ≤ -ρ 36 + ρ 2 + (-1)) ∧ (¬ (ρ 37 = 43)) ∧ (ρ 37 = 45) := ⟨by omega, by omega, by omega, by omega, by omega, by omega⟩
  have m1 : γ 0 15 0 34 = ρ 2 := zAllA hm 1
  have m5 : γ 0 15 0 44 = ρ 6 := zAllA hm 5
  have m6 : γ 0 73 0 (ρ 6) = ρ 7 := zAllA hm 6
  have m14 : γ 0 15 0 45 = ρ 15 := zAllA hm 14
  have m15 : γ 1 15 0 35 = ρ 16 := zAllA hm 15
  have m20 : γ 6 15 0 39 = ρ 22 := zAllA hm 20
  have m21 : γ 6 15 0 40 = ρ 23 := zAllA hm 21
  have m25 : γ 9 15 0 35 = ρ 26 := zAllA hm 25
  have m38 : γ 16 15 0 35 = ρ 36 := zAllA hm 38
  have c3 : γ 3 = rUp (γ 2) 79 0 (ρ 7 + 8 * ρ 6) (ρ 15) := And.right (zChA hc 18)
  have c7 : γ 7 = rUp (γ 6) 80 0 (4 * ρ 7 + 32 * ρ 6) (ρ 23) := And.right (zChA hc 14)
  have c8 : γ 8 = rUp (γ 7) 81 0 (4 * ρ 7 + 32 * ρ 6) (ρ 22) := And.right (zChA hc 13)
  have c18 : γ 18 = rUp (γ 17) 15 0 35 (ρ 36 + 1) := And.right (zChA hc 3)
  have c19 : γ 19 = rUp (γ 18) 77 0 (ρ 7 + 8 * ρ 6) 6 := And.right (zChA hc 2)
  have c21 : γ 21 = rUp (γ 20) 15 0 45 (ρ 45) := And.right (zChA hc 0)
  have l0 : sn7 [ρ 1, ρ 2] (γ 0) 0 0 (γ 1) := hS7 _ _ _ _ _ (zAllA hl 0)
  have l1 : sn33 [ρ 6, ρ 7] (γ 1) 0 (ρ 7 + 8 * ρ 6) (γ 2) := hS33 _ _ _ _ _ (zAllA hl 1)
  have l2 : sn6 [ρ 16, ρ 2] (γ 3) 0 (ρ 17) (γ 4) := hS6 _ _ _ _ _ (zAllA hl 2)
  have l3 : ρ 17 ≠ 33 := zAllA hl 3
  have l4 : sn9 [ρ 17] (γ 4) 0 0 (γ 5) := hS9 _ _ _ _ _ (zAllA hl 4)
  have l5 : sn20 [0, ρ 16, ρ 2, ρ 3, ρ 4, ρ 18, ρ 14, ρ 11, ρ 12, ρ 13, ρ 6] (γ 5) 0 1 (γ 6) := hS20 _ _ _ _ _ (zAllA hl 5)
  have l6 : sn7 [ρ 19, ρ 2] (γ 8) 0 0 (γ 9) := hS7 _ _ _ _ _ (zAllA hl 6)
  have l7 : sn6 [ρ 26, ρ 2] (γ 9) 0 (ρ 27) (γ 10) := hS6 _ _ _ _ _ (zAllA hl 7)
  have l8 : sn9 [ρ 27] (γ 10) 0 1 (γ 11) := hS9 _ _ _ _ _ (zAllA hl 8)
  have l9 : sn12 [ρ 26, ρ 2, ρ 24, ρ 11, ρ 25] (γ 11) 0 1 (γ 12) := hS12 _ _ _ _ _ (zAllA hl 9)
  have l10 : sn13 [105, 115, 0, 0, 0, ρ 26, ρ 29] (γ 12) 0 1 (γ 13) := hS13 _ _ _ _ _ (zAllA hl 10)
  have l11 : sn18 [ρ 22, ρ 15] (γ 13) 0 0 (γ 14) := hS18 _ _ _ _ _ (zAllA hl 11)
  have l12 : sn34 [1, ρ 28, ρ 2, ρ 20, ρ 21, ρ 6, ρ 7, ρ 8, ρ 22, ρ 11, ρ 26, ρ 29, ρ 23, ρ 15] (γ 14) 0 1 (γ 15) := hS34 _ _ _ _ _ (zAllA hl 12)
  have l13 : sn7 [ρ 30, ρ 2] (γ 15) 0 0 (γ 16) := hS7 _ _ _ _ _ (zAllA hl 13)
  have l14 : sn6 [ρ 36, ρ 2] (γ 16) 0 (ρ 37) (γ 17) := hS6 _ _ _ _ _ (zAllA hl 14)
  have l15 : ρ 37 ≠ 43 := zAllA hl 15
  have l16 : sn34 [2, ρ 36 + 1, ρ 2, ρ 31, ρ 32, ρ 6, ρ 7, 6, ρ 22, ρ 11, ρ 33, ρ 34, ρ 35, ρ 15] (γ 19) 0 1 (γ 20) := hS34 _ _ _ _ _ (zAllA hl 16)
  have l17 : zOpP (.ishl) (γ 0) (γ 1) [1, ρ 22] (ρ 44) := zAllA hl 17
  have l18 : zOpP (.ior) (γ 0) (γ 1) [ρ 15, ρ 44] (ρ 45) := zAllA hl 18
  have wl_0 : ρ 17 ≠ 33 := by omega
  show sn37 [ρ 0, ρ 1, ρ 2, ρ 3, ρ 4, ρ 5, ρ 6, ρ 7, ρ 8, ρ 9, ρ 10, ρ 11, ρ 12, ρ 13, ρ 14, ρ 15] (γ 0) 0 1 (γ 21)
  refine Eq.symm ?_
  show fn37 [ρ 0] (γ 0) = _
  unfold fn37
  refine zLV (ρ 0) rfl (zLE m1 (zLE m5 (zLE m6 (zLE m14 (zLE (show fn7 [] (γ 0) = (0, 0, γ 1) from l0.symm) (zLV (γ 1) rfl (zLE m15 ?_)))))))
  refine zLE (show fn33 [] (γ 1) = (0, ρ 7 + 8 * ρ 6, γ 2) from l1.symm) (zLV (γ 2) rfl (zLE c3.symm (zLE (show fn6 [ρ 16] (γ 3) = (0, ρ 17, γ 4) from l2.symm) (zLV (γ 4) rfl (zIP w_0 (zLV (ρ 17) rfl (zIP wl_0 ?_)))))))
  refine zLE (show fn9 [ρ 17] (γ 4) = (0, 0, γ 5) from l4.symm) (zLV (γ 5) rfl (zIN zQ0_ (zLE (show fn20 [0] (γ 5) = (0, 1, γ 6) from l5.symm) (zLV (γ 6) rfl (zIP zQ1_ (zLE m20 (zLE m21 ?_)))))))
  refine zLE c7.symm (zLE c8.symm (zLE (show fn7 [] (γ 8) = (0, 0, γ 9) from l6.symm) (zLV (γ 9) rfl (zLE m25 (zIN w_1 (zLE (show fn6 [ρ 26] (γ 9) = (0, ρ 27, γ 10) from l7.symm) (zLV (γ 10) rfl ?_)))))))
  refine zIP w_2 (zLV (ρ 27) rfl (zLE (show fn9 [ρ 27] (γ 10) = (0, 1, γ 11) from l8.symm) (zLV (γ 11) rfl (zIP zQ1_ (zLE (show fn12 [] (γ 11) = (0, 1, γ 12) from l9.symm) (zLV (γ 12) rfl (zIP zQ1_ ?_)))))))
  refine zLE (show fn13 [105, 115, 0, 0, 0] (γ 12) = (0, 1, γ 13) from l10.symm) (zLV (γ 13) rfl (zIP zQ1_ (zLE (show fn18 [ρ 22] (γ 13) = (0, 0, γ 14) from l11.symm) (zLV (γ 14) rfl (zIN zQ0_ (zLE (show fn34 [1] (γ 14) = (0, 1, γ 15) from l12.symm) (zLV (γ 15) rfl ?_)))))))
  refine zIP zQ1_ (zLE (show fn7 [] (γ 15) = (0, 0, γ 16) from l13.symm) (zLV (γ 16) rfl (zLE m38 (zLE (show fn6 [ρ 36] (γ 16) = (0, ρ 37, γ 17) from l14.symm) (zLV (γ 17) rfl (zIP w_3 (zLV (ρ 37) rfl ?_)))))))
  refine zIN w_4 (zIP w_5 (zLE c18.symm (zLE c19.symm (zLE (show fn34 [2] (γ 19) = (0, 1, γ 20) from l16.symm) (zLV (γ 20) rfl (zIP zQ1_ (zLE (zF2_ok l17) ?_)))))))
  refine zLE (zF2_ok l18) (zLE c21.symm ?_)
  rfl
theorem vn37_12 {S : Nat → zSpc} (hS6 : zIm S 6 sn6) (hS7 : zIm S 7 sn7) (hS8 : zIm S 8 sn8) (hS9 : zIm S 9 sn9) (hS12 : zIm S 12 sn12) (hS13 : zIm S 13 sn13) (hS15 : zIm S 15 sn15) (hS18 : zIm S 18 sn18) (hS20 : zIm S 20 sn20) (hS23 : zIm S 23 sn23) (hS33 : zIm S 33 sn33) (hS34 : zIm S 34 sn34) (hS35 : zIm S 35 sn35) (hS36 : zIm S 36 sn36) {a : List Int} {g : rHp} : ∀ (ρ : Nat → Int) (γ : Nat → rHp), zO 16 S a g q37_12 ρ γ → zGl (fun _ _ _ => True) (sn37 a g) q37_12 ρ γ := by
  intro ρ γ h
  obtain ⟨ha, hg, hr, hf, hm, hc, hl⟩ := h
  have ha : a = [ρ 0, ρ 1, ρ 2, ρ 3, ρ 4, ρ 5, ρ 6, ρ 7, ρ 8, ρ 9, ρ 10, ρ 11, ρ 12, ρ 13, ρ 14, ρ 15] := ha
  subst ha
  subst hg
  have r17 : ((-128) : Int) ≤ ρ 17 ∧ ρ 17 ≤ 127 := zRnA hr 17
  have r23 : (1 : Int) ≤ ρ 23 ∧ ρ 23 ≤ 1 := zRnA hr 23
  have r37 : (42 : Int) ≤ ρ 37 ∧ ρ 37 ≤ 42 := zRnA hr 37
  have f2 : (0 : Int) ≤ -ρ 36 + ρ 2 + (-1) := zAllA hf 2
  have f22 : (0 : Int) ≤ -ρ 26 + ρ 2 + (-1) := zAllA hf 22
  have f35 : (0 : Int) ≤ -ρ 16 + ρ 2 + (-1) := zAllA hf 35
  obtain ⟨w_0, w_1, w_2, w_3, w_4, w_5, w_6⟩ : (0 ≤ -ρ 16 + ρ 2 + (-1)) ∧ (¬ (ρ 23 ≠ 1)) ∧ (0 ≤ -ρ 26 + ρ 2 + (-1)) ∧ (0 ≤ -ρ 36 + ρ 2 + (-1)) ∧ (¬ (ρ 37 = 43)) ∧ (¬ (ρ 37 = 45)) ∧ (ρ 37 = 42) := ⟨by omega, by omega, by omega, by omega, by omega, by omega, by omega⟩
  have m1 : γ 0 15 0 34 = ρ 2 := zAllA hm 1
  have m5 : γ 0 15 0 44 = ρ 6 := zAllA hm 5
  have m6 : γ 0 73 0 (ρ 6) = ρ 7 := zAllA hm 6
  have m14 : γ 0 15 0 45 = ρ 15 := zAllA hm 14
  have m15 : γ 1 15 0 35 = ρ 16 := zAllA hm 15
  have m20 : γ 6 15 0 39 = ρ 22 := zAllA hm 20
  have m21 : γ 6 15 0 40 = ρ 23 := zAllA hm 21
  have m25 : γ 9 15 0 35 = ρ 26 := zAllA hm 25
  have m38 : γ 16 15 0 35 = ρ 36 := zAllA hm 38
  have c3 : γ 3 = rUp (γ 2) 79 0 (ρ 7 + 8 * ρ 6) (ρ 15) := And.right (zChA hc 17)
  have c7 : γ 7 = rUp (γ 6) 80 0 (4 * ρ 7 + 32 * ρ 6) (ρ 23) := And.right (zChA hc 13)
  have c8 : γ 8 = rUp (γ 7) 81 0 (4 * ρ 7 + 32 * ρ 6) (ρ 22) := And.right (zChA hc 12)
  have c18 : γ 18 = rUp (γ 17) 15 0 35 (ρ 36 + 1) := And.right (zChA hc 2)
  have c19 : γ 19 = rUp (γ 18) 77 0 (ρ 7 + 8 * ρ 6) 7 := And.right (zChA hc 1)
  have l0 : sn7 [ρ 1, ρ 2] (γ 0) 0 0 (γ 1) := hS7 _ _ _ _ _ (zAllA hl 0)
  have l1 : sn33 [ρ 6, ρ 7] (γ 1) 0 (ρ 7 + 8 * ρ 6) (γ 2) := hS33 _ _ _ _ _ (zAllA hl 1)
  have l2 : sn6 [ρ 16, ρ 2] (γ 3) 0 (ρ 17) (γ 4) := hS6 _ _ _ _ _ (zAllA hl 2)
  have l3 : ρ 17 ≠ 33 := zAllA hl 3
  have l4 : sn9 [ρ 17] (γ 4) 0 0 (γ 5) := hS9 _ _ _ _ _ (zAllA hl 4)
  have l5 : sn20 [0, ρ 16, ρ 2, ρ 3, ρ 4, ρ 18, ρ 14, ρ 11, ρ 12, ρ 13, ρ 6] (γ 5) 0 1 (γ 6) := hS20 _ _ _ _ _ (zAllA hl 5)
  have l6 : sn7 [ρ 19, ρ 2] (γ 8) 0 0 (γ 9) := hS7 _ _ _ _ _ (zAllA hl 6)
  have l7 : sn6 [ρ 26, ρ 2] (γ 9) 0 (ρ 27) (γ 10) := hS6 _ _ _ _ _ (zAllA hl 7)
  have l8 : sn9 [ρ 27] (γ 10) 0 1 (γ 11) := hS9 _ _ _ _ _ (zAllA hl 8)
  have l9 : sn12 [ρ 26, ρ 2, ρ 24, ρ 11, ρ 25] (γ 11) 0 1 (γ 12) := hS12 _ _ _ _ _ (zAllA hl 9)
  have l10 : sn13 [105, 115, 0, 0, 0, ρ 26, ρ 29] (γ 12) 0 1 (γ 13) := hS13 _ _ _ _ _ (zAllA hl 10)
  have l11 : sn18 [ρ 22, ρ 15] (γ 13) 0 0 (γ 14) := hS18 _ _ _ _ _ (zAllA hl 11)
  have l12 : sn34 [1, ρ 28, ρ 2, ρ 20, ρ 21, ρ 6, ρ 7, ρ 8, ρ 22, ρ 11, ρ 26, ρ 29, ρ 23, ρ 15] (γ 14) 0 1 (γ 15) := hS34 _ _ _ _ _ (zAllA hl 12)
  have l13 : sn7 [ρ 30, ρ 2] (γ 15) 0 0 (γ 16) := hS7 _ _ _ _ _ (zAllA hl 13)
  have l14 : sn6 [ρ 36, ρ 2] (γ 16) 0 (ρ 37) (γ 17) := hS6 _ _ _ _ _ (zAllA hl 14)
  have l15 : ρ 37 ≠ 43 := zAllA hl 15
  have l16 : ρ 37 ≠ 45 := zAllA hl 16
  have l17 : sn34 [2, ρ 36 + 1, ρ 2, ρ 31, ρ 32, ρ 6, ρ 7, 7, ρ 22, ρ 11, ρ 33, ρ 34, ρ 35, ρ 15] (γ 19) 0 0 (γ 20) := hS34 _ _ _ _ _ (zAllA hl 17)
  have wl_0 : ρ 17 ≠ 33 := by omega
  show sn37 [ρ 0, ρ 1, ρ 2, ρ 3, ρ 4, ρ 5, ρ 6, ρ 7, ρ 8, ρ 9, ρ 10, ρ 11, ρ 12, ρ 13, ρ 14, ρ 15] (γ 0) 0 0 (γ 20)
  refine Eq.symm ?_
  show fn37 [ρ 0] (γ 0) = _
  unfold fn37
  refine zLV (ρ 0) rfl (zLE m1 (zLE m5 (zLE m6 (zLE m14 (zLE (show fn7 [] (γ 0) = (0, 0, γ 1) from l0.symm) (zLV (γ 1) rfl (zLE m15 ?_)))))))
  refine zLE (show fn33 [] (γ 1) = (0, ρ 7 + 8 * ρ 6, γ 2) from l1.symm) (zLV (γ 2) rfl (zLE c3.symm (zLE (show fn6 [ρ 16] (γ 3) = (0, ρ 17, γ 4) from l2.symm) (zLV (γ 4) rfl (zIP w_0 (zLV (ρ 17) rfl (zIP wl_0 ?_)))))))
  refine zLE (show fn9 [ρ 17] (γ 4) = (0, 0, γ 5) from l4.symm) (zLV (γ 5) rfl (zIN zQ0_ (zLE (show fn20 [0] (γ 5) = (0, 1, γ 6) from l5.symm) (zLV (γ 6) rfl (zIP zQ1_ (zLE m20 (zLE m21 ?_)))))))
  refine zLE c7.symm (zLE c8.symm (zLE (show fn7 [] (γ 8) = (0, 0, γ 9) from l6.symm) (zLV (γ 9) rfl (zLE m25 (zIN w_1 (zLE (show fn6 [ρ 26] (γ 9) = (0, ρ 27, γ 10) from l7.symm) (zLV (γ 10) rfl ?_)))))))
  refine zIP w_2 (zLV (ρ 27) rfl (zLE (show fn9 [ρ 27] (γ 10) = (0, 1, γ 11) from l8.symm) (zLV (γ 11) rfl (zIP zQ1_ (zLE (show fn12 [] (γ 11) = (0, 1, γ 12) from l9.symm) (zLV (γ 12) rfl (zIP zQ1_ ?_)))))))
  refine zLE (show fn13 [105, 115, 0, 0, 0] (γ 12) = (0, 1, γ 13) from l10.symm) (zLV (γ 13) rfl (zIP zQ1_ (zLE (show fn18 [ρ 22] (γ 13) = (0, 0, γ 14) from l11.symm) (zLV (γ 14) rfl (zIN zQ0_ (zLE (show fn34 [1] (γ 14) = (0, 1, γ 15) from l12.symm) (zLV (γ 15) rfl ?_)))))))
  refine zIP zQ1_ (zLE (show fn7 [] (γ 15) = (0, 0, γ 16) from l13.symm) (zLV (γ 16) rfl (zLE m38 (zLE (show fn6 [ρ 36] (γ 16) = (0, ρ 37, γ 17) from l14.symm) (zLV (γ 17) rfl (zIP w_3 (zLV (ρ 37) rfl ?_)))))))
  refine zIN w_4 (zIN w_5 (zIP w_6 (zLE c18.symm (zLE c19.symm (zLE (show fn34 [2] (γ 19) = (0, 0, γ 20) from l17.symm) (zLV (γ 20) rfl (zIN zQ0_ ?_)))))))
  rfl
theorem vn37_13 {S : Nat → zSpc} (hS6 : zIm S 6 sn6) (hS7 : zIm S 7 sn7) (hS8 : zIm S 8 sn8) (hS9 : zIm S 9 sn9) (hS12 : zIm S 12 sn12) (hS13 : zIm S 13 sn13) (hS15 : zIm S 15 sn15) (hS18 : zIm S 18 sn18) (hS20 : zIm S 20 sn20) (hS23 : zIm S 23 sn23) (hS33 : zIm S 33 sn33) (hS34 : zIm S 34 sn34) (hS35 : zIm S 35 sn35) (hS36 : zIm S 36 sn36) {a : List Int} {g : rHp} : ∀ (ρ : Nat → Int) (γ : Nat → rHp), zO 16 S a g q37_13 ρ γ → zGl (fun _ _ _ => True) (sn37 a g) q37_13 ρ γ := by
  intro ρ γ h
  obtain ⟨ha, hg, hr, hf, hm, hc, hl⟩ := h
  have ha : a = [ρ 0, ρ 1, ρ 2, ρ 3, ρ 4, ρ 5, ρ 6, ρ 7, ρ 8, ρ 9, ρ 10, ρ 11, ρ 12, ρ 13, ρ 14, ρ 15] := ha
  subst ha
  subst hg
  have r17 : ((-128) : Int) ≤ ρ 17 ∧ ρ 17 ≤ 127 := zRnA hr 17
  have r23 : (1 : Int) ≤ ρ 23 ∧ ρ 23 ≤ 1 := zRnA hr 23
  have r37 : (42 : Int) ≤ ρ 37 ∧ ρ 37 ≤ 42 := zRnA hr 37
  have f2 : (0 : Int) ≤ -ρ 36 + ρ 2 + (-1) := zAllA hf 2
  have f22 : (0 : Int) ≤ -ρ 26 + ρ 2 + (-1) := zAllA hf 22
  have f35 : (0 : Int) ≤ -ρ 16 + ρ 2 + (-1) := zAllA hf 35
  obtain ⟨w_0, w_1, w_2, w_3, w_4, w_5, w_6⟩ : (0 ≤ -ρ 16 + ρ 2 + (-1)) ∧ (¬ (ρ 23 ≠ 1)) ∧ (0 ≤ -ρ 26 + ρ 2 + (-1)) ∧ (0 ≤ -ρ 36 + ρ 2 + (-1)) ∧ (¬ (ρ 37 = 43)) ∧ (¬ (ρ 37 = 45)) ∧ (ρ 37 = 42) := ⟨by omega, by omega, by omega, by omega, by omega, by omega, by omega⟩
  have m1 : γ 0 15 0 34 = ρ 2 := zAllA hm 1
  have m5 : γ 0 15 0 44 = ρ 6 := zAllA hm 5
  have m6 : γ 0 73 0 (ρ 6) = ρ 7 := zAllA hm 6
  have m14 : γ 0 15 0 45 = ρ 15 := zAllA hm 14
  have m15 : γ 1 15 0 35 = ρ 16 := zAllA hm 15
  have m20 : γ 6 15 0 39 = ρ 22 := zAllA hm 20
  have m21 : γ 6 15 0 40 = ρ 23 := zAllA hm 21
  have m25 : γ 9 15 0 35 = ρ 26 := zAllA hm 25
  have m38 : γ 16 15 0 35 = ρ 36 := zAllA hm 38
  have c3 : γ 3 = rUp (γ 2) 79 0 (ρ 7 + 8 * ρ 6) (ρ 15) := And.right (zChA hc 18)
  have c7 : γ 7 = rUp (γ 6) 80 0 (4 * ρ 7 + 32 * ρ 6) (ρ 23) := And.right (zChA hc 14)
  have c8 : γ 8 = rUp (γ 7) 81 0 (4 * ρ 7 + 32 * ρ 6) (ρ 22) := And.right (zChA hc 13)
  have c18 : γ 18 = rUp (γ 17) 15 0 35 (ρ 36 + 1) := And.right (zChA hc 3)
  have c19 : γ 19 = rUp (γ 18) 77 0 (ρ 7 + 8 * ρ 6) 7 := And.right (zChA hc 2)
  have c21 : γ 21 = rUp (γ 20) 15 0 45 (ρ 45) := And.right (zChA hc 0)
  have l0 : sn7 [ρ 1, ρ 2] (γ 0) 0 0 (γ 1) := hS7 _ _ _ _ _ (zAllA hl 0)
  have l1 : sn33 [ρ 6, ρ 7] (γ 1) 0 (ρ 7 + 8 * ρ 6) (γ 2) := hS33 _ _ _ _ _ (zAllA hl 1)
  have l2 : sn6 [ρ 16, ρ 2] (γ 3) 0 (ρ 17) (γ 4) := hS6 _ _ _ _ _ (zAllA hl 2)
  have l3 : ρ 17 ≠ 33 := zAllA hl 3
  have l4 : sn9 [ρ 17] (γ 4) 0 0 (γ 5) := hS9 _ _ _ _ _ (zAllA hl 4)
  have l5 : sn20 [0, ρ 16, ρ 2, ρ 3, ρ 4, ρ 18, ρ 14, ρ 11, ρ 12, ρ 13, ρ 6] (γ 5) 0 1 (γ 6) := hS20 _ _ _ _ _ (zAllA hl 5)
  have l6 : sn7 [ρ 19, ρ 2] (γ 8) 0 0 (γ 9) := hS7 _ _ _ _ _ (zAllA hl 6)
  have l7 : sn6 [ρ 26, ρ 2] (γ 9) 0 (ρ 27) (γ 10) := hS6 _ _ _ _ _ (zAllA hl 7)
  have l8 : sn9 [ρ 27] (γ 10) 0 1 (γ 11) := hS9 _ _ _ _ _ (zAllA hl 8)
  have l9 : sn12 [ρ 26, ρ 2, ρ 24, ρ 11, ρ 25] (γ 11) 0 1 (γ 12) := hS12 _ _ _ _ _ (zAllA hl 9)
  have l10 : sn13 [105, 115, 0, 0, 0, ρ 26, ρ 29] (γ 12) 0 1 (γ 13) := hS13 _ _ _ _ _ (zAllA hl 10)
  have l11 : sn18 [ρ 22, ρ 15] (γ 13) 0 0 (γ 14) := hS18 _ _ _ _ _ (zAllA hl 11)
  have l12 : sn34 [1, ρ 28, ρ 2, ρ 20, ρ 21, ρ 6, ρ 7, ρ 8, ρ 22, ρ 11, ρ 26, ρ 29, ρ 23, ρ 15] (γ 14) 0 1 (γ 15) := hS34 _ _ _ _ _ (zAllA hl 12)
  have l13 : sn7 [ρ 30, ρ 2] (γ 15) 0 0 (γ 16) := hS7 _ _ _ _ _ (zAllA hl 13)
  have l14 : sn6 [ρ 36, ρ 2] (γ 16) 0 (ρ 37) (γ 17) := hS6 _ _ _ _ _ (zAllA hl 14)
  have l15 : ρ 37 ≠ 43 := zAllA hl 15
  have l16 : ρ 37 ≠ 45 := zAllA hl 16
  have l17 : sn34 [2, ρ 36 + 1, ρ 2, ρ 31, ρ 32, ρ 6, ρ 7, 7, ρ 22, ρ 11, ρ 33, ρ 34, ρ 35, ρ 15] (γ 19) 0 1 (γ 20) := hS34 _ _ _ _ _ (zAllA hl 17)
  have l18 : zOpP (.ishl) (γ 0) (γ 1) [1, ρ 22] (ρ 44) := zAllA hl 18
  have l19 : zOpP (.ior) (γ 0) (γ 1) [ρ 15, ρ 44] (ρ 45) := zAllA hl 19
  have wl_0 : ρ 17 ≠ 33 := by omega
  show sn37 [ρ 0, ρ 1, ρ 2, ρ 3, ρ 4, ρ 5, ρ 6, ρ 7, ρ 8, ρ 9, ρ 10, ρ 11, ρ 12, ρ 13, ρ 14, ρ 15] (γ 0) 0 1 (γ 21)
  refine Eq.symm ?_
  show fn37 [ρ 0] (γ 0) = _
  unfold fn37
  refine zLV (ρ 0) rfl (zLE m1 (zLE m5 (zLE m6 (zLE m14 (zLE (show fn7 [] (γ 0) = (0, 0, γ 1) from l0.symm) (zLV (γ 1) rfl (zLE m15 ?_)))))))
  refine zLE (show fn33 [] (γ 1) = (0, ρ 7 + 8 * ρ 6, γ 2) from l1.symm) (zLV (γ 2) rfl (zLE c3.symm (zLE (show fn6 [ρ 16] (γ 3) = (0, ρ 17, γ 4) from l2.symm) (zLV (γ 4) rfl (zIP w_0 (zLV (ρ 17) rfl (zIP wl_0 ?_)))))))
  refine zLE (show fn9 [ρ 17] (γ 4) = (0, 0, γ 5) from l4.symm) (zLV (γ 5) rfl (zIN zQ0_ (zLE (show fn20 [0] (γ 5) = (0, 1, γ 6) from l5.symm) (zLV (γ 6) rfl (zIP zQ1_ (zLE m20 (zLE m21 ?_)))))))
  refine zLE c7.symm (zLE c8.symm (zLE (show fn7 [] (γ 8) = (0, 0, γ 9) from l6.symm) (zLV (γ 9) rfl (zLE m25 (zIN w_1 (zLE (show fn6 [ρ 26] (γ 9) = (0, ρ 27, γ 10) from l7.symm) (zLV (γ 10) rfl ?_)))))))
  refine zIP w_2 (zLV (ρ 27) rfl (zLE (show fn9 [ρ 27] (γ 10) = (0, 1, γ 11) from l8.symm) (zLV (γ 11) rfl (zIP zQ1_ (zLE (show fn12 [] (γ 11) = (0, 1, γ 12) from l9.symm) (zLV (γ 12) rfl (zIP zQ1_ ?_)))))))
  refine zLE (show fn13 [105, 115, 0, 0, 0] (γ 12) = (0, 1, γ 13) from l10.symm) (zLV (γ 13) rfl (zIP zQ1_ (zLE (show fn18 [ρ 22] (γ 13) = (0, 0, γ 14) from l11.symm) (zLV (γ 14) rfl (zIN zQ0_ (zLE (show fn34 [1] (γ 14) = (0, 1, γ 15) from l12.symm) (zLV (γ 15) rfl ?_)))))))
  refine zIP zQ1_ (zLE (show fn7 [] (γ 15) = (0, 0, γ 16) from l13.symm) (zLV (γ 16) rfl (zLE m38 (zLE (show fn6 [ρ 36] (γ 16) = (0, ρ 37, γ 17) from l14.symm) (zLV (γ 17) rfl (zIP w_3 (zLV (ρ 37) rfl ?_)))))))
  refine zIN w_4 (zIN w_5 (zIP w_6 (zLE c18.symm (zLE c19.symm (zLE (show fn34 [2] (γ 19) = (0, 1, γ 20) from l17.symm) (zLV (γ 20) rfl (zIP zQ1_ ?_)))))))
  refine zLE (zF2_ok l18) (zLE (zF2_ok l19) (zLE c21.symm ?_))
  rfl
theorem vn37_14 {S : Nat → zSpc} (hS6 : zIm S 6 sn6) (hS7 : zIm S 7 sn7) (hS8 : zIm S 8 sn8) (hS9 : zIm S 9 sn9) (hS12 : zIm S 12 sn12) (hS13 : zIm S 13 sn13) (hS15 : zIm S 15 sn15) (hS18 : zIm S 18 sn18) (hS20 : zIm S 20 sn20) (hS23 : zIm S 23 sn23) (hS33 : zIm S 33 sn33) (hS34 : zIm S 34 sn34) (hS35 : zIm S 35 sn35) (hS36 : zIm S 36 sn36) {a : List Int} {g : rHp} : ∀ (ρ : Nat → Int) (γ : Nat → rHp), zO 16 S a g q37_14 ρ γ → zGl (fun _ _ _ => True) (sn37 a g) q37_14 ρ γ := by
  intro ρ γ h
  obtain ⟨ha, hg, hr, hf, hm, hc, hl⟩ := h
  have ha : a = [ρ 0, ρ 1, ρ 2, ρ 3, ρ 4, ρ 5, ρ 6, ρ 7, ρ 8, ρ 9, ρ 10, ρ 11, ρ 12, ρ 13, ρ 14, ρ 15] := ha
  subst ha
  subst hg
  have r17 : ((-128) : Int) ≤ ρ 17 ∧ ρ 17 ≤ 127 := zRnA hr 17
  have r23 : (1 : Int) ≤ ρ 23 ∧ ρ 23 ≤ 1 := zRnA hr 23
  have r37 : ((-128) : Int) ≤ ρ 37 ∧ ρ 37 ≤ 127 := zRnA hr 37
  have f2 : (0 : Int) ≤ -ρ 36 + ρ 2 + (-1) := zAllA hf 2
  have f15 : (0 : Int) ≤ -ρ 26 + ρ 2 + (-1) := zAllA hf 15
  have f28 : (0 : Int) ≤ -ρ 16 + ρ 2 + (-1) := zAllA hf 28
  obtain ⟨w_0, w_1, w_2, w_3⟩ : (0 ≤ -ρ 16 + ρ 2 + (-1)) ∧ (¬ (ρ 23 ≠ 1)) ∧ (0 ≤ -ρ 26 + ρ 2 + (-1)) ∧ (0 ≤ -ρ 36 + ρ 2 + (-1)) := ⟨by omega, by omega, by omega, by omega⟩
  have m1 : γ 0 15 0 34 = ρ 2 := zAllA hm 1
  have m5 : γ 0 15 0 44 = ρ 6 := zAllA hm 5
  have m6 : γ 0 73 0 (ρ 6) = ρ 7 := zAllA hm 6
  have m14 : γ 0 15 0 45 = ρ 15 := zAllA hm 14
  have m15 : γ 1 15 0 35 = ρ 16 := zAllA hm 15
  have m20 : γ 6 15 0 39 = ρ 22 := zAllA hm 20
  have m21 : γ 6 15 0 40 = ρ 23 := zAllA hm 21
  have m25 : γ 9 15 0 35 = ρ 26 := zAllA hm 25
  have m38 : γ 16 15 0 35 = ρ 36 := zAllA hm 38
  have c3 : γ 3 = rUp (γ 2) 79 0 (ρ 7 + 8 * ρ 6) (ρ 15) := And.right (zChA hc 15)
  have c7 : γ 7 = rUp (γ 6) 80 0 (4 * ρ 7 + 32 * ρ 6) (ρ 23) := And.right (zChA hc 11)
  have c8 : γ 8 = rUp (γ 7) 81 0 (4 * ρ 7 + 32 * ρ 6) (ρ 22) := And.right (zChA hc 10)
  have l0 : sn7 [ρ 1, ρ 2] (γ 0) 0 0 (γ 1) := hS7 _ _ _ _ _ (zAllA hl 0)
  have l1 : sn33 [ρ 6, ρ 7] (γ 1) 0 (ρ 7 + 8 * ρ 6) (γ 2) := hS33 _ _ _ _ _ (zAllA hl 1)
  have l2 : sn6 [ρ 16, ρ 2] (γ 3) 0 (ρ 17) (γ 4) := hS6 _ _ _ _ _ (zAllA hl 2)
  have l3 : ρ 17 ≠ 33 := zAllA hl 3
  have l4 : sn9 [ρ 17] (γ 4) 0 0 (γ 5) := hS9 _ _ _ _ _ (zAllA hl 4)
  have l5 : sn20 [0, ρ 16, ρ 2, ρ 3, ρ 4, ρ 18, ρ 14, ρ 11, ρ 12, ρ 13, ρ 6] (γ 5) 0 1 (γ 6) := hS20 _ _ _ _ _ (zAllA hl 5)
  have l6 : sn7 [ρ 19, ρ 2] (γ 8) 0 0 (γ 9) := hS7 _ _ _ _ _ (zAllA hl 6)
  have l7 : sn6 [ρ 26, ρ 2] (γ 9) 0 (ρ 27) (γ 10) := hS6 _ _ _ _ _ (zAllA hl 7)
  have l8 : sn9 [ρ 27] (γ 10) 0 1 (γ 11) := hS9 _ _ _ _ _ (zAllA hl 8)
  have l9 : sn12 [ρ 26, ρ 2, ρ 24, ρ 11, ρ 25] (γ 11) 0 1 (γ 12) := hS12 _ _ _ _ _ (zAllA hl 9)
  have l10 : sn13 [105, 115, 0, 0, 0, ρ 26, ρ 29] (γ 12) 0 1 (γ 13) := hS13 _ _ _ _ _ (zAllA hl 10)
  have l11 : sn18 [ρ 22, ρ 15] (γ 13) 0 0 (γ 14) := hS18 _ _ _ _ _ (zAllA hl 11)
  have l12 : sn34 [1, ρ 28, ρ 2, ρ 20, ρ 21, ρ 6, ρ 7, ρ 8, ρ 22, ρ 11, ρ 26, ρ 29, ρ 23, ρ 15] (γ 14) 0 1 (γ 15) := hS34 _ _ _ _ _ (zAllA hl 12)
  have l13 : sn7 [ρ 30, ρ 2] (γ 15) 0 0 (γ 16) := hS7 _ _ _ _ _ (zAllA hl 13)
  have l14 : sn6 [ρ 36, ρ 2] (γ 16) 0 (ρ 37) (γ 17) := hS6 _ _ _ _ _ (zAllA hl 14)
  have l15 : ρ 37 ≠ 43 := zAllA hl 15
  have l16 : ρ 37 ≠ 45 := zAllA hl 16
  have l17 : ρ 37 ≠ 42 := zAllA hl 17
  have l18 : sn8 [ρ 36, ρ 2, ρ 11] (γ 17) 0 0 (γ 18) := hS8 _ _ _ _ _ (zAllA hl 18)
  obtain ⟨wl_0, wl_1, wl_2, wl_3⟩ : (ρ 17 ≠ 33) ∧ (¬ (ρ 37 = 43)) ∧ (¬ (ρ 37 = 45)) ∧ (¬ (ρ 37 = 42)) := ⟨by omega, by omega, by omega, by omega⟩
  show sn37 [ρ 0, ρ 1, ρ 2, ρ 3, ρ 4, ρ 5, ρ 6, ρ 7, ρ 8, ρ 9, ρ 10, ρ 11, ρ 12, ρ 13, ρ 14, ρ 15] (γ 0) 0 0 (γ 18)
  refine Eq.symm ?_
  show fn37 [ρ 0] (γ 0) = _
  unfold fn37
  refine zLV (ρ 0) rfl (zLE m1 (zLE m5 (zLE m6 (zLE m14 (zLE (show fn7 [] (γ 0) = (0, 0, γ 1) from l0.symm) (zLV (γ 1) rfl (zLE m15 ?_)))))))
  refine zLE (show fn33 [] (γ 1) = (0, ρ 7 + 8 * ρ 6, γ 2) from l1.symm) (zLV (γ 2) rfl (zLE c3.symm (zLE (show fn6 [ρ 16] (γ 3) = (0, ρ 17, γ 4) from l2.symm) (zLV (γ 4) rfl (zIP w_0 (zLV (ρ 17) rfl (zIP wl_0 ?_)))))))
  refine zLE (show fn9 [ρ 17] (γ 4) = (0, 0, γ 5) from l4.symm) (zLV (γ 5) rfl (zIN zQ0_ (zLE (show fn20 [0] (γ 5) = (0, 1, γ 6) from l5.symm) (zLV (γ 6) rfl (zIP zQ1_ (zLE m20 (zLE m21 ?_)))))))
  refine zLE c7.symm (zLE c8.symm (zLE (show fn7 [] (γ 8) = (0, 0, γ 9) from l6.symm) (zLV (γ 9) rfl (zLE m25 (zIN w_1 (zLE (show fn6 [ρ 26] (γ 9) = (0, ρ 27, γ 10) from l7.symm) (zLV (γ 10) rfl ?_)))))))
  refine zIP w_2 (zLV (ρ 27) rfl (zLE (show fn9 [ρ 27] (γ 10) = (0, 1, γ 11) from l8.symm) (zLV (γ 11) rfl (zIP zQ1_ (zLE (show fn12 [] (γ 11) = (0, 1, γ 12) from l9.symm) (zLV (γ 12) rfl (zIP zQ1_ ?_)))))))
  refine zLE (show fn13 [105, 115, 0, 0, 0] (γ 12) = (0, 1, γ 13) from l10.symm) (zLV (γ 13) rfl (zIP zQ1_ (zLE (show fn18 [ρ 22] (γ 13) = (0, 0, γ 14) from l11.symm) (zLV (γ 14) rfl (zIN zQ0_ (zLE (show fn34 [1] (γ 14) = (0, 1, γ 15) from l12.symm) (zLV (γ 15) rfl ?_)))))))
  refine zIP zQ1_ (zLE (show fn7 [] (γ 15) = (0, 0, γ 16) from l13.symm) (zLV (γ 16) rfl (zLE m38 (zLE (show fn6 [ρ 36] (γ 16) = (0, ρ 37, γ 17) from l14.symm) (zLV (γ 17) rfl (zIP w_3 (zLV (ρ 37) rfl ?_)))))))
  refine zIN wl_1 (zIN wl_2 (zIN wl_3 (zLE (show fn8 [ρ 36] (γ 17) = (0, 0, γ 18) from l18.symm) (zLV (γ 18) rfl ?_))))
  rfl
theorem vn37_15 {S : Nat → zSpc} (hS6 : zIm S 6 sn6) (hS7 : zIm S 7 sn7) (hS8 : zIm S 8 sn8) (hS9 : zIm S 9 sn9) (hS12 : zIm S 12 sn12) (hS13 : zIm S 13 sn13) (hS15 : zIm S 15 sn15) (hS18 : zIm S 18 sn18) (hS20 : zIm S 20 sn20) (hS23 : zIm S 23 sn23) (hS33 : zIm S 33 sn33) (hS34 : zIm S 34 sn34) (hS35 : zIm S 35 sn35) (hS36 : zIm S 36 sn36) {a : List Int} {g : rHp} : ∀ (ρ : Nat → Int) (γ : Nat → rHp), zO 16 S a g q37_15 ρ γ → zGl (fun _ _ _ => True) (sn37 a g) q37_15 ρ γ := by
  intro ρ γ h
  obtain ⟨ha, hg, hr, hf, hm, hc, hl⟩ := h
  have ha : a = [ρ 0, ρ 1, ρ 2, ρ 3, ρ 4, ρ 5, ρ 6, ρ 7, ρ 8, ρ 9, ρ 10, ρ 11, ρ 12, ρ 13, ρ 14, ρ 15] := ha
  subst ha
  subst hg
  have r17 : ((-128) : Int) ≤ ρ 17 ∧ ρ 17 ≤ 127 := zRnA hr 17
  have r23 : (1 : Int) ≤ ρ 23 ∧ ρ 23 ≤ 1 := zRnA hr 23
  have f2 : (0 : Int) ≤ ρ 36 + -ρ 2 := zAllA hf 2
  have f15 : (0 : Int) ≤ -ρ 26 + ρ 2 + (-1) := zAllA hf 15
  have f28 : (0 : Int) ≤ -ρ 16 + ρ 2 + (-1) := zAllA hf 28
  obtain ⟨w_0, w_1, w_2, w_3⟩ : (0 ≤ -ρ 16 + ρ 2 + (-1)) ∧ (¬ (ρ 23 ≠ 1)) ∧ (0 ≤ -ρ 26 + ρ 2 + (-1)) ∧ (¬ (0 ≤ -ρ 36 + ρ 2 + (-1))) := ⟨by omega, by omega, by omega, by omega⟩
  have m1 : γ 0 15 0 34 = ρ 2 := zAllA hm 1
  have m5 : γ 0 15 0 44 = ρ 6 := zAllA hm 5
  have m6 : γ 0 73 0 (ρ 6) = ρ 7 := zAllA hm 6
  have m14 : γ 0 15 0 45 = ρ 15 := zAllA hm 14
  have m15 : γ 1 15 0 35 = ρ 16 := zAllA hm 15
  have m20 : γ 6 15 0 39 = ρ 22 := zAllA hm 20
  have m21 : γ 6 15 0 40 = ρ 23 := zAllA hm 21
  have m25 : γ 9 15 0 35 = ρ 26 := zAllA hm 25
  have m38 : γ 16 15 0 35 = ρ 36 := zAllA hm 38
  have c3 : γ 3 = rUp (γ 2) 79 0 (ρ 7 + 8 * ρ 6) (ρ 15) := And.right (zChA hc 15)
  have c7 : γ 7 = rUp (γ 6) 80 0 (4 * ρ 7 + 32 * ρ 6) (ρ 23) := And.right (zChA hc 11)
  have c8 : γ 8 = rUp (γ 7) 81 0 (4 * ρ 7 + 32 * ρ 6) (ρ 22) := And.right (zChA hc 10)
  have l0 : sn7 [ρ 1, ρ 2] (γ 0) 0 0 (γ 1) := hS7 _ _ _ _ _ (zAllA hl 0)
  have l1 : sn33 [ρ 6, ρ 7] (γ 1) 0 (ρ 7 + 8 * ρ 6) (γ 2) := hS33 _ _ _ _ _ (zAllA hl 1)
  have l2 : sn6 [ρ 16, ρ 2] (γ 3) 0 (ρ 17) (γ 4) := hS6 _ _ _ _ _ (zAllA hl 2)
  have l3 : ρ 17 ≠ 33 := zAllA hl 3
  have l4 : sn9 [ρ 17] (γ 4) 0 0 (γ 5) := hS9 _ _ _ _ _ (zAllA hl 4)
  have l5 : sn20 [0, ρ 16, ρ 2, ρ 3, ρ 4, ρ 18, ρ 14, ρ 11, ρ 12, ρ 13, ρ 6] (γ 5) 0 1 (γ 6) := hS20 _ _ _ _ _ (zAllA hl 5)
  have l6 : sn7 [ρ 19, ρ 2] (γ 8) 0 0 (γ 9) := hS7 _ _ _ _ _ (zAllA hl 6)
  have l7 : sn6 [ρ 26, ρ 2] (γ 9) 0 (ρ 27) (γ 10) := hS6 _ _ _ _ _ (zAllA hl 7)
  have l8 : sn9 [ρ 27] (γ 10) 0 1 (γ 11) := hS9 _ _ _ _ _ (zAllA hl 8)
  have l9 : sn12 [ρ 26, ρ 2, ρ 24, ρ 11, ρ 25] (γ 11) 0 1 (γ 12) := hS12 _ _ _ _ _ (zAllA hl 9)
  have l10 : sn13 [105, 115, 0, 0, 0, ρ 26, ρ 29] (γ 12) 0 1 (γ 13) := hS13 _ _ _ _ _ (zAllA hl 10)
  have l11 : sn18 [ρ 22, ρ 15] (γ 13) 0 0 (γ 14) := hS18 _ _ _ _ _ (zAllA hl 11)
  have l12 : sn34 [1, ρ 28, ρ 2, ρ 20, ρ 21, ρ 6, ρ 7, ρ 8, ρ 22, ρ 11, ρ 26, ρ 29, ρ 23, ρ 15] (γ 14) 0 1 (γ 15) := hS34 _ _ _ _ _ (zAllA hl 12)
  have l13 : sn7 [ρ 30, ρ 2] (γ 15) 0 0 (γ 16) := hS7 _ _ _ _ _ (zAllA hl 13)
  have l14 : sn6 [ρ 36, ρ 2] (γ 16) 0 (-1) (γ 17) := hS6 _ _ _ _ _ (zAllA hl 14)
  have l15 : sn8 [ρ 36, ρ 2, ρ 11] (γ 17) 0 0 (γ 18) := hS8 _ _ _ _ _ (zAllA hl 15)
  have wl_0 : ρ 17 ≠ 33 := by omega
  show sn37 [ρ 0, ρ 1, ρ 2, ρ 3, ρ 4, ρ 5, ρ 6, ρ 7, ρ 8, ρ 9, ρ 10, ρ 11, ρ 12, ρ 13, ρ 14, ρ 15] (γ 0) 0 0 (γ 18)
  refine Eq.symm ?_
  show fn37 [ρ 0] (γ 0) = _
  unfold fn37
  refine zLV (ρ 0) rfl (zLE m1 (zLE m5 (zLE m6 (zLE m14 (zLE (show fn7 [] (γ 0) = (0, 0, γ 1) from l0.symm) (zLV (γ 1) rfl (zLE m15 ?_)))))))
  refine zLE (show fn33 [] (γ 1) = (0, ρ 7 + 8 * ρ 6, γ 2) from l1.symm) (zLV (γ 2) rfl (zLE c3.symm (zLE (show fn6 [ρ 16] (γ 3) = (0, ρ 17, γ 4) from l2.symm) (zLV (γ 4) rfl (zIP w_0 (zLV (ρ 17) rfl (zIP wl_0 ?_)))))))
  refine zLE (show fn9 [ρ 17] (γ 4) = (0, 0, γ 5) from l4.symm) (zLV (γ 5) rfl (zIN zQ0_ (zLE (show fn20 [0] (γ 5) = (0, 1, γ 6) from l5.symm) (zLV (γ 6) rfl (zIP zQ1_ (zLE m20 (zLE m21 ?_)))))))
  refine zLE c7.symm (zLE c8.symm (zLE (show fn7 [] (γ 8) = (0, 0, γ 9) from l6.symm) (zLV (γ 9) rfl (zLE m25 (zIN w_1 (zLE (show fn6 [ρ 26] (γ 9) = (0, ρ 27, γ 10) from l7.symm) (zLV (γ 10) rfl ?_)))))))
  refine zIP w_2 (zLV (ρ 27) rfl (zLE (show fn9 [ρ 27] (γ 10) = (0, 1, γ 11) from l8.symm) (zLV (γ 11) rfl (zIP zQ1_ (zLE (show fn12 [] (γ 11) = (0, 1, γ 12) from l9.symm) (zLV (γ 12) rfl (zIP zQ1_ ?_)))))))
  refine zLE (show fn13 [105, 115, 0, 0, 0] (γ 12) = (0, 1, γ 13) from l10.symm) (zLV (γ 13) rfl (zIP zQ1_ (zLE (show fn18 [ρ 22] (γ 13) = (0, 0, γ 14) from l11.symm) (zLV (γ 14) rfl (zIN zQ0_ (zLE (show fn34 [1] (γ 14) = (0, 1, γ 15) from l12.symm) (zLV (γ 15) rfl ?_)))))))
  refine zIP zQ1_ (zLE (show fn7 [] (γ 15) = (0, 0, γ 16) from l13.symm) (zLV (γ 16) rfl (zLE m38 (zLE (show fn6 [ρ 36] (γ 16) = (0, (-1), γ 17) from l14.symm) (zLV (γ 17) rfl (zIN w_3 (zLE (show fn8 [ρ 36] (γ 17) = (0, 0, γ 18) from l15.symm) ?_)))))))
  refine zLV (γ 18) rfl ?_
  rfl
theorem vn37_16 {S : Nat → zSpc} (hS6 : zIm S 6 sn6) (hS7 : zIm S 7 sn7) (hS8 : zIm S 8 sn8) (hS9 : zIm S 9 sn9) (hS12 : zIm S 12 sn12) (hS13 : zIm S 13 sn13) (hS15 : zIm S 15 sn15) (hS18 : zIm S 18 sn18) (hS20 : zIm S 20 sn20) (hS23 : zIm S 23 sn23) (hS33 : zIm S 33 sn33) (hS34 : zIm S 34 sn34) (hS35 : zIm S 35 sn35) (hS36 : zIm S 36 sn36) {a : List Int} {g : rHp} : ∀ (ρ : Nat → Int) (γ : Nat → rHp), zO 16 S a g q37_16 ρ γ → zGl (fun _ _ _ => True) (sn37 a g) q37_16 ρ γ := by
  intro ρ γ h
  obtain ⟨ha, hg, hr, hf, hm, hc, hl⟩ := h
  have ha : a = [ρ 0, ρ 1, ρ 2, ρ 3, ρ 4, ρ 5, ρ 6, ρ 7, ρ 8, ρ 9, ρ 10, ρ 11, ρ 12, ρ 13, ρ 14, ρ 15] := ha
  subst ha
  subst hg
  have r17 : ((-128) : Int) ≤ ρ 17 ∧ ρ 17 ≤ 127 := zRnA hr 17
  have r23 : (1 : Int) ≤ ρ 23 ∧ ρ 23 ≤ 1 := zRnA hr 23
  have f2 : (0 : Int) ≤ -ρ 26 + ρ 2 + (-1) := zAllA hf 2
  have f16 : (0 : Int) ≤ -ρ 16 + ρ 2 + (-1) := zAllA hf 16
  obtain ⟨w_0, w_1, w_2⟩ : (0 ≤ -ρ 16 + ρ 2 + (-1)) ∧ (¬ (ρ 23 ≠ 1)) ∧ (0 ≤ -ρ 26 + ρ 2 + (-1)) := ⟨by omega, by omega, by omega⟩
  have m1 : γ 0 15 0 34 = ρ 2 := zAllA hm 1
  have m5 : γ 0 15 0 44 = ρ 6 := zAllA hm 5
  have m6 : γ 0 73 0 (ρ 6) = ρ 7 := zAllA hm 6
  have m14 : γ 0 15 0 45 = ρ 15 := zAllA hm 14
  have m15 : γ 1 15 0 35 = ρ 16 := zAllA hm 15
  have m20 : γ 6 15 0 39 = ρ 22 := zAllA hm 20
  have m21 : γ 6 15 0 40 = ρ 23 := zAllA hm 21
  have m25 : γ 9 15 0 35 = ρ 26 := zAllA hm 25
  have c3 : γ 3 = rUp (γ 2) 79 0 (ρ 7 + 8 * ρ 6) (ρ 15) := And.right (zChA hc 12)
  have c7 : γ 7 = rUp (γ 6) 80 0 (4 * ρ 7 + 32 * ρ 6) (ρ 23) := And.right (zChA hc 8)
  have c8 : γ 8 = rUp (γ 7) 81 0 (4 * ρ 7 + 32 * ρ 6) (ρ 22) := And.right (zChA hc 7)
  have l0 : sn7 [ρ 1, ρ 2] (γ 0) 0 0 (γ 1) := hS7 _ _ _ _ _ (zAllA hl 0)
  have l1 : sn33 [ρ 6, ρ 7] (γ 1) 0 (ρ 7 + 8 * ρ 6) (γ 2) := hS33 _ _ _ _ _ (zAllA hl 1)
  have l2 : sn6 [ρ 16, ρ 2] (γ 3) 0 (ρ 17) (γ 4) := hS6 _ _ _ _ _ (zAllA hl 2)
  have l3 : ρ 17 ≠ 33 := zAllA hl 3
  have l4 : sn9 [ρ 17] (γ 4) 0 0 (γ 5) := hS9 _ _ _ _ _ (zAllA hl 4)
  have l5 : sn20 [0, ρ 16, ρ 2, ρ 3, ρ 4, ρ 18, ρ 14, ρ 11, ρ 12, ρ 13, ρ 6] (γ 5) 0 1 (γ 6) := hS20 _ _ _ _ _ (zAllA hl 5)
  have l6 : sn7 [ρ 19, ρ 2] (γ 8) 0 0 (γ 9) := hS7 _ _ _ _ _ (zAllA hl 6)
  have l7 : sn6 [ρ 26, ρ 2] (γ 9) 0 (ρ 27) (γ 10) := hS6 _ _ _ _ _ (zAllA hl 7)
  have l8 : sn9 [ρ 27] (γ 10) 0 1 (γ 11) := hS9 _ _ _ _ _ (zAllA hl 8)
  have l9 : sn12 [ρ 26, ρ 2, ρ 24, ρ 11, ρ 25] (γ 11) 0 1 (γ 12) := hS12 _ _ _ _ _ (zAllA hl 9)
  have l10 : sn13 [105, 115, 0, 0, 0, ρ 26, ρ 29] (γ 12) 0 1 (γ 13) := hS13 _ _ _ _ _ (zAllA hl 10)
  have l11 : sn18 [ρ 22, ρ 15] (γ 13) 0 1 (γ 14) := hS18 _ _ _ _ _ (zAllA hl 11)
  have l12 : sn8 [ρ 16, ρ 2, ρ 11] (γ 14) 0 0 (γ 15) := hS8 _ _ _ _ _ (zAllA hl 12)
  have wl_0 : ρ 17 ≠ 33 := by omega
  show sn37 [ρ 0, ρ 1, ρ 2, ρ 3, ρ 4, ρ 5, ρ 6, ρ 7, ρ 8, ρ 9, ρ 10, ρ 11, ρ 12, ρ 13, ρ 14, ρ 15] (γ 0) 0 0 (γ 15)
  refine Eq.symm ?_
  show fn37 [ρ 0] (γ 0) = _
  unfold fn37
  refine zLV (ρ 0) rfl (zLE m1 (zLE m5 (zLE m6 (zLE m14 (zLE (show fn7 [] (γ 0) = (0, 0, γ 1) from l0.symm) (zLV (γ 1) rfl (zLE m15 ?_)))))))
  refine zLE (show fn33 [] (γ 1) = (0, ρ 7 + 8 * ρ 6, γ 2) from l1.symm) (zLV (γ 2) rfl (zLE c3.symm (zLE (show fn6 [ρ 16] (γ 3) = (0, ρ 17, γ 4) from l2.symm) (zLV (γ 4) rfl (zIP w_0 (zLV (ρ 17) rfl (zIP wl_0 ?_)))))))
  refine zLE (show fn9 [ρ 17] (γ 4) = (0, 0, γ 5) from l4.symm) (zLV (γ 5) rfl (zIN zQ0_ (zLE (show fn20 [0] (γ 5) = (0, 1, γ 6) from l5.symm) (zLV (γ 6) rfl (zIP zQ1_ (zLE m20 (zLE m21 ?_)))))))
  refine zLE c7.symm (zLE c8.symm (zLE (show fn7 [] (γ 8) = (0, 0, γ 9) from l6.symm) (zLV (γ 9) rfl (zLE m25 (zIN w_1 (zLE (show fn6 [ρ 26] (γ 9) = (0, ρ 27, γ 10) from l7.symm) (zLV (γ 10) rfl ?_)))))))
  refine zIP w_2 (zLV (ρ 27) rfl (zLE (show fn9 [ρ 27] (γ 10) = (0, 1, γ 11) from l8.symm) (zLV (γ 11) rfl (zIP zQ1_ (zLE (show fn12 [] (γ 11) = (0, 1, γ 12) from l9.symm) (zLV (γ 12) rfl (zIP zQ1_ ?_)))))))
  refine zLE (show fn13 [105, 115, 0, 0, 0] (γ 12) = (0, 1, γ 13) from l10.symm) (zLV (γ 13) rfl (zIP zQ1_ (zLE (show fn18 [ρ 22] (γ 13) = (0, 1, γ 14) from l11.symm) (zLV (γ 14) rfl (zIP zQ1_ (zLE (show fn8 [ρ 16] (γ 14) = (0, 0, γ 15) from l12.symm) (zLV (γ 15) rfl ?_)))))))
  rfl
theorem vn37_17 {S : Nat → zSpc} (hS6 : zIm S 6 sn6) (hS7 : zIm S 7 sn7) (hS8 : zIm S 8 sn8) (hS9 : zIm S 9 sn9) (hS12 : zIm S 12 sn12) (hS13 : zIm S 13 sn13) (hS15 : zIm S 15 sn15) (hS18 : zIm S 18 sn18) (hS20 : zIm S 20 sn20) (hS23 : zIm S 23 sn23) (hS33 : zIm S 33 sn33) (hS34 : zIm S 34 sn34) (hS35 : zIm S 35 sn35) (hS36 : zIm S 36 sn36) {a : List Int} {g : rHp} : ∀ (ρ : Nat → Int) (γ : Nat → rHp), zO 16 S a g q37_17 ρ γ → zGl (fun _ _ _ => True) (sn37 a g) q37_17 ρ γ := by
  intro ρ γ h
  obtain ⟨ha, hg, hr, hf, hm, hc, hl⟩ := h
  have ha : a = [ρ 0, ρ 1, ρ 2, ρ 3, ρ 4, ρ 5, ρ 6, ρ 7, ρ 8, ρ 9, ρ 10, ρ 11, ρ 12, ρ 13, ρ 14, ρ 15] := ha
  subst ha
  subst hg
  have r17 : ((-128) : Int) ≤ ρ 17 ∧ ρ 17 ≤ 127 := zRnA hr 17
  have r23 : (1 : Int) ≤ ρ 23 ∧ ρ 23 ≤ 1 := zRnA hr 23
  have f10 : (0 : Int) ≤ ρ 26 + -ρ 2 := zAllA hf 10
  have f19 : (0 : Int) ≤ -ρ 16 + ρ 2 + (-1) := zAllA hf 19
  obtain ⟨w_0, w_1, w_2⟩ : (0 ≤ -ρ 16 + ρ 2 + (-1)) ∧ (¬ (ρ 23 ≠ 1)) ∧ (¬ (0 ≤ -ρ 26 + ρ 2 + (-1))) := ⟨by omega, by omega, by omega⟩
  have m1 : γ 0 15 0 34 = ρ 2 := zAllA hm 1
  have m5 : γ 0 15 0 44 = ρ 6 := zAllA hm 5
  have m6 : γ 0 73 0 (ρ 6) = ρ 7 := zAllA hm 6
  have m14 : γ 0 15 0 45 = ρ 15 := zAllA hm 14
  have m15 : γ 1 15 0 35 = ρ 16 := zAllA hm 15
  have m20 : γ 6 15 0 39 = ρ 22 := zAllA hm 20
  have m21 : γ 6 15 0 40 = ρ 23 := zAllA hm 21
  have m25 : γ 9 15 0 35 = ρ 26 := zAllA hm 25
  have c3 : γ 3 = rUp (γ 2) 79 0 (ρ 7 + 8 * ρ 6) (ρ 15) := And.right (zChA hc 9)
  have c7 : γ 7 = rUp (γ 6) 80 0 (4 * ρ 7 + 32 * ρ 6) (ρ 23) := And.right (zChA hc 5)
  have c8 : γ 8 = rUp (γ 7) 81 0 (4 * ρ 7 + 32 * ρ 6) (ρ 22) := And.right (zChA hc 4)
  have l0 : sn7 [ρ 1, ρ 2] (γ 0) 0 0 (γ 1) := hS7 _ _ _ _ _ (zAllA hl 0)
  have l1 : sn33 [ρ 6, ρ 7] (γ 1) 0 (ρ 7 + 8 * ρ 6) (γ 2) := hS33 _ _ _ _ _ (zAllA hl 1)
  have l2 : sn6 [ρ 16, ρ 2] (γ 3) 0 (ρ 17) (γ 4) := hS6 _ _ _ _ _ (zAllA hl 2)
  have l3 : ρ 17 ≠ 33 := zAllA hl 3
  have l4 : sn9 [ρ 17] (γ 4) 0 0 (γ 5) := hS9 _ _ _ _ _ (zAllA hl 4)
  have l5 : sn20 [0, ρ 16, ρ 2, ρ 3, ρ 4, ρ 18, ρ 14, ρ 11, ρ 12, ρ 13, ρ 6] (γ 5) 0 1 (γ 6) := hS20 _ _ _ _ _ (zAllA hl 5)
  have l6 : sn7 [ρ 19, ρ 2] (γ 8) 0 0 (γ 9) := hS7 _ _ _ _ _ (zAllA hl 6)
  have l7 : sn6 [ρ 26, ρ 2] (γ 9) 0 (-1) (γ 10) := hS6 _ _ _ _ _ (zAllA hl 7)
  have l8 : sn9 [(-1)] (γ 10) 0 0 (γ 11) := hS9 _ _ _ _ _ (zAllA hl 8)
  have l9 : sn35 [ρ 16, ρ 26, ρ 2, ρ 20, ρ 21, ρ 6, ρ 7, ρ 8, ρ 22, ρ 11, ρ 24, ρ 25, ρ 23, ρ 15] (γ 11) 0 0 (γ 12) := hS35 _ _ _ _ _ (zAllA hl 9)
  have wl_0 : ρ 17 ≠ 33 := by omega
  show sn37 [ρ 0, ρ 1, ρ 2, ρ 3, ρ 4, ρ 5, ρ 6, ρ 7, ρ 8, ρ 9, ρ 10, ρ 11, ρ 12, ρ 13, ρ 14, ρ 15] (γ 0) 0 0 (γ 12)
  refine Eq.symm ?_
  show fn37 [ρ 0] (γ 0) = _
  unfold fn37
  refine zLV (ρ 0) rfl (zLE m1 (zLE m5 (zLE m6 (zLE m14 (zLE (show fn7 [] (γ 0) = (0, 0, γ 1) from l0.symm) (zLV (γ 1) rfl (zLE m15 ?_)))))))
  refine zLE (show fn33 [] (γ 1) = (0, ρ 7 + 8 * ρ 6, γ 2) from l1.symm) (zLV (γ 2) rfl (zLE c3.symm (zLE (show fn6 [ρ 16] (γ 3) = (0, ρ 17, γ 4) from l2.symm) (zLV (γ 4) rfl (zIP w_0 (zLV (ρ 17) rfl (zIP wl_0 ?_)))))))
  refine zLE (show fn9 [ρ 17] (γ 4) = (0, 0, γ 5) from l4.symm) (zLV (γ 5) rfl (zIN zQ0_ (zLE (show fn20 [0] (γ 5) = (0, 1, γ 6) from l5.symm) (zLV (γ 6) rfl (zIP zQ1_ (zLE m20 (zLE m21 ?_)))))))
  refine zLE c7.symm (zLE c8.symm (zLE (show fn7 [] (γ 8) = (0, 0, γ 9) from l6.symm) (zLV (γ 9) rfl (zLE m25 (zIN w_1 (zLE (show fn6 [ρ 26] (γ 9) = (0, (-1), γ 10) from l7.symm) (zLV (γ 10) rfl ?_)))))))
  refine zIN w_2 (zLE (show fn9 [(-1)] (γ 10) = (0, 0, γ 11) from l8.symm) (zLV (γ 11) rfl (zLE (show fn35 [ρ 16] (γ 11) = (0, 0, γ 12) from l9.symm) (zLV (γ 12) rfl ?_))))
  rfl
theorem vn37_18 {S : Nat → zSpc} (hS6 : zIm S 6 sn6) (hS7 : zIm S 7 sn7) (hS8 : zIm S 8 sn8) (hS9 : zIm S 9 sn9) (hS12 : zIm S 12 sn12) (hS13 : zIm S 13 sn13) (hS15 : zIm S 15 sn15) (hS18 : zIm S 18 sn18) (hS20 : zIm S 20 sn20) (hS23 : zIm S 23 sn23) (hS33 : zIm S 33 sn33) (hS34 : zIm S 34 sn34) (hS35 : zIm S 35 sn35) (hS36 : zIm S 36 sn36) {a : List Int} {g : rHp} : ∀ (ρ : Nat → Int) (γ : Nat → rHp), zO 16 S a g q37_18 ρ γ → zGl (fun _ _ _ => True) (sn37 a g) q37_18 ρ γ := by
  intro ρ γ h
  obtain ⟨ha, hg, hr, hf, hm, hc, hl⟩ := h
  have ha : a = [ρ 0, ρ 1, ρ 2, ρ 3, ρ 4, ρ 5, ρ 6, ρ 7, ρ 8, ρ 9, ρ 10, ρ 11, ρ 12, ρ 13, ρ 14, ρ 15] := ha
  subst ha
  subst hg
  have r17 : (97 : Int) ≤ ρ 17 ∧ ρ 17 ≤ 122 := zRnA hr 17
  have f0 : (0 : Int) ≤ -ρ 16 + ρ 2 + (-1) := zAllA hf 0
  obtain ⟨w_0, w_1⟩ : (0 ≤ -ρ 16 + ρ 2 + (-1)) ∧ (ρ 17 ≠ 33) := ⟨by omega, by omega⟩
  have m1 : γ 0 15 0 34 = ρ 2 := zAllA hm 1
  have m5 : γ 0 15 0 44 = ρ 6 := zAllA hm 5
  have m6 : γ 0 73 0 (ρ 6) = ρ 7 := zAllA hm 6
  have m14 : γ 0 15 0 45 = ρ 15 := zAllA hm 14
  have m15 : γ 1 15 0 35 = ρ 16 := zAllA hm 15
  have c3 : γ 3 = rUp (γ 2) 79 0 (ρ 7 + 8 * ρ 6) (ρ 15) := And.right (zChA hc 3)
  have l0 : sn7 [ρ 1, ρ 2] (γ 0) 0 0 (γ 1) := hS7 _ _ _ _ _ (zAllA hl 0)
  have l1 : sn33 [ρ 6, ρ 7] (γ 1) 0 (ρ 7 + 8 * ρ 6) (γ 2) := hS33 _ _ _ _ _ (zAllA hl 1)
  have l2 : sn6 [ρ 16, ρ 2] (γ 3) 0 (ρ 17) (γ 4) := hS6 _ _ _ _ _ (zAllA hl 2)
  have l3 : ρ 17 ≠ 33 := zAllA hl 3
  have l4 : sn9 [ρ 17] (γ 4) 0 1 (γ 5) := hS9 _ _ _ _ _ (zAllA hl 4)
  have l5 : sn12 [ρ 16, ρ 2, ρ 12, ρ 11, ρ 13] (γ 5) 0 0 (γ 6) := hS12 _ _ _ _ _ (zAllA hl 5)
  show sn37 [ρ 0, ρ 1, ρ 2, ρ 3, ρ 4, ρ 5, ρ 6, ρ 7, ρ 8, ρ 9, ρ 10, ρ 11, ρ 12, ρ 13, ρ 14, ρ 15] (γ 0) 0 0 (γ 6)
  refine Eq.symm ?_
  show fn37 [ρ 0] (γ 0) = _
  unfold fn37
  refine zLV (ρ 0) rfl (zLE m1 (zLE m5 (zLE m6 (zLE m14 (zLE (show fn7 [] (γ 0) = (0, 0, γ 1) from l0.symm) (zLV (γ 1) rfl (zLE m15 ?_)))))))
  refine zLE (show fn33 [] (γ 1) = (0, ρ 7 + 8 * ρ 6, γ 2) from l1.symm) (zLV (γ 2) rfl (zLE c3.symm (zLE (show fn6 [ρ 16] (γ 3) = (0, ρ 17, γ 4) from l2.symm) (zLV (γ 4) rfl (zIP w_0 (zLV (ρ 17) rfl (zIP w_1 ?_)))))))
  refine zLE (show fn9 [ρ 17] (γ 4) = (0, 1, γ 5) from l4.symm) (zLV (γ 5) rfl (zIP zQ1_ (zLE (show fn12 [] (γ 5) = (0, 0, γ 6) from l5.symm) (zLV (γ 6) rfl (zIN zQ0_ ?_)))))
  rfl
theorem vn37_19 {S : Nat → zSpc} (hS6 : zIm S 6 sn6) (hS7 : zIm S 7 sn7) (hS8 : zIm S 8 sn8) (hS9 : zIm S 9 sn9) (hS12 : zIm S 12 sn12) (hS13 : zIm S 13 sn13) (hS15 : zIm S 15 sn15) (hS18 : zIm S 18 sn18) (hS20 : zIm S 20 sn20) (hS23 : zIm S 23 sn23) (hS33 : zIm S 33 sn33) (hS34 : zIm S 34 sn34) (hS35 : zIm S 35 sn35) (hS36 : zIm S 36 sn36) {a : List Int} {g : rHp} : ∀ (ρ : Nat → Int) (γ : Nat → rHp), zO 16 S a g q37_19 ρ γ → zGl (fun _ _ _ => True) (sn37 a g) q37_19 ρ γ := by
  intro ρ γ h
  obtain ⟨ha, hg, hr, hf, hm, hc, hl⟩ := h
  have ha : a = [ρ 0, ρ 1, ρ 2, ρ 3, ρ 4, ρ 5, ρ 6, ρ 7, ρ 8, ρ 9, ρ 10, ρ 11, ρ 12, ρ 13, ρ 14, ρ 15] := ha
  subst ha
  subst hg
  have r17 : (97 : Int) ≤ ρ 17 ∧ ρ 17 ≤ 122 := zRnA hr 17
  have r21 : ((-128) : Int) ≤ ρ 21 ∧ ρ 21 ≤ 127 := zRnA hr 21
  have f19 : (0 : Int) ≤ -ρ 20 + ρ 2 + (-1) := zAllA hf 19
  have f22 : (0 : Int) ≤ -ρ 16 + ρ 2 + (-1) := zAllA hf 22
  obtain ⟨w_0, w_1, w_2⟩ : (0 ≤ -ρ 16 + ρ 2 + (-1)) ∧ (ρ 17 ≠ 33) ∧ (0 ≤ -ρ 20 + ρ 2 + (-1)) := ⟨by omega, by omega, by omega⟩
  have m1 : γ 0 15 0 34 = ρ 2 := zAllA hm 1
  have m5 : γ 0 15 0 44 = ρ 6 := zAllA hm 5
  have m6 : γ 0 73 0 (ρ 6) = ρ 7 := zAllA hm 6
  have m14 : γ 0 15 0 45 = ρ 15 := zAllA hm 14
  have m15 : γ 1 15 0 35 = ρ 16 := zAllA hm 15
  have m20 : γ 7 15 0 35 = ρ 20 := zAllA hm 20
  have c3 : γ 3 = rUp (γ 2) 79 0 (ρ 7 + 8 * ρ 6) (ρ 15) := And.right (zChA hc 12)
  have c10 : γ 10 = rUp (γ 9) 15 0 39 (ρ 22) := And.right (zChA hc 5)
  have c11 : γ 11 = rUp (γ 10) 15 0 40 0 := And.right (zChA hc 4)
  have c12 : γ 12 = rUp (γ 11) 80 0 (4 * ρ 7 + 32 * ρ 6) 0 := And.right (zChA hc 3)
  have c13 : γ 13 = rUp (γ 12) 81 0 (4 * ρ 7 + 32 * ρ 6) (ρ 22) := And.right (zChA hc 2)
  have l0 : sn7 [ρ 1, ρ 2] (γ 0) 0 0 (γ 1) := hS7 _ _ _ _ _ (zAllA hl 0)
  have l1 : sn33 [ρ 6, ρ 7] (γ 1) 0 (ρ 7 + 8 * ρ 6) (γ 2) := hS33 _ _ _ _ _ (zAllA hl 1)
  have l2 : sn6 [ρ 16, ρ 2] (γ 3) 0 (ρ 17) (γ 4) := hS6 _ _ _ _ _ (zAllA hl 2)
  have l3 : ρ 17 ≠ 33 := zAllA hl 3
  have l4 : sn9 [ρ 17] (γ 4) 0 1 (γ 5) := hS9 _ _ _ _ _ (zAllA hl 4)
  have l5 : sn12 [ρ 16, ρ 2, ρ 12, ρ 11, ρ 13] (γ 5) 0 1 (γ 6) := hS12 _ _ _ _ _ (zAllA hl 5)
  have l6 : sn7 [ρ 18, ρ 2] (γ 6) 0 0 (γ 7) := hS7 _ _ _ _ _ (zAllA hl 6)
  have l7 : sn6 [ρ 20, ρ 2] (γ 7) 0 (ρ 21) (γ 8) := hS6 _ _ _ _ _ (zAllA hl 7)
  have l8 : ρ 21 ≠ 40 := zAllA hl 8
  have l9 : sn15 [ρ 2, ρ 3, ρ 4, ρ 16, ρ 19] (γ 8) 0 (ρ 22) (γ 9) := hS15 _ _ _ _ _ (zAllA hl 9)
  have l10 : sn7 [ρ 20, ρ 2] (γ 13) 0 0 (γ 14) := hS7 _ _ _ _ _ (zAllA hl 10)
  have l11 : sn35 [ρ 16, ρ 25, ρ 2, ρ 23, ρ 24, ρ 6, ρ 7, ρ 8, ρ 22, ρ 11, ρ 16, ρ 19, 0, ρ 15] (γ 14) 0 0 (γ 15) := hS35 _ _ _ _ _ (zAllA hl 11)
  have wl_0 : ρ 21 ≠ 40 := by omega
  show sn37 [ρ 0, ρ 1, ρ 2, ρ 3, ρ 4, ρ 5, ρ 6, ρ 7, ρ 8, ρ 9, ρ 10, ρ 11, ρ 12, ρ 13, ρ 14, ρ 15] (γ 0) 0 0 (γ 15)
  refine Eq.symm ?_
  show fn37 [ρ 0] (γ 0) = _
  unfold fn37
  refine zLV (ρ 0) rfl (zLE m1 (zLE m5 (zLE m6 (zLE m14 (zLE (show fn7 [] (γ 0) = (0, 0, γ 1) from l0.symm) (zLV (γ 1) rfl (zLE m15 ?_)))))))
  refine zLE (show fn33 [] (γ 1) = (0, ρ 7 + 8 * ρ 6, γ 2) from l1.symm) (zLV (γ 2) rfl (zLE c3.symm (zLE (show fn6 [ρ 16] (γ 3) = (0, ρ 17, γ 4) from l2.symm) (zLV (γ 4) rfl (zIP w_0 (zLV (ρ 17) rfl (zIP w_1 ?_)))))))
  refine zLE (show fn9 [ρ 17] (γ 4) = (0, 1, γ 5) from l4.symm) (zLV (γ 5) rfl (zIP zQ1_ (zLE (show fn12 [] (γ 5) = (0, 1, γ 6) from l5.symm) (zLV (γ 6) rfl (zIP zQ1_ (zLE (show fn7 [] (γ 6) = (0, 0, γ 7) from l6.symm) (zLV (γ 7) rfl ?_)))))))
  refine zLE m20 (zLE (show fn6 [ρ 20] (γ 7) = (0, ρ 21, γ 8) from l7.symm) (zLV (γ 8) rfl (zIP w_2 (zLV (ρ 21) rfl (zIP wl_0 (zLE (show fn15 [] (γ 8) = (0, ρ 22, γ 9) from l9.symm) (zLV (γ 9) rfl ?_)))))))
  refine zLV (ρ 22) rfl (zLE c10.symm (zLE c11.symm (zLE c12.symm (zLE c13.symm (zLE (show fn7 [] (γ 13) = (0, 0, γ 14) from l10.symm) (zLV (γ 14) rfl (zLE (show fn35 [ρ 16] (γ 14) = (0, 0, γ 15) from l11.symm) ?_)))))))
  refine zLV (γ 15) rfl (zIN zQ0_ ?_)
  rfl
theorem vn37_20 {S : Nat → zSpc} (hS6 : zIm S 6 sn6) (hS7 : zIm S 7 sn7) (hS8 : zIm S 8 sn8) (hS9 : zIm S 9 sn9) (hS12 : zIm S 12 sn12) (hS13 : zIm S 13 sn13) (hS15 : zIm S 15 sn15) (hS18 : zIm S 18 sn18) (hS20 : zIm S 20 sn20) (hS23 : zIm S 23 sn23) (hS33 : zIm S 33 sn33) (hS34 : zIm S 34 sn34) (hS35 : zIm S 35 sn35) (hS36 : zIm S 36 sn36) {a : List Int} {g : rHp} : ∀ (ρ : Nat → Int) (γ : Nat → rHp), zO 16 S a g q37_20 ρ γ → zGl (fun _ _ _ => True) (sn37 a g) q37_20 ρ γ := by
  intro ρ γ h
  obtain ⟨ha, hg, hr, hf, hm, hc, hl⟩ := h
  have ha : a = [ρ 0, ρ 1, ρ 2, ρ 3, ρ 4, ρ 5, ρ 6, ρ 7, ρ 8, ρ 9, ρ 10, ρ 11, ρ 12, ρ 13, ρ 14, ρ 15] := ha
  subst ha
  subst hg
  have r17 : (97 : Int) ≤ ρ 17 ∧ ρ 17 ≤ 122 := zRnA hr 17
  have r21 : ((-128) : Int) ≤ ρ 21 ∧ ρ 21 ≤ 127 := zRnA hr 21
  have f20 : (0 : Int) ≤ -ρ 20 + ρ 2 + (-1) := zAllA hf 20
  have f23 : (0 : Int) ≤ -ρ 16 + ρ 2 + (-1) := zAllA hf 23
  obtain ⟨w_0, w_1, w_2⟩ : (0 ≤ -ρ 16 + ρ 2 + (-1)) ∧ (ρ 17 ≠ 33) ∧ (0 ≤ -ρ 20 + ρ 2 + (-1)) := ⟨by omega, by omega, by omega⟩
  have m1 : γ 0 15 0 34 = ρ 2 := zAllA hm 1
  have m5 : γ 0 15 0 44 = ρ 6 := zAllA hm 5
  have m6 : γ 0 73 0 (ρ 6) = ρ 7 := zAllA hm 6
  have m14 : γ 0 15 0 45 = ρ 15 := zAllA hm 14
  have m15 : γ 1 15 0 35 = ρ 16 := zAllA hm 15
  have m20 : γ 7 15 0 35 = ρ 20 := zAllA hm 20
  have c3 : γ 3 = rUp (γ 2) 79 0 (ρ 7 + 8 * ρ 6) (ρ 15) := And.right (zChA hc 12)
  have c10 : γ 10 = rUp (γ 9) 15 0 39 (ρ 22) := And.right (zChA hc 5)
  have c11 : γ 11 = rUp (γ 10) 15 0 40 0 := And.right (zChA hc 4)
  have c12 : γ 12 = rUp (γ 11) 80 0 (4 * ρ 7 + 32 * ρ 6) 0 := And.right (zChA hc 3)
  have c13 : γ 13 = rUp (γ 12) 81 0 (4 * ρ 7 + 32 * ρ 6) (ρ 22) := And.right (zChA hc 2)
  have l0 : sn7 [ρ 1, ρ 2] (γ 0) 0 0 (γ 1) := hS7 _ _ _ _ _ (zAllA hl 0)
  have l1 : sn33 [ρ 6, ρ 7] (γ 1) 0 (ρ 7 + 8 * ρ 6) (γ 2) := hS33 _ _ _ _ _ (zAllA hl 1)
  have l2 : sn6 [ρ 16, ρ 2] (γ 3) 0 (ρ 17) (γ 4) := hS6 _ _ _ _ _ (zAllA hl 2)
  have l3 : ρ 17 ≠ 33 := zAllA hl 3
  have l4 : sn9 [ρ 17] (γ 4) 0 1 (γ 5) := hS9 _ _ _ _ _ (zAllA hl 4)
  have l5 : sn12 [ρ 16, ρ 2, ρ 12, ρ 11, ρ 13] (γ 5) 0 1 (γ 6) := hS12 _ _ _ _ _ (zAllA hl 5)
  have l6 : sn7 [ρ 18, ρ 2] (γ 6) 0 0 (γ 7) := hS7 _ _ _ _ _ (zAllA hl 6)
  have l7 : sn6 [ρ 20, ρ 2] (γ 7) 0 (ρ 21) (γ 8) := hS6 _ _ _ _ _ (zAllA hl 7)
  have l8 : ρ 21 ≠ 40 := zAllA hl 8
  have l9 : sn15 [ρ 2, ρ 3, ρ 4, ρ 16, ρ 19] (γ 8) 0 (ρ 22) (γ 9) := hS15 _ _ _ _ _ (zAllA hl 9)
  have l10 : sn7 [ρ 20, ρ 2] (γ 13) 0 0 (γ 14) := hS7 _ _ _ _ _ (zAllA hl 10)
  have l11 : sn35 [ρ 16, ρ 25, ρ 2, ρ 23, ρ 24, ρ 6, ρ 7, ρ 8, ρ 22, ρ 11, ρ 16, ρ 19, 0, ρ 15] (γ 14) 0 1 (γ 15) := hS35 _ _ _ _ _ (zAllA hl 11)
  have wl_0 : ρ 21 ≠ 40 := by omega
  show sn37 [ρ 0, ρ 1, ρ 2, ρ 3, ρ 4, ρ 5, ρ 6, ρ 7, ρ 8, ρ 9, ρ 10, ρ 11, ρ 12, ρ 13, ρ 14, ρ 15] (γ 0) 0 1 (γ 15)
  refine Eq.symm ?_
  show fn37 [ρ 0] (γ 0) = _
  unfold fn37
  refine zLV (ρ 0) rfl (zLE m1 (zLE m5 (zLE m6 (zLE m14 (zLE (show fn7 [] (γ 0) = (0, 0, γ 1) from l0.symm) (zLV (γ 1) rfl (zLE m15 ?_)))))))
  refine zLE (show fn33 [] (γ 1) = (0, ρ 7 + 8 * ρ 6, γ 2) from l1.symm) (zLV (γ 2) rfl (zLE c3.symm (zLE (show fn6 [ρ 16] (γ 3) = (0, ρ 17, γ 4) from l2.symm) (zLV (γ 4) rfl (zIP w_0 (zLV (ρ 17) rfl (zIP w_1 ?_)))))))
  refine zLE (show fn9 [ρ 17] (γ 4) = (0, 1, γ 5) from l4.symm) (zLV (γ 5) rfl (zIP zQ1_ (zLE (show fn12 [] (γ 5) = (0, 1, γ 6) from l5.symm) (zLV (γ 6) rfl (zIP zQ1_ (zLE (show fn7 [] (γ 6) = (0, 0, γ 7) from l6.symm) (zLV (γ 7) rfl ?_)))))))
  refine zLE m20 (zLE (show fn6 [ρ 20] (γ 7) = (0, ρ 21, γ 8) from l7.symm) (zLV (γ 8) rfl (zIP w_2 (zLV (ρ 21) rfl (zIP wl_0 (zLE (show fn15 [] (γ 8) = (0, ρ 22, γ 9) from l9.symm) (zLV (γ 9) rfl ?_)))))))
  refine zLV (ρ 22) rfl (zLE c10.symm (zLE c11.symm (zLE c12.symm (zLE c13.symm (zLE (show fn7 [] (γ 13) = (0, 0, γ 14) from l10.symm) (zLV (γ 14) rfl (zLE (show fn35 [ρ 16] (γ 14) = (0, 1, γ 15) from l11.symm) ?_)))))))
  refine zLV (γ 15) rfl (zIP zQ1_ ?_)
  rfl
theorem vn37_21 {S : Nat → zSpc} (hS6 : zIm S 6 sn6) (hS7 : zIm S 7 sn7) (hS8 : zIm S 8 sn8) (hS9 : zIm S 9 sn9) (hS12 : zIm S 12 sn12) (hS13 : zIm S 13 sn13) (hS15 : zIm S 15 sn15) (hS18 : zIm S 18 sn18) (hS20 : zIm S 20 sn20) (hS23 : zIm S 23 sn23) (hS33 : zIm S 33 sn33) (hS34 : zIm S 34 sn34) (hS35 : zIm S 35 sn35) (hS36 : zIm S 36 sn36) {a : List Int} {g : rHp} : ∀ (ρ : Nat → Int) (γ : Nat → rHp), zO 16 S a g q37_21 ρ γ → zGl (fun _ _ _ => True) (sn37 a g) q37_21 ρ γ := by
  intro ρ γ h
  obtain ⟨ha, hg, hr, hf, hm, hc, hl⟩ := h
  have ha : a = [ρ 0, ρ 1, ρ 2, ρ 3, ρ 4, ρ 5, ρ 6, ρ 7, ρ 8, ρ 9, ρ 10, ρ 11, ρ 12, ρ 13, ρ 14, ρ 15] := ha
  subst ha
  subst hg
  have r17 : (97 : Int) ≤ ρ 17 ∧ ρ 17 ≤ 122 := zRnA hr 17
  have r21 : (40 : Int) ≤ ρ 21 ∧ ρ 21 ≤ 40 := zRnA hr 21
  have f2 : (0 : Int) ≤ -ρ 20 + ρ 2 + (-1) := zAllA hf 2
  have f16 : (0 : Int) ≤ -ρ 16 + ρ 2 + (-1) := zAllA hf 16
  obtain ⟨w_0, w_1, w_2, w_3⟩ : (0 ≤ -ρ 16 + ρ 2 + (-1)) ∧ (ρ 17 ≠ 33) ∧ (0 ≤ -ρ 20 + ρ 2 + (-1)) ∧ (¬ (ρ 21 ≠ 40)) := ⟨by omega, by omega, by omega, by omega⟩
  have m1 : γ 0 15 0 34 = ρ 2 := zAllA hm 1
  have m5 : γ 0 15 0 44 = ρ 6 := zAllA hm 5
  have m6 : γ 0 73 0 (ρ 6) = ρ 7 := zAllA hm 6
  have m14 : γ 0 15 0 45 = ρ 15 := zAllA hm 14
  have m15 : γ 1 15 0 35 = ρ 16 := zAllA hm 15
  have m20 : γ 7 15 0 35 = ρ 20 := zAllA hm 20
  have c3 : γ 3 = rUp (γ 2) 79 0 (ρ 7 + 8 * ρ 6) (ρ 15) := And.right (zChA hc 6)
  have l0 : sn7 [ρ 1, ρ 2] (γ 0) 0 0 (γ 1) := hS7 _ _ _ _ _ (zAllA hl 0)
  have l1 : sn33 [ρ 6, ρ 7] (γ 1) 0 (ρ 7 + 8 * ρ 6) (γ 2) := hS33 _ _ _ _ _ (zAllA hl 1)
  have l2 : sn6 [ρ 16, ρ 2] (γ 3) 0 (ρ 17) (γ 4) := hS6 _ _ _ _ _ (zAllA hl 2)
  have l3 : ρ 17 ≠ 33 := zAllA hl 3
  have l4 : sn9 [ρ 17] (γ 4) 0 1 (γ 5) := hS9 _ _ _ _ _ (zAllA hl 4)
  have l5 : sn12 [ρ 16, ρ 2, ρ 12, ρ 11, ρ 13] (γ 5) 0 1 (γ 6) := hS12 _ _ _ _ _ (zAllA hl 5)
  have l6 : sn7 [ρ 18, ρ 2] (γ 6) 0 0 (γ 7) := hS7 _ _ _ _ _ (zAllA hl 6)
  have l7 : sn6 [ρ 20, ρ 2] (γ 7) 0 (ρ 21) (γ 8) := hS6 _ _ _ _ _ (zAllA hl 7)
  have l8 : sn36 [0, ρ 0, ρ 20, ρ 2, ρ 3, ρ 4, ρ 5, ρ 16, ρ 19, ρ 6, ρ 7, ρ 8, ρ 9, ρ 10, ρ 11, ρ 14, ρ 15] (γ 8) 0 0 (γ 9) := hS36 _ _ _ _ _ (zAllA hl 8)
  show sn37 [ρ 0, ρ 1, ρ 2, ρ 3, ρ 4, ρ 5, ρ 6, ρ 7, ρ 8, ρ 9, ρ 10, ρ 11, ρ 12, ρ 13, ρ 14, ρ 15] (γ 0) 0 0 (γ 9)
  refine Eq.symm ?_
  show fn37 [ρ 0] (γ 0) = _
  unfold fn37
  refine zLV (ρ 0) rfl (zLE m1 (zLE m5 (zLE m6 (zLE m14 (zLE (show fn7 [] (γ 0) = (0, 0, γ 1) from l0.symm) (zLV (γ 1) rfl (zLE m15 ?_)))))))
  refine zLE (show fn33 [] (γ 1) = (0, ρ 7 + 8 * ρ 6, γ 2) from l1.symm) (zLV (γ 2) rfl (zLE c3.symm (zLE (show fn6 [ρ 16] (γ 3) = (0, ρ 17, γ 4) from l2.symm) (zLV (γ 4) rfl (zIP w_0 (zLV (ρ 17) rfl (zIP w_1 ?_)))))))
  refine zLE (show fn9 [ρ 17] (γ 4) = (0, 1, γ 5) from l4.symm) (zLV (γ 5) rfl (zIP zQ1_ (zLE (show fn12 [] (γ 5) = (0, 1, γ 6) from l5.symm) (zLV (γ 6) rfl (zIP zQ1_ (zLE (show fn7 [] (γ 6) = (0, 0, γ 7) from l6.symm) (zLV (γ 7) rfl ?_)))))))
  refine zLE m20 (zLE (show fn6 [ρ 20] (γ 7) = (0, ρ 21, γ 8) from l7.symm) (zLV (γ 8) rfl (zIP w_2 (zLV (ρ 21) rfl (zIN w_3 (zLE (show fn36 [0, ρ 0] (γ 8) = (0, 0, γ 9) from l8.symm) (zLV (γ 9) rfl ?_)))))))
  refine zIN zQ0_ ?_
  rfl
theorem vn37_22 {S : Nat → zSpc} (hS6 : zIm S 6 sn6) (hS7 : zIm S 7 sn7) (hS8 : zIm S 8 sn8) (hS9 : zIm S 9 sn9) (hS12 : zIm S 12 sn12) (hS13 : zIm S 13 sn13) (hS15 : zIm S 15 sn15) (hS18 : zIm S 18 sn18) (hS20 : zIm S 20 sn20) (hS23 : zIm S 23 sn23) (hS33 : zIm S 33 sn33) (hS34 : zIm S 34 sn34) (hS35 : zIm S 35 sn35) (hS36 : zIm S 36 sn36) {a : List Int} {g : rHp} : ∀ (ρ : Nat → Int) (γ : Nat → rHp), zO 16 S a g q37_22 ρ γ → zGl (fun _ _ _ => True) (sn37 a g) q37_22 ρ γ := by
  intro ρ γ h
  obtain ⟨ha, hg, hr, hf, hm, hc, hl⟩ := h
  have ha : a = [ρ 0, ρ 1, ρ 2, ρ 3, ρ 4, ρ 5, ρ 6, ρ 7, ρ 8, ρ 9, ρ 10, ρ 11, ρ 12, ρ 13, ρ 14, ρ 15] := ha
  subst ha
  subst hg
  have r17 : (97 : Int) ≤ ρ 17 ∧ ρ 17 ≤ 122 := zRnA hr 17
  have r21 : (40 : Int) ≤ ρ 21 ∧ ρ 21 ≤ 40 := zRnA hr 21
  have f2 : (0 : Int) ≤ -ρ 20 + ρ 2 + (-1) := zAllA hf 2
  have f17 : (0 : Int) ≤ -ρ 16 + ρ 2 + (-1) := zAllA hf 17
  obtain ⟨w_0, w_1, w_2, w_3⟩ : (0 ≤ -ρ 16 + ρ 2 + (-1)) ∧ (ρ 17 ≠ 33) ∧ (0 ≤ -ρ 20 + ρ 2 + (-1)) ∧ (¬ (ρ 21 ≠ 40)) := ⟨by omega, by omega, by omega, by omega⟩
  have m1 : γ 0 15 0 34 = ρ 2 := zAllA hm 1
  have m5 : γ 0 15 0 44 = ρ 6 := zAllA hm 5
  have m6 : γ 0 73 0 (ρ 6) = ρ 7 := zAllA hm 6
  have m14 : γ 0 15 0 45 = ρ 15 := zAllA hm 14
  have m15 : γ 1 15 0 35 = ρ 16 := zAllA hm 15
  have m20 : γ 7 15 0 35 = ρ 20 := zAllA hm 20
  have c3 : γ 3 = rUp (γ 2) 79 0 (ρ 7 + 8 * ρ 6) (ρ 15) := And.right (zChA hc 6)
  have l0 : sn7 [ρ 1, ρ 2] (γ 0) 0 0 (γ 1) := hS7 _ _ _ _ _ (zAllA hl 0)
  have l1 : sn33 [ρ 6, ρ 7] (γ 1) 0 (ρ 7 + 8 * ρ 6) (γ 2) := hS33 _ _ _ _ _ (zAllA hl 1)
  have l2 : sn6 [ρ 16, ρ 2] (γ 3) 0 (ρ 17) (γ 4) := hS6 _ _ _ _ _ (zAllA hl 2)
  have l3 : ρ 17 ≠ 33 := zAllA hl 3
  have l4 : sn9 [ρ 17] (γ 4) 0 1 (γ 5) := hS9 _ _ _ _ _ (zAllA hl 4)
  have l5 : sn12 [ρ 16, ρ 2, ρ 12, ρ 11, ρ 13] (γ 5) 0 1 (γ 6) := hS12 _ _ _ _ _ (zAllA hl 5)
  have l6 : sn7 [ρ 18, ρ 2] (γ 6) 0 0 (γ 7) := hS7 _ _ _ _ _ (zAllA hl 6)
  have l7 : sn6 [ρ 20, ρ 2] (γ 7) 0 (ρ 21) (γ 8) := hS6 _ _ _ _ _ (zAllA hl 7)
  have l8 : sn36 [0, ρ 0, ρ 20, ρ 2, ρ 3, ρ 4, ρ 5, ρ 16, ρ 19, ρ 6, ρ 7, ρ 8, ρ 9, ρ 10, ρ 11, ρ 14, ρ 15] (γ 8) 0 1 (γ 9) := hS36 _ _ _ _ _ (zAllA hl 8)
  show sn37 [ρ 0, ρ 1, ρ 2, ρ 3, ρ 4, ρ 5, ρ 6, ρ 7, ρ 8, ρ 9, ρ 10, ρ 11, ρ 12, ρ 13, ρ 14, ρ 15] (γ 0) 0 1 (γ 9)
  refine Eq.symm ?_
  show fn37 [ρ 0] (γ 0) = _
  unfold fn37
  refine zLV (ρ 0) rfl (zLE m1 (zLE m5 (zLE m6 (zLE m14 (zLE (show fn7 [] (γ 0) = (0, 0, γ 1) from l0.symm) (zLV (γ 1) rfl (zLE m15 ?_)))))))
  refine zLE (show fn33 [] (γ 1) = (0, ρ 7 + 8 * ρ 6, γ 2) from l1.symm) (zLV (γ 2) rfl (zLE c3.symm (zLE (show fn6 [ρ 16] (γ 3) = (0, ρ 17, γ 4) from l2.symm) (zLV (γ 4) rfl (zIP w_0 (zLV (ρ 17) rfl (zIP w_1 ?_)))))))
  refine zLE (show fn9 [ρ 17] (γ 4) = (0, 1, γ 5) from l4.symm) (zLV (γ 5) rfl (zIP zQ1_ (zLE (show fn12 [] (γ 5) = (0, 1, γ 6) from l5.symm) (zLV (γ 6) rfl (zIP zQ1_ (zLE (show fn7 [] (γ 6) = (0, 0, γ 7) from l6.symm) (zLV (γ 7) rfl ?_)))))))
  refine zLE m20 (zLE (show fn6 [ρ 20] (γ 7) = (0, ρ 21, γ 8) from l7.symm) (zLV (γ 8) rfl (zIP w_2 (zLV (ρ 21) rfl (zIN w_3 (zLE (show fn36 [0, ρ 0] (γ 8) = (0, 1, γ 9) from l8.symm) (zLV (γ 9) rfl ?_)))))))
  refine zIP zQ1_ ?_
  rfl
theorem vn37_23 {S : Nat → zSpc} (hS6 : zIm S 6 sn6) (hS7 : zIm S 7 sn7) (hS8 : zIm S 8 sn8) (hS9 : zIm S 9 sn9) (hS12 : zIm S 12 sn12) (hS13 : zIm S 13 sn13) (hS15 : zIm S 15 sn15) (hS18 : zIm S 18 sn18) (hS20 : zIm S 20 sn20) (hS23 : zIm S 23 sn23) (hS33 : zIm S 33 sn33) (hS34 : zIm S 34 sn34) (hS35 : zIm S 35 sn35) (hS36 : zIm S 36 sn36) {a : List Int} {g : rHp} : ∀ (ρ : Nat → Int) (γ : Nat → rHp), zO 16 S a g q37_23 ρ γ → zGl (fun _ _ _ => True) (sn37 a g) q37_23 ρ γ := by
  intro ρ γ h
  obtain ⟨ha, hg, hr, hf, hm, hc, hl⟩ := h
  have ha : a = [ρ 0, ρ 1, ρ 2, ρ 3, ρ 4, ρ 5, ρ 6, ρ 7, ρ 8, ρ 9, ρ 10, ρ 11, ρ 12, ρ 13, ρ 14, ρ 15] := ha
  subst ha
  subst hg
  have r17 : (97 : Int) ≤ ρ 17 ∧ ρ 17 ≤ 122 := zRnA hr 17
  have f19 : (0 : Int) ≤ ρ 20 + -ρ 2 := zAllA hf 19
  have f22 : (0 : Int) ≤ -ρ 16 + ρ 2 + (-1) := zAllA hf 22
  obtain ⟨w_0, w_1, w_2⟩ : (0 ≤ -ρ 16 + ρ 2 + (-1)) ∧ (ρ 17 ≠ 33) ∧ (¬ (0 ≤ -ρ 20 + ρ 2 + (-1))) := ⟨by omega, by omega, by omega⟩
  have m1 : γ 0 15 0 34 = ρ 2 := zAllA hm 1
  have m5 : γ 0 15 0 44 = ρ 6 := zAllA hm 5
  have m6 : γ 0 73 0 (ρ 6) = ρ 7 := zAllA hm 6
  have m14 : γ 0 15 0 45 = ρ 15 := zAllA hm 14
  have m15 : γ 1 15 0 35 = ρ 16 := zAllA hm 15
  have m20 : γ 7 15 0 35 = ρ 20 := zAllA hm 20
  have c3 : γ 3 = rUp (γ 2) 79 0 (ρ 7 + 8 * ρ 6) (ρ 15) := And.right (zChA hc 12)
  have c10 : γ 10 = rUp (γ 9) 15 0 39 (ρ 21) := And.right (zChA hc 5)
  have c11 : γ 11 = rUp (γ 10) 15 0 40 0 := And.right (zChA hc 4)
  have c12 : γ 12 = rUp (γ 11) 80 0 (4 * ρ 7 + 32 * ρ 6) 0 := And.right (zChA hc 3)
  have c13 : γ 13 = rUp (γ 12) 81 0 (4 * ρ 7 + 32 * ρ 6) (ρ 21) := And.right (zChA hc 2)
  have l0 : sn7 [ρ 1, ρ 2] (γ 0) 0 0 (γ 1) := hS7 _ _ _ _ _ (zAllA hl 0)
  have l1 : sn33 [ρ 6, ρ 7] (γ 1) 0 (ρ 7 + 8 * ρ 6) (γ 2) := hS33 _ _ _ _ _ (zAllA hl 1)
  have l2 : sn6 [ρ 16, ρ 2] (γ 3) 0 (ρ 17) (γ 4) := hS6 _ _ _ _ _ (zAllA hl 2)
  have l3 : ρ 17 ≠ 33 := zAllA hl 3
  have l4 : sn9 [ρ 17] (γ 4) 0 1 (γ 5) := hS9 _ _ _ _ _ (zAllA hl 4)
  have l5 : sn12 [ρ 16, ρ 2, ρ 12, ρ 11, ρ 13] (γ 5) 0 1 (γ 6) := hS12 _ _ _ _ _ (zAllA hl 5)
  have l6 : sn7 [ρ 18, ρ 2] (γ 6) 0 0 (γ 7) := hS7 _ _ _ _ _ (zAllA hl 6)
  have l7 : sn6 [ρ 20, ρ 2] (γ 7) 0 (-1) (γ 8) := hS6 _ _ _ _ _ (zAllA hl 7)
  have l8 : sn15 [ρ 2, ρ 3, ρ 4, ρ 16, ρ 19] (γ 8) 0 (ρ 21) (γ 9) := hS15 _ _ _ _ _ (zAllA hl 8)
  have l9 : sn7 [ρ 20, ρ 2] (γ 13) 0 0 (γ 14) := hS7 _ _ _ _ _ (zAllA hl 9)
  have l10 : sn35 [ρ 16, ρ 24, ρ 2, ρ 22, ρ 23, ρ 6, ρ 7, ρ 8, ρ 21, ρ 11, ρ 16, ρ 19, 0, ρ 15] (γ 14) 0 0 (γ 15) := hS35 _ _ _ _ _ (zAllA hl 10)
  show sn37 [ρ 0, ρ 1, ρ 2, ρ 3, ρ 4, ρ 5, ρ 6, ρ 7, ρ 8, ρ 9, ρ 10, ρ 11, ρ 12, ρ 13, ρ 14, ρ 15] (γ 0) 0 0 (γ 15)
  refine Eq.symm ?_
  show fn37 [ρ 0] (γ 0) = _
  unfold fn37
  refine zLV (ρ 0) rfl (zLE m1 (zLE m5 (zLE m6 (zLE m14 (zLE (show fn7 [] (γ 0) = (0, 0, γ 1) from l0.symm) (zLV (γ 1) rfl (zLE m15 ?_)))))))
  refine zLE (show fn33 [] (γ 1) = (0, ρ 7 + 8 * ρ 6, γ 2) from l1.symm) (zLV (γ 2) rfl (zLE c3.symm (zLE (show fn6 [ρ 16] (γ 3) = (0, ρ 17, γ 4) from l2.symm) (zLV (γ 4) rfl (zIP w_0 (zLV (ρ 17) rfl (zIP w_1 ?_)))))))
  refine zLE (show fn9 [ρ 17] (γ 4) = (0, 1, γ 5) from l4.symm) (zLV (γ 5) rfl (zIP zQ1_ (zLE (show fn12 [] (γ 5) = (0, 1, γ 6) from l5.symm) (zLV (γ 6) rfl (zIP zQ1_ (zLE (show fn7 [] (γ 6) = (0, 0, γ 7) from l6.symm) (zLV (γ 7) rfl ?_)))))))
  refine zLE m20 (zLE (show fn6 [ρ 20] (γ 7) = (0, (-1), γ 8) from l7.symm) (zLV (γ 8) rfl (zIN w_2 (zLE (show fn15 [] (γ 8) = (0, ρ 21, γ 9) from l8.symm) (zLV (γ 9) rfl (zLV (ρ 21) rfl (zLE c10.symm ?_)))))))
  refine zLE c11.symm (zLE c12.symm (zLE c13.symm (zLE (show fn7 [] (γ 13) = (0, 0, γ 14) from l9.symm) (zLV (γ 14) rfl (zLE (show fn35 [ρ 16] (γ 14) = (0, 0, γ 15) from l10.symm) (zLV (γ 15) rfl ?_))))))
  rfl
theorem vn37_24 {S : Nat → zSpc} (hS6 : zIm S 6 sn6) (hS7 : zIm S 7 sn7) (hS8 : zIm S 8 sn8) (hS9 : zIm S 9 sn9) (hS12 : zIm S 12 sn12) (hS13 : zIm S 13 sn13) (hS15 : zIm S 15 sn15) (hS18 : zIm S 18 sn18) (hS20 : zIm S 20 sn20) (hS23 : zIm S 23 sn23) (hS33 : zIm S 33 sn33) (hS34 : zIm S 34 sn34) (hS35 : zIm S 35 sn35) (hS36 : zIm S 36 sn36) {a : List Int} {g : rHp} : ∀ (ρ : Nat → Int) (γ : Nat → rHp), zO 16 S a g q37_24 ρ γ → zGl (fun _ _ _ => True) (sn37 a g) q37_24 ρ γ := by
  intro ρ γ h
  obtain ⟨ha, hg, hr, hf, hm, hc, hl⟩ := h
  have ha : a = [ρ 0, ρ 1, ρ 2, ρ 3, ρ 4, ρ 5, ρ 6, ρ 7, ρ 8, ρ 9, ρ 10, ρ 11, ρ 12, ρ 13, ρ 14, ρ 15] := ha
  subst ha
  subst hg
  have r17 : (33 : Int) ≤ ρ 17 ∧ ρ 17 ≤ 33 := zRnA hr 17
  have f0 : (0 : Int) ≤ -ρ 16 + ρ 2 + (-1) := zAllA hf 0
  obtain ⟨w_0, w_1⟩ : (0 ≤ -ρ 16 + ρ 2 + (-1)) ∧ (¬ (ρ 17 ≠ 33)) := ⟨by omega, by omega⟩
  have m1 : γ 0 15 0 34 = ρ 2 := zAllA hm 1
  have m5 : γ 0 15 0 44 = ρ 6 := zAllA hm 5
  have m6 : γ 0 73 0 (ρ 6) = ρ 7 := zAllA hm 6
  have m14 : γ 0 15 0 45 = ρ 15 := zAllA hm 14
  have m15 : γ 1 15 0 35 = ρ 16 := zAllA hm 15
  have c3 : γ 3 = rUp (γ 2) 79 0 (ρ 7 + 8 * ρ 6) (ρ 15) := And.right (zChA hc 3)
  have c5 : γ 5 = rUp (γ 4) 15 0 35 (ρ 16 + 1) := And.right (zChA hc 1)
  have l0 : sn7 [ρ 1, ρ 2] (γ 0) 0 0 (γ 1) := hS7 _ _ _ _ _ (zAllA hl 0)
  have l1 : sn33 [ρ 6, ρ 7] (γ 1) 0 (ρ 7 + 8 * ρ 6) (γ 2) := hS33 _ _ _ _ _ (zAllA hl 1)
  have l2 : sn6 [ρ 16, ρ 2] (γ 3) 0 (ρ 17) (γ 4) := hS6 _ _ _ _ _ (zAllA hl 2)
  have l3 : sn23 [ρ 16 + 1, ρ 2, ρ 11, ρ 12, ρ 13] (γ 5) 0 0 (γ 6) := hS23 _ _ _ _ _ (zAllA hl 3)
  show sn37 [ρ 0, ρ 1, ρ 2, ρ 3, ρ 4, ρ 5, ρ 6, ρ 7, ρ 8, ρ 9, ρ 10, ρ 11, ρ 12, ρ 13, ρ 14, ρ 15] (γ 0) 0 0 (γ 6)
  refine Eq.symm ?_
  show fn37 [ρ 0] (γ 0) = _
  unfold fn37
  refine zLV (ρ 0) rfl (zLE m1 (zLE m5 (zLE m6 (zLE m14 (zLE (show fn7 [] (γ 0) = (0, 0, γ 1) from l0.symm) (zLV (γ 1) rfl (zLE m15 ?_)))))))
  refine zLE (show fn33 [] (γ 1) = (0, ρ 7 + 8 * ρ 6, γ 2) from l1.symm) (zLV (γ 2) rfl (zLE c3.symm (zLE (show fn6 [ρ 16] (γ 3) = (0, ρ 17, γ 4) from l2.symm) (zLV (γ 4) rfl (zIP w_0 (zLV (ρ 17) rfl (zIN w_1 ?_)))))))
  refine zLE c5.symm (zLE (show fn23 [] (γ 5) = (0, 0, γ 6) from l3.symm) (zLV (γ 6) rfl (zIN zQ0_ ?_)))
  rfl
theorem vn37_25 {S : Nat → zSpc} (hS6 : zIm S 6 sn6) (hS7 : zIm S 7 sn7) (hS8 : zIm S 8 sn8) (hS9 : zIm S 9 sn9) (hS12 : zIm S 12 sn12) (hS13 : zIm S 13 sn13) (hS15 : zIm S 15 sn15) (hS18 : zIm S 18 sn18) (hS20 : zIm S 20 sn20) (hS23 : zIm S 23 sn23) (hS33 : zIm S 33 sn33) (hS34 : zIm S 34 sn34) (hS35 : zIm S 35 sn35) (hS36 : zIm S 36 sn36) {a : List Int} {g : rHp} : ∀ (ρ : Nat → Int) (γ : Nat → rHp), zO 16 S a g q37_25 ρ γ → zGl (fun _ _ _ => True) (sn37 a g) q37_25 ρ γ := by
  intro ρ γ h
  obtain ⟨ha, hg, hr, hf, hm, hc, hl⟩ := h
  have ha : a = [ρ 0, ρ 1, ρ 2, ρ 3, ρ 4, ρ 5, ρ 6, ρ 7, ρ 8, ρ 9, ρ 10, ρ 11, ρ 12, ρ 13, ρ 14, ρ 15] := ha
  subst ha
  subst hg
  have r17 : (33 : Int) ≤ ρ 17 ∧ ρ 17 ≤ 33 := zRnA hr 17
  have r22 : ((-128) : Int) ≤ ρ 22 ∧ ρ 22 ≤ 127 := zRnA hr 22
  have f2 : (0 : Int) ≤ -ρ 21 + ρ 2 + (-1) := zAllA hf 2
  have f6 : (0 : Int) ≤ -ρ 16 + ρ 2 + (-1) := zAllA hf 6
  obtain ⟨w_0, w_1, w_2⟩ : (0 ≤ -ρ 16 + ρ 2 + (-1)) ∧ (¬ (ρ 17 ≠ 33)) ∧ (0 ≤ -ρ 21 + ρ 2 + (-1)) := ⟨by omega, by omega, by omega⟩
  have m1 : γ 0 15 0 34 = ρ 2 := zAllA hm 1
  have m5 : γ 0 15 0 44 = ρ 6 := zAllA hm 5
  have m6 : γ 0 73 0 (ρ 6) = ρ 7 := zAllA hm 6
  have m14 : γ 0 15 0 45 = ρ 15 := zAllA hm 14
  have m15 : γ 1 15 0 35 = ρ 16 := zAllA hm 15
  have m20 : γ 7 15 0 35 = ρ 21 := zAllA hm 20
  have c3 : γ 3 = rUp (γ 2) 79 0 (ρ 7 + 8 * ρ 6) (ρ 15) := And.right (zChA hc 6)
  have c5 : γ 5 = rUp (γ 4) 15 0 35 (ρ 16 + 1) := And.right (zChA hc 4)
  have l0 : sn7 [ρ 1, ρ 2] (γ 0) 0 0 (γ 1) := hS7 _ _ _ _ _ (zAllA hl 0)
  have l1 : sn33 [ρ 6, ρ 7] (γ 1) 0 (ρ 7 + 8 * ρ 6) (γ 2) := hS33 _ _ _ _ _ (zAllA hl 1)
  have l2 : sn6 [ρ 16, ρ 2] (γ 3) 0 (ρ 17) (γ 4) := hS6 _ _ _ _ _ (zAllA hl 2)
  have l3 : sn23 [ρ 16 + 1, ρ 2, ρ 11, ρ 12, ρ 13] (γ 5) 0 1 (γ 6) := hS23 _ _ _ _ _ (zAllA hl 3)
  have l4 : sn7 [ρ 18, ρ 2] (γ 6) 0 0 (γ 7) := hS7 _ _ _ _ _ (zAllA hl 4)
  have l5 : sn6 [ρ 21, ρ 2] (γ 7) 0 (ρ 22) (γ 8) := hS6 _ _ _ _ _ (zAllA hl 5)
  have l6 : ρ 22 ≠ 40 := zAllA hl 6
  have l7 : sn8 [ρ 21, ρ 2, ρ 11] (γ 8) 0 0 (γ 9) := hS8 _ _ _ _ _ (zAllA hl 7)
  have wl_0 : ρ 22 ≠ 40 := by omega
  show sn37 [ρ 0, ρ 1, ρ 2, ρ 3, ρ 4, ρ 5, ρ 6, ρ 7, ρ 8, ρ 9, ρ 10, ρ 11, ρ 12, ρ 13, ρ 14, ρ 15] (γ 0) 0 0 (γ 9)
  refine Eq.symm ?_
  show fn37 [ρ 0] (γ 0) = _
  unfold fn37
  refine zLV (ρ 0) rfl (zLE m1 (zLE m5 (zLE m6 (zLE m14 (zLE (show fn7 [] (γ 0) = (0, 0, γ 1) from l0.symm) (zLV (γ 1) rfl (zLE m15 ?_)))))))
  refine zLE (show fn33 [] (γ 1) = (0, ρ 7 + 8 * ρ 6, γ 2) from l1.symm) (zLV (γ 2) rfl (zLE c3.symm (zLE (show fn6 [ρ 16] (γ 3) = (0, ρ 17, γ 4) from l2.symm) (zLV (γ 4) rfl (zIP w_0 (zLV (ρ 17) rfl (zIN w_1 ?_)))))))
  refine zLE c5.symm (zLE (show fn23 [] (γ 5) = (0, 1, γ 6) from l3.symm) (zLV (γ 6) rfl (zIP zQ1_ (zLE (show fn7 [] (γ 6) = (0, 0, γ 7) from l4.symm) (zLV (γ 7) rfl (zLE m20 (zLE (show fn6 [ρ 21] (γ 7) = (0, ρ 22, γ 8) from l5.symm) ?_)))))))
  refine zLV (γ 8) rfl (zIP w_2 (zLV (ρ 22) rfl (zIP wl_0 (zLE (show fn8 [ρ 21] (γ 8) = (0, 0, γ 9) from l7.symm) (zLV (γ 9) rfl ?_)))))
  rfl
theorem vn37_26 {S : Nat → zSpc} (hS6 : zIm S 6 sn6) (hS7 : zIm S 7 sn7) (hS8 : zIm S 8 sn8) (hS9 : zIm S 9 sn9) (hS12 : zIm S 12 sn12) (hS13 : zIm S 13 sn13) (hS15 : zIm S 15 sn15) (hS18 : zIm S 18 sn18) (hS20 : zIm S 20 sn20) (hS23 : zIm S 23 sn23) (hS33 : zIm S 33 sn33) (hS34 : zIm S 34 sn34) (hS35 : zIm S 35 sn35) (hS36 : zIm S 36 sn36) {a : List Int} {g : rHp} : ∀ (ρ : Nat → Int) (γ : Nat → rHp), zO 16 S a g q37_26 ρ γ → zGl (fun _ _ _ => True) (sn37 a g) q37_26 ρ γ := by
  intro ρ γ h
  obtain ⟨ha, hg, hr, hf, hm, hc, hl⟩ := h
  have ha : a = [ρ 0, ρ 1, ρ 2, ρ 3, ρ 4, ρ 5, ρ 6, ρ 7, ρ 8, ρ 9, ρ 10, ρ 11, ρ 12, ρ 13, ρ 14, ρ 15] := ha
  subst ha
  subst hg
  have r17 : (33 : Int) ≤ ρ 17 ∧ ρ 17 ≤ 33 := zRnA hr 17
  have r22 : (40 : Int) ≤ ρ 22 ∧ ρ 22 ≤ 40 := zRnA hr 22
  have f2 : (0 : Int) ≤ -ρ 21 + ρ 2 + (-1) := zAllA hf 2
  have f16 : (0 : Int) ≤ -ρ 16 + ρ 2 + (-1) := zAllA hf 16
  obtain ⟨w_0, w_1, w_2, w_3⟩ : (0 ≤ -ρ 16 + ρ 2 + (-1)) ∧ (¬ (ρ 17 ≠ 33)) ∧ (0 ≤ -ρ 21 + ρ 2 + (-1)) ∧ (¬ (ρ 22 ≠ 40)) := ⟨by omega, by omega, by omega, by omega⟩
  have m1 : γ 0 15 0 34 = ρ 2 := zAllA hm 1
  have m5 : γ 0 15 0 44 = ρ 6 := zAllA hm 5
  have m6 : γ 0 73 0 (ρ 6) = ρ 7 := zAllA hm 6
  have m14 : γ 0 15 0 45 = ρ 15 := zAllA hm 14
  have m15 : γ 1 15 0 35 = ρ 16 := zAllA hm 15
  have m20 : γ 7 15 0 35 = ρ 21 := zAllA hm 20
  have c3 : γ 3 = rUp (γ 2) 79 0 (ρ 7 + 8 * ρ 6) (ρ 15) := And.right (zChA hc 6)
  have c5 : γ 5 = rUp (γ 4) 15 0 35 (ρ 16 + 1) := And.right (zChA hc 4)
  have l0 : sn7 [ρ 1, ρ 2] (γ 0) 0 0 (γ 1) := hS7 _ _ _ _ _ (zAllA hl 0)
  have l1 : sn33 [ρ 6, ρ 7] (γ 1) 0 (ρ 7 + 8 * ρ 6) (γ 2) := hS33 _ _ _ _ _ (zAllA hl 1)
  have l2 : sn6 [ρ 16, ρ 2] (γ 3) 0 (ρ 17) (γ 4) := hS6 _ _ _ _ _ (zAllA hl 2)
  have l3 : sn23 [ρ 16 + 1, ρ 2, ρ 11, ρ 12, ρ 13] (γ 5) 0 1 (γ 6) := hS23 _ _ _ _ _ (zAllA hl 3)
  have l4 : sn7 [ρ 18, ρ 2] (γ 6) 0 0 (γ 7) := hS7 _ _ _ _ _ (zAllA hl 4)
  have l5 : sn6 [ρ 21, ρ 2] (γ 7) 0 (ρ 22) (γ 8) := hS6 _ _ _ _ _ (zAllA hl 5)
  have l6 : sn36 [1, ρ 0, ρ 21, ρ 2, ρ 3, ρ 4, ρ 5, ρ 19, ρ 20, ρ 6, ρ 7, ρ 8, ρ 9, ρ 10, ρ 11, ρ 14, ρ 15] (γ 8) 0 0 (γ 9) := hS36 _ _ _ _ _ (zAllA hl 6)
  show sn37 [ρ 0, ρ 1, ρ 2, ρ 3, ρ 4, ρ 5, ρ 6, ρ 7, ρ 8, ρ 9, ρ 10, ρ 11, ρ 12, ρ 13, ρ 14, ρ 15] (γ 0) 0 0 (γ 9)
  refine Eq.symm ?_
  show fn37 [ρ 0] (γ 0) = _
  unfold fn37
  refine zLV (ρ 0) rfl (zLE m1 (zLE m5 (zLE m6 (zLE m14 (zLE (show fn7 [] (γ 0) = (0, 0, γ 1) from l0.symm) (zLV (γ 1) rfl (zLE m15 ?_)))))))
  refine zLE (show fn33 [] (γ 1) = (0, ρ 7 + 8 * ρ 6, γ 2) from l1.symm) (zLV (γ 2) rfl (zLE c3.symm (zLE (show fn6 [ρ 16] (γ 3) = (0, ρ 17, γ 4) from l2.symm) (zLV (γ 4) rfl (zIP w_0 (zLV (ρ 17) rfl (zIN w_1 ?_)))))))
  refine zLE c5.symm (zLE (show fn23 [] (γ 5) = (0, 1, γ 6) from l3.symm) (zLV (γ 6) rfl (zIP zQ1_ (zLE (show fn7 [] (γ 6) = (0, 0, γ 7) from l4.symm) (zLV (γ 7) rfl (zLE m20 (zLE (show fn6 [ρ 21] (γ 7) = (0, ρ 22, γ 8) from l5.symm) ?_)))))))
  refine zLV (γ 8) rfl (zIP w_2 (zLV (ρ 22) rfl (zIN w_3 (zLE (show fn36 [1, ρ 0] (γ 8) = (0, 0, γ 9) from l6.symm) (zLV (γ 9) rfl (zIN zQ0_ ?_))))))
  rfl
theorem vn37_27 {S : Nat → zSpc} (hS6 : zIm S 6 sn6) (hS7 : zIm S 7 sn7) (hS8 : zIm S 8 sn8) (hS9 : zIm S 9 sn9) (hS12 : zIm S 12 sn12) (hS13 : zIm S 13 sn13) (hS15 : zIm S 15 sn15) (hS18 : zIm S 18 sn18) (hS20 : zIm S 20 sn20) (hS23 : zIm S 23 sn23) (hS33 : zIm S 33 sn33) (hS34 : zIm S 34 sn34) (hS35 : zIm S 35 sn35) (hS36 : zIm S 36 sn36) {a : List Int} {g : rHp} : ∀ (ρ : Nat → Int) (γ : Nat → rHp), zO 16 S a g q37_27 ρ γ → zGl (fun _ _ _ => True) (sn37 a g) q37_27 ρ γ := by
  intro ρ γ h
  obtain ⟨ha, hg, hr, hf, hm, hc, hl⟩ := h
  have ha : a = [ρ 0, ρ 1, ρ 2, ρ 3, ρ 4, ρ 5, ρ 6, ρ 7, ρ 8, ρ 9, ρ 10, ρ 11, ρ 12, ρ 13, ρ 14, ρ 15] := ha
  subst ha
  subst hg
  have r17 : (33 : Int) ≤ ρ 17 ∧ ρ 17 ≤ 33 := zRnA hr 17
  have r22 : (40 : Int) ≤ ρ 22 ∧ ρ 22 ≤ 40 := zRnA hr 22
  have f2 : (0 : Int) ≤ -ρ 21 + ρ 2 + (-1) := zAllA hf 2
  have f17 : (0 : Int) ≤ -ρ 16 + ρ 2 + (-1) := zAllA hf 17
  obtain ⟨w_0, w_1, w_2, w_3⟩ : (0 ≤ -ρ 16 + ρ 2 + (-1)) ∧ (¬ (ρ 17 ≠ 33)) ∧ (0 ≤ -ρ 21 + ρ 2 + (-1)) ∧ (¬ (ρ 22 ≠ 40)) := ⟨by omega, by omega, by omega, by omega⟩
  have m1 : γ 0 15 0 34 = ρ 2 := zAllA hm 1
  have m5 : γ 0 15 0 44 = ρ 6 := zAllA hm 5
  have m6 : γ 0 73 0 (ρ 6) = ρ 7 := zAllA hm 6
  have m14 : γ 0 15 0 45 = ρ 15 := zAllA hm 14
  have m15 : γ 1 15 0 35 = ρ 16 := zAllA hm 15
  have m20 : γ 7 15 0 35 = ρ 21 := zAllA hm 20
  have c3 : γ 3 = rUp (γ 2) 79 0 (ρ 7 + 8 * ρ 6) (ρ 15) := And.right (zChA hc 6)
  have c5 : γ 5 = rUp (γ 4) 15 0 35 (ρ 16 + 1) := And.right (zChA hc 4)
  have l0 : sn7 [ρ 1, ρ 2] (γ 0) 0 0 (γ 1) := hS7 _ _ _ _ _ (zAllA hl 0)
  have l1 : sn33 [ρ 6, ρ 7] (γ 1) 0 (ρ 7 + 8 * ρ 6) (γ 2) := hS33 _ _ _ _ _ (zAllA hl 1)
  have l2 : sn6 [ρ 16, ρ 2] (γ 3) 0 (ρ 17) (γ 4) := hS6 _ _ _ _ _ (zAllA hl 2)
  have l3 : sn23 [ρ 16 + 1, ρ 2, ρ 11, ρ 12, ρ 13] (γ 5) 0 1 (γ 6) := hS23 _ _ _ _ _ (zAllA hl 3)
  have l4 : sn7 [ρ 18, ρ 2] (γ 6) 0 0 (γ 7) := hS7 _ _ _ _ _ (zAllA hl 4)
  have l5 : sn6 [ρ 21, ρ 2] (γ 7) 0 (ρ 22) (γ 8) := hS6 _ _ _ _ _ (zAllA hl 5)
  have l6 : sn36 [1, ρ 0, ρ 21, ρ 2, ρ 3, ρ 4, ρ 5, ρ 19, ρ 20, ρ 6, ρ 7, ρ 8, ρ 9, ρ 10, ρ 11, ρ 14, ρ 15] (γ 8) 0 1 (γ 9) := hS36 _ _ _ _ _ (zAllA hl 6)
  show sn37 [ρ 0, ρ 1, ρ 2, ρ 3, ρ 4, ρ 5, ρ 6, ρ 7, ρ 8, ρ 9, ρ 10, ρ 11, ρ 12, ρ 13, ρ 14, ρ 15] (γ 0) 0 1 (γ 9)
  refine Eq.symm ?_
  show fn37 [ρ 0] (γ 0) = _
  unfold fn37
  refine zLV (ρ 0) rfl (zLE m1 (zLE m5 (zLE m6 (zLE m14 (zLE (show fn7 [] (γ 0) = (0, 0, γ 1) from l0.symm) (zLV (γ 1) rfl (zLE m15 ?_)))))))
  refine zLE (show fn33 [] (γ 1) = (0, ρ 7 + 8 * ρ 6, γ 2) from l1.symm) (zLV (γ 2) rfl (zLE c3.symm (zLE (show fn6 [ρ 16] (γ 3) = (0, ρ 17, γ 4) from l2.symm) (zLV (γ 4) rfl (zIP w_0 (zLV (ρ 17) rfl (zIN w_1 ?_)))))))
  refine zLE c5.symm (zLE (show fn23 [] (γ 5) = (0, 1, γ 6) from l3.symm) (zLV (γ 6) rfl (zIP zQ1_ (zLE (show fn7 [] (γ 6) = (0, 0, γ 7) from l4.symm) (zLV (γ 7) rfl (zLE m20 (zLE (show fn6 [ρ 21] (γ 7) = (0, ρ 22, γ 8) from l5.symm) ?_)))))))
  refine zLV (γ 8) rfl (zIP w_2 (zLV (ρ 22) rfl (zIN w_3 (zLE (show fn36 [1, ρ 0] (γ 8) = (0, 1, γ 9) from l6.symm) (zLV (γ 9) rfl (zIP zQ1_ ?_))))))
  rfl
theorem vn37_28 {S : Nat → zSpc} (hS6 : zIm S 6 sn6) (hS7 : zIm S 7 sn7) (hS8 : zIm S 8 sn8) (hS9 : zIm S 9 sn9) (hS12 : zIm S 12 sn12) (hS13 : zIm S 13 sn13) (hS15 : zIm S 15 sn15) (hS18 : zIm S 18 sn18) (hS20 : zIm S 20 sn20) (hS23 : zIm S 23 sn23) (hS33 : zIm S 33 sn33) (hS34 : zIm S 34 sn34) (hS35 : zIm S 35 sn35) (hS36 : zIm S 36 sn36) {a : List Int} {g : rHp} : ∀ (ρ : Nat → Int) (γ : Nat → rHp), zO 16 S a g q37_28 ρ γ → zGl (fun _ _ _ => True) (sn37 a g) q37_28 ρ γ := by
  intro ρ γ h
  obtain ⟨ha, hg, hr, hf, hm, hc, hl⟩ := h
  have ha : a = [ρ 0, ρ 1, ρ 2, ρ 3, ρ 4, ρ 5, ρ 6, ρ 7, ρ 8, ρ 9, ρ 10, ρ 11, ρ 12, ρ 13, ρ 14, ρ 15] := ha
  subst ha
  subst hg
  have r17 : (33 : Int) ≤ ρ 17 ∧ ρ 17 ≤ 33 := zRnA hr 17
  have f2 : (0 : Int) ≤ ρ 21 + -ρ 2 := zAllA hf 2
  have f6 : (0 : Int) ≤ -ρ 16 + ρ 2 + (-1) := zAllA hf 6
  obtain ⟨w_0, w_1, w_2⟩ : (0 ≤ -ρ 16 + ρ 2 + (-1)) ∧ (¬ (ρ 17 ≠ 33)) ∧ (¬ (0 ≤ -ρ 21 + ρ 2 + (-1))) := ⟨by omega, by omega, by omega⟩
  have m1 : γ 0 15 0 34 = ρ 2 := zAllA hm 1
  have m5 : γ 0 15 0 44 = ρ 6 := zAllA hm 5
  have m6 : γ 0 73 0 (ρ 6) = ρ 7 := zAllA hm 6
  have m14 : γ 0 15 0 45 = ρ 15 := zAllA hm 14
  have m15 : γ 1 15 0 35 = ρ 16 := zAllA hm 15
  have m20 : γ 7 15 0 35 = ρ 21 := zAllA hm 20
  have c3 : γ 3 = rUp (γ 2) 79 0 (ρ 7 + 8 * ρ 6) (ρ 15) := And.right (zChA hc 6)
  have c5 : γ 5 = rUp (γ 4) 15 0 35 (ρ 16 + 1) := And.right (zChA hc 4)
  have l0 : sn7 [ρ 1, ρ 2] (γ 0) 0 0 (γ 1) := hS7 _ _ _ _ _ (zAllA hl 0)
  have l1 : sn33 [ρ 6, ρ 7] (γ 1) 0 (ρ 7 + 8 * ρ 6) (γ 2) := hS33 _ _ _ _ _ (zAllA hl 1)
  have l2 : sn6 [ρ 16, ρ 2] (γ 3) 0 (ρ 17) (γ 4) := hS6 _ _ _ _ _ (zAllA hl 2)
  have l3 : sn23 [ρ 16 + 1, ρ 2, ρ 11, ρ 12, ρ 13] (γ 5) 0 1 (γ 6) := hS23 _ _ _ _ _ (zAllA hl 3)
  have l4 : sn7 [ρ 18, ρ 2] (γ 6) 0 0 (γ 7) := hS7 _ _ _ _ _ (zAllA hl 4)
  have l5 : sn6 [ρ 21, ρ 2] (γ 7) 0 (-1) (γ 8) := hS6 _ _ _ _ _ (zAllA hl 5)
  have l6 : sn8 [ρ 21, ρ 2, ρ 11] (γ 8) 0 0 (γ 9) := hS8 _ _ _ _ _ (zAllA hl 6)
  show sn37 [ρ 0, ρ 1, ρ 2, ρ 3, ρ 4, ρ 5, ρ 6, ρ 7, ρ 8, ρ 9, ρ 10, ρ 11, ρ 12, ρ 13, ρ 14, ρ 15] (γ 0) 0 0 (γ 9)
  refine Eq.symm ?_
  show fn37 [ρ 0] (γ 0) = _
  unfold fn37
  refine zLV (ρ 0) rfl (zLE m1 (zLE m5 (zLE m6 (zLE m14 (zLE (show fn7 [] (γ 0) = (0, 0, γ 1) from l0.symm) (zLV (γ 1) rfl (zLE m15 ?_)))))))
  refine zLE (show fn33 [] (γ 1) = (0, ρ 7 + 8 * ρ 6, γ 2) from l1.symm) (zLV (γ 2) rfl (zLE c3.symm (zLE (show fn6 [ρ 16] (γ 3) = (0, ρ 17, γ 4) from l2.symm) (zLV (γ 4) rfl (zIP w_0 (zLV (ρ 17) rfl (zIN w_1 ?_)))))))
  refine zLE c5.symm (zLE (show fn23 [] (γ 5) = (0, 1, γ 6) from l3.symm) (zLV (γ 6) rfl (zIP zQ1_ (zLE (show fn7 [] (γ 6) = (0, 0, γ 7) from l4.symm) (zLV (γ 7) rfl (zLE m20 (zLE (show fn6 [ρ 21] (γ 7) = (0, (-1), γ 8) from l5.symm) ?_)))))))
  refine zLV (γ 8) rfl (zIN w_2 (zLE (show fn8 [ρ 21] (γ 8) = (0, 0, γ 9) from l6.symm) (zLV (γ 9) rfl ?_)))
  rfl
theorem vn37_29 {S : Nat → zSpc} (hS6 : zIm S 6 sn6) (hS7 : zIm S 7 sn7) (hS8 : zIm S 8 sn8) (hS9 : zIm S 9 sn9) (hS12 : zIm S 12 sn12) (hS13 : zIm S 13 sn13) (hS15 : zIm S 15 sn15) (hS18 : zIm S 18 sn18) (hS20 : zIm S 20 sn20) (hS23 : zIm S 23 sn23) (hS33 : zIm S 33 sn33) (hS34 : zIm S 34 sn34) (hS35 : zIm S 35 sn35) (hS36 : zIm S 36 sn36) {a : List Int} {g : rHp} : ∀ (ρ : Nat → Int) (γ : Nat → rHp), zO 16 S a g q37_29 ρ γ → zGl (fun _ _ _ => True) (sn37 a g) q37_29 ρ γ := by
  intro ρ γ h
  obtain ⟨ha, hg, hr, hf, hm, hc, hl⟩ := h
  have ha : a = [ρ 0, ρ 1, ρ 2, ρ 3, ρ 4, ρ 5, ρ 6, ρ 7, ρ 8, ρ 9, ρ 10, ρ 11, ρ 12, ρ 13, ρ 14, ρ 15] := ha
  subst ha
  subst hg
  have f6 : (0 : Int) ≤ ρ 16 + -ρ 2 := zAllA hf 6
  have w_0 : ¬ (0 ≤ -ρ 16 + ρ 2 + (-1)) := by omega
  have m1 : γ 0 15 0 34 = ρ 2 := zAllA hm 1
  have m5 : γ 0 15 0 44 = ρ 6 := zAllA hm 5
  have m6 : γ 0 73 0 (ρ 6) = ρ 7 := zAllA hm 6
  have m14 : γ 0 15 0 45 = ρ 15 := zAllA hm 14
  have m15 : γ 1 15 0 35 = ρ 16 := zAllA hm 15
  have c3 : γ 3 = rUp (γ 2) 79 0 (ρ 7 + 8 * ρ 6) (ρ 15) := And.right (zChA hc 3)
  have l0 : sn7 [ρ 1, ρ 2] (γ 0) 0 0 (γ 1) := hS7 _ _ _ _ _ (zAllA hl 0)
  have l1 : sn33 [ρ 6, ρ 7] (γ 1) 0 (ρ 7 + 8 * ρ 6) (γ 2) := hS33 _ _ _ _ _ (zAllA hl 1)
  have l2 : sn6 [ρ 16, ρ 2] (γ 3) 0 (-1) (γ 4) := hS6 _ _ _ _ _ (zAllA hl 2)
  have l3 : sn9 [(-1)] (γ 4) 0 0 (γ 5) := hS9 _ _ _ _ _ (zAllA hl 3)
  have l4 : sn20 [0, ρ 16, ρ 2, ρ 3, ρ 4, ρ 17, ρ 14, ρ 11, ρ 12, ρ 13, ρ 6] (γ 5) 0 0 (γ 6) := hS20 _ _ _ _ _ (zAllA hl 4)
  show sn37 [ρ 0, ρ 1, ρ 2, ρ 3, ρ 4, ρ 5, ρ 6, ρ 7, ρ 8, ρ 9, ρ 10, ρ 11, ρ 12, ρ 13, ρ 14, ρ 15] (γ 0) 0 0 (γ 6)
  refine Eq.symm ?_
  show fn37 [ρ 0] (γ 0) = _
  unfold fn37
  refine zLV (ρ 0) rfl (zLE m1 (zLE m5 (zLE m6 (zLE m14 (zLE (show fn7 [] (γ 0) = (0, 0, γ 1) from l0.symm) (zLV (γ 1) rfl (zLE m15 ?_)))))))
  refine zLE (show fn33 [] (γ 1) = (0, ρ 7 + 8 * ρ 6, γ 2) from l1.symm) (zLV (γ 2) rfl (zLE c3.symm (zLE (show fn6 [ρ 16] (γ 3) = (0, (-1), γ 4) from l2.symm) (zLV (γ 4) rfl (zIN w_0 (zLE (show fn9 [(-1)] (γ 4) = (0, 0, γ 5) from l3.symm) (zLV (γ 5) rfl ?_)))))))
  refine zLE (show fn20 [0] (γ 5) = (0, 0, γ 6) from l4.symm) (zLV (γ 6) rfl ?_)
  rfl
theorem yn37 {S : Nat → zSpc} (hS6 : zIm S 6 sn6) (hS7 : zIm S 7 sn7) (hS8 : zIm S 8 sn8) (hS9 : zIm S 9 sn9) (hS12 : zIm S 12 sn12) (hS13 : zIm S 13 sn13) (hS15 : zIm S 15 sn15) (hS18 : zIm S 18 sn18) (hS20 : zIm S 20 sn20) (hS23 : zIm S 23 sn23) (hS33 : zIm S 33 sn33) (hS34 : zIm S 34 sn34) (hS35 : zIm S 35 sn35) (hS36 : zIm S 36 sn36) : ∀ x g o v gz, zSem uW uT w37_.2.2.2.1 w37_.2.2.1.1.length S q37 (fun i => q37a.getD i []) (zNA a37_) x g o v gz → sn37 x g o v gz := by
  intro a g o v gz h
  exact zSem_all (l0 := q37) (las := q37a) (S := S) (J := (fun _ _ _ => True)) (P := sn37 a g) (fun _ => (show zAll _ [q37_0, q37_1, q37_2, q37_3, q37_4, q37_5, q37_6, q37_7, q37_8, q37_9, q37_10, q37_11, q37_12, q37_13, q37_14, q37_15, q37_16, q37_17, q37_18, q37_19, q37_20, q37_21, q37_22, q37_23, q37_24, q37_25, q37_26, q37_27, q37_28, q37_29] from (zAll_c (vn37_0 hS6 hS7 hS8 hS9 hS12 hS13 hS15 hS18 hS20 hS23 hS33 hS34 hS35 hS36) (zAll_c (vn37_1 hS6 hS7 hS8 hS9 hS12 hS13 hS15 hS18 hS20 hS23 hS33 hS34 hS35 hS36) (zAll_c (vn37_2 hS6 hS7 hS8 hS9 hS12 hS13 hS15 hS18 hS20 hS23 hS33 hS34 hS35 hS36) (zAll_c (vn37_3 hS6 hS7 hS8 hS9 hS12 hS13 hS15 hS18 hS20 hS23 hS33 hS34 hS35 hS36) (zAll_c (vn37_4 hS6 hS7 hS8 hS9 hS12 hS13 hS15 hS18 hS20 hS23 hS33 hS34 hS35 hS36) (zAll_c (vn37_5 hS6 hS7 hS8 hS9 hS12 hS13 hS15 hS18 hS20 hS23 hS33 hS34 hS35 hS36) (zAll_c (vn37_6 hS6 hS7 hS8 hS9 hS12 hS13 hS15 hS18 hS20 hS23 hS33 hS34 hS35 hS36) (zAll_c (vn37_7 hS6 hS7 hS8 hS9 hS12 hS13 hS15 hS18 hS20 hS23 hS33 hS34 hS35 hS36) (zAll_c (vn37_8 hS6 hS7 hS8 hS9 hS12 hS13 hS15 hS18 hS20 hS23 hS33 hS34 hS35 hS36) (zAll_c (vn37_9 hS6 hS7 hS8 hS9 hS12 hS13 hS15 hS18 hS20 hS23 hS33 hS34 hS35 hS36) (zAll_c (vn37_10 hS6 hS7 hS8 hS9 hS12 hS13 hS15 hS18 hS20 hS23 hS33 hS34 hS35 hS36) (zAll_c (vn37_11 hS6 hS7 hS8 hS9 hS12 hS13 hS15 hS18 hS20 hS23 hS33 hS34 hS35 hS36) (zAll_c (vn37_12 hS6 hS7 hS8 hS9 hS12 hS13 hS15 hS18 hS20 hS23 hS33 hS34 hS35 hS36) (zAll_c (vn37_13 hS6 hS7 hS8 hS9 hS12 hS13 hS15 hS18 hS20 hS23 hS33 hS34 hS35 hS36) (zAll_c (vn37_14 hS6 hS7 hS8 hS9 hS12 hS13 hS15 hS18 hS20 hS23 hS33 hS34 hS35 hS36) (zAll_c (vn37_15 hS6 hS7 hS8 hS9 hS12 hS13 hS15 hS18 hS20 hS23 hS33 hS34 hS35 hS36) (zAll_c (vn37_16 hS6 hS7 hS8 hS9 hS12 hS13 hS15 hS18 hS20 hS23 hS33 hS34 hS35 hS36) (zAll_c (vn37_17 hS6 hS7 hS8 hS9 hS12 hS13 hS15 hS18 hS20 hS23 hS33 hS34 hS35 hS36) (zAll_c (vn37_18 hS6 hS7 hS8 hS9 hS12 hS13 hS15 hS18 hS20 hS23 hS33 hS34 hS35 hS36) (zAll_c (vn37_19 hS6 hS7 hS8 hS9 hS12 hS13 hS15 hS18 hS20 hS23 hS33 hS34 hS35 hS36) (zAll_c (vn37_20 hS6 hS7 hS8 hS9 hS12 hS13 hS15 hS18 hS20 hS23 hS33 hS34 hS35 hS36) (zAll_c (vn37_21 hS6 hS7 hS8 hS9 hS12 hS13 hS15 hS18 hS20 hS23 hS33 hS34 hS35 hS36) (zAll_c (vn37_22 hS6 hS7 hS8 hS9 hS12 hS13 hS15 hS18 hS20 hS23 hS33 hS34 hS35 hS36) (zAll_c (vn37_23 hS6 hS7 hS8 hS9 hS12 hS13 hS15 hS18 hS20 hS23 hS33 hS34 hS35 hS36) (zAll_c (vn37_24 hS6 hS7 hS8 hS9 hS12 hS13 hS15 hS18 hS20 hS23 hS33 hS34 hS35 hS36) (zAll_c (vn37_25 hS6 hS7 hS8 hS9 hS12 hS13 hS15 hS18 hS20 hS23 hS33 hS34 hS35 hS36) (zAll_c (vn37_26 hS6 hS7 hS8 hS9 hS12 hS13 hS15 hS18 hS20 hS23 hS33 hS34 hS35 hS36) (zAll_c (vn37_27 hS6 hS7 hS8 hS9 hS12 hS13 hS15 hS18 hS20 hS23 hS33 hS34 hS35 hS36) (zAll_c (vn37_28 hS6 hS7 hS8 hS9 hS12 hS13 hS15 hS18 hS20 hS23 hS33 hS34 hS35 hS36) (zAll_c (vn37_29 hS6 hS7 hS8 hS9 hS12 hS13 hS15 hS18 hS20 hS23 hS33 hS34 hS35 hS36) zAll_n)))))))))))))))))))))))))))))))) (fun _ => (show zAllI _ 0 [] from trivial)) h
