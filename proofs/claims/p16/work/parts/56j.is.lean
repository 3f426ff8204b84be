/-! ===== the runs are the functions ===== -/
theorem vn49_0 {S : Nat → zSpc} (hS6 : zIm S 6 sn6) (hS7 : zIm S 7 sn7) (hS8 : zIm S 8 sn8) (hS21 : zIm S 21 sn21) (hS25 : zIm S 25 sn25) (hS27 : zIm S 27 sn27) (hS28 : zIm S 28 sn28) (hS30 : zIm S 30 sn30) (hS31 : zIm S 31 sn31) (hS39 : zIm S 39 sn39) (hS43 : zIm S 43 sn43) (hS44 : zIm S 44 sn44) (hS45 : zIm S 45 sn45) (hS46 : zIm S 46 sn46) (hS47 : zIm S 47 sn47) {a : List Int} {g : rHp} : ∀ (ρ : Nat → Int) (γ : Nat → rHp), zO 23 S a g q49_0 ρ γ → zGl (fun i vs g1 => jn49 a g i vs g1) (sn49 a g) q49_0 ρ γ := by
  intro ρ γ h
  obtain ⟨ha, hg, hr, hf, hm, hc, hl⟩ := h
  have ha : a = [ρ 0, ρ 1, ρ 2, ρ 3, ρ 4, ρ 5, ρ 6, ρ 7, ρ 8, ρ 9, ρ 10, ρ 11, ρ 12, ρ 13, ρ 14, ρ 15, ρ 16, ρ 17, ρ 18, ρ 19, ρ 20, ρ 21, ρ 22] := ha
  subst ha
  subst hg
  have m4 : γ 0 15 0 32 = ρ 4 := zAllA hm 4
  have m5 : γ 0 15 0 33 = ρ 5 := zAllA hm 5
  have l0 : sn47 [ρ 5 + ρ 4, ρ 11, ρ 4, ρ 5, ρ 10, ρ 19, ρ 9] (γ 0) 0 0 (γ 1) := hS47 _ _ _ _ _ (zAllA hl 0)
  have l1 : sn27 [ρ 0, ρ 1, ρ 2, ρ 3, 0, ρ 12, ρ 13, ρ 15, ρ 16, ρ 17, ρ 18, ρ 5 + ρ 4, 0, ρ 20, ρ 21, ρ 22] (γ 1) 0 0 (γ 2) := hS27 _ _ _ _ _ (zAllA hl 1)
  show sn49 [ρ 0, ρ 1, ρ 2, ρ 3, ρ 4, ρ 5, ρ 6, ρ 7, ρ 8, ρ 9, ρ 10, ρ 11, ρ 12, ρ 13, ρ 14, ρ 15, ρ 16, ρ 17, ρ 18, ρ 19, ρ 20, ρ 21, ρ 22] (γ 0) 0 0 (γ 2)
  have hD : dn49 [] (γ 0) = .inr (0, 0, γ 2) := by
    unfold dn49
    refine zLE m4 (zLE m5 (zLE (show fn47 [ρ 5 + ρ 4] (γ 0) = (0, 0, γ 1) from l0.symm) (zLV (γ 1) rfl (zLE (show fn27 [] (γ 1) = (0, 0, γ 2) from l1.symm) (zLV (γ 2) rfl (zIN zQ0_ ?_))))))
    rfl
  exact zGoo_end hD
theorem vn49_1 {S : Nat → zSpc} (hS6 : zIm S 6 sn6) (hS7 : zIm S 7 sn7) (hS8 : zIm S 8 sn8) (hS21 : zIm S 21 sn21) (hS25 : zIm S 25 sn25) (hS27 : zIm S 27 sn27) (hS28 : zIm S 28 sn28) (hS30 : zIm S 30 sn30) (hS31 : zIm S 31 sn31) (hS39 : zIm S 39 sn39) (hS43 : zIm S 43 sn43) (hS44 : zIm S 44 sn44) (hS45 : zIm S 45 sn45) (hS46 : zIm S 46 sn46) (hS47 : zIm S 47 sn47) {a : List Int} {g : rHp} : ∀ (ρ : Nat → Int) (γ : Nat → rHp), zO 23 S a g q49_1 ρ γ → zGl (fun i vs g1 => jn49 a g i vs g1) (sn49 a g) q49_1 ρ γ := by
  intro ρ γ h
  obtain ⟨ha, hg, hr, hf, hm, hc, hl⟩ := h
  have ha : a = [ρ 0, ρ 1, ρ 2, ρ 3, ρ 4, ρ 5, ρ 6, ρ 7, ρ 8, ρ 9, ρ 10, ρ 11, ρ 12, ρ 13, ρ 14, ρ 15, ρ 16, ρ 17, ρ 18, ρ 19, ρ 20, ρ 21, ρ 22] := ha
  subst ha
  subst hg
  have m4 : γ 0 15 0 32 = ρ 4 := zAllA hm 4
  have m5 : γ 0 15 0 33 = ρ 5 := zAllA hm 5
  have l0 : sn47 [ρ 5 + ρ 4, ρ 11, ρ 4, ρ 5, ρ 10, ρ 19, ρ 9] (γ 0) 0 0 (γ 1) := hS47 _ _ _ _ _ (zAllA hl 0)
  have l1 : sn27 [ρ 0, ρ 1, ρ 2, ρ 3, 0, ρ 12, ρ 13, ρ 15, ρ 16, ρ 17, ρ 18, ρ 5 + ρ 4, 0, ρ 20, ρ 21, ρ 22] (γ 1) 0 1 (γ 2) := hS27 _ _ _ _ _ (zAllA hl 1)
  show jn49 [ρ 0, ρ 1, ρ 2, ρ 3, ρ 4, ρ 5, ρ 6, ρ 7, ρ 8, ρ 9, ρ 10, ρ 11, ρ 12, ρ 13, ρ 14, ρ 15, ρ 16, ρ 17, ρ 18, ρ 19, ρ 20, ρ 21, ρ 22] (γ 0) 0 [ρ 0, ρ 1, ρ 2, ρ 3, ρ 4, ρ 5, ρ 6, ρ 7, ρ 8, ρ 9, ρ 10, ρ 11, ρ 12, ρ 13, ρ 14, ρ 15, ρ 16, ρ 17, ρ 18, ρ 19, ρ 20, ρ 21, ρ 22, 0, ρ 23, ρ 24, ρ 25, ρ 26, ρ 5 + ρ 4, ρ 27, ρ 28, ρ 29, ρ 30, ρ 31, 0, ρ 32, ρ 33, ρ 34, 0] (γ 2)
  have hD : dn49 [] (γ 0) = .inl (0, [0], γ 2) := by
    unfold dn49
    refine zLE m4 (zLE m5 (zLE (show fn47 [ρ 5 + ρ 4] (γ 0) = (0, 0, γ 1) from l0.symm) (zLV (γ 1) rfl (zLE (show fn27 [] (γ 1) = (0, 1, γ 2) from l1.symm) (zLV (γ 2) rfl (zIP zQ1_ ?_))))))
    rfl
  exact zGoo_to hD
theorem vn49a0_0 {S : Nat → zSpc} (hS6 : zIm S 6 sn6) (hS7 : zIm S 7 sn7) (hS8 : zIm S 8 sn8) (hS21 : zIm S 21 sn21) (hS25 : zIm S 25 sn25) (hS27 : zIm S 27 sn27) (hS28 : zIm S 28 sn28) (hS30 : zIm S 30 sn30) (hS31 : zIm S 31 sn31) (hS39 : zIm S 39 sn39) (hS43 : zIm S 43 sn43) (hS44 : zIm S 44 sn44) (hS45 : zIm S 45 sn45) (hS46 : zIm S 46 sn46) (hS47 : zIm S 47 sn47) {a : List Int} {g : rHp} : ∀ (ρ : Nat → Int) (γ : Nat → rHp), jn49 a g 0 (zAg (zNA a49_ 0) ρ) (γ 1) → zO 23 S a g q49a0_0 ρ γ → zGl (fun i vs g1 => jn49 a g i vs g1) (sn49 a g) q49a0_0 ρ γ := by
  intro ρ γ hJ h
  obtain ⟨ha, hg, hr, hf, hm, hc, hl⟩ := h
  have ha : a = [ρ 0, ρ 1, ρ 2, ρ 3, ρ 4, ρ 5, ρ 6, ρ 7, ρ 8, ρ 9, ρ 10, ρ 11, ρ 12, ρ 13, ρ 14, ρ 15, ρ 16, ρ 17, ρ 18, ρ 19, ρ 20, ρ 21, ρ 22] := ha
  subst ha
  subst hg
  have hJ : jn49 [ρ 0, ρ 1, ρ 2, ρ 3, ρ 4, ρ 5, ρ 6, ρ 7, ρ 8, ρ 9, ρ 10, ρ 11, ρ 12, ρ 13, ρ 14, ρ 15, ρ 16, ρ 17, ρ 18, ρ 19, ρ 20, ρ 21, ρ 22] (γ 0) 0 [ρ 0, ρ 1, ρ 2, ρ 3, ρ 4, ρ 5, ρ 6, ρ 7, ρ 8, ρ 9, ρ 10, ρ 11, ρ 12, ρ 13, ρ 14, ρ 15, ρ 16, ρ 17, ρ 18, ρ 19, ρ 20, ρ 21, ρ 22, ρ 23, ρ 24, ρ 25, ρ 26, ρ 27, ρ 28, ρ 29, ρ 30, ρ 31, ρ 32, ρ 33, ρ 34, ρ 35, ρ 36, ρ 37, ρ 38] (γ 1) := hJ
  have r39 : (0 : Int) ≤ ρ 39 ∧ ρ 39 ≤ 19 := zRnA hr 39
  have r41 : ((-128) : Int) ≤ ρ 41 ∧ ρ 41 ≤ 127 := zRnA hr 41
  have r42 : (58 : Int) ≤ ρ 42 ∧ ρ 42 ≤ 58 := zRnA hr 42
  have r43 : (45 : Int) ≤ ρ 43 ∧ ρ 43 ≤ 45 := zRnA hr 43
  have f0 : (0 : Int) ≤ -ρ 5 + -ρ 4 + 59 := zAllA hf 0
  have f1 : (0 : Int) ≤ -ρ 40 + ρ 1 + (-2) := zAllA hf 1
  have f8 : (0 : Int) ≤ -ρ 37 + ρ 23 := zAllA hf 8
  obtain ⟨w_0, w_1, w_2, w_3, w_4, w_5, w_6⟩ : (ρ 23 ≥ ρ 37) ∧ (ρ 39 ≥ 0) ∧ (0 ≤ -ρ 40 + ρ 1 + (-1)) ∧ (ρ 42 = 58) ∧ (0 ≤ -ρ 40 + ρ 1 + (-2)) ∧ (ρ 43 = 45) ∧ (ρ 5 + ρ 4 ≠ 60) := ⟨by omega, by omega, by omega, by omega, by omega, by omega, by omega⟩
  have m1 : γ 0 15 0 34 = ρ 1 := zAllA hm 1
  have m4 : γ 0 15 0 32 = ρ 4 := zAllA hm 4
  have m5 : γ 0 15 0 33 = ρ 5 := zAllA hm 5
  have m6 : γ 0 15 0 17 = ρ 6 := zAllA hm 6
  have m7 : γ 0 15 0 18 = ρ 7 := zAllA hm 7
  have m8 : γ 0 15 0 14 = ρ 8 := zAllA hm 8
  have m27 : γ 1 15 0 44 = ρ 28 := zAllA hm 27
  have m28 : γ 1 15 0 49 = ρ 29 := zAllA hm 28
  have m29 : γ 1 15 0 50 = ρ 30 := zAllA hm 29
  have m35 : γ 1 15 0 46 = ρ 35 := zAllA hm 35
  have m36 : γ 1 15 0 47 = ρ 36 := zAllA hm 36
  have m37 : γ 1 15 0 48 = ρ 37 := zAllA hm 37
  have m39 : γ 3 15 0 35 = ρ 40 := zAllA hm 39
  have c7 : γ 7 = rUp (γ 6) 15 0 35 (ρ 40 + 2) := And.right (zChA hc 3)
  have c8 : γ 8 = rUp (γ 7) 69 0 (ρ 28) (ρ 39) := And.right (zChA hc 2)
  have c9 : γ 9 = rUp (γ 8) 71 0 (ρ 28) (ρ 29) := And.right (zChA hc 1)
  have c10 : γ 10 = rUp (γ 9) 72 0 (ρ 28) (ρ 30) := And.right (zChA hc 0)
  have l0 : sn21 [ρ 35, ρ 36, ρ 37, ρ 8] (γ 1) 0 (ρ 39) (γ 2) := hS21 _ _ _ _ _ (zAllA hl 0)
  have l1 : sn7 [ρ 24, ρ 1] (γ 2) 0 0 (γ 3) := hS7 _ _ _ _ _ (zAllA hl 1)
  have l2 : sn6 [ρ 40, ρ 1] (γ 3) 0 (ρ 41) (γ 4) := hS6 _ _ _ _ _ (zAllA hl 2)
  have l3 : ρ 41 ≠ 46 := zAllA hl 3
  have l4 : sn6 [ρ 40, ρ 1] (γ 4) 0 (ρ 42) (γ 5) := hS6 _ _ _ _ _ (zAllA hl 4)
  have l5 : sn6 [ρ 40 + 1, ρ 1] (γ 5) 0 (ρ 43) (γ 6) := hS6 _ _ _ _ _ (zAllA hl 5)
  have wl_0 : ρ 41 ≠ 46 := by omega
  show jn49 [ρ 0, ρ 1, ρ 2, ρ 3, ρ 4, ρ 5, ρ 6, ρ 7, ρ 8, ρ 9, ρ 10, ρ 11, ρ 12, ρ 13, ρ 14, ρ 15, ρ 16, ρ 17, ρ 18, ρ 19, ρ 20, ρ 21, ρ 22] (γ 0) 1 [ρ 0, ρ 1, ρ 2, ρ 3, ρ 4, ρ 5, ρ 6, ρ 7, ρ 8, ρ 9, ρ 10, ρ 11, ρ 12, ρ 13, ρ 14, ρ 15, ρ 16, ρ 17, ρ 18, ρ 19, ρ 20, ρ 21, ρ 22, 0, ρ 35, ρ 39, ρ 40 + 2, ρ 25, ρ 26, ρ 8, ρ 27, ρ 28, ρ 29, ρ 30, ρ 31, ρ 32, ρ 33, ρ 34, ρ 35, ρ 36, ρ 37, ρ 38, ρ 39] (γ 10)
  have hD : en49 (γ 0) (0, [ρ 23], γ 1) = .inl (1, [0, ρ 35, ρ 39], γ 10) := by
    unfold en49
    refine zIP (show (0 : Nat) = 0 by decide) (zLV (γ 1) rfl (zLV (ρ 23) rfl (zLE m1 (zLE m4 (zLE m5 (zLE m6 (zLE m7 ?_)))))))
    refine zLE m8 (zLE m27 (zLE m28 (zLE m29 (zLE m35 (zLE m36 (zLE m37 (zIP w_0 ?_)))))))
    refine zLE (show fn21 [ρ 35, ρ 36, ρ 37] (γ 1) = (0, ρ 39, γ 2) from l0.symm) (zLV (γ 2) rfl (zLV (ρ 39) rfl (zIP w_1 (zLE (show fn7 [] (γ 2) = (0, 0, γ 3) from l1.symm) (zLV (γ 3) rfl (zLE m39 (zLE (show fn6 [ρ 40] (γ 3) = (0, ρ 41, γ 4) from l2.symm) ?_)))))))
    refine zLV (γ 4) rfl (zIP w_2 (zLV (ρ 41) rfl (zIP wl_0 (zLE (show fn6 [ρ 40] (γ 4) = (0, ρ 42, γ 5) from l4.symm) (zLV (γ 5) rfl (zLV (ρ 42) rfl (zIP w_3 ?_)))))))
    refine zLE (show fn6 [ρ 40 + 1] (γ 5) = (0, ρ 43, γ 6) from l5.symm) (zLV (γ 6) rfl (zIP w_4 (zLV (ρ 43) rfl (zIP w_5 (zLE c7.symm (zIP w_6 (zLE c8.symm ?_)))))))
    refine zLE c9.symm (zLE c10.symm ?_)
    rfl
  exact zGoo_ato hJ hD
theorem vn49a0_1 {S : Nat → zSpc} (hS6 : zIm S 6 sn6) (hS7 : zIm S 7 sn7) (hS8 : zIm S 8 sn8) (hS21 : zIm S 21 sn21) (hS25 : zIm S 25 sn25) (hS27 : zIm S 27 sn27) (hS28 : zIm S 28 sn28) (hS30 : zIm S 30 sn30) (hS31 : zIm S 31 sn31) (hS39 : zIm S 39 sn39) (hS43 : zIm S 43 sn43) (hS44 : zIm S 44 sn44) (hS45 : zIm S 45 sn45) (hS46 : zIm S 46 sn46) (hS47 : zIm S 47 sn47) {a : List Int} {g : rHp} : ∀ (ρ : Nat → Int) (γ : Nat → rHp), jn49 a g 0 (zAg (zNA a49_ 0) ρ) (γ 1) → zO 23 S a g q49a0_1 ρ γ → zGl (fun i vs g1 => jn49 a g i vs g1) (sn49 a g) q49a0_1 ρ γ := by
  intro ρ γ hJ h
  obtain ⟨ha, hg, hr, hf, hm, hc, hl⟩ := h
  have ha : a = [ρ 0, ρ 1, ρ 2, ρ 3, ρ 4, ρ 5, ρ 6, ρ 7, ρ 8, ρ 9, ρ 10, ρ 11, ρ 12, ρ 13, ρ 14, ρ 15, ρ 16, ρ 17, ρ 18, ρ 19, ρ 20, ρ 21, ρ 22] := ha
  subst ha
  subst hg
  have hJ : jn49 [ρ 0, ρ 1, ρ 2, ρ 3, ρ 4, ρ 5, ρ 6, ρ 7, ρ 8, ρ 9, ρ 10, ρ 11, ρ 12, ρ 13, ρ 14, ρ 15, ρ 16, ρ 17, ρ 18, ρ 19, ρ 20, ρ 21, ρ 22] (γ 0) 0 [ρ 0, ρ 1, ρ 2, ρ 3, ρ 4, ρ 5, ρ 6, ρ 7, ρ 8, ρ 9, ρ 10, ρ 11, ρ 12, ρ 13, ρ 14, ρ 15, ρ 16, ρ 17, ρ 18, ρ 19, ρ 20, ρ 21, ρ 22, ρ 23, ρ 24, ρ 25, ρ 26, ρ 27, ρ 28, ρ 29, ρ 30, ρ 31, ρ 32, ρ 33, ρ 34, ρ 35, ρ 36, ρ 37, ρ 38] (γ 1) := hJ
  have r39 : (0 : Int) ≤ ρ 39 ∧ ρ 39 ≤ 19 := zRnA hr 39
  have r41 : ((-128) : Int) ≤ ρ 41 ∧ ρ 41 ≤ 127 := zRnA hr 41
  have r42 : (58 : Int) ≤ ρ 42 ∧ ρ 42 ≤ 58 := zRnA hr 42
  have r43 : (45 : Int) ≤ ρ 43 ∧ ρ 43 ≤ 45 := zRnA hr 43
  have f2 : (0 : Int) ≤ -ρ 5 + -ρ 4 + 60 := zAllA hf 2
  have f3 : (0 : Int) ≤ ρ 5 + ρ 4 + (-60) := zAllA hf 3
  have f4 : (0 : Int) ≤ -ρ 40 + ρ 1 + (-2) := zAllA hf 4
  have f11 : (0 : Int) ≤ -ρ 37 + ρ 23 := zAllA hf 11
  obtain ⟨w_0, w_1, w_2, w_3, w_4, w_5, w_6⟩ : (ρ 23 ≥ ρ 37) ∧ (ρ 39 ≥ 0) ∧ (0 ≤ -ρ 40 + ρ 1 + (-1)) ∧ (ρ 42 = 58) ∧ (0 ≤ -ρ 40 + ρ 1 + (-2)) ∧ (ρ 43 = 45) ∧ (¬ (ρ 5 + ρ 4 ≠ 60)) := ⟨by omega, by omega, by omega, by omega, by omega, by omega, by omega⟩
  have m1 : γ 0 15 0 34 = ρ 1 := zAllA hm 1
  have m4 : γ 0 15 0 32 = ρ 4 := zAllA hm 4
  have m5 : γ 0 15 0 33 = ρ 5 := zAllA hm 5
  have m6 : γ 0 15 0 17 = ρ 6 := zAllA hm 6
  have m7 : γ 0 15 0 18 = ρ 7 := zAllA hm 7
  have m8 : γ 0 15 0 14 = ρ 8 := zAllA hm 8
  have m27 : γ 1 15 0 44 = ρ 28 := zAllA hm 27
  have m28 : γ 1 15 0 49 = ρ 29 := zAllA hm 28
  have m29 : γ 1 15 0 50 = ρ 30 := zAllA hm 29
  have m35 : γ 1 15 0 46 = ρ 35 := zAllA hm 35
  have m36 : γ 1 15 0 47 = ρ 36 := zAllA hm 36
  have m37 : γ 1 15 0 48 = ρ 37 := zAllA hm 37
  have m39 : γ 3 15 0 35 = ρ 40 := zAllA hm 39
  have c7 : γ 7 = rUp (γ 6) 15 0 35 (ρ 40 + 2) := And.right (zChA hc 1)
  have l0 : sn21 [ρ 35, ρ 36, ρ 37, ρ 8] (γ 1) 0 (ρ 39) (γ 2) := hS21 _ _ _ _ _ (zAllA hl 0)
  have l1 : sn7 [ρ 24, ρ 1] (γ 2) 0 0 (γ 3) := hS7 _ _ _ _ _ (zAllA hl 1)
  have l2 : sn6 [ρ 40, ρ 1] (γ 3) 0 (ρ 41) (γ 4) := hS6 _ _ _ _ _ (zAllA hl 2)
  have l3 : ρ 41 ≠ 46 := zAllA hl 3
  have l4 : sn6 [ρ 40, ρ 1] (γ 4) 0 (ρ 42) (γ 5) := hS6 _ _ _ _ _ (zAllA hl 4)
  have l5 : sn6 [ρ 40 + 1, ρ 1] (γ 5) 0 (ρ 43) (γ 6) := hS6 _ _ _ _ _ (zAllA hl 5)
  have l6 : sn8 [ρ 35, ρ 1, ρ 15] (γ 7) 0 0 (γ 8) := hS8 _ _ _ _ _ (zAllA hl 6)
  have wl_0 : ρ 41 ≠ 46 := by omega
  show sn49 [ρ 0, ρ 1, ρ 2, ρ 3, ρ 4, ρ 5, ρ 6, ρ 7, ρ 8, ρ 9, ρ 10, ρ 11, ρ 12, ρ 13, ρ 14, ρ 15, ρ 16, ρ 17, ρ 18, ρ 19, ρ 20, ρ 21, ρ 22] (γ 0) 0 0 (γ 8)
  have hD : en49 (γ 0) (0, [ρ 23], γ 1) = .inr (0, 0, γ 8) := by
    unfold en49
    refine zIP (show (0 : Nat) = 0 by decide) (zLV (γ 1) rfl (zLV (ρ 23) rfl (zLE m1 (zLE m4 (zLE m5 (zLE m6 (zLE m7 ?_)))))))
    refine zLE m8 (zLE m27 (zLE m28 (zLE m29 (zLE m35 (zLE m36 (zLE m37 (zIP w_0 ?_)))))))
    refine zLE (show fn21 [ρ 35, ρ 36, ρ 37] (γ 1) = (0, ρ 39, γ 2) from l0.symm) (zLV (γ 2) rfl (zLV (ρ 39) rfl (zIP w_1 (zLE (show fn7 [] (γ 2) = (0, 0, γ 3) from l1.symm) (zLV (γ 3) rfl (zLE m39 (zLE (show fn6 [ρ 40] (γ 3) = (0, ρ 41, γ 4) from l2.symm) ?_)))))))
    refine zLV (γ 4) rfl (zIP w_2 (zLV (ρ 41) rfl (zIP wl_0 (zLE (show fn6 [ρ 40] (γ 4) = (0, ρ 42, γ 5) from l4.symm) (zLV (γ 5) rfl (zLV (ρ 42) rfl (zIP w_3 ?_)))))))
    refine zLE (show fn6 [ρ 40 + 1] (γ 5) = (0, ρ 43, γ 6) from l5.symm) (zLV (γ 6) rfl (zIP w_4 (zLV (ρ 43) rfl (zIP w_5 (zLE c7.symm (zIN w_6 (zLE (show fn8 [ρ 35] (γ 7) = (0, 0, γ 8) from l6.symm) ?_)))))))
    refine zLV (γ 8) rfl ?_
    rfl
  exact zGoo_aend hJ hD
theorem vn49a0_2 {S : Nat → zSpc} (hS6 : zIm S 6 sn6) (hS7 : zIm S 7 sn7) (hS8 : zIm S 8 sn8) (hS21 : zIm S 21 sn21) (hS25 : zIm S 25 sn25) (hS27 : zIm S 27 sn27) (hS28 : zIm S 28 sn28) (hS30 : zIm S 30 sn30) (hS31 : zIm S 31 sn31) (hS39 : zIm S 39 sn39) (hS43 : zIm S 43 sn43) (hS44 : zIm S 44 sn44) (hS45 : zIm S 45 sn45) (hS46 : zIm S 46 sn46) (hS47 : zIm S 47 sn47) {a : List Int} {g : rHp} : ∀ (ρ : Nat → Int) (γ : Nat → rHp), jn49 a g 0 (zAg (zNA a49_ 0) ρ) (γ 1) → zO 23 S a g q49a0_2 ρ γ → zGl (fun i vs g1 => jn49 a g i vs g1) (sn49 a g) q49a0_2 ρ γ := by
  intro ρ γ hJ h
  obtain ⟨ha, hg, hr, hf, hm, hc, hl⟩ := h
  have ha : a = [ρ 0, ρ 1, ρ 2, ρ 3, ρ 4, ρ 5, ρ 6, ρ 7, ρ 8, ρ 9, ρ 10, ρ 11, ρ 12, ρ 13, ρ 14, ρ 15, ρ 16, ρ 17, ρ 18, ρ 19, ρ 20, ρ 21, ρ 22] := ha
  subst ha
  subst hg
  have hJ : jn49 [ρ 0, ρ 1, ρ 2, ρ 3, ρ 4, ρ 5, ρ 6, ρ 7, ρ 8, ρ 9, ρ 10, ρ 11, ρ 12, ρ 13, ρ 14, ρ 15, ρ 16, ρ 17, ρ 18, ρ 19, ρ 20, ρ 21, ρ 22] (γ 0) 0 [ρ 0, ρ 1, ρ 2, ρ 3, ρ 4, ρ 5, ρ 6, ρ 7, ρ 8, ρ 9, ρ 10, ρ 11, ρ 12, ρ 13, ρ 14, ρ 15, ρ 16, ρ 17, ρ 18, ρ 19, ρ 20, ρ 21, ρ 22, ρ 23, ρ 24, ρ 25, ρ 26, ρ 27, ρ 28, ρ 29, ρ 30, ρ 31, ρ 32, ρ 33, ρ 34, ρ 35, ρ 36, ρ 37, ρ 38] (γ 1) := hJ
  have r39 : (0 : Int) ≤ ρ 39 ∧ ρ 39 ≤ 19 := zRnA hr 39
  have r41 : ((-128) : Int) ≤ ρ 41 ∧ ρ 41 ≤ 127 := zRnA hr 41
  have r42 : (58 : Int) ≤ ρ 42 ∧ ρ 42 ≤ 58 := zRnA hr 42
  have r43 : ((-128) : Int) ≤ ρ 43 ∧ ρ 43 ≤ 127 := zRnA hr 43
  have f2 : (0 : Int) ≤ -ρ 40 + ρ 1 + (-2) := zAllA hf 2
  have f9 : (0 : Int) ≤ -ρ 37 + ρ 23 := zAllA hf 9
  obtain ⟨w_0, w_1, w_2, w_3, w_4⟩ : (ρ 23 ≥ ρ 37) ∧ (ρ 39 ≥ 0) ∧ (0 ≤ -ρ 40 + ρ 1 + (-1)) ∧ (ρ 42 = 58) ∧ (0 ≤ -ρ 40 + ρ 1 + (-2)) := ⟨by omega, by omega, by omega, by omega, by omega⟩
  have m1 : γ 0 15 0 34 = ρ 1 := zAllA hm 1
  have m4 : γ 0 15 0 32 = ρ 4 := zAllA hm 4
  have m5 : γ 0 15 0 33 = ρ 5 := zAllA hm 5
  have m6 : γ 0 15 0 17 = ρ 6 := zAllA hm 6
  have m7 : γ 0 15 0 18 = ρ 7 := zAllA hm 7
  have m8 : γ 0 15 0 14 = ρ 8 := zAllA hm 8
  have m27 : γ 1 15 0 44 = ρ 28 := zAllA hm 27
  have m28 : γ 1 15 0 49 = ρ 29 := zAllA hm 28
  have m29 : γ 1 15 0 50 = ρ 30 := zAllA hm 29
  have m35 : γ 1 15 0 46 = ρ 35 := zAllA hm 35
  have m36 : γ 1 15 0 47 = ρ 36 := zAllA hm 36
  have m37 : γ 1 15 0 48 = ρ 37 := zAllA hm 37
  have m39 : γ 3 15 0 35 = ρ 40 := zAllA hm 39
  have l0 : sn21 [ρ 35, ρ 36, ρ 37, ρ 8] (γ 1) 0 (ρ 39) (γ 2) := hS21 _ _ _ _ _ (zAllA hl 0)
  have l1 : sn7 [ρ 24, ρ 1] (γ 2) 0 0 (γ 3) := hS7 _ _ _ _ _ (zAllA hl 1)
  have l2 : sn6 [ρ 40, ρ 1] (γ 3) 0 (ρ 41) (γ 4) := hS6 _ _ _ _ _ (zAllA hl 2)
  have l3 : ρ 41 ≠ 46 := zAllA hl 3
  have l4 : sn6 [ρ 40, ρ 1] (γ 4) 0 (ρ 42) (γ 5) := hS6 _ _ _ _ _ (zAllA hl 4)
  have l5 : sn6 [ρ 40 + 1, ρ 1] (γ 5) 0 (ρ 43) (γ 6) := hS6 _ _ _ _ _ (zAllA hl 5)
  have l6 : ρ 43 ≠ 45 := zAllA hl 6
  have l7 : sn8 [ρ 40 + 1, ρ 1, ρ 15] (γ 6) 0 0 (γ 7) := hS8 _ _ _ _ _ (zAllA hl 7)
  obtain ⟨wl_0, wl_1⟩ : (ρ 41 ≠ 46) ∧ (¬ (ρ 43 = 45)) := ⟨by omega, by omega⟩
  show sn49 [ρ 0, ρ 1, ρ 2, ρ 3, ρ 4, ρ 5, ρ 6, ρ 7, ρ 8, ρ 9, ρ 10, ρ 11, ρ 12, ρ 13, ρ 14, ρ 15, ρ 16, ρ 17, ρ 18, ρ 19, ρ 20, ρ 21, ρ 22] (γ 0) 0 0 (γ 7)
  have hD : en49 (γ 0) (0, [ρ 23], γ 1) = .inr (0, 0, γ 7) := by
    unfold en49
    refine zIP (show (0 : Nat) = 0 by decide) (zLV (γ 1) rfl (zLV (ρ 23) rfl (zLE m1 (zLE m4 (zLE m5 (zLE m6 (zLE m7 ?_)))))))
    refine zLE m8 (zLE m27 (zLE m28 (zLE m29 (zLE m35 (zLE m36 (zLE m37 (zIP w_0 ?_)))))))
    refine zLE (show fn21 [ρ 35, ρ 36, ρ 37] (γ 1) = (0, ρ 39, γ 2) from l0.symm) (zLV (γ 2) rfl (zLV (ρ 39) rfl (zIP w_1 (zLE (show fn7 [] (γ 2) = (0, 0, γ 3) from l1.symm) (zLV (γ 3) rfl (zLE m39 (zLE (show fn6 [ρ 40] (γ 3) = (0, ρ 41, γ 4) from l2.symm) ?_)))))))
    refine zLV (γ 4) rfl (zIP w_2 (zLV (ρ 41) rfl (zIP wl_0 (zLE (show fn6 [ρ 40] (γ 4) = (0, ρ 42, γ 5) from l4.symm) (zLV (γ 5) rfl (zLV (ρ 42) rfl (zIP w_3 ?_)))))))
    refine zLE (show fn6 [ρ 40 + 1] (γ 5) = (0, ρ 43, γ 6) from l5.symm) (zLV (γ 6) rfl (zIP w_4 (zLV (ρ 43) rfl (zIN wl_1 (zLE (show fn8 [ρ 40 + 1] (γ 6) = (0, 0, γ 7) from l7.symm) (zLV (γ 7) rfl ?_))))))
    rfl
  exact zGoo_aend hJ hD
theorem vn49a0_3 {S : Nat → zSpc} (hS6 : zIm S 6 sn6) (hS7 : zIm S 7 sn7) (hS8 : zIm S 8 sn8) (hS21 : zIm S 21 sn21) (hS25 : zIm S 25 sn25) (hS27 : zIm S 27 sn27) (hS28 : zIm S 28 sn28) (hS30 : zIm S 30 sn30) (hS31 : zIm S 31 sn31) (hS39 : zIm S 39 sn39) (hS43 : zIm S 43 sn43) (hS44 : zIm S 44 sn44) (hS45 : zIm S 45 sn45) (hS46 : zIm S 46 sn46) (hS47 : zIm S 47 sn47) {a : List Int} {g : rHp} : ∀ (ρ : Nat → Int) (γ : Nat → rHp), jn49 a g 0 (zAg (zNA a49_ 0) ρ) (γ 1) → zO 23 S a g q49a0_3 ρ γ → zGl (fun i vs g1 => jn49 a g i vs g1) (sn49 a g) q49a0_3 ρ γ := by
  intro ρ γ hJ h
  obtain ⟨ha, hg, hr, hf, hm, hc, hl⟩ := h
  have ha : a = [ρ 0, ρ 1, ρ 2, ρ 3, ρ 4, ρ 5, ρ 6, ρ 7, ρ 8, ρ 9, ρ 10, ρ 11, ρ 12, ρ 13, ρ 14, ρ 15, ρ 16, ρ 17, ρ 18, ρ 19, ρ 20, ρ 21, ρ 22] := ha
  subst ha
  subst hg
  have hJ : jn49 [ρ 0, ρ 1, ρ 2, ρ 3, ρ 4, ρ 5, ρ 6, ρ 7, ρ 8, ρ 9, ρ 10, ρ 11, ρ 12, ρ 13, ρ 14, ρ 15, ρ 16, ρ 17, ρ 18, ρ 19, ρ 20, ρ 21, ρ 22] (γ 0) 0 [ρ 0, ρ 1, ρ 2, ρ 3, ρ 4, ρ 5, ρ 6, ρ 7, ρ 8, ρ 9, ρ 10, ρ 11, ρ 12, ρ 13, ρ 14, ρ 15, ρ 16, ρ 17, ρ 18, ρ 19, ρ 20, ρ 21, ρ 22, ρ 23, ρ 24, ρ 25, ρ 26, ρ 27, ρ 28, ρ 29, ρ 30, ρ 31, ρ 32, ρ 33, ρ 34, ρ 35, ρ 36, ρ 37, ρ 38] (γ 1) := hJ
  have r39 : (0 : Int) ≤ ρ 39 ∧ ρ 39 ≤ 19 := zRnA hr 39
  have r41 : ((-128) : Int) ≤ ρ 41 ∧ ρ 41 ≤ 127 := zRnA hr 41
  have r42 : (58 : Int) ≤ ρ 42 ∧ ρ 42 ≤ 58 := zRnA hr 42
  have f2 : (0 : Int) ≤ ρ 40 + -ρ 1 + 1 := zAllA hf 2
  have f3 : (0 : Int) ≤ -ρ 40 + ρ 1 + (-1) := zAllA hf 3
  have f9 : (0 : Int) ≤ -ρ 37 + ρ 23 := zAllA hf 9
  obtain ⟨w_0, w_1, w_2, w_3, w_4⟩ : (ρ 23 ≥ ρ 37) ∧ (ρ 39 ≥ 0) ∧ (0 ≤ -ρ 40 + ρ 1 + (-1)) ∧ (ρ 42 = 58) ∧ (¬ (0 ≤ -ρ 40 + ρ 1 + (-2))) := ⟨by omega, by omega, by omega, by omega, by omega⟩
  have m1 : γ 0 15 0 34 = ρ 1 := zAllA hm 1
  have m4 : γ 0 15 0 32 = ρ 4 := zAllA hm 4
  have m5 : γ 0 15 0 33 = ρ 5 := zAllA hm 5
  have m6 : γ 0 15 0 17 = ρ 6 := zAllA hm 6
  have m7 : γ 0 15 0 18 = ρ 7 := zAllA hm 7
  have m8 : γ 0 15 0 14 = ρ 8 := zAllA hm 8
  have m27 : γ 1 15 0 44 = ρ 28 := zAllA hm 27
  have m28 : γ 1 15 0 49 = ρ 29 := zAllA hm 28
  have m29 : γ 1 15 0 50 = ρ 30 := zAllA hm 29
  have m35 : γ 1 15 0 46 = ρ 35 := zAllA hm 35
  have m36 : γ 1 15 0 47 = ρ 36 := zAllA hm 36
  have m37 : γ 1 15 0 48 = ρ 37 := zAllA hm 37
  have m39 : γ 3 15 0 35 = ρ 40 := zAllA hm 39
  have l0 : sn21 [ρ 35, ρ 36, ρ 37, ρ 8] (γ 1) 0 (ρ 39) (γ 2) := hS21 _ _ _ _ _ (zAllA hl 0)
  have l1 : sn7 [ρ 24, ρ 1] (γ 2) 0 0 (γ 3) := hS7 _ _ _ _ _ (zAllA hl 1)
  have l2 : sn6 [ρ 40, ρ 1] (γ 3) 0 (ρ 41) (γ 4) := hS6 _ _ _ _ _ (zAllA hl 2)
  have l3 : ρ 41 ≠ 46 := zAllA hl 3
  have l4 : sn6 [ρ 40, ρ 1] (γ 4) 0 (ρ 42) (γ 5) := hS6 _ _ _ _ _ (zAllA hl 4)
  have l5 : sn6 [ρ 40 + 1, ρ 1] (γ 5) 0 (-1) (γ 6) := hS6 _ _ _ _ _ (zAllA hl 5)
  have l6 : sn8 [ρ 40 + 1, ρ 1, ρ 15] (γ 6) 0 0 (γ 7) := hS8 _ _ _ _ _ (zAllA hl 6)
  have wl_0 : ρ 41 ≠ 46 := by omega
  show sn49 [ρ 0, ρ 1, ρ 2, ρ 3, ρ 4, ρ 5, ρ 6, ρ 7, ρ 8, ρ 9, ρ 10, ρ 11, ρ 12, ρ 13, ρ 14, ρ 15, ρ 16, ρ 17, ρ 18, ρ 19, ρ 20, ρ 21, ρ 22] (γ 0) 0 0 (γ 7)
  have hD : en49 (γ 0) (0, [ρ 23], γ 1) = .inr (0, 0, γ 7) := by
    unfold en49
    refine zIP (show (0 : Nat) = 0 by decide) (zLV (γ 1) rfl (zLV (ρ 23) rfl (zLE m1 (zLE m4 (zLE m5 (zLE m6 (zLE m7 ?_)))))))
    refine zLE m8 (zLE m27 (zLE m28 (zLE m29 (zLE m35 (zLE m36 (zLE m37 (zIP w_0 ?_)))))))
    refine zLE (show fn21 [ρ 35, ρ 36, ρ 37] (γ 1) = (0, ρ 39, γ 2) from l0.symm) (zLV (γ 2) rfl (zLV (ρ 39) rfl (zIP w_1 (zLE (show fn7 [] (γ 2) = (0, 0, γ 3) from l1.symm) (zLV (γ 3) rfl (zLE m39 (zLE (show fn6 [ρ 40] (γ 3) = (0, ρ 41, γ 4) from l2.symm) ?_)))))))
    refine zLV (γ 4) rfl (zIP w_2 (zLV (ρ 41) rfl (zIP wl_0 (zLE (show fn6 [ρ 40] (γ 4) = (0, ρ 42, γ 5) from l4.symm) (zLV (γ 5) rfl (zLV (ρ 42) rfl (zIP w_3 ?_)))))))
    refine zLE (show fn6 [ρ 40 + 1] (γ 5) = (0, (-1), γ 6) from l5.symm) (zLV (γ 6) rfl (zIN w_4 (zLE (show fn8 [ρ 40 + 1] (γ 6) = (0, 0, γ 7) from l6.symm) (zLV (γ 7) rfl ?_))))
    rfl
  exact zGoo_aend hJ hD
theorem vn49a0_4 {S : Nat → zSpc} (hS6 : zIm S 6 sn6) (hS7 : zIm S 7 sn7) (hS8 : zIm S 8 sn8) (hS21 : zIm S 21 sn21) (hS25 : zIm S 25 sn25) (hS27 : zIm S 27 sn27) (hS28 : zIm S 28 sn28) (hS30 : zIm S 30 sn30) (hS31 : zIm S 31 sn31) (hS39 : zIm S 39 sn39) (hS43 : zIm S 43 sn43) (hS44 : zIm S 44 sn44) (hS45 : zIm S 45 sn45) (hS46 : zIm S 46 sn46) (hS47 : zIm S 47 sn47) {a : List Int} {g : rHp} : ∀ (ρ : Nat → Int) (γ : Nat → rHp), jn49 a g 0 (zAg (zNA a49_ 0) ρ) (γ 1) → zO 23 S a g q49a0_4 ρ γ → zGl (fun i vs g1 => jn49 a g i vs g1) (sn49 a g) q49a0_4 ρ γ := by
  intro ρ γ hJ h
  obtain ⟨ha, hg, hr, hf, hm, hc, hl⟩ := h
  have ha : a = [ρ 0, ρ 1, ρ 2, ρ 3, ρ 4, ρ 5, ρ 6, ρ 7, ρ 8, ρ 9, ρ 10, ρ 11, ρ 12, ρ 13, ρ 14, ρ 15, ρ 16, ρ 17, ρ 18, ρ 19, ρ 20, ρ 21, ρ 22] := ha
  subst ha
  subst hg
  have hJ : jn49 [ρ 0, ρ 1, ρ 2, ρ 3, ρ 4, ρ 5, ρ 6, ρ 7, ρ 8, ρ 9, ρ 10, ρ 11, ρ 12, ρ 13, ρ 14, ρ 15, ρ 16, ρ 17, ρ 18, ρ 19, ρ 20, ρ 21, ρ 22] (γ 0) 0 [ρ 0, ρ 1, ρ 2, ρ 3, ρ 4, ρ 5, ρ 6, ρ 7, ρ 8, ρ 9, ρ 10, ρ 11, ρ 12, ρ 13, ρ 14, ρ 15, ρ 16, ρ 17, ρ 18, ρ 19, ρ 20, ρ 21, ρ 22, ρ 23, ρ 24, ρ 25, ρ 26, ρ 27, ρ 28, ρ 29, ρ 30, ρ 31, ρ 32, ρ 33, ρ 34, ρ 35, ρ 36, ρ 37, ρ 38] (γ 1) := hJ
  have r39 : (0 : Int) ≤ ρ 39 ∧ ρ 39 ≤ 19 := zRnA hr 39
  have r41 : ((-128) : Int) ≤ ρ 41 ∧ ρ 41 ≤ 127 := zRnA hr 41
  have r42 : ((-128) : Int) ≤ ρ 42 ∧ ρ 42 ≤ 127 := zRnA hr 42
  have f2 : (0 : Int) ≤ -ρ 40 + ρ 1 + (-1) := zAllA hf 2
  have f8 : (0 : Int) ≤ -ρ 37 + ρ 23 := zAllA hf 8
  obtain ⟨w_0, w_1, w_2⟩ : (ρ 23 ≥ ρ 37) ∧ (ρ 39 ≥ 0) ∧ (0 ≤ -ρ 40 + ρ 1 + (-1)) := ⟨by omega, by omega, by omega⟩
  have m1 : γ 0 15 0 34 = ρ 1 := zAllA hm 1
  have m4 : γ 0 15 0 32 = ρ 4 := zAllA hm 4
  have m5 : γ 0 15 0 33 = ρ 5 := zAllA hm 5
  have m6 : γ 0 15 0 17 = ρ 6 := zAllA hm 6
  have m7 : γ 0 15 0 18 = ρ 7 := zAllA hm 7
  have m8 : γ 0 15 0 14 = ρ 8 := zAllA hm 8
  have m27 : γ 1 15 0 44 = ρ 28 := zAllA hm 27
  have m28 : γ 1 15 0 49 = ρ 29 := zAllA hm 28
  have m29 : γ 1 15 0 50 = ρ 30 := zAllA hm 29
  have m35 : γ 1 15 0 46 = ρ 35 := zAllA hm 35
  have m36 : γ 1 15 0 47 = ρ 36 := zAllA hm 36
  have m37 : γ 1 15 0 48 = ρ 37 := zAllA hm 37
  have m39 : γ 3 15 0 35 = ρ 40 := zAllA hm 39
  have l0 : sn21 [ρ 35, ρ 36, ρ 37, ρ 8] (γ 1) 0 (ρ 39) (γ 2) := hS21 _ _ _ _ _ (zAllA hl 0)
  have l1 : sn7 [ρ 24, ρ 1] (γ 2) 0 0 (γ 3) := hS7 _ _ _ _ _ (zAllA hl 1)
  have l2 : sn6 [ρ 40, ρ 1] (γ 3) 0 (ρ 41) (γ 4) := hS6 _ _ _ _ _ (zAllA hl 2)
  have l3 : ρ 41 ≠ 46 := zAllA hl 3
  have l4 : sn6 [ρ 40, ρ 1] (γ 4) 0 (ρ 42) (γ 5) := hS6 _ _ _ _ _ (zAllA hl 4)
  have l5 : ρ 42 ≠ 58 := zAllA hl 5
  have l6 : sn8 [ρ 40, ρ 1, ρ 15] (γ 5) 0 0 (γ 6) := hS8 _ _ _ _ _ (zAllA hl 6)
  obtain ⟨wl_0, wl_1⟩ : (ρ 41 ≠ 46) ∧ (¬ (ρ 42 = 58)) := ⟨by omega, by omega⟩
  show sn49 [ρ 0, ρ 1, ρ 2, ρ 3, ρ 4, ρ 5, ρ 6, ρ 7, ρ 8, ρ 9, ρ 10, ρ 11, ρ 12, ρ 13, ρ 14, ρ 15, ρ 16, ρ 17, ρ 18, ρ 19, ρ 20, ρ 21, ρ 22] (γ 0) 0 0 (γ 6)
  have hD : en49 (γ 0) (0, [ρ 23], γ 1) = .inr (0, 0, γ 6) := by
    unfold en49
    refine zIP (show (0 : Nat) = 0 by decide) (zLV (γ 1) rfl (zLV (ρ 23) rfl (zLE m1 (zLE m4 (zLE m5 (zLE m6 (zLE m7 ?_)))))))
    refine zLE m8 (zLE m27 (zLE m28 (zLE m29 (zLE m35 (zLE m36 (zLE m37 (zIP w_0 ?_)))))))
    refine zLE (show fn21 [ρ 35, ρ 36, ρ 37] (γ 1) = (0, ρ 39, γ 2) from l0.symm) (zLV (γ 2) rfl (zLV (ρ 39) rfl (zIP w_1 (zLE (show fn7 [] (γ 2) = (0, 0, γ 3) from l1.symm) (zLV (γ 3) rfl (zLE m39 (zLE (show fn6 [ρ 40] (γ 3) = (0, ρ 41, γ 4) from l2.symm) ?_)))))))
    refine zLV (γ 4) rfl (zIP w_2 (zLV (ρ 41) rfl (zIP wl_0 (zLE (show fn6 [ρ 40] (γ 4) = (0, ρ 42, γ 5) from l4.symm) (zLV (γ 5) rfl (zLV (ρ 42) rfl (zIN wl_1 ?_)))))))
    refine zLE (show fn8 [ρ 40] (γ 5) = (0, 0, γ 6) from l6.symm) (zLV (γ 6) rfl ?_)
    rfl
  exact zGoo_aend hJ hD
theorem vn49a0_5 {S : Nat → zSpc} (hS6 : zIm S 6 sn6) (hS7 : zIm S 7 sn7) (hS8 : zIm S 8 sn8) (hS21 : zIm S 21 sn21) (hS25 : zIm S 25 sn25) (hS27 : zIm S 27 sn27) (hS28 : zIm S 28 sn28) (hS30 : zIm S 30 sn30) (hS31 : zIm S 31 sn31) (hS39 : zIm S 39 sn39) (hS43 : zIm S 43 sn43) (hS44 : zIm S 44 sn44) (hS45 : zIm S 45 sn45) (hS46 : zIm S 46 sn46) (hS47 : zIm S 47 sn47) {a : List Int} {g : rHp} : ∀ (ρ : Nat → Int) (γ : Nat → rHp), jn49 a g 0 (zAg (zNA a49_ 0) ρ) (γ 1) → zO 23 S a g q49a0_5 ρ γ → zGl (fun i vs g1 => jn49 a g i vs g1) (sn49 a g) q49a0_5 ρ γ := by
  intro ρ γ hJ h
  obtain ⟨ha, hg, hr, hf, hm, hc, hl⟩ := h
  have ha : a = [ρ 0, ρ 1, ρ 2, ρ 3, ρ 4, ρ 5, ρ 6, ρ 7, ρ 8, ρ 9, ρ 10, ρ 11, ρ 12, ρ 13, ρ 14, ρ 15, ρ 16, ρ 17, ρ 18, ρ 19, ρ 20, ρ 21, ρ 22] := ha
  subst ha
  subst hg
  have hJ : jn49 [ρ 0, ρ 1, ρ 2, ρ 3, ρ 4, ρ 5, ρ 6, ρ 7, ρ 8, ρ 9, ρ 10, ρ 11, ρ 12, ρ 13, ρ 14, ρ 15, ρ 16, ρ 17, ρ 18, ρ 19, ρ 20, ρ 21, ρ 22] (γ 0) 0 [ρ 0, ρ 1, ρ 2, ρ 3, ρ 4, ρ 5, ρ 6, ρ 7, ρ 8, ρ 9, ρ 10, ρ 11, ρ 12, ρ 13, ρ 14, ρ 15, ρ 16, ρ 17, ρ 18, ρ 19, ρ 20, ρ 21, ρ 22, ρ 23, ρ 24, ρ 25, ρ 26, ρ 27, ρ 28, ρ 29, ρ 30, ρ 31, ρ 32, ρ 33, ρ 34, ρ 35, ρ 36, ρ 37, ρ 38] (γ 1) := hJ
  have r39 : (0 : Int) ≤ ρ 39 ∧ ρ 39 ≤ 19 := zRnA hr 39
  have r41 : (46 : Int) ≤ ρ 41 ∧ ρ 41 ≤ 46 := zRnA hr 41
  have f1 : (0 : Int) ≤ -ρ 40 + ρ 1 + (-1) := zAllA hf 1
  have f7 : (0 : Int) ≤ -ρ 37 + ρ 23 := zAllA hf 7
  obtain ⟨w_0, w_1, w_2, w_3⟩ : (ρ 23 ≥ ρ 37) ∧ (ρ 39 ≥ 0) ∧ (0 ≤ -ρ 40 + ρ 1 + (-1)) ∧ (¬ (ρ 41 ≠ 46)) := ⟨by omega, by omega, by omega, by omega⟩
  have m1 : γ 0 15 0 34 = ρ 1 := zAllA hm 1
  have m4 : γ 0 15 0 32 = ρ 4 := zAllA hm 4
  have m5 : γ 0 15 0 33 = ρ 5 := zAllA hm 5
  have m6 : γ 0 15 0 17 = ρ 6 := zAllA hm 6
  have m7 : γ 0 15 0 18 = ρ 7 := zAllA hm 7
  have m8 : γ 0 15 0 14 = ρ 8 := zAllA hm 8
  have m27 : γ 1 15 0 44 = ρ 28 := zAllA hm 27
  have m28 : γ 1 15 0 49 = ρ 29 := zAllA hm 28
  have m29 : γ 1 15 0 50 = ρ 30 := zAllA hm 29
  have m35 : γ 1 15 0 46 = ρ 35 := zAllA hm 35
  have m36 : γ 1 15 0 47 = ρ 36 := zAllA hm 36
  have m37 : γ 1 15 0 48 = ρ 37 := zAllA hm 37
  have m39 : γ 3 15 0 35 = ρ 40 := zAllA hm 39
  have l0 : sn21 [ρ 35, ρ 36, ρ 37, ρ 8] (γ 1) 0 (ρ 39) (γ 2) := hS21 _ _ _ _ _ (zAllA hl 0)
  have l1 : sn7 [ρ 24, ρ 1] (γ 2) 0 0 (γ 3) := hS7 _ _ _ _ _ (zAllA hl 1)
  have l2 : sn6 [ρ 40, ρ 1] (γ 3) 0 (ρ 41) (γ 4) := hS6 _ _ _ _ _ (zAllA hl 2)
  have l3 : sn31 [ρ 1, ρ 15, ρ 37] (γ 4) 0 0 (γ 5) := hS31 _ _ _ _ _ (zAllA hl 3)
  show sn49 [ρ 0, ρ 1, ρ 2, ρ 3, ρ 4, ρ 5, ρ 6, ρ 7, ρ 8, ρ 9, ρ 10, ρ 11, ρ 12, ρ 13, ρ 14, ρ 15, ρ 16, ρ 17, ρ 18, ρ 19, ρ 20, ρ 21, ρ 22] (γ 0) 0 0 (γ 5)
  have hD : en49 (γ 0) (0, [ρ 23], γ 1) = .inr (0, 0, γ 5) := by
    unfold en49
    refine zIP (show (0 : Nat) = 0 by decide) (zLV (γ 1) rfl (zLV (ρ 23) rfl (zLE m1 (zLE m4 (zLE m5 (zLE m6 (zLE m7 ?_)))))))
    refine zLE m8 (zLE m27 (zLE m28 (zLE m29 (zLE m35 (zLE m36 (zLE m37 (zIP w_0 ?_)))))))
    refine zLE (show fn21 [ρ 35, ρ 36, ρ 37] (γ 1) = (0, ρ 39, γ 2) from l0.symm) (zLV (γ 2) rfl (zLV (ρ 39) rfl (zIP w_1 (zLE (show fn7 [] (γ 2) = (0, 0, γ 3) from l1.symm) (zLV (γ 3) rfl (zLE m39 (zLE (show fn6 [ρ 40] (γ 3) = (0, ρ 41, γ 4) from l2.symm) ?_)))))))
    refine zLV (γ 4) rfl (zIP w_2 (zLV (ρ 41) rfl (zIN w_3 (zLE (show fn31 [] (γ 4) = (0, 0, γ 5) from l3.symm) (zLV (γ 5) rfl (zIN zQ0_ ?_))))))
    rfl
  exact zGoo_aend hJ hD
theorem vn49a0_6 {S : Nat → zSpc} (hS6 : zIm S 6 sn6) (hS7 : zIm S 7 sn7) (hS8 : zIm S 8 sn8) (hS21 : zIm S 21 sn21) (hS25 : zIm S 25 sn25) (hS27 : zIm S 27 sn27) (hS28 : zIm S 28 sn28) (hS30 : zIm S 30 sn30) (hS31 : zIm S 31 sn31) (hS39 : zIm S 39 sn39) (hS43 : zIm S 43 sn43) (hS44 : zIm S 44 sn44) (hS45 : zIm S 45 sn45) (hS46 : zIm S 46 sn46) (hS47 : zIm S 47 sn47) {a : List Int} {g : rHp} : ∀ (ρ : Nat → Int) (γ : Nat → rHp), jn49 a g 0 (zAg (zNA a49_ 0) ρ) (γ 1) → zO 23 S a g q49a0_6 ρ γ → zGl (fun i vs g1 => jn49 a g i vs g1) (sn49 a g) q49a0_6 ρ γ := by
  intro ρ γ hJ h
  obtain ⟨ha, hg, hr, hf, hm, hc, hl⟩ := h
  have ha : a = [ρ 0, ρ 1, ρ 2, ρ 3, ρ 4, ρ 5, ρ 6, ρ 7, ρ 8, ρ 9, ρ 10, ρ 11, ρ 12, ρ 13, ρ 14, ρ 15, ρ 16, ρ 17, ρ 18, ρ 19, ρ 20, ρ 21, ρ 22] := ha
  subst ha
  subst hg
  have hJ : jn49 [ρ 0, ρ 1, ρ 2, ρ 3, ρ 4, ρ 5, ρ 6, ρ 7, ρ 8, ρ 9, ρ 10, ρ 11, ρ 12, ρ 13, ρ 14, ρ 15, ρ 16, ρ 17, ρ 18, ρ 19, ρ 20, ρ 21, ρ 22] (γ 0) 0 [ρ 0, ρ 1, ρ 2, ρ 3, ρ 4, ρ 5, ρ 6, ρ 7, ρ 8, ρ 9, ρ 10, ρ 11, ρ 12, ρ 13, ρ 14, ρ 15, ρ 16, ρ 17, ρ 18, ρ 19, ρ 20, ρ 21, ρ 22, ρ 23, ρ 24, ρ 25, ρ 26, ρ 27, ρ 28, ρ 29, ρ 30, ρ 31, ρ 32, ρ 33, ρ 34, ρ 35, ρ 36, ρ 37, ρ 38] (γ 1) := hJ
  have r23 : (0 : Int) ≤ ρ 23 ∧ ρ 23 ≤ 4 := zRnA hr 23
  have r37 : (0 : Int) ≤ ρ 37 ∧ ρ 37 ≤ 0 := zRnA hr 37
  have r39 : (0 : Int) ≤ ρ 39 ∧ ρ 39 ≤ 19 := zRnA hr 39
  have r41 : (46 : Int) ≤ ρ 41 ∧ ρ 41 ≤ 46 := zRnA hr 41
  have r42 : ((-1) : Int) ≤ ρ 42 ∧ ρ 42 ≤ (-1) := zRnA hr 42
  have f0 : (0 : Int) ≤ -ρ 7 + -ρ 6 + 399 := zAllA hf 0
  have f2 : (0 : Int) ≤ -ρ 40 + ρ 1 + (-1) := zAllA hf 2
  obtain ⟨w_0, w_1, w_2, w_3, w_4, w_5, w_6⟩ : (ρ 23 ≥ ρ 37) ∧ (ρ 39 ≥ 0) ∧ (0 ≤ -ρ 40 + ρ 1 + (-1)) ∧ (¬ (ρ 41 ≠ 46)) ∧ (ρ 42 < 0) ∧ (ρ 7 + ρ 6 ≠ 400) ∧ (0 ≥ ρ 37) := ⟨by omega, by omega, by omega, by omega, by omega, by omega, by omega⟩
  have m1 : γ 0 15 0 34 = ρ 1 := zAllA hm 1
  have m4 : γ 0 15 0 32 = ρ 4 := zAllA hm 4
  have m5 : γ 0 15 0 33 = ρ 5 := zAllA hm 5
  have m6 : γ 0 15 0 17 = ρ 6 := zAllA hm 6
  have m7 : γ 0 15 0 18 = ρ 7 := zAllA hm 7
  have m8 : γ 0 15 0 14 = ρ 8 := zAllA hm 8
  have m27 : γ 1 15 0 44 = ρ 28 := zAllA hm 27
  have m28 : γ 1 15 0 49 = ρ 29 := zAllA hm 28
  have m29 : γ 1 15 0 50 = ρ 30 := zAllA hm 29
  have m35 : γ 1 15 0 46 = ρ 35 := zAllA hm 35
  have m36 : γ 1 15 0 47 = ρ 36 := zAllA hm 36
  have m37 : γ 1 15 0 48 = ρ 37 := zAllA hm 37
  have m39 : γ 3 15 0 35 = ρ 40 := zAllA hm 39
  have c6 : γ 6 = rUp (γ 5) 15 0 35 (ρ 40 + 1) := And.right (zChA hc 7)
  have c8 : γ 8 = rUp (γ 7) 67 0 (ρ 7 + ρ 6) (ρ 39) := And.right (zChA hc 5)
  have c9 : γ 9 = rUp (γ 8) 68 0 (4 * ρ 7 + 4 * ρ 6) 0 := And.right (zChA hc 4)
  have c10 : γ 10 = rUp (γ 9) 68 0 (4 * ρ 7 + 4 * ρ 6 + 1) 0 := And.right (zChA hc 3)
  have c11 : γ 11 = rUp (γ 10) 68 0 (4 * ρ 7 + 4 * ρ 6 + 2) 0 := And.right (zChA hc 2)
  have c12 : γ 12 = rUp (γ 11) 68 0 (4 * ρ 7 + 4 * ρ 6 + 3) 0 := And.right (zChA hc 1)
  have c13 : γ 13 = rUp (γ 12) 15 0 18 (ρ 7 + 1) := And.right (zChA hc 0)
  have l0 : sn21 [ρ 35, ρ 36, ρ 37, ρ 8] (γ 1) 0 (ρ 39) (γ 2) := hS21 _ _ _ _ _ (zAllA hl 0)
  have l1 : sn7 [ρ 24, ρ 1] (γ 2) 0 0 (γ 3) := hS7 _ _ _ _ _ (zAllA hl 1)
  have l2 : sn6 [ρ 40, ρ 1] (γ 3) 0 (ρ 41) (γ 4) := hS6 _ _ _ _ _ (zAllA hl 2)
  have l3 : sn31 [ρ 1, ρ 15, ρ 37] (γ 4) 0 1 (γ 5) := hS31 _ _ _ _ _ (zAllA hl 3)
  have l4 : sn45 [ρ 39, ρ 7 + ρ 6, ρ 37] (γ 6) 0 (ρ 42) (γ 7) := hS45 _ _ _ _ _ (zAllA hl 4)
  show sn49 [ρ 0, ρ 1, ρ 2, ρ 3, ρ 4, ρ 5, ρ 6, ρ 7, ρ 8, ρ 9, ρ 10, ρ 11, ρ 12, ρ 13, ρ 14, ρ 15, ρ 16, ρ 17, ρ 18, ρ 19, ρ 20, ρ 21, ρ 22] (γ 0) 0 1 (γ 13)
  have hD : en49 (γ 0) (0, [ρ 23], γ 1) = .inr (0, 1, γ 13) := by
    unfold en49
    refine zIP (show (0 : Nat) = 0 by decide) (zLV (γ 1) rfl (zLV (ρ 23) rfl (zLE m1 (zLE m4 (zLE m5 (zLE m6 (zLE m7 ?_)))))))
    refine zLE m8 (zLE m27 (zLE m28 (zLE m29 (zLE m35 (zLE m36 (zLE m37 (zIP w_0 ?_)))))))
    refine zLE (show fn21 [ρ 35, ρ 36, ρ 37] (γ 1) = (0, ρ 39, γ 2) from l0.symm) (zLV (γ 2) rfl (zLV (ρ 39) rfl (zIP w_1 (zLE (show fn7 [] (γ 2) = (0, 0, γ 3) from l1.symm) (zLV (γ 3) rfl (zLE m39 (zLE (show fn6 [ρ 40] (γ 3) = (0, ρ 41, γ 4) from l2.symm) ?_)))))))
    refine zLV (γ 4) rfl (zIP w_2 (zLV (ρ 41) rfl (zIN w_3 (zLE (show fn31 [] (γ 4) = (0, 1, γ 5) from l3.symm) (zLV (γ 5) rfl (zIP zQ1_ (zLE c6.symm ?_)))))))
    refine zLE (show fn45 [ρ 39, ρ 7 + ρ 6] (γ 6) = (0, ρ 42, γ 7) from l4.symm) (zLV (γ 7) rfl (zLV (ρ 42) rfl (zIP w_4 (zIP w_5 (zLE c8.symm (zIP w_6 (zLE c9.symm ?_)))))))
    refine zLE c10.symm (zLE c11.symm (zLE c12.symm (zLE c13.symm ?_)))
    rfl
  exact zGoo_aend hJ hD
theorem vn49a0_7 {S : Nat → zSpc} (hS6 : zIm S 6 sn6) (hS7 : zIm S 7 sn7) (hS8 : zIm S 8 sn8) (hS21 : zIm S 21 sn21) (hS25 : zIm S 25 sn25) (hS27 : zIm S 27 sn27) (hS28 : zIm S 28 sn28) (hS30 : zIm S 30 sn30) (hS31 : zIm S 31 sn31) (hS39 : zIm S 39 sn39) (hS43 : zIm S 43 sn43) (hS44 : zIm S 44 sn44) (hS45 : zIm S 45 sn45) (hS46 : zIm S 46 sn46) (hS47 : zIm S 47 sn47) {a : List Int} {g : rHp} : ∀ (ρ : Nat → Int) (γ : Nat → rHp), jn49 a g 0 (zAg (zNA a49_ 0) ρ) (γ 1) → zO 23 S a g q49a0_7 ρ γ → zGl (fun i vs g1 => jn49 a g i vs g1) (sn49 a g) q49a0_7 ρ γ := by
  intro ρ γ hJ h
  obtain ⟨ha, hg, hr, hf, hm, hc, hl⟩ := h
  have ha : a = [ρ 0, ρ 1, ρ 2, ρ 3, ρ 4, ρ 5, ρ 6, ρ 7, ρ 8, ρ 9, ρ 10, ρ 11, ρ 12, ρ 13, ρ 14, ρ 15, ρ 16, ρ 17, ρ 18, ρ 19, ρ 20, ρ 21, ρ 22] := ha
  subst ha
  subst hg
  have hJ : jn49 [ρ 0, ρ 1, ρ 2, ρ 3, ρ 4, ρ 5, ρ 6, ρ 7, ρ 8, ρ 9, ρ 10, ρ 11, ρ 12, ρ 13, ρ 14, ρ 15, ρ 16, ρ 17, ρ 18, ρ 19, ρ 20, ρ 21, ρ 22] (γ 0) 0 [ρ 0, ρ 1, ρ 2, ρ 3, ρ 4, ρ 5, ρ 6, ρ 7, ρ 8, ρ 9, ρ 10, ρ 11, ρ 12, ρ 13, ρ 14, ρ 15, ρ 16, ρ 17, ρ 18, ρ 19, ρ 20, ρ 21, ρ 22, ρ 23, ρ 24, ρ 25, ρ 26, ρ 27, ρ 28, ρ 29, ρ 30, ρ 31, ρ 32, ρ 33, ρ 34, ρ 35, ρ 36, ρ 37, ρ 38] (γ 1) := hJ
  have r37 : (1 : Int) ≤ ρ 37 ∧ ρ 37 ≤ 1 := zRnA hr 37
  have r39 : (0 : Int) ≤ ρ 39 ∧ ρ 39 ≤ 19 := zRnA hr 39
  have r41 : (46 : Int) ≤ ρ 41 ∧ ρ 41 ≤ 46 := zRnA hr 41
  have r42 : ((-1) : Int) ≤ ρ 42 ∧ ρ 42 ≤ (-1) := zRnA hr 42
  have f0 : (0 : Int) ≤ -ρ 7 + -ρ 6 + 399 := zAllA hf 0
  have f2 : (0 : Int) ≤ -ρ 40 + ρ 1 + (-1) := zAllA hf 2
  have f8 : (0 : Int) ≤ -ρ 37 + ρ 23 := zAllA hf 8
  obtain ⟨w_0, w_1, w_2, w_3, w_4, w_5, w_6, w_7⟩ : (ρ 23 ≥ ρ 37) ∧ (ρ 39 ≥ 0) ∧ (0 ≤ -ρ 40 + ρ 1 + (-1)) ∧ (¬ (ρ 41 ≠ 46)) ∧ (ρ 42 < 0) ∧ (ρ 7 + ρ 6 ≠ 400) ∧ (¬ (0 ≥ ρ 37)) ∧ (1 ≥ ρ 37) := ⟨by omega, by omega, by omega, by omega, by omega, by omega, by omega, by omega⟩
  have m1 : γ 0 15 0 34 = ρ 1 := zAllA hm 1
  have m4 : γ 0 15 0 32 = ρ 4 := zAllA hm 4
  have m5 : γ 0 15 0 33 = ρ 5 := zAllA hm 5
  have m6 : γ 0 15 0 17 = ρ 6 := zAllA hm 6
  have m7 : γ 0 15 0 18 = ρ 7 := zAllA hm 7
  have m8 : γ 0 15 0 14 = ρ 8 := zAllA hm 8
  have m27 : γ 1 15 0 44 = ρ 28 := zAllA hm 27
  have m28 : γ 1 15 0 49 = ρ 29 := zAllA hm 28
  have m29 : γ 1 15 0 50 = ρ 30 := zAllA hm 29
  have m35 : γ 1 15 0 46 = ρ 35 := zAllA hm 35
  have m36 : γ 1 15 0 47 = ρ 36 := zAllA hm 36
  have m37 : γ 1 15 0 48 = ρ 37 := zAllA hm 37
  have m39 : γ 3 15 0 35 = ρ 40 := zAllA hm 39
  have m41 : γ 1 87 0 0 = ρ 43 := zAllA hm 41
  have c6 : γ 6 = rUp (γ 5) 15 0 35 (ρ 40 + 1) := And.right (zChA hc 7)
  have c8 : γ 8 = rUp (γ 7) 67 0 (ρ 7 + ρ 6) (ρ 39) := And.right (zChA hc 5)
  have c9 : γ 9 = rUp (γ 8) 68 0 (4 * ρ 7 + 4 * ρ 6) (ρ 43) := And.right (zChA hc 4)
  have c10 : γ 10 = rUp (γ 9) 68 0 (4 * ρ 7 + 4 * ρ 6 + 1) 0 := And.right (zChA hc 3)
  have c11 : γ 11 = rUp (γ 10) 68 0 (4 * ρ 7 + 4 * ρ 6 + 2) 0 := And.right (zChA hc 2)
  have c12 : γ 12 = rUp (γ 11) 68 0 (4 * ρ 7 + 4 * ρ 6 + 3) 0 := And.right (zChA hc 1)
  have c13 : γ 13 = rUp (γ 12) 15 0 18 (ρ 7 + 1) := And.right (zChA hc 0)
  have l0 : sn21 [ρ 35, ρ 36, ρ 37, ρ 8] (γ 1) 0 (ρ 39) (γ 2) := hS21 _ _ _ _ _ (zAllA hl 0)
  have l1 : sn7 [ρ 24, ρ 1] (γ 2) 0 0 (γ 3) := hS7 _ _ _ _ _ (zAllA hl 1)
  have l2 : sn6 [ρ 40, ρ 1] (γ 3) 0 (ρ 41) (γ 4) := hS6 _ _ _ _ _ (zAllA hl 2)
  have l3 : sn31 [ρ 1, ρ 15, ρ 37] (γ 4) 0 1 (γ 5) := hS31 _ _ _ _ _ (zAllA hl 3)
  have l4 : sn45 [ρ 39, ρ 7 + ρ 6, ρ 37] (γ 6) 0 (ρ 42) (γ 7) := hS45 _ _ _ _ _ (zAllA hl 4)
  show sn49 [ρ 0, ρ 1, ρ 2, ρ 3, ρ 4, ρ 5, ρ 6, ρ 7, ρ 8, ρ 9, ρ 10, ρ 11, ρ 12, ρ 13, ρ 14, ρ 15, ρ 16, ρ 17, ρ 18, ρ 19, ρ 20, ρ 21, ρ 22] (γ 0) 0 1 (γ 13)
  have hD : en49 (γ 0) (0, [ρ 23], γ 1) = .inr (0, 1, γ 13) := by
    unfold en49
    refine zIP (show (0 : Nat) = 0 by decide) (zLV (γ 1) rfl (zLV (ρ 23) rfl (zLE m1 (zLE m4 (zLE m5 (zLE m6 (zLE m7 ?_)))))))
    refine zLE m8 (zLE m27 (zLE m28 (zLE m29 (zLE m35 (zLE m36 (zLE m37 (zIP w_0 ?_)))))))
    refine zLE (show fn21 [ρ 35, ρ 36, ρ 37] (γ 1) = (0, ρ 39, γ 2) from l0.symm) (zLV (γ 2) rfl (zLV (ρ 39) rfl (zIP w_1 (zLE (show fn7 [] (γ 2) = (0, 0, γ 3) from l1.symm) (zLV (γ 3) rfl (zLE m39 (zLE (show fn6 [ρ 40] (γ 3) = (0, ρ 41, γ 4) from l2.symm) ?_)))))))
    refine zLV (γ 4) rfl (zIP w_2 (zLV (ρ 41) rfl (zIN w_3 (zLE (show fn31 [] (γ 4) = (0, 1, γ 5) from l3.symm) (zLV (γ 5) rfl (zIP zQ1_ (zLE c6.symm ?_)))))))
    refine zLE (show fn45 [ρ 39, ρ 7 + ρ 6] (γ 6) = (0, ρ 42, γ 7) from l4.symm) (zLV (γ 7) rfl (zLV (ρ 42) rfl (zIP w_4 (zIP w_5 (zLE c8.symm (zIN w_6 (zLE m41 ?_)))))))
    refine zLE c9.symm (zIP w_7 (zLE c10.symm (zLE c11.symm (zLE c12.symm (zLE c13.symm ?_)))))
    rfl
  exact zGoo_aend hJ hD
theorem vn49a0_8 {S : Nat → zSpc} (hS6 : zIm S 6 sn6) (hS7 : zIm S 7 sn7) (hS8 : zIm S 8 sn8) (hS21 : zIm S 21 sn21) (hS25 : zIm S 25 sn25) (hS27 : zIm S 27 sn27) (hS28 : zIm S 28 sn28) (hS30 : zIm S 30 sn30) (hS31 : zIm S 31 sn31) (hS39 : zIm S 39 sn39) (hS43 : zIm S 43 sn43) (hS44 : zIm S 44 sn44) (hS45 : zIm S 45 sn45) (hS46 : zIm S 46 sn46) (hS47 : zIm S 47 sn47) {a : List Int} {g : rHp} : ∀ (ρ : Nat → Int) (γ : Nat → rHp), jn49 a g 0 (zAg (zNA a49_ 0) ρ) (γ 1) → zO 23 S a g q49a0_8 ρ γ → zGl (fun i vs g1 => jn49 a g i vs g1) (sn49 a g) q49a0_8 ρ γ := by
  intro ρ γ hJ h
  obtain ⟨ha, hg, hr, hf, hm, hc, hl⟩ := h
  have ha : a = [ρ 0, ρ 1, ρ 2, ρ 3, ρ 4, ρ 5, ρ 6, ρ 7, ρ 8, ρ 9, ρ 10, ρ 11, ρ 12, ρ 13, ρ 14, ρ 15, ρ 16, ρ 17, ρ 18, ρ 19, ρ 20, ρ 21, ρ 22] := ha
  subst ha
  subst hg
  have hJ : jn49 [ρ 0, ρ 1, ρ 2, ρ 3, ρ 4, ρ 5, ρ 6, ρ 7, ρ 8, ρ 9, ρ 10, ρ 11, ρ 12, ρ 13, ρ 14, ρ 15, ρ 16, ρ 17, ρ 18, ρ 19, ρ 20, ρ 21, ρ 22] (γ 0) 0 [ρ 0, ρ 1, ρ 2, ρ 3, ρ 4, ρ 5, ρ 6, ρ 7, ρ 8, ρ 9, ρ 10, ρ 11, ρ 12, ρ 13, ρ 14, ρ 15, ρ 16, ρ 17, ρ 18, ρ 19, ρ 20, ρ 21, ρ 22, ρ 23, ρ 24, ρ 25, ρ 26, ρ 27, ρ 28, ρ 29, ρ 30, ρ 31, ρ 32, ρ 33, ρ 34, ρ 35, ρ 36, ρ 37, ρ 38] (γ 1) := hJ
  have r37 : (2 : Int) ≤ ρ 37 ∧ ρ 37 ≤ 2 := zRnA hr 37
  have r39 : (0 : Int) ≤ ρ 39 ∧ ρ 39 ≤ 19 := zRnA hr 39
  have r41 : (46 : Int) ≤ ρ 41 ∧ ρ 41 ≤ 46 := zRnA hr 41
  have r42 : ((-1) : Int) ≤ ρ 42 ∧ ρ 42 ≤ (-1) := zRnA hr 42
  have f0 : (0 : Int) ≤ -ρ 7 + -ρ 6 + 399 := zAllA hf 0
  have f2 : (0 : Int) ≤ -ρ 40 + ρ 1 + (-1) := zAllA hf 2
  have f8 : (0 : Int) ≤ -ρ 37 + ρ 23 := zAllA hf 8
  obtain ⟨w_0, w_1, w_2, w_3, w_4, w_5, w_6, w_7, w_8⟩ : (ρ 23 ≥ ρ 37) ∧ (ρ 39 ≥ 0) ∧ (0 ≤ -ρ 40 + ρ 1 + (-1)) ∧ (¬ (ρ 41 ≠ 46)) ∧ (ρ 42 < 0) ∧ (ρ 7 + ρ 6 ≠ 400) ∧ (¬ (0 ≥ ρ 37)) ∧ (¬ (1 ≥ ρ 37)) ∧ (2 ≥ ρ 37) := ⟨by omega, by omega, by omega, by omega, by omega, by omega, by omega, by omega, by omega⟩
  have m1 : γ 0 15 0 34 = ρ 1 := zAllA hm 1
  have m4 : γ 0 15 0 32 = ρ 4 := zAllA hm 4
  have m5 : γ 0 15 0 33 = ρ 5 := zAllA hm 5
  have m6 : γ 0 15 0 17 = ρ 6 := zAllA hm 6
  have m7 : γ 0 15 0 18 = ρ 7 := zAllA hm 7
  have m8 : γ 0 15 0 14 = ρ 8 := zAllA hm 8
  have m27 : γ 1 15 0 44 = ρ 28 := zAllA hm 27
  have m28 : γ 1 15 0 49 = ρ 29 := zAllA hm 28
  have m29 : γ 1 15 0 50 = ρ 30 := zAllA hm 29
  have m35 : γ 1 15 0 46 = ρ 35 := zAllA hm 35
  have m36 : γ 1 15 0 47 = ρ 36 := zAllA hm 36
  have m37 : γ 1 15 0 48 = ρ 37 := zAllA hm 37
  have m39 : γ 3 15 0 35 = ρ 40 := zAllA hm 39
  have m41 : γ 1 87 0 0 = ρ 43 := zAllA hm 41
  have m42 : γ 1 87 0 1 = ρ 44 := zAllA hm 42
  have c6 : γ 6 = rUp (γ 5) 15 0 35 (ρ 40 + 1) := And.right (zChA hc 7)
  have c8 : γ 8 = rUp (γ 7) 67 0 (ρ 7 + ρ 6) (ρ 39) := And.right (zChA hc 5)
  have c9 : γ 9 = rUp (γ 8) 68 0 (4 * ρ 7 + 4 * ρ 6) (ρ 43) := And.right (zChA hc 4)
  have c10 : γ 10 = rUp (γ 9) 68 0 (4 * ρ 7 + 4 * ρ 6 + 1) (ρ 44) := And.right (zChA hc 3)
  have c11 : γ 11 = rUp (γ 10) 68 0 (4 * ρ 7 + 4 * ρ 6 + 2) 0 := And.right (zChA hc 2)
  have c12 : γ 12 = rUp (γ 11) 68 0 (4 * ρ 7 + 4 * ρ 6 + 3) 0 := And.right (zChA hc 1)
  have c13 : γ 13 = rUp (γ 12) 15 0 18 (ρ 7 + 1) := And.right (zChA hc 0)
  have l0 : sn21 [ρ 35, ρ 36, ρ 37, ρ 8] (γ 1) 0 (ρ 39) (γ 2) := hS21 _ _ _ _ _ (zAllA hl 0)
  have l1 : sn7 [ρ 24, ρ 1] (γ 2) 0 0 (γ 3) := hS7 _ _ _ _ _ (zAllA hl 1)
  have l2 : sn6 [ρ 40, ρ 1] (γ 3) 0 (ρ 41) (γ 4) := hS6 _ _ _ _ _ (zAllA hl 2)
  have l3 : sn31 [ρ 1, ρ 15, ρ 37] (γ 4) 0 1 (γ 5) := hS31 _ _ _ _ _ (zAllA hl 3)
  have l4 : sn45 [ρ 39, ρ 7 + ρ 6, ρ 37] (γ 6) 0 (ρ 42) (γ 7) := hS45 _ _ _ _ _ (zAllA hl 4)
  show sn49 [ρ 0, ρ 1, ρ 2, ρ 3, ρ 4, ρ 5, ρ 6, ρ 7, ρ 8, ρ 9, ρ 10, ρ 11, ρ 12, ρ 13, ρ 14, ρ 15, ρ 16, ρ 17, ρ 18, ρ 19, ρ 20, ρ 21, ρ 22] (γ 0) 0 1 (γ 13)
  have hD : en49 (γ 0) (0, [ρ 23], γ 1) = .inr (0, 1, γ 13) := by
    unfold en49
    refine zIP (show (0 : Nat) = 0 by decide) (zLV (γ 1) rfl (zLV (ρ 23) rfl (zLE m1 (zLE m4 (zLE m5 (zLE m6 (zLE m7 ?_)))))))
    refine zLE m8 (zLE m27 (zLE m28 (zLE m29 (zLE m35 (zLE m36 (zLE m37 (zIP w_0 ?_)))))))
    refine zLE (show fn21 [ρ 35, ρ 36, ρ 37] (γ 1) = (0, ρ 39, γ 2) from l0.symm) (zLV (γ 2) rfl (zLV (ρ 39) rfl (zIP w_1 (zLE (show fn7 [] (γ 2) = (0, 0, γ 3) from l1.symm) (zLV (γ 3) rfl (zLE m39 (zLE (show fn6 [ρ 40] (γ 3) = (0, ρ 41, γ 4) from l2.symm) ?_)))))))
    refine zLV (γ 4) rfl (zIP w_2 (zLV (ρ 41) rfl (zIN w_3 (zLE (show fn31 [] (γ 4) = (0, 1, γ 5) from l3.symm) (zLV (γ 5) rfl (zIP zQ1_ (zLE c6.symm ?_)))))))
    refine zLE (show fn45 [ρ 39, ρ 7 + ρ 6] (γ 6) = (0, ρ 42, γ 7) from l4.symm) (zLV (γ 7) rfl (zLV (ρ 42) rfl (zIP w_4 (zIP w_5 (zLE c8.symm (zIN w_6 (zLE m41 ?_)))))))
    refine zLE c9.symm (zIN w_7 (zLE m42 (zLE c10.symm (zIP w_8 (zLE c11.symm (zLE c12.symm (zLE c13.symm ?_)))))))
    rfl
  exact zGoo_aend hJ hD
theorem vn49a0_9 {S : Nat → zSpc} (hS6 : zIm S 6 sn6) (hS7 : zIm S 7 sn7) (hS8 : zIm S 8 sn8) (hS21 : zIm S 21 sn21) (hS25 : zIm S 25 sn25) (hS27 : zIm S 27 sn27) (hS28 : zIm S 28 sn28) (hS30 : zIm S 30 sn30) (hS31 : zIm S 31 sn31) (hS39 : zIm S 39 sn39) (hS43 : zIm S 43 sn43) (hS44 : zIm S 44 sn44) (hS45 : zIm S 45 sn45) (hS46 : zIm S 46 sn46) (hS47 : zIm S 47 sn47) {a : List Int} {g : rHp} : ∀ (ρ : Nat → Int) (γ : Nat → rHp), jn49 a g 0 (zAg (zNA a49_ 0) ρ) (γ 1) → zO 23 S a g q49a0_9 ρ γ → zGl (fun i vs g1 => jn49 a g i vs g1) (sn49 a g) q49a0_9 ρ γ := by
  intro ρ γ hJ h
  obtain ⟨ha, hg, hr, hf, hm, hc, hl⟩ := h
  have ha : a = [ρ 0, ρ 1, ρ 2, ρ 3, ρ 4, ρ 5, ρ 6, ρ 7, ρ 8, ρ 9, ρ 10, ρ 11, ρ 12, ρ 13, ρ 14, ρ 15, ρ 16, ρ 17, ρ 18, ρ 19, ρ 20, ρ 21, ρ 22] := ha
  subst ha
  subst hg
  have hJ : jn49 [ρ 0, ρ 1, ρ 2, ρ 3, ρ 4, ρ 5, ρ 6, ρ 7, ρ 8, ρ 9, ρ 10, ρ 11, ρ 12, ρ 13, ρ 14, ρ 15, ρ 16, ρ 17, ρ 18, ρ 19, ρ 20, ρ 21, ρ 22] (γ 0) 0 [ρ 0, ρ 1, ρ 2, ρ 3, ρ 4, ρ 5, ρ 6, ρ 7, ρ 8, ρ 9, ρ 10, ρ 11, ρ 12, ρ 13, ρ 14, ρ 15, ρ 16, ρ 17, ρ 18, ρ 19, ρ 20, ρ 21, ρ 22, ρ 23, ρ 24, ρ 25, ρ 26, ρ 27, ρ 28, ρ 29, ρ 30, ρ 31, ρ 32, ρ 33, ρ 34, ρ 35, ρ 36, ρ 37, ρ 38] (γ 1) := hJ
  have r37 : (3 : Int) ≤ ρ 37 ∧ ρ 37 ≤ 3 := zRnA hr 37
  have r39 : (0 : Int) ≤ ρ 39 ∧ ρ 39 ≤ 19 := zRnA hr 39
  have r41 : (46 : Int) ≤ ρ 41 ∧ ρ 41 ≤ 46 := zRnA hr 41
  have r42 : ((-1) : Int) ≤ ρ 42 ∧ ρ 42 ≤ (-1) := zRnA hr 42
  have f0 : (0 : Int) ≤ -ρ 7 + -ρ 6 + 399 := zAllA hf 0
  have f2 : (0 : Int) ≤ -ρ 40 + ρ 1 + (-1) := zAllA hf 2
  have f8 : (0 : Int) ≤ -ρ 37 + ρ 23 := zAllA hf 8
  obtain ⟨w_0, w_1, w_2, w_3, w_4, w_5, w_6, w_7, w_8, w_9⟩ : (ρ 23 ≥ ρ 37) ∧ (ρ 39 ≥ 0) ∧ (0 ≤ -ρ 40 + ρ 1 + (-1)) ∧ (¬ (ρ 41 ≠ 46)) ∧ (ρ 42 < 0) ∧ (ρ 7 + ρ 6 ≠ 400) ∧ (¬ (0 ≥ ρ 37)) ∧ (¬ (1 ≥ ρ 37)) ∧ (¬ (2 ≥ ρ 37)) ∧ (3 ≥ ρ 37) := ⟨by omega, by omega, by omega, by omega, by omega, by omega, by omega, by omega, by omega, by omega⟩
  have m1 : γ 0 15 0 34 = ρ 1 := zAllA hm 1
  have m4 : γ 0 15 0 32 = ρ 4 := zAllA hm 4
  have m5 : γ 0 15 0 33 = ρ 5 := zAllA hm 5
  have m6 : γ 0 15 0 17 = ρ 6 := zAllA hm 6
  have m7 : γ 0 15 0 18 = ρ 7 := zAllA hm 7
  have m8 : γ 0 15 0 14 = ρ 8 := zAllA hm 8
  have m27 : γ 1 15 0 44 = ρ 28 := zAllA hm 27
  have m28 : γ 1 15 0 49 = ρ 29 := zAllA hm 28
  have m29 : γ 1 15 0 50 = ρ 30 := zAllA hm 29
  have m35 : γ 1 15 0 46 = ρ 35 := zAllA hm 35
  have m36 : γ 1 15 0 47 = ρ 36 := zAllA hm 36
  have m37 : γ 1 15 0 48 = ρ 37 := zAllA hm 37
  have m39 : γ 3 15 0 35 = ρ 40 := zAllA hm 39
  have m41 : γ 1 87 0 0 = ρ 43 := zAllA hm 41
  have m42 : γ 1 87 0 1 = ρ 44 := zAllA hm 42
  have m43 : γ 1 87 0 2 = ρ 45 := zAllA hm 43
  have c6 : γ 6 = rUp (γ 5) 15 0 35 (ρ 40 + 1) := And.right (zChA hc 7)
  have c8 : γ 8 = rUp (γ 7) 67 0 (ρ 7 + ρ 6) (ρ 39) := And.right (zChA hc 5)
  have c9 : γ 9 = rUp (γ 8) 68 0 (4 * ρ 7 + 4 * ρ 6) (ρ 43) := And.right (zChA hc 4)
  have c10 : γ 10 = rUp (γ 9) 68 0 (4 * ρ 7 + 4 * ρ 6 + 1) (ρ 44) := And.right (zChA hc 3)
  have c11 : γ 11 = rUp (γ 10) 68 0 (4 * ρ 7 + 4 * ρ 6 + 2) (ρ 45) := And.right (zChA hc 2)
  have c12 : γ 12 = rUp (γ 11) 68 0 (4 * ρ 7 + 4 * ρ 6 + 3) 0 := And.right (zChA hc 1)
  have c13 : γ 13 = rUp (γ 12) 15 0 18 (ρ 7 + 1) := And.right (zChA hc 0)
  have l0 : sn21 [ρ 35, ρ 36, ρ 37, ρ 8] (γ 1) 0 (ρ 39) (γ 2) := hS21 _ _ _ _ _ (zAllA hl 0)
  have l1 : sn7 [ρ 24, ρ 1] (γ 2) 0 0 (γ 3) := hS7 _ _ _ _ _ (zAllA hl 1)
  have l2 : sn6 [ρ 40, ρ 1] (γ 3) 0 (ρ 41) (γ 4) := hS6 _ _ _ _ _ (zAllA hl 2)
  have l3 : sn31 [ρ 1, ρ 15, ρ 37] (γ 4) 0 1 (γ 5) := hS31 _ _ _ _ _ (zAllA hl 3)
  have l4 : sn45 [ρ 39, ρ 7 + ρ 6, ρ 37] (γ 6) 0 (ρ 42) (γ 7) := hS45 _ _ _ _ _ (zAllA hl 4)
  show sn49 [ρ 0, ρ 1, ρ 2, ρ 3, ρ 4, ρ 5, ρ 6, ρ 7, ρ 8, ρ 9, ρ 10, ρ 11, ρ 12, ρ 13, ρ 14, ρ 15, ρ 16, ρ 17, ρ 18, ρ 19, ρ 20, ρ 21, ρ 22] (γ 0) 0 1 (γ 13)
  have hD : en49 (γ 0) (0, [ρ 23], γ 1) = .inr (0, 1, γ 13) := by
    unfold en49
    refine zIP (show (0 : Nat) = 0 by decide) (zLV (γ 1) rfl (zLV (ρ 23) rfl (zLE m1 (zLE m4 (zLE m5 (zLE m6 (zLE m7 ?_)))))))
    refine zLE m8 (zLE m27 (zLE m28 (zLE m29 (zLE m35 (zLE m36 (zLE m37 (zIP w_0 ?_)))))))
    refine zLE (show fn21 [ρ 35, ρ 36, ρ 37] (γ 1) = (0, ρ 39, γ 2) from l0.symm) (zLV (γ 2) rfl (zLV (ρ 39) rfl (zIP w_1 (zLE (show fn7 [] (γ 2) = (0, 0, γ 3) from l1.symm) (zLV (γ 3) rfl (zLE m39 (zLE (show fn6 [ρ 40] (γ 3) = (0, ρ 41, γ 4) from l2.symm) ?_)))))))
    refine zLV (γ 4) rfl (zIP w_2 (zLV (ρ 41) rfl (zIN w_3 (zLE (show fn31 [] (γ 4) = (0, 1, γ 5) from l3.symm) (zLV (γ 5) rfl (zIP zQ1_ (zLE c6.symm ?_)))))))
    refine zLE (show fn45 [ρ 39, ρ 7 + ρ 6] (γ 6) = (0, ρ 42, γ 7) from l4.symm) (zLV (γ 7) rfl (zLV (ρ 42) rfl (zIP w_4 (zIP w_5 (zLE c8.symm (zIN w_6 (zLE m41 ?_)))))))
    refine zLE c9.symm (zIN w_7 (zLE m42 (zLE c10.symm (zIN w_8 (zLE m43 (zLE c11.symm (zIP w_9 ?_)))))))
    refine zLE c12.symm (zLE c13.symm ?_)
    rfl
  exact zGoo_aend hJ hD
theorem vn49a0_10 {S : Nat → zSpc} (hS6 : zIm S 6 sn6) (hS7 : zIm S 7 sn7) (hS8 : zIm S 8 sn8) (hS21 : zIm S 21 sn21) (hS25 : zIm S 25 sn25) (hS27 : zIm S 27 sn27) (hS28 : zIm S 28 sn28) (hS30 : zIm S 30 sn30) (hS31 : zIm S 31 sn31) (hS39 : zIm S 39 sn39) (hS43 : zIm S 43 sn43) (hS44 : zIm S 44 sn44) (hS45 : zIm S 45 sn45) (hS46 : zIm S 46 sn46) (hS47 : zIm S 47 sn47) {a : List Int} {g : rHp} : ∀ (ρ : Nat → Int) (γ : Nat → rHp), jn49 a g 0 (zAg (zNA a49_ 0) ρ) (γ 1) → zO 23 S a g q49a0_10 ρ γ → zGl (fun i vs g1 => jn49 a g i vs g1) (sn49 a g) q49a0_10 ρ γ := by
  intro ρ γ hJ h
  obtain ⟨ha, hg, hr, hf, hm, hc, hl⟩ := h
  have ha : a = [ρ 0, ρ 1, ρ 2, ρ 3, ρ 4, ρ 5, ρ 6, ρ 7, ρ 8, ρ 9, ρ 10, ρ 11, ρ 12, ρ 13, ρ 14, ρ 15, ρ 16, ρ 17, ρ 18, ρ 19, ρ 20, ρ 21, ρ 22] := ha
  subst ha
  subst hg
  have hJ : jn49 [ρ 0, ρ 1, ρ 2, ρ 3, ρ 4, ρ 5, ρ 6, ρ 7, ρ 8, ρ 9, ρ 10, ρ 11, ρ 12, ρ 13, ρ 14, ρ 15, ρ 16, ρ 17, ρ 18, ρ 19, ρ 20, ρ 21, ρ 22] (γ 0) 0 [ρ 0, ρ 1, ρ 2, ρ 3, ρ 4, ρ 5, ρ 6, ρ 7, ρ 8, ρ 9, ρ 10, ρ 11, ρ 12, ρ 13, ρ 14, ρ 15, ρ 16, ρ 17, ρ 18, ρ 19, ρ 20, ρ 21, ρ 22, ρ 23, ρ 24, ρ 25, ρ 26, ρ 27, ρ 28, ρ 29, ρ 30, ρ 31, ρ 32, ρ 33, ρ 34, ρ 35, ρ 36, ρ 37, ρ 38] (γ 1) := hJ
  have r37 : (4 : Int) ≤ ρ 37 ∧ ρ 37 ≤ 4 := zRnA hr 37
  have r39 : (0 : Int) ≤ ρ 39 ∧ ρ 39 ≤ 19 := zRnA hr 39
  have r41 : (46 : Int) ≤ ρ 41 ∧ ρ 41 ≤ 46 := zRnA hr 41
  have r42 : ((-1) : Int) ≤ ρ 42 ∧ ρ 42 ≤ (-1) := zRnA hr 42
  have f0 : (0 : Int) ≤ -ρ 7 + -ρ 6 + 399 := zAllA hf 0
  have f2 : (0 : Int) ≤ -ρ 40 + ρ 1 + (-1) := zAllA hf 2
  have f8 : (0 : Int) ≤ -ρ 37 + ρ 23 := zAllA hf 8
  obtain ⟨w_0, w_1, w_2, w_3, w_4, w_5, w_6, w_7, w_8, w_9⟩ : (ρ 23 ≥ ρ 37) ∧ (ρ 39 ≥ 0) ∧ (0 ≤ -ρ 40 + ρ 1 + (-1)) ∧ (¬ (ρ 41 ≠ 46)) ∧ (ρ 42 < 0) ∧ (ρ 7 + ρ 6 ≠ 400) ∧ (¬ (0 ≥ ρ 37)) ∧ (¬ (1 ≥ ρ 37)) ∧ (¬ (2 ≥ ρ 37)) ∧ (¬ (3 ≥ ρ 37)) := ⟨by omega, by omega, by omega, by omega, by omega, by omega, by omega, by omega, by omega, by omega⟩
  have m1 : γ 0 15 0 34 = ρ 1 := zAllA hm 1
  have m4 : γ 0 15 0 32 = ρ 4 := zAllA hm 4
  have m5 : γ 0 15 0 33 = ρ 5 := zAllA hm 5
  have m6 : γ 0 15 0 17 = ρ 6 := zAllA hm 6
  have m7 : γ 0 15 0 18 = ρ 7 := zAllA hm 7
  have m8 : γ 0 15 0 14 = ρ 8 := zAllA hm 8
  have m27 : γ 1 15 0 44 = ρ 28 := zAllA hm 27
  have m28 : γ 1 15 0 49 = ρ 29 := zAllA hm 28
  have m29 : γ 1 15 0 50 = ρ 30 := zAllA hm 29
  have m35 : γ 1 15 0 46 = ρ 35 := zAllA hm 35
  have m36 : γ 1 15 0 47 = ρ 36 := zAllA hm 36
  have m37 : γ 1 15 0 48 = ρ 37 := zAllA hm 37
  have m39 : γ 3 15 0 35 = ρ 40 := zAllA hm 39
  have m41 : γ 1 87 0 0 = ρ 43 := zAllA hm 41
  have m42 : γ 1 87 0 1 = ρ 44 := zAllA hm 42
  have m43 : γ 1 87 0 2 = ρ 45 := zAllA hm 43
  have m44 : γ 1 87 0 3 = ρ 46 := zAllA hm 44
  have c6 : γ 6 = rUp (γ 5) 15 0 35 (ρ 40 + 1) := And.right (zChA hc 7)
  have c8 : γ 8 = rUp (γ 7) 67 0 (ρ 7 + ρ 6) (ρ 39) := And.right (zChA hc 5)
  have c9 : γ 9 = rUp (γ 8) 68 0 (4 * ρ 7 + 4 * ρ 6) (ρ 43) := And.right (zChA hc 4)
  have c10 : γ 10 = rUp (γ 9) 68 0 (4 * ρ 7 + 4 * ρ 6 + 1) (ρ 44) := And.right (zChA hc 3)
  have c11 : γ 11 = rUp (γ 10) 68 0 (4 * ρ 7 + 4 * ρ 6 + 2) (ρ 45) := And.right (zChA hc 2)
  have c12 : γ 12 = rUp (γ 11) 68 0 (4 * ρ 7 + 4 * ρ 6 + 3) (ρ 46) := And.right (zChA hc 1)
  have c13 : γ 13 = rUp (γ 12) 15 0 18 (ρ 7 + 1) := And.right (zChA hc 0)
  have l0 : sn21 [ρ 35, ρ 36, ρ 37, ρ 8] (γ 1) 0 (ρ 39) (γ 2) := hS21 _ _ _ _ _ (zAllA hl 0)
  have l1 : sn7 [ρ 24, ρ 1] (γ 2) 0 0 (γ 3) := hS7 _ _ _ _ _ (zAllA hl 1)
  have l2 : sn6 [ρ 40, ρ 1] (γ 3) 0 (ρ 41) (γ 4) := hS6 _ _ _ _ _ (zAllA hl 2)
  have l3 : sn31 [ρ 1, ρ 15, ρ 37] (γ 4) 0 1 (γ 5) := hS31 _ _ _ _ _ (zAllA hl 3)
  have l4 : sn45 [ρ 39, ρ 7 + ρ 6, ρ 37] (γ 6) 0 (ρ 42) (γ 7) := hS45 _ _ _ _ _ (zAllA hl 4)
  show sn49 [ρ 0, ρ 1, ρ 2, ρ 3, ρ 4, ρ 5, ρ 6, ρ 7, ρ 8, ρ 9, ρ 10, ρ 11, ρ 12, ρ 13, ρ 14, ρ 15, ρ 16, ρ 17, ρ 18, ρ 19, ρ 20, ρ 21, ρ 22] (γ 0) 0 1 (γ 13)
  have hD : en49 (γ 0) (0, [ρ 23], γ 1) = .inr (0, 1, γ 13) := by
    unfold en49
    refine zIP (show (0 : Nat) = 0 by decide) (zLV (γ 1) rfl (zLV (ρ 23) rfl (zLE m1 (zLE m4 (zLE m5 (zLE m6 (zLE m7 ?_)))))))
    refine zLE m8 (zLE m27 (zLE m28 (zLE m29 (zLE m35 (zLE m36 (zLE m37 (zIP w_0 ?_)))))))
    refine zLE (show fn21 [ρ 35, ρ 36, ρ 37] (γ 1) = (0, ρ 39, γ 2) from l0.symm) (zLV (γ 2) rfl (zLV (ρ 39) rfl (zIP w_1 (zLE (show fn7 [] (γ 2) = (0, 0, γ 3) from l1.symm) (zLV (γ 3) rfl (zLE m39 (zLE (show fn6 [ρ 40] (γ 3) = (0, ρ 41, γ 4) from l2.symm) ?_)))))))
    refine zLV (γ 4) rfl (zIP w_2 (zLV (ρ 41) rfl (zIN w_3 (zLE (show fn31 [] (γ 4) = (0, 1, γ 5) from l3.symm) (zLV (γ 5) rfl (zIP zQ1_ (zLE c6.symm ?_)))))))
    refine zLE (show fn45 [ρ 39, ρ 7 + ρ 6] (γ 6) = (0, ρ 42, γ 7) from l4.symm) (zLV (γ 7) rfl (zLV (ρ 42) rfl (zIP w_4 (zIP w_5 (zLE c8.symm (zIN w_6 (zLE m41 ?_)))))))
    refine zLE c9.symm (zIN w_7 (zLE m42 (zLE c10.symm (zIN w_8 (zLE m43 (zLE c11.symm (zIN w_9 ?_)))))))
    refine zLE m44 (zLE c12.symm (zLE c13.symm ?_))
    rfl
  exact zGoo_aend hJ hD
theorem vn49a0_11 {S : Nat → zSpc} (hS6 : zIm S 6 sn6) (hS7 : zIm S 7 sn7) (hS8 : zIm S 8 sn8) (hS21 : zIm S 21 sn21) (hS25 : zIm S 25 sn25) (hS27 : zIm S 27 sn27) (hS28 : zIm S 28 sn28) (hS30 : zIm S 30 sn30) (hS31 : zIm S 31 sn31) (hS39 : zIm S 39 sn39) (hS43 : zIm S 43 sn43) (hS44 : zIm S 44 sn44) (hS45 : zIm S 45 sn45) (hS46 : zIm S 46 sn46) (hS47 : zIm S 47 sn47) {a : List Int} {g : rHp} : ∀ (ρ : Nat → Int) (γ : Nat → rHp), jn49 a g 0 (zAg (zNA a49_ 0) ρ) (γ 1) → zO 23 S a g q49a0_11 ρ γ → zGl (fun i vs g1 => jn49 a g i vs g1) (sn49 a g) q49a0_11 ρ γ := by
  intro ρ γ hJ h
  obtain ⟨ha, hg, hr, hf, hm, hc, hl⟩ := h
  have ha : a = [ρ 0, ρ 1, ρ 2, ρ 3, ρ 4, ρ 5, ρ 6, ρ 7, ρ 8, ρ 9, ρ 10, ρ 11, ρ 12, ρ 13, ρ 14, ρ 15, ρ 16, ρ 17, ρ 18, ρ 19, ρ 20, ρ 21, ρ 22] := ha
  subst ha
  subst hg
  have hJ : jn49 [ρ 0, ρ 1, ρ 2, ρ 3, ρ 4, ρ 5, ρ 6, ρ 7, ρ 8, ρ 9, ρ 10, ρ 11, ρ 12, ρ 13, ρ 14, ρ 15, ρ 16, ρ 17, ρ 18, ρ 19, ρ 20, ρ 21, ρ 22] (γ 0) 0 [ρ 0, ρ 1, ρ 2, ρ 3, ρ 4, ρ 5, ρ 6, ρ 7, ρ 8, ρ 9, ρ 10, ρ 11, ρ 12, ρ 13, ρ 14, ρ 15, ρ 16, ρ 17, ρ 18, ρ 19, ρ 20, ρ 21, ρ 22, ρ 23, ρ 24, ρ 25, ρ 26, ρ 27, ρ 28, ρ 29, ρ 30, ρ 31, ρ 32, ρ 33, ρ 34, ρ 35, ρ 36, ρ 37, ρ 38] (γ 1) := hJ
  have r39 : (0 : Int) ≤ ρ 39 ∧ ρ 39 ≤ 19 := zRnA hr 39
  have r41 : (46 : Int) ≤ ρ 41 ∧ ρ 41 ≤ 46 := zRnA hr 41
  have r42 : ((-1) : Int) ≤ ρ 42 ∧ ρ 42 ≤ (-1) := zRnA hr 42
  have f2 : (0 : Int) ≤ -ρ 7 + -ρ 6 + 400 := zAllA hf 2
  have f3 : (0 : Int) ≤ ρ 7 + ρ 6 + (-400) := zAllA hf 3
  have f5 : (0 : Int) ≤ -ρ 40 + ρ 1 + (-1) := zAllA hf 5
  have f11 : (0 : Int) ≤ -ρ 37 + ρ 23 := zAllA hf 11
  obtain ⟨w_0, w_1, w_2, w_3, w_4, w_5⟩ : (ρ 23 ≥ ρ 37) ∧ (ρ 39 ≥ 0) ∧ (0 ≤ -ρ 40 + ρ 1 + (-1)) ∧ (¬ (ρ 41 ≠ 46)) ∧ (ρ 42 < 0) ∧ (¬ (ρ 7 + ρ 6 ≠ 400)) := ⟨by omega, by omega, by omega, by omega, by omega, by omega⟩
  have m1 : γ 0 15 0 34 = ρ 1 := zAllA hm 1
  have m4 : γ 0 15 0 32 = ρ 4 := zAllA hm 4
  have m5 : γ 0 15 0 33 = ρ 5 := zAllA hm 5
  have m6 : γ 0 15 0 17 = ρ 6 := zAllA hm 6
  have m7 : γ 0 15 0 18 = ρ 7 := zAllA hm 7
  have m8 : γ 0 15 0 14 = ρ 8 := zAllA hm 8
  have m27 : γ 1 15 0 44 = ρ 28 := zAllA hm 27
  have m28 : γ 1 15 0 49 = ρ 29 := zAllA hm 28
  have m29 : γ 1 15 0 50 = ρ 30 := zAllA hm 29
  have m35 : γ 1 15 0 46 = ρ 35 := zAllA hm 35
  have m36 : γ 1 15 0 47 = ρ 36 := zAllA hm 36
  have m37 : γ 1 15 0 48 = ρ 37 := zAllA hm 37
  have m39 : γ 3 15 0 35 = ρ 40 := zAllA hm 39
  have c6 : γ 6 = rUp (γ 5) 15 0 35 (ρ 40 + 1) := And.right (zChA hc 2)
  have l0 : sn21 [ρ 35, ρ 36, ρ 37, ρ 8] (γ 1) 0 (ρ 39) (γ 2) := hS21 _ _ _ _ _ (zAllA hl 0)
  have l1 : sn7 [ρ 24, ρ 1] (γ 2) 0 0 (γ 3) := hS7 _ _ _ _ _ (zAllA hl 1)
  have l2 : sn6 [ρ 40, ρ 1] (γ 3) 0 (ρ 41) (γ 4) := hS6 _ _ _ _ _ (zAllA hl 2)
  have l3 : sn31 [ρ 1, ρ 15, ρ 37] (γ 4) 0 1 (γ 5) := hS31 _ _ _ _ _ (zAllA hl 3)
  have l4 : sn45 [ρ 39, ρ 7 + ρ 6, ρ 37] (γ 6) 0 (ρ 42) (γ 7) := hS45 _ _ _ _ _ (zAllA hl 4)
  have l5 : sn8 [ρ 35, ρ 1, ρ 15] (γ 7) 0 0 (γ 8) := hS8 _ _ _ _ _ (zAllA hl 5)
  show sn49 [ρ 0, ρ 1, ρ 2, ρ 3, ρ 4, ρ 5, ρ 6, ρ 7, ρ 8, ρ 9, ρ 10, ρ 11, ρ 12, ρ 13, ρ 14, ρ 15, ρ 16, ρ 17, ρ 18, ρ 19, ρ 20, ρ 21, ρ 22] (γ 0) 0 0 (γ 8)
  have hD : en49 (γ 0) (0, [ρ 23], γ 1) = .inr (0, 0, γ 8) := by
    unfold en49
    refine zIP (show (0 : Nat) = 0 by decide) (zLV (γ 1) rfl (zLV (ρ 23) rfl (zLE m1 (zLE m4 (zLE m5 (zLE m6 (zLE m7 ?_)))))))
    refine zLE m8 (zLE m27 (zLE m28 (zLE m29 (zLE m35 (zLE m36 (zLE m37 (zIP w_0 ?_)))))))
    refine zLE (show fn21 [ρ 35, ρ 36, ρ 37] (γ 1) = (0, ρ 39, γ 2) from l0.symm) (zLV (γ 2) rfl (zLV (ρ 39) rfl (zIP w_1 (zLE (show fn7 [] (γ 2) = (0, 0, γ 3) from l1.symm) (zLV (γ 3) rfl (zLE m39 (zLE (show fn6 [ρ 40] (γ 3) = (0, ρ 41, γ 4) from l2.symm) ?_)))))))
    refine zLV (γ 4) rfl (zIP w_2 (zLV (ρ 41) rfl (zIN w_3 (zLE (show fn31 [] (γ 4) = (0, 1, γ 5) from l3.symm) (zLV (γ 5) rfl (zIP zQ1_ (zLE c6.symm ?_)))))))
    refine zLE (show fn45 [ρ 39, ρ 7 + ρ 6] (γ 6) = (0, ρ 42, γ 7) from l4.symm) (zLV (γ 7) rfl (zLV (ρ 42) rfl (zIP w_4 (zIN w_5 (zLE (show fn8 [ρ 35] (γ 7) = (0, 0, γ 8) from l5.symm) (zLV (γ 8) rfl ?_))))))
    rfl
  exact zGoo_aend hJ hD
theorem vn49a0_12 {S : Nat → zSpc} (hS6 : zIm S 6 sn6) (hS7 : zIm S 7 sn7) (hS8 : zIm S 8 sn8) (hS21 : zIm S 21 sn21) (hS25 : zIm S 25 sn25) (hS27 : zIm S 27 sn27) (hS28 : zIm S 28 sn28) (hS30 : zIm S 30 sn30) (hS31 : zIm S 31 sn31) (hS39 : zIm S 39 sn39) (hS43 : zIm S 43 sn43) (hS44 : zIm S 44 sn44) (hS45 : zIm S 45 sn45) (hS46 : zIm S 46 sn46) (hS47 : zIm S 47 sn47) {a : List Int} {g : rHp} : ∀ (ρ : Nat → Int) (γ : Nat → rHp), jn49 a g 0 (zAg (zNA a49_ 0) ρ) (γ 1) → zO 23 S a g q49a0_12 ρ γ → zGl (fun i vs g1 => jn49 a g i vs g1) (sn49 a g) q49a0_12 ρ γ := by
  intro ρ γ hJ h
  obtain ⟨ha, hg, hr, hf, hm, hc, hl⟩ := h
  have ha : a = [ρ 0, ρ 1, ρ 2, ρ 3, ρ 4, ρ 5, ρ 6, ρ 7, ρ 8, ρ 9, ρ 10, ρ 11, ρ 12, ρ 13, ρ 14, ρ 15, ρ 16, ρ 17, ρ 18, ρ 19, ρ 20, ρ 21, ρ 22] := ha
  subst ha
  subst hg
  have hJ : jn49 [ρ 0, ρ 1, ρ 2, ρ 3, ρ 4, ρ 5, ρ 6, ρ 7, ρ 8, ρ 9, ρ 10, ρ 11, ρ 12, ρ 13, ρ 14, ρ 15, ρ 16, ρ 17, ρ 18, ρ 19, ρ 20, ρ 21, ρ 22] (γ 0) 0 [ρ 0, ρ 1, ρ 2, ρ 3, ρ 4, ρ 5, ρ 6, ρ 7, ρ 8, ρ 9, ρ 10, ρ 11, ρ 12, ρ 13, ρ 14, ρ 15, ρ 16, ρ 17, ρ 18, ρ 19, ρ 20, ρ 21, ρ 22, ρ 23, ρ 24, ρ 25, ρ 26, ρ 27, ρ 28, ρ 29, ρ 30, ρ 31, ρ 32, ρ 33, ρ 34, ρ 35, ρ 36, ρ 37, ρ 38] (γ 1) := hJ
  have r39 : (0 : Int) ≤ ρ 39 ∧ ρ 39 ≤ 19 := zRnA hr 39
  have r41 : (46 : Int) ≤ ρ 41 ∧ ρ 41 ≤ 46 := zRnA hr 41
  have r42 : (0 : Int) ≤ ρ 42 ∧ ρ 42 ≤ 399 := zRnA hr 42
  have f1 : (0 : Int) ≤ -ρ 40 + ρ 1 + (-1) := zAllA hf 1
  have f7 : (0 : Int) ≤ -ρ 37 + ρ 23 := zAllA hf 7
  obtain ⟨w_0, w_1, w_2, w_3, w_4⟩ : (ρ 23 ≥ ρ 37) ∧ (ρ 39 ≥ 0) ∧ (0 ≤ -ρ 40 + ρ 1 + (-1)) ∧ (¬ (ρ 41 ≠ 46)) ∧ (¬ (ρ 42 < 0)) := ⟨by omega, by omega, by omega, by omega, by omega⟩
  have m1 : γ 0 15 0 34 = ρ 1 := zAllA hm 1
  have m4 : γ 0 15 0 32 = ρ 4 := zAllA hm 4
  have m5 : γ 0 15 0 33 = ρ 5 := zAllA hm 5
  have m6 : γ 0 15 0 17 = ρ 6 := zAllA hm 6
  have m7 : γ 0 15 0 18 = ρ 7 := zAllA hm 7
  have m8 : γ 0 15 0 14 = ρ 8 := zAllA hm 8
  have m27 : γ 1 15 0 44 = ρ 28 := zAllA hm 27
  have m28 : γ 1 15 0 49 = ρ 29 := zAllA hm 28
  have m29 : γ 1 15 0 50 = ρ 30 := zAllA hm 29
  have m35 : γ 1 15 0 46 = ρ 35 := zAllA hm 35
  have m36 : γ 1 15 0 47 = ρ 36 := zAllA hm 36
  have m37 : γ 1 15 0 48 = ρ 37 := zAllA hm 37
  have m39 : γ 3 15 0 35 = ρ 40 := zAllA hm 39
  have c6 : γ 6 = rUp (γ 5) 15 0 35 (ρ 40 + 1) := And.right (zChA hc 1)
  have l0 : sn21 [ρ 35, ρ 36, ρ 37, ρ 8] (γ 1) 0 (ρ 39) (γ 2) := hS21 _ _ _ _ _ (zAllA hl 0)
  have l1 : sn7 [ρ 24, ρ 1] (γ 2) 0 0 (γ 3) := hS7 _ _ _ _ _ (zAllA hl 1)
  have l2 : sn6 [ρ 40, ρ 1] (γ 3) 0 (ρ 41) (γ 4) := hS6 _ _ _ _ _ (zAllA hl 2)
  have l3 : sn31 [ρ 1, ρ 15, ρ 37] (γ 4) 0 1 (γ 5) := hS31 _ _ _ _ _ (zAllA hl 3)
  have l4 : sn45 [ρ 39, ρ 7 + ρ 6, ρ 37] (γ 6) 0 (ρ 42) (γ 7) := hS45 _ _ _ _ _ (zAllA hl 4)
  show sn49 [ρ 0, ρ 1, ρ 2, ρ 3, ρ 4, ρ 5, ρ 6, ρ 7, ρ 8, ρ 9, ρ 10, ρ 11, ρ 12, ρ 13, ρ 14, ρ 15, ρ 16, ρ 17, ρ 18, ρ 19, ρ 20, ρ 21, ρ 22] (γ 0) 0 1 (γ 7)
  have hD : en49 (γ 0) (0, [ρ 23], γ 1) = .inr (0, 1, γ 7) := by
    unfold en49
    refine zIP (show (0 : Nat) = 0 by decide) (zLV (γ 1) rfl (zLV (ρ 23) rfl (zLE m1 (zLE m4 (zLE m5 (zLE m6 (zLE m7 ?_)))))))
    refine zLE m8 (zLE m27 (zLE m28 (zLE m29 (zLE m35 (zLE m36 (zLE m37 (zIP w_0 ?_)))))))
    refine zLE (show fn21 [ρ 35, ρ 36, ρ 37] (γ 1) = (0, ρ 39, γ 2) from l0.symm) (zLV (γ 2) rfl (zLV (ρ 39) rfl (zIP w_1 (zLE (show fn7 [] (γ 2) = (0, 0, γ 3) from l1.symm) (zLV (γ 3) rfl (zLE m39 (zLE (show fn6 [ρ 40] (γ 3) = (0, ρ 41, γ 4) from l2.symm) ?_)))))))
    refine zLV (γ 4) rfl (zIP w_2 (zLV (ρ 41) rfl (zIN w_3 (zLE (show fn31 [] (γ 4) = (0, 1, γ 5) from l3.symm) (zLV (γ 5) rfl (zIP zQ1_ (zLE c6.symm ?_)))))))
    refine zLE (show fn45 [ρ 39, ρ 7 + ρ 6] (γ 6) = (0, ρ 42, γ 7) from l4.symm) (zLV (γ 7) rfl (zLV (ρ 42) rfl (zIN w_4 ?_)))
    rfl
  exact zGoo_aend hJ hD
theorem vn49a0_13 {S : Nat → zSpc} (hS6 : zIm S 6 sn6) (hS7 : zIm S 7 sn7) (hS8 : zIm S 8 sn8) (hS21 : zIm S 21 sn21) (hS25 : zIm S 25 sn25) (hS27 : zIm S 27 sn27) (hS28 : zIm S 28 sn28) (hS30 : zIm S 30 sn30) (hS31 : zIm S 31 sn31) (hS39 : zIm S 39 sn39) (hS43 : zIm S 43 sn43) (hS44 : zIm S 44 sn44) (hS45 : zIm S 45 sn45) (hS46 : zIm S 46 sn46) (hS47 : zIm S 47 sn47) {a : List Int} {g : rHp} : ∀ (ρ : Nat → Int) (γ : Nat → rHp), jn49 a g 0 (zAg (zNA a49_ 0) ρ) (γ 1) → zO 23 S a g q49a0_13 ρ γ → zGl (fun i vs g1 => jn49 a g i vs g1) (sn49 a g) q49a0_13 ρ γ := by
  intro ρ γ hJ h
  obtain ⟨ha, hg, hr, hf, hm, hc, hl⟩ := h
  have ha : a = [ρ 0, ρ 1, ρ 2, ρ 3, ρ 4, ρ 5, ρ 6, ρ 7, ρ 8, ρ 9, ρ 10, ρ 11, ρ 12, ρ 13, ρ 14, ρ 15, ρ 16, ρ 17, ρ 18, ρ 19, ρ 20, ρ 21, ρ 22] := ha
  subst ha
  subst hg
  have hJ : jn49 [ρ 0, ρ 1, ρ 2, ρ 3, ρ 4, ρ 5, ρ 6, ρ 7, ρ 8, ρ 9, ρ 10, ρ 11, ρ 12, ρ 13, ρ 14, ρ 15, ρ 16, ρ 17, ρ 18, ρ 19, ρ 20, ρ 21, ρ 22] (γ 0) 0 [ρ 0, ρ 1, ρ 2, ρ 3, ρ 4, ρ 5, ρ 6, ρ 7, ρ 8, ρ 9, ρ 10, ρ 11, ρ 12, ρ 13, ρ 14, ρ 15, ρ 16, ρ 17, ρ 18, ρ 19, ρ 20, ρ 21, ρ 22, ρ 23, ρ 24, ρ 25, ρ 26, ρ 27, ρ 28, ρ 29, ρ 30, ρ 31, ρ 32, ρ 33, ρ 34, ρ 35, ρ 36, ρ 37, ρ 38] (γ 1) := hJ
  have r39 : (0 : Int) ≤ ρ 39 ∧ ρ 39 ≤ 19 := zRnA hr 39
  have f2 : (0 : Int) ≤ ρ 40 + -ρ 1 := zAllA hf 2
  have f8 : (0 : Int) ≤ -ρ 37 + ρ 23 := zAllA hf 8
  obtain ⟨w_0, w_1, w_2⟩ : (ρ 23 ≥ ρ 37) ∧ (ρ 39 ≥ 0) ∧ (¬ (0 ≤ -ρ 40 + ρ 1 + (-1))) := ⟨by omega, by omega, by omega⟩
  have m1 : γ 0 15 0 34 = ρ 1 := zAllA hm 1
  have m4 : γ 0 15 0 32 = ρ 4 := zAllA hm 4
  have m5 : γ 0 15 0 33 = ρ 5 := zAllA hm 5
  have m6 : γ 0 15 0 17 = ρ 6 := zAllA hm 6
  have m7 : γ 0 15 0 18 = ρ 7 := zAllA hm 7
  have m8 : γ 0 15 0 14 = ρ 8 := zAllA hm 8
  have m27 : γ 1 15 0 44 = ρ 28 := zAllA hm 27
  have m28 : γ 1 15 0 49 = ρ 29 := zAllA hm 28
  have m29 : γ 1 15 0 50 = ρ 30 := zAllA hm 29
  have m35 : γ 1 15 0 46 = ρ 35 := zAllA hm 35
  have m36 : γ 1 15 0 47 = ρ 36 := zAllA hm 36
  have m37 : γ 1 15 0 48 = ρ 37 := zAllA hm 37
  have m39 : γ 3 15 0 35 = ρ 40 := zAllA hm 39
  have l0 : sn21 [ρ 35, ρ 36, ρ 37, ρ 8] (γ 1) 0 (ρ 39) (γ 2) := hS21 _ _ _ _ _ (zAllA hl 0)
  have l1 : sn7 [ρ 24, ρ 1] (γ 2) 0 0 (γ 3) := hS7 _ _ _ _ _ (zAllA hl 1)
  have l2 : sn6 [ρ 40, ρ 1] (γ 3) 0 (-1) (γ 4) := hS6 _ _ _ _ _ (zAllA hl 2)
  have l3 : sn6 [ρ 40, ρ 1] (γ 4) 0 (-1) (γ 5) := hS6 _ _ _ _ _ (zAllA hl 3)
  have l4 : sn8 [ρ 40, ρ 1, ρ 15] (γ 5) 0 0 (γ 6) := hS8 _ _ _ _ _ (zAllA hl 4)
  show sn49 [ρ 0, ρ 1, ρ 2, ρ 3, ρ 4, ρ 5, ρ 6, ρ 7, ρ 8, ρ 9, ρ 10, ρ 11, ρ 12, ρ 13, ρ 14, ρ 15, ρ 16, ρ 17, ρ 18, ρ 19, ρ 20, ρ 21, ρ 22] (γ 0) 0 0 (γ 6)
  have hD : en49 (γ 0) (0, [ρ 23], γ 1) = .inr (0, 0, γ 6) := by
    unfold en49
    refine zIP (show (0 : Nat) = 0 by decide) (zLV (γ 1) rfl (zLV (ρ 23) rfl (zLE m1 (zLE m4 (zLE m5 (zLE m6 (zLE m7 ?_)))))))
    refine zLE m8 (zLE m27 (zLE m28 (zLE m29 (zLE m35 (zLE m36 (zLE m37 (zIP w_0 ?_)))))))
    refine zLE (show fn21 [ρ 35, ρ 36, ρ 37] (γ 1) = (0, ρ 39, γ 2) from l0.symm) (zLV (γ 2) rfl (zLV (ρ 39) rfl (zIP w_1 (zLE (show fn7 [] (γ 2) = (0, 0, γ 3) from l1.symm) (zLV (γ 3) rfl (zLE m39 (zLE (show fn6 [ρ 40] (γ 3) = (0, (-1), γ 4) from l2.symm) ?_)))))))
    refine zLV (γ 4) rfl (zIN w_2 (zLE (show fn6 [ρ 40] (γ 4) = (0, (-1), γ 5) from l3.symm) (zLV (γ 5) rfl (zLE (show fn8 [ρ 40] (γ 5) = (0, 0, γ 6) from l4.symm) (zLV (γ 6) rfl ?_)))))
    rfl
  exact zGoo_aend hJ hD
theorem vn49a0_14 {S : Nat → zSpc} (hS6 : zIm S 6 sn6) (hS7 : zIm S 7 sn7) (hS8 : zIm S 8 sn8) (hS21 : zIm S 21 sn21) (hS25 : zIm S 25 sn25) (hS27 : zIm S 27 sn27) (hS28 : zIm S 28 sn28) (hS30 : zIm S 30 sn30) (hS31 : zIm S 31 sn31) (hS39 : zIm S 39 sn39) (hS43 : zIm S 43 sn43) (hS44 : zIm S 44 sn44) (hS45 : zIm S 45 sn45) (hS46 : zIm S 46 sn46) (hS47 : zIm S 47 sn47) {a : List Int} {g : rHp} : ∀ (ρ : Nat → Int) (γ : Nat → rHp), jn49 a g 0 (zAg (zNA a49_ 0) ρ) (γ 1) → zO 23 S a g q49a0_14 ρ γ → zGl (fun i vs g1 => jn49 a g i vs g1) (sn49 a g) q49a0_14 ρ γ := by
  intro ρ γ hJ h
  obtain ⟨ha, hg, hr, hf, hm, hc, hl⟩ := h
  have ha : a = [ρ 0, ρ 1, ρ 2, ρ 3, ρ 4, ρ 5, ρ 6, ρ 7, ρ 8, ρ 9, ρ 10, ρ 11, ρ 12, ρ 13, ρ 14, ρ 15, ρ 16, ρ 17, ρ 18, ρ 19, ρ 20, ρ 21, ρ 22] := ha
  subst ha
  subst hg
  have hJ : jn49 [ρ 0, ρ 1, ρ 2, ρ 3, ρ 4, ρ 5, ρ 6, ρ 7, ρ 8, ρ 9, ρ 10, ρ 11, ρ 12, ρ 13, ρ 14, ρ 15, ρ 16, ρ 17, ρ 18, ρ 19, ρ 20, ρ 21, ρ 22] (γ 0) 0 [ρ 0, ρ 1, ρ 2, ρ 3, ρ 4, ρ 5, ρ 6, ρ 7, ρ 8, ρ 9, ρ 10, ρ 11, ρ 12, ρ 13, ρ 14, ρ 15, ρ 16, ρ 17, ρ 18, ρ 19, ρ 20, ρ 21, ρ 22, ρ 23, ρ 24, ρ 25, ρ 26, ρ 27, ρ 28, ρ 29, ρ 30, ρ 31, ρ 32, ρ 33, ρ 34, ρ 35, ρ 36, ρ 37, ρ 38] (γ 1) := hJ
  have r8 : (0 : Int) ≤ ρ 8 ∧ ρ 8 ≤ 19 := zRnA hr 8
  have r39 : ((-1) : Int) ≤ ρ 39 ∧ ρ 39 ≤ (-1) := zRnA hr 39
  have r41 : ((-128) : Int) ≤ ρ 41 ∧ ρ 41 ≤ 127 := zRnA hr 41
  have r42 : (58 : Int) ≤ ρ 42 ∧ ρ 42 ≤ 58 := zRnA hr 42
  have r43 : (45 : Int) ≤ ρ 43 ∧ ρ 43 ≤ 45 := zRnA hr 43
  have f0 : (0 : Int) ≤ -ρ 5 + -ρ 4 + 59 := zAllA hf 0
  have f1 : (0 : Int) ≤ -ρ 40 + ρ 1 + (-2) := zAllA hf 1
  have f8 : (0 : Int) ≤ -ρ 37 + ρ 23 := zAllA hf 8
  obtain ⟨w_0, w_1, w_2, w_3, w_4, w_5, w_6, w_7⟩ : (ρ 23 ≥ ρ 37) ∧ (¬ (ρ 39 ≥ 0)) ∧ (ρ 8 ≠ 20) ∧ (0 ≤ -ρ 40 + ρ 1 + (-1)) ∧ (ρ 42 = 58) ∧ (0 ≤ -ρ 40 + ρ 1 + (-2)) ∧ (ρ 43 = 45) ∧ (ρ 5 + ρ 4 ≠ 60) := ⟨by omega, by omega, by omega, by omega, by omega, by omega, by omega, by omega⟩
  have m1 : γ 0 15 0 34 = ρ 1 := zAllA hm 1
  have m4 : γ 0 15 0 32 = ρ 4 := zAllA hm 4
  have m5 : γ 0 15 0 33 = ρ 5 := zAllA hm 5
  have m6 : γ 0 15 0 17 = ρ 6 := zAllA hm 6
  have m7 : γ 0 15 0 18 = ρ 7 := zAllA hm 7
  have m8 : γ 0 15 0 14 = ρ 8 := zAllA hm 8
  have m27 : γ 1 15 0 44 = ρ 28 := zAllA hm 27
  have m28 : γ 1 15 0 49 = ρ 29 := zAllA hm 28
  have m29 : γ 1 15 0 50 = ρ 30 := zAllA hm 29
  have m35 : γ 1 15 0 46 = ρ 35 := zAllA hm 35
  have m36 : γ 1 15 0 47 = ρ 36 := zAllA hm 36
  have m37 : γ 1 15 0 48 = ρ 37 := zAllA hm 37
  have m40 : γ 4 15 0 35 = ρ 40 := zAllA hm 40
  have c8 : γ 8 = rUp (γ 7) 15 0 35 (ρ 40 + 2) := And.right (zChA hc 3)
  have c9 : γ 9 = rUp (γ 8) 69 0 (ρ 28) (ρ 8) := And.right (zChA hc 2)
  have c10 : γ 10 = rUp (γ 9) 71 0 (ρ 28) (ρ 29) := And.right (zChA hc 1)
  have c11 : γ 11 = rUp (γ 10) 72 0 (ρ 28) (ρ 30) := And.right (zChA hc 0)
  have l0 : sn21 [ρ 35, ρ 36, ρ 37, ρ 8] (γ 1) 0 (ρ 39) (γ 2) := hS21 _ _ _ _ _ (zAllA hl 0)
  have l1 : sn39 [ρ 35, ρ 36, ρ 37, ρ 8] (γ 2) 0 (ρ 8) (γ 3) := hS39 _ _ _ _ _ (zAllA hl 1)
  have l2 : sn7 [ρ 24, ρ 1] (γ 3) 0 0 (γ 4) := hS7 _ _ _ _ _ (zAllA hl 2)
  have l3 : sn6 [ρ 40, ρ 1] (γ 4) 0 (ρ 41) (γ 5) := hS6 _ _ _ _ _ (zAllA hl 3)
  have l4 : ρ 41 ≠ 46 := zAllA hl 4
  have l5 : sn6 [ρ 40, ρ 1] (γ 5) 0 (ρ 42) (γ 6) := hS6 _ _ _ _ _ (zAllA hl 5)
  have l6 : sn6 [ρ 40 + 1, ρ 1] (γ 6) 0 (ρ 43) (γ 7) := hS6 _ _ _ _ _ (zAllA hl 6)
  have wl_0 : ρ 41 ≠ 46 := by omega
  show jn49 [ρ 0, ρ 1, ρ 2, ρ 3, ρ 4, ρ 5, ρ 6, ρ 7, ρ 8, ρ 9, ρ 10, ρ 11, ρ 12, ρ 13, ρ 14, ρ 15, ρ 16, ρ 17, ρ 18, ρ 19, ρ 20, ρ 21, ρ 22] (γ 0) 1 [ρ 0, ρ 1, ρ 2, ρ 3, ρ 4, ρ 5, ρ 6, ρ 7, ρ 8, ρ 9, ρ 10, ρ 11, ρ 12, ρ 13, ρ 14, ρ 15, ρ 16, ρ 17, ρ 18, ρ 19, ρ 20, ρ 21, ρ 22, 0, ρ 35, ρ 8, ρ 40 + 2, ρ 25, ρ 26, ρ 8 + 1, ρ 27, ρ 28, ρ 29, ρ 30, ρ 31, ρ 32, ρ 33, ρ 34, ρ 35, ρ 36, ρ 37, ρ 38, ρ 8] (γ 11)
  have hD : en49 (γ 0) (0, [ρ 23], γ 1) = .inl (1, [0, ρ 35, ρ 8], γ 11) := by
    unfold en49
    refine zIP (show (0 : Nat) = 0 by decide) (zLV (γ 1) rfl (zLV (ρ 23) rfl (zLE m1 (zLE m4 (zLE m5 (zLE m6 (zLE m7 ?_)))))))
    refine zLE m8 (zLE m27 (zLE m28 (zLE m29 (zLE m35 (zLE m36 (zLE m37 (zIP w_0 ?_)))))))
    refine zLE (show fn21 [ρ 35, ρ 36, ρ 37] (γ 1) = (0, ρ 39, γ 2) from l0.symm) (zLV (γ 2) rfl (zLV (ρ 39) rfl (zIN w_1 (zIP w_2 (zLE (show fn39 [ρ 35, ρ 36, ρ 37] (γ 2) = (0, ρ 8, γ 3) from l1.symm) (zLV (γ 3) rfl (zLE (show fn7 [] (γ 3) = (0, 0, γ 4) from l2.symm) ?_)))))))
    refine zLV (γ 4) rfl (zLE m40 (zLE (show fn6 [ρ 40] (γ 4) = (0, ρ 41, γ 5) from l3.symm) (zLV (γ 5) rfl (zIP w_3 (zLV (ρ 41) rfl (zIP wl_0 (zLE (show fn6 [ρ 40] (γ 5) = (0, ρ 42, γ 6) from l5.symm) ?_)))))))
    refine zLV (γ 6) rfl (zLV (ρ 42) rfl (zIP w_4 (zLE (show fn6 [ρ 40 + 1] (γ 6) = (0, ρ 43, γ 7) from l6.symm) (zLV (γ 7) rfl (zIP w_5 (zLV (ρ 43) rfl (zIP w_6 ?_)))))))
    refine zLE c8.symm (zIP w_7 (zLE c9.symm (zLE c10.symm (zLE c11.symm ?_))))
    rfl
  exact zGoo_ato hJ hD
theorem vn49a0_15 {S : Nat → zSpc} (hS6 : zIm S 6 sn6) (hS7 : zIm S 7 sn7) (hS8 : zIm S 8 sn8) (hS21 : zIm S 21 sn21) (hS25 : zIm S 25 sn25) (hS27 : zIm S 27 sn27) (hS28 : zIm S 28 sn28) (hS30 : zIm S 30 sn30) (hS31 : zIm S 31 sn31) (hS39 : zIm S 39 sn39) (hS43 : zIm S 43 sn43) (hS44 : zIm S 44 sn44) (hS45 : zIm S 45 sn45) (hS46 : zIm S 46 sn46) (hS47 : zIm S 47 sn47) {a : List Int} {g : rHp} : ∀ (ρ : Nat → Int) (γ : Nat → rHp), jn49 a g 0 (zAg (zNA a49_ 0) ρ) (γ 1) → zO 23 S a g q49a0_15 ρ γ → zGl (fun i vs g1 => jn49 a g i vs g1) (sn49 a g) q49a0_15 ρ γ := by
  intro ρ γ hJ h
  obtain ⟨ha, hg, hr, hf, hm, hc, hl⟩ := h
  have ha : a = [ρ 0, ρ 1, ρ 2, ρ 3, ρ 4, ρ 5, ρ 6, ρ 7, ρ 8, ρ 9, ρ 10, ρ 11, ρ 12, ρ 13, ρ 14, ρ 15, ρ 16, ρ 17, ρ 18, ρ 19, ρ 20, ρ 21, ρ 22] := ha
  subst ha
  subst hg
  have hJ : jn49 [ρ 0, ρ 1, ρ 2, ρ 3, ρ 4, ρ 5, ρ 6, ρ 7, ρ 8, ρ 9, ρ 10, ρ 11, ρ 12, ρ 13, ρ 14, ρ 15, ρ 16, ρ 17, ρ 18, ρ 19, ρ 20, ρ 21, ρ 22] (γ 0) 0 [ρ 0, ρ 1, ρ 2, ρ 3, ρ 4, ρ 5, ρ 6, ρ 7, ρ 8, ρ 9, ρ 10, ρ 11, ρ 12, ρ 13, ρ 14, ρ 15, ρ 16, ρ 17, ρ 18, ρ 19, ρ 20, ρ 21, ρ 22, ρ 23, ρ 24, ρ 25, ρ 26, ρ 27, ρ 28, ρ 29, ρ 30, ρ 31, ρ 32, ρ 33, ρ 34, ρ 35, ρ 36, ρ 37, ρ 38] (γ 1) := hJ
  have r8 : (0 : Int) ≤ ρ 8 ∧ ρ 8 ≤ 19 := zRnA hr 8
  have r39 : ((-1) : Int) ≤ ρ 39 ∧ ρ 39 ≤ (-1) := zRnA hr 39
  have r41 : ((-128) : Int) ≤ ρ 41 ∧ ρ 41 ≤ 127 := zRnA hr 41
  have r42 : (58 : Int) ≤ ρ 42 ∧ ρ 42 ≤ 58 := zRnA hr 42
  have r43 : (45 : Int) ≤ ρ 43 ∧ ρ 43 ≤ 45 := zRnA hr 43
  have f2 : (0 : Int) ≤ -ρ 5 + -ρ 4 + 60 := zAllA hf 2
  have f3 : (0 : Int) ≤ ρ 5 + ρ 4 + (-60) := zAllA hf 3
  have f4 : (0 : Int) ≤ -ρ 40 + ρ 1 + (-2) := zAllA hf 4
  have f11 : (0 : Int) ≤ -ρ 37 + ρ 23 := zAllA hf 11
  obtain ⟨w_0, w_1, w_2, w_3, w_4, w_5, w_6, w_7⟩ : (ρ 23 ≥ ρ 37) ∧ (¬ (ρ 39 ≥ 0)) ∧ (ρ 8 ≠ 20) ∧ (0 ≤ -ρ 40 + ρ 1 + (-1)) ∧ (ρ 42 = 58) ∧ (0 ≤ -ρ 40 + ρ 1 + (-2)) ∧ (ρ 43 = 45) ∧ (¬ (ρ 5 + ρ 4 ≠ 60)) := ⟨by omega, by omega, by omega, by omega, by omega, by omega, by omega, by omega⟩
  have m1 : γ 0 15 0 34 = ρ 1 := zAllA hm 1
  have m4 : γ 0 15 0 32 = ρ 4 := zAllA hm 4
  have m5 : γ 0 15 0 33 = ρ 5 := zAllA hm 5
  have m6 : γ 0 15 0 17 = ρ 6 := zAllA hm 6
  have m7 : γ 0 15 0 18 = ρ 7 := zAllA hm 7
  have m8 : γ 0 15 0 14 = ρ 8 := zAllA hm 8
  have m27 : γ 1 15 0 44 = ρ 28 := zAllA hm 27
  have m28 : γ 1 15 0 49 = ρ 29 := zAllA hm 28
  have m29 : γ 1 15 0 50 = ρ 30 := zAllA hm 29
  have m35 : γ 1 15 0 46 = ρ 35 := zAllA hm 35
  have m36 : γ 1 15 0 47 = ρ 36 := zAllA hm 36
  have m37 : γ 1 15 0 48 = ρ 37 := zAllA hm 37
  have m40 : γ 4 15 0 35 = ρ 40 := zAllA hm 40
  have c8 : γ 8 = rUp (γ 7) 15 0 35 (ρ 40 + 2) := And.right (zChA hc 1)
  have l0 : sn21 [ρ 35, ρ 36, ρ 37, ρ 8] (γ 1) 0 (ρ 39) (γ 2) := hS21 _ _ _ _ _ (zAllA hl 0)
  have l1 : sn39 [ρ 35, ρ 36, ρ 37, ρ 8] (γ 2) 0 (ρ 8) (γ 3) := hS39 _ _ _ _ _ (zAllA hl 1)
  have l2 : sn7 [ρ 24, ρ 1] (γ 3) 0 0 (γ 4) := hS7 _ _ _ _ _ (zAllA hl 2)
  have l3 : sn6 [ρ 40, ρ 1] (γ 4) 0 (ρ 41) (γ 5) := hS6 _ _ _ _ _ (zAllA hl 3)
  have l4 : ρ 41 ≠ 46 := zAllA hl 4
  have l5 : sn6 [ρ 40, ρ 1] (γ 5) 0 (ρ 42) (γ 6) := hS6 _ _ _ _ _ (zAllA hl 5)
  have l6 : sn6 [ρ 40 + 1, ρ 1] (γ 6) 0 (ρ 43) (γ 7) := hS6 _ _ _ _ _ (zAllA hl 6)
  have l7 : sn8 [ρ 35, ρ 1, ρ 15] (γ 8) 0 0 (γ 9) := hS8 _ _ _ _ _ (zAllA hl 7)
  have wl_0 : ρ 41 ≠ 46 := by omega
  show sn49 [ρ 0, ρ 1, ρ 2, ρ 3, ρ 4, ρ 5, ρ 6, ρ 7, ρ 8, ρ 9, ρ 10, ρ 11, ρ 12, ρ 13, ρ 14, ρ 15, ρ 16, ρ 17, ρ 18, ρ 19, ρ 20, ρ 21, ρ 22] (γ 0) 0 0 (γ 9)
  have hD : en49 (γ 0) (0, [ρ 23], γ 1) = .inr (0, 0, γ 9) := by
    unfold en49
    refine zIP (show (0 : Nat) = 0 by decide) (zLV (γ 1) rfl (zLV (ρ 23) rfl (zLE m1 (zLE m4 (zLE m5 (zLE m6 (zLE m7 ?_)))))))
    refine zLE m8 (zLE m27 (zLE m28 (zLE m29 (zLE m35 (zLE m36 (zLE m37 (zIP w_0 ?_)))))))
    refine zLE (show fn21 [ρ 35, ρ 36, ρ 37] (γ 1) = (0, ρ 39, γ 2) from l0.symm) (zLV (γ 2) rfl (zLV (ρ 39) rfl (zIN w_1 (zIP w_2 (zLE (show fn39 [ρ 35, ρ 36, ρ 37] (γ 2) = (0, ρ 8, γ 3) from l1.symm) (zLV (γ 3) rfl (zLE (show fn7 [] (γ 3) = (0, 0, γ 4) from l2.symm) ?_)))))))
    refine zLV (γ 4) rfl (zLE m40 (zLE (show fn6 [ρ 40] (γ 4) = (0, ρ 41, γ 5) from l3.symm) (zLV (γ 5) rfl (zIP w_3 (zLV (ρ 41) rfl (zIP wl_0 (zLE (show fn6 [ρ 40] (γ 5) = (0, ρ 42, γ 6) from l5.symm) ?_)))))))
    refine zLV (γ 6) rfl (zLV (ρ 42) rfl (zIP w_4 (zLE (show fn6 [ρ 40 + 1] (γ 6) = (0, ρ 43, γ 7) from l6.symm) (zLV (γ 7) rfl (zIP w_5 (zLV (ρ 43) rfl (zIP w_6 ?_)))))))
    refine zLE c8.symm (zIN w_7 (zLE (show fn8 [ρ 35] (γ 8) = (0, 0, γ 9) from l7.symm) (zLV (γ 9) rfl ?_)))
    rfl
  exact zGoo_aend hJ hD
theorem vn49a0_16 {S : Nat → zSpc} (hS6 : zIm S 6 sn6) (hS7 : zIm S 7 sn7) (hS8 : zIm S 8 sn8) (hS21 : zIm S 21 sn21) (hS25 : zIm S 25 sn25) (hS27 : zIm S 27 sn27) (hS28 : zIm S 28 sn28) (hS30 : zIm S 30 sn30) (hS31 : zIm S 31 sn31) (hS39 : zIm S 39 sn39) (hS43 : zIm S 43 sn43) (hS44 : zIm S 44 sn44) (hS45 : zIm S 45 sn45) (hS46 : zIm S 46 sn46) (hS47 : zIm S 47 sn47) {a : List Int} {g : rHp} : ∀ (ρ : Nat → Int) (γ : Nat → rHp), jn49 a g 0 (zAg (zNA a49_ 0) ρ) (γ 1) → zO 23 S a g q49a0_16 ρ γ → zGl (fun i vs g1 => jn49 a g i vs g1) (sn49 a g) q49a0_16 ρ γ := by
  intro ρ γ hJ h
  obtain ⟨ha, hg, hr, hf, hm, hc, hl⟩ := h
  have ha : a = [ρ 0, ρ 1, ρ 2, ρ 3, ρ 4, ρ 5, ρ 6, ρ 7, ρ 8, ρ 9, ρ 10, ρ 11, ρ 12, ρ 13, ρ 14, ρ 15, ρ 16, ρ 17, ρ 18, ρ 19, ρ 20, ρ 21, ρ 22] := ha
  subst ha
  subst hg
  have hJ : jn49 [ρ 0, ρ 1, ρ 2, ρ 3, ρ 4, ρ 5, ρ 6, ρ 7, ρ 8, ρ 9, ρ 10, ρ 11, ρ 12, ρ 13, ρ 14, ρ 15, ρ 16, ρ 17, ρ 18, ρ 19, ρ 20, ρ 21, ρ 22] (γ 0) 0 [ρ 0, ρ 1, ρ 2, ρ 3, ρ 4, ρ 5, ρ 6, ρ 7, ρ 8, ρ 9, ρ 10, ρ 11, ρ 12, ρ 13, ρ 14, ρ 15, ρ 16, ρ 17, ρ 18, ρ 19, ρ 20, ρ 21, ρ 22, ρ 23, ρ 24, ρ 25, ρ 26, ρ 27, ρ 28, ρ 29, ρ 30, ρ 31, ρ 32, ρ 33, ρ 34, ρ 35, ρ 36, ρ 37, ρ 38] (γ 1) := hJ
  have r8 : (0 : Int) ≤ ρ 8 ∧ ρ 8 ≤ 19 := zRnA hr 8
  have r39 : ((-1) : Int) ≤ ρ 39 ∧ ρ 39 ≤ (-1) := zRnA hr 39
  have r41 : ((-128) : Int) ≤ ρ 41 ∧ ρ 41 ≤ 127 := zRnA hr 41
  have r42 : (58 : Int) ≤ ρ 42 ∧ ρ 42 ≤ 58 := zRnA hr 42
  have r43 : ((-128) : Int) ≤ ρ 43 ∧ ρ 43 ≤ 127 := zRnA hr 43
  have f2 : (0 : Int) ≤ -ρ 40 + ρ 1 + (-2) := zAllA hf 2
  have f9 : (0 : Int) ≤ -ρ 37 + ρ 23 := zAllA hf 9
  obtain ⟨w_0, w_1, w_2, w_3, w_4, w_5⟩ : (ρ 23 ≥ ρ 37) ∧ (¬ (ρ 39 ≥ 0)) ∧ (ρ 8 ≠ 20) ∧ (0 ≤ -ρ 40 + ρ 1 + (-1)) ∧ (ρ 42 = 58) ∧ (0 ≤ -ρ 40 + ρ 1 + (-2)) := ⟨by omega, by omega, by omega, by omega, by omega, by omega⟩
  have m1 : γ 0 15 0 34 = ρ 1 := zAllA hm 1
  have m4 : γ 0 15 0 32 = ρ 4 := zAllA hm 4
  have m5 : γ 0 15 0 33 = ρ 5 := zAllA hm 5
  have m6 : γ 0 15 0 17 = ρ 6 := zAllA hm 6
  have m7 : γ 0 15 0 18 = ρ 7 := zAllA hm 7
  have m8 : γ 0 15 0 14 = ρ 8 := zAllA hm 8
  have m27 : γ 1 15 0 44 = ρ 28 := zAllA hm 27
  have m28 : γ 1 15 0 49 = ρ 29 := zAllA hm 28
  have m29 : γ 1 15 0 50 = ρ 30 := zAllA hm 29
  have m35 : γ 1 15 0 46 = ρ 35 := zAllA hm 35
  have m36 : γ 1 15 0 47 = ρ 36 := zAllA hm 36
  have m37 : γ 1 15 0 48 = ρ 37 := zAllA hm 37
  have m40 : γ 4 15 0 35 = ρ 40 := zAllA hm 40
  have l0 : sn21 [ρ 35, ρ 36, ρ 37, ρ 8] (γ 1) 0 (ρ 39) (γ 2) := hS21 _ _ _ _ _ (zAllA hl 0)
  have l1 : sn39 [ρ 35, ρ 36, ρ 37, ρ 8] (γ 2) 0 (ρ 8) (γ 3) := hS39 _ _ _ _ _ (zAllA hl 1)
  have l2 : sn7 [ρ 24, ρ 1] (γ 3) 0 0 (γ 4) := hS7 _ _ _ _ _ (zAllA hl 2)
  have l3 : sn6 [ρ 40, ρ 1] (γ 4) 0 (ρ 41) (γ 5) := hS6 _ _ _ _ _ (zAllA hl 3)
  have l4 : ρ 41 ≠ 46 := zAllA hl 4
  have l5 : sn6 [ρ 40, ρ 1] (γ 5) 0 (ρ 42) (γ 6) := hS6 _ _ _ _ _ (zAllA hl 5)
  have l6 : sn6 [ρ 40 + 1, ρ 1] (γ 6) 0 (ρ 43) (γ 7) := hS6 _ _ _ _ _ (zAllA hl 6)
  have l7 : ρ 43 ≠ 45 := zAllA hl 7
  have l8 : sn8 [ρ 40 + 1, ρ 1, ρ 15] (γ 7) 0 0 (γ 8) := hS8 _ _ _ _ _ (zAllA hl 8)
  obtain ⟨wl_0, wl_1⟩ : (ρ 41 ≠ 46) ∧ (¬ (ρ 43 = 45)) := ⟨by omega, by omega⟩
  show sn49 [ρ 0, ρ 1, ρ 2, ρ 3, ρ 4, ρ 5, ρ 6, ρ 7, ρ 8, ρ 9, ρ 10, ρ 11, ρ 12, ρ 13, ρ 14, ρ 15, ρ 16, ρ 17, ρ 18, ρ 19, ρ 20, ρ 21, ρ 22] (γ 0) 0 0 (γ 8)
  have hD : en49 (γ 0) (0, [ρ 23], γ 1) = .inr (0, 0, γ 8) := by
    unfold en49
    refine zIP (show (0 : Nat) = 0 by decide) (zLV (γ 1) rfl (zLV (ρ 23) rfl (zLE m1 (zLE m4 (zLE m5 (zLE m6 (zLE m7 ?_)))))))
    refine zLE m8 (zLE m27 (zLE m28 (zLE m29 (zLE m35 (zLE m36 (zLE m37 (zIP w_0 ?_)))))))
    refine zLE (show fn21 [ρ 35, ρ 36, ρ 37] (γ 1) = (0, ρ 39, γ 2) from l0.symm) (zLV (γ 2) rfl (zLV (ρ 39) rfl (zIN w_1 (zIP w_2 (zLE (show fn39 [ρ 35, ρ 36, ρ 37] (γ 2) = (0, ρ 8, γ 3) from l1.symm) (zLV (γ 3) rfl (zLE (show fn7 [] (γ 3) = (0, 0, γ 4) from l2.symm) ?_)))))))
    refine zLV (γ 4) rfl (zLE m40 (zLE (show fn6 [ρ 40] (γ 4) = (0, ρ 41, γ 5) from l3.symm) (zLV (γ 5) rfl (zIP w_3 (zLV (ρ 41) rfl (zIP wl_0 (zLE (show fn6 [ρ 40] (γ 5) = (0, ρ 42, γ 6) from l5.symm) ?_)))))))
    refine zLV (γ 6) rfl (zLV (ρ 42) rfl (zIP w_4 (zLE (show fn6 [ρ 40 + 1] (γ 6) = (0, ρ 43, γ 7) from l6.symm) (zLV (γ 7) rfl (zIP w_5 (zLV (ρ 43) rfl (zIN wl_1 ?_)))))))
    refine zLE (show fn8 [ρ 40 + 1] (γ 7) = (0, 0, γ 8) from l8.symm) (zLV (γ 8) rfl ?_)
    rfl
  exact zGoo_aend hJ hD
theorem vn49a0_17 {S : Nat → zSpc} (hS6 : zIm S 6 sn6) (hS7 : zIm S 7 sn7) (hS8 : zIm S 8 sn8) (hS21 : zIm S 21 sn21) (hS25 : zIm S 25 sn25) (hS27 : zIm S 27 sn27) (hS28 : zIm S 28 sn28) (hS30 : zIm S 30 sn30) (hS31 : zIm S 31 sn31) (hS39 : zIm S 39 sn39) (hS43 : zIm S 43 sn43) (hS44 : zIm S 44 sn44) (hS45 : zIm S 45 sn45) (hS46 : zIm S 46 sn46) (hS47 : zIm S 47 sn47) {a : List Int} {g : rHp} : ∀ (ρ : Nat → Int) (γ : Nat → rHp), jn49 a g 0 (zAg (zNA a49_ 0) ρ) (γ 1) → zO 23 S a g q49a0_17 ρ γ → zGl (fun i vs g1 => jn49 a g i vs g1) (sn49 a g) q49a0_17 ρ γ := by
  intro ρ γ hJ h
  obtain ⟨ha, hg, hr, hf, hm, hc, hl⟩ := h
  have ha : a = [ρ 0, ρ 1, ρ 2, ρ 3, ρ 4, ρ 5, ρ 6, ρ 7, ρ 8, ρ 9, ρ 10, ρ 11, ρ 12, ρ 13, ρ 14, ρ 15, ρ 16, ρ 17, ρ 18, ρ 19, ρ 20, ρ 21, ρ 22] := ha
  subst ha
  subst hg
  have hJ : jn49 [ρ 0, ρ 1, ρ 2, ρ 3, ρ 4, ρ 5, ρ 6, ρ 7, ρ 8, ρ 9, ρ 10, ρ 11, ρ 12, ρ 13, ρ 14, ρ 15, ρ 16, ρ 17, ρ 18, ρ 19, ρ 20, ρ 21, ρ 22] (γ 0) 0 [ρ 0, ρ 1, ρ 2, ρ 3, ρ 4, ρ 5, ρ 6, ρ 7, ρ 8, ρ 9, ρ 10, ρ 11, ρ 12, ρ 13, ρ 14, ρ 15, ρ 16, ρ 17, ρ 18, ρ 19, ρ 20, ρ 21, ρ 22, ρ 23, ρ 24, ρ 25, ρ 26, ρ 27, ρ 28, ρ 29, ρ 30, ρ 31, ρ 32, ρ 33, ρ 34, ρ 35, ρ 36, ρ 37, ρ 38] (γ 1) := hJ
  have r8 : (0 : Int) ≤ ρ 8 ∧ ρ 8 ≤ 19 := zRnA hr 8
  have r39 : ((-1) : Int) ≤ ρ 39 ∧ ρ 39 ≤ (-1) := zRnA hr 39
  have r41 : ((-128) : Int) ≤ ρ 41 ∧ ρ 41 ≤ 127 := zRnA hr 41
  have r42 : (58 : Int) ≤ ρ 42 ∧ ρ 42 ≤ 58 := zRnA hr 42
  have f2 : (0 : Int) ≤ ρ 40 + -ρ 1 + 1 := zAllA hf 2
  have f3 : (0 : Int) ≤ -ρ 40 + ρ 1 + (-1) := zAllA hf 3
  have f9 : (0 : Int) ≤ -ρ 37 + ρ 23 := zAllA hf 9
  obtain ⟨w_0, w_1, w_2, w_3, w_4, w_5⟩ : (ρ 23 ≥ ρ 37) ∧ (¬ (ρ 39 ≥ 0)) ∧ (ρ 8 ≠ 20) ∧ (0 ≤ -ρ 40 + ρ 1 + (-1)) ∧ (ρ 42 = 58) ∧ (¬ (0 ≤ -ρ 40 + ρ 1 + (-2))) := ⟨by omega, by omega, by omega, by omega, by omega, by omega⟩
  have m1 : γ 0 15 0 34 = ρ 1 := zAllA hm 1
  have m4 : γ 0 15 0 32 = ρ 4 := zAllA hm 4
  have m5 : γ 0 15 0 33 = ρ 5 := zAllA hm 5
  have m6 : γ 0 15 0 17 = ρ 6 := zAllA hm 6
  have m7 : γ 0 15 0 18 = ρ 7 := zAllA hm 7
  have m8 : γ 0 15 0 14 = ρ 8 := zAllA hm 8
  have m27 : γ 1 15 0 44 = ρ 28 := zAllA hm 27
  have m28 : γ 1 15 0 49 = ρ 29 := zAllA hm 28
  have m29 : γ 1 15 0 50 = ρ 30 := zAllA hm 29
  have m35 : γ 1 15 0 46 = ρ 35 := zAllA hm 35
  have m36 : γ 1 15 0 47 = ρ 36 := zAllA hm 36
  have m37 : γ 1 15 0 48 = ρ 37 := zAllA hm 37
  have m40 : γ 4 15 0 35 = ρ 40 := zAllA hm 40
  have l0 : sn21 [ρ 35, ρ 36, ρ 37, ρ 8] (γ 1) 0 (ρ 39) (γ 2) := hS21 _ _ _ _ _ (zAllA hl 0)
  have l1 : sn39 [ρ 35, ρ 36, ρ 37, ρ 8] (γ 2) 0 (ρ 8) (γ 3) := hS39 _ _ _ _ _ (zAllA hl 1)
  have l2 : sn7 [ρ 24, ρ 1] (γ 3) 0 0 (γ 4) := hS7 _ _ _ _ _ (zAllA hl 2)
  have l3 : sn6 [ρ 40, ρ 1] (γ 4) 0 (ρ 41) (γ 5) := hS6 _ _ _ _ _ (zAllA hl 3)
  have l4 : ρ 41 ≠ 46 := zAllA hl 4
  have l5 : sn6 [ρ 40, ρ 1] (γ 5) 0 (ρ 42) (γ 6) := hS6 _ _ _ _ _ (zAllA hl 5)
  have l6 : sn6 [ρ 40 + 1, ρ 1] (γ 6) 0 (-1) (γ 7) := hS6 _ _ _ _ _ (zAllA hl 6)
  have l7 : sn8 [ρ 40 + 1, ρ 1, ρ 15] (γ 7) 0 0 (γ 8) := hS8 _ _ _ _ _ (zAllA hl 7)
  have wl_0 : ρ 41 ≠ 46 := by omega
  show sn49 [ρ 0, ρ 1, ρ 2, ρ 3, ρ 4, ρ 5, ρ 6, ρ 7, ρ 8, ρ 9, ρ 10, ρ 11, ρ 12, ρ 13, ρ 14, ρ 15, ρ 16, ρ 17, ρ 18, ρ 19, ρ 20, ρ 21, ρ 22] (γ 0) 0 0 (γ 8)
  have hD : en49 (γ 0) (0, [ρ 23], γ 1) = .inr (0, 0, γ 8) := by
    unfold en49
    refine zIP (show (0 : Nat) = 0 by decide) (zLV (γ 1) rfl (zLV (ρ 23) rfl (zLE m1 (zLE m4 (zLE m5 (zLE m6 (zLE m7 ?_)))))))
    refine zLE m8 (zLE m27 (zLE m28 (zLE m29 (zLE m35 (zLE m36 (zLE m37 (zIP w_0 ?_)))))))
    refine zLE (show fn21 [ρ 35, ρ 36, ρ 37] (γ 1) = (0, ρ 39, γ 2) from l0.symm) (zLV (γ 2) rfl (zLV (ρ 39) rfl (zIN w_1 (zIP w_2 (zLE (show fn39 [ρ 35, ρ 36, ρ 37] (γ 2) = (0, ρ 8, γ 3) from l1.symm) (zLV (γ 3) rfl (zLE (show fn7 [] (γ 3) = (0, 0, γ 4) from l2.symm) ?_)))))))
    refine zLV (γ 4) rfl (zLE m40 (zLE (show fn6 [ρ 40] (γ 4) = (0, ρ 41, γ 5) from l3.symm) (zLV (γ 5) rfl (zIP w_3 (zLV (ρ 41) rfl (zIP wl_0 (zLE (show fn6 [ρ 40] (γ 5) = (0, ρ 42, γ 6) from l5.symm) ?_)))))))
    refine zLV (γ 6) rfl (zLV (ρ 42) rfl (zIP w_4 (zLE (show fn6 [ρ 40 + 1] (γ 6) = (0, (-1), γ 7) from l6.symm) (zLV (γ 7) rfl (zIN w_5 (zLE (show fn8 [ρ 40 + 1] (γ 7) = (0, 0, γ 8) from l7.symm) (zLV (γ 8) rfl ?_)))))))
    rfl
  exact zGoo_aend hJ hD
theorem vn49a0_18 {S : Nat → zSpc} (hS6 : zIm S 6 sn6) (hS7 : zIm S 7 sn7) (hS8 : zIm S 8 sn8) (hS21 : zIm S 21 sn21) (hS25 : zIm S 25 sn25) (hS27 : zIm S 27 sn27) (hS28 : zIm S 28 sn28) (hS30 : zIm S 30 sn30) (hS31 : zIm S 31 sn31) (hS39 : zIm S 39 sn39) (hS43 : zIm S 43 sn43) (hS44 : zIm S 44 sn44) (hS45 : zIm S 45 sn45) (hS46 : zIm S 46 sn46) (hS47 : zIm S 47 sn47) {a : List Int} {g : rHp} : ∀ (ρ : Nat → Int) (γ : Nat → rHp), jn49 a g 0 (zAg (zNA a49_ 0) ρ) (γ 1) → zO 23 S a g q49a0_18 ρ γ → zGl (fun i vs g1 => jn49 a g i vs g1) (sn49 a g) q49a0_18 ρ γ := by
  intro ρ γ hJ h
  obtain ⟨ha, hg, hr, hf, hm, hc, hl⟩ := h
  have ha : a = [ρ 0, ρ 1, ρ 2, ρ 3, ρ 4, ρ 5, ρ 6, ρ 7, ρ 8, ρ 9, ρ 10, ρ 11, ρ 12, ρ 13, ρ 14, ρ 15, ρ 16, ρ 17, ρ 18, ρ 19, ρ 20, ρ 21, ρ 22] := ha
  subst ha
  subst hg
  have hJ : jn49 [ρ 0, ρ 1, ρ 2, ρ 3, ρ 4, ρ 5, ρ 6, ρ 7, ρ 8, ρ 9, ρ 10, ρ 11, ρ 12, ρ 13, ρ 14, ρ 15, ρ 16, ρ 17, ρ 18, ρ 19, ρ 20, ρ 21, ρ 22] (γ 0) 0 [ρ 0, ρ 1, ρ 2, ρ 3, ρ 4, ρ 5, ρ 6, ρ 7, ρ 8, ρ 9, ρ 10, ρ 11, ρ 12, ρ 13, ρ 14, ρ 15, ρ 16, ρ 17, ρ 18, ρ 19, ρ 20, ρ 21, ρ 22, ρ 23, ρ 24, ρ 25, ρ 26, ρ 27, ρ 28, ρ 29, ρ 30, ρ 31, ρ 32, ρ 33, ρ 34, ρ 35, ρ 36, ρ 37, ρ 38] (γ 1) := hJ
  have r8 : (0 : Int) ≤ ρ 8 ∧ ρ 8 ≤ 19 := zRnA hr 8
  have r39 : ((-1) : Int) ≤ ρ 39 ∧ ρ 39 ≤ (-1) := zRnA hr 39
  have r41 : ((-128) : Int) ≤ ρ 41 ∧ ρ 41 ≤ 127 := zRnA hr 41
  have r42 : ((-128) : Int) ≤ ρ 42 ∧ ρ 42 ≤ 127 := zRnA hr 42
  have f2 : (0 : Int) ≤ -ρ 40 + ρ 1 + (-1) := zAllA hf 2
  have f8 : (0 : Int) ≤ -ρ 37 + ρ 23 := zAllA hf 8
  obtain ⟨w_0, w_1, w_2, w_3⟩ : (ρ 23 ≥ ρ 37) ∧ (¬ (ρ 39 ≥ 0)) ∧ (ρ 8 ≠ 20) ∧ (0 ≤ -ρ 40 + ρ 1 + (-1)) := ⟨by omega, by omega, by omega, by omega⟩
  have m1 : γ 0 15 0 34 = ρ 1 := zAllA hm 1
  have m4 : γ 0 15 0 32 = ρ 4 := zAllA hm 4
  have m5 : γ 0 15 0 33 = ρ 5 := zAllA hm 5
  have m6 : γ 0 15 0 17 = ρ 6 := zAllA hm 6
  have m7 : γ 0 15 0 18 = ρ 7 := zAllA hm 7
  have m8 : γ 0 15 0 14 = ρ 8 := zAllA hm 8
  have m27 : γ 1 15 0 44 = ρ 28 := zAllA hm 27
  have m28 : γ 1 15 0 49 = ρ 29 := zAllA hm 28
  have m29 : γ 1 15 0 50 = ρ 30 := zAllA hm 29
  have m35 : γ 1 15 0 46 = ρ 35 := zAllA hm 35
  have m36 : γ 1 15 0 47 = ρ 36 := zAllA hm 36
  have m37 : γ 1 15 0 48 = ρ 37 := zAllA hm 37
  have m40 : γ 4 15 0 35 = ρ 40 := zAllA hm 40
  have l0 : sn21 [ρ 35, ρ 36, ρ 37, ρ 8] (γ 1) 0 (ρ 39) (γ 2) := hS21 _ _ _ _ _ (zAllA hl 0)
  have l1 : sn39 [ρ 35, ρ 36, ρ 37, ρ 8] (γ 2) 0 (ρ 8) (γ 3) := hS39 _ _ _ _ _ (zAllA hl 1)
  have l2 : sn7 [ρ 24, ρ 1] (γ 3) 0 0 (γ 4) := hS7 _ _ _ _ _ (zAllA hl 2)
  have l3 : sn6 [ρ 40, ρ 1] (γ 4) 0 (ρ 41) (γ 5) := hS6 _ _ _ _ _ (zAllA hl 3)
  have l4 : ρ 41 ≠ 46 := zAllA hl 4
  have l5 : sn6 [ρ 40, ρ 1] (γ 5) 0 (ρ 42) (γ 6) := hS6 _ _ _ _ _ (zAllA hl 5)
  have l6 : ρ 42 ≠ 58 := zAllA hl 6
  have l7 : sn8 [ρ 40, ρ 1, ρ 15] (γ 6) 0 0 (γ 7) := hS8 _ _ _ _ _ (zAllA hl 7)
  obtain ⟨wl_0, wl_1⟩ : (ρ 41 ≠ 46) ∧ (¬ (ρ 42 = 58)) := ⟨by omega, by omega⟩
  show sn49 [ρ 0, ρ 1, ρ 2, ρ 3, ρ 4, ρ 5, ρ 6, ρ 7, ρ 8, ρ 9, ρ 10, ρ 11, ρ 12, ρ 13, ρ 14, ρ 15, ρ 16, ρ 17, ρ 18, ρ 19, ρ 20, ρ 21, ρ 22] (γ 0) 0 0 (γ 7)
  have hD : en49 (γ 0) (0, [ρ 23], γ 1) = .inr (0, 0, γ 7) := by
    unfold en49
    refine zIP (show (0 : Nat) = 0 by decide) (zLV (γ 1) rfl (zLV (ρ 23) rfl (zLE m1 (zLE m4 (zLE m5 (zLE m6 (zLE m7 ?_)))))))
    refine zLE m8 (zLE m27 (zLE m28 (zLE m29 (zLE m35 (zLE m36 (zLE m37 (zIP w_0 ?_)))))))
    refine zLE (show fn21 [ρ 35, ρ 36, ρ 37] (γ 1) = (0, ρ 39, γ 2) from l0.symm) (zLV (γ 2) rfl (zLV (ρ 39) rfl (zIN w_1 (zIP w_2 (zLE (show fn39 [ρ 35, ρ 36, ρ 37] (γ 2) = (0, ρ 8, γ 3) from l1.symm) (zLV (γ 3) rfl (zLE (show fn7 [] (γ 3) = (0, 0, γ 4) from l2.symm) ?_)))))))
    refine zLV (γ 4) rfl (zLE m40 (zLE (show fn6 [ρ 40] (γ 4) = (0, ρ 41, γ 5) from l3.symm) (zLV (γ 5) rfl (zIP w_3 (zLV (ρ 41) rfl (zIP wl_0 (zLE (show fn6 [ρ 40] (γ 5) = (0, ρ 42, γ 6) from l5.symm) ?_)))))))
    refine zLV (γ 6) rfl (zLV (ρ 42) rfl (zIN wl_1 (zLE (show fn8 [ρ 40] (γ 6) = (0, 0, γ 7) from l7.symm) (zLV (γ 7) rfl ?_))))
    rfl
  exact zGoo_aend hJ hD
theorem vn49a0_19 {S : Nat → zSpc} (hS6 : zIm S 6 sn6) (hS7 : zIm S 7 sn7) (hS8 : zIm S 8 sn8) (hS21 : zIm S 21 sn21) (hS25 : zIm S 25 sn25) (hS27 : zIm S 27 sn27) (hS28 : zIm S 28 sn28) (hS30 : zIm S 30 sn30) (hS31 : zIm S 31 sn31) (hS39 : zIm S 39 sn39) (hS43 : zIm S 43 sn43) (hS44 : zIm S 44 sn44) (hS45 : zIm S 45 sn45) (hS46 : zIm S 46 sn46) (hS47 : zIm S 47 sn47) {a : List Int} {g : rHp} : ∀ (ρ : Nat → Int) (γ : Nat → rHp), jn49 a g 0 (zAg (zNA a49_ 0) ρ) (γ 1) → zO 23 S a g q49a0_19 ρ γ → zGl (fun i vs g1 => jn49 a g i vs g1) (sn49 a g) q49a0_19 ρ γ := by
  intro ρ γ hJ h
  obtain ⟨ha, hg, hr, hf, hm, hc, hl⟩ := h
  have ha : a = [ρ 0, ρ 1, ρ 2, ρ 3, ρ 4, ρ 5, ρ 6, ρ 7, ρ 8, ρ 9, ρ 10, ρ 11, ρ 12, ρ 13, ρ 14, ρ 15, ρ 16, ρ 17, ρ 18, ρ 19, ρ 20, ρ 21, ρ 22] := ha
  subst ha
  subst hg
  have hJ : jn49 [ρ 0, ρ 1, ρ 2, ρ 3, ρ 4, ρ 5, ρ 6, ρ 7, ρ 8, ρ 9, ρ 10, ρ 11, ρ 12, ρ 13, ρ 14, ρ 15, ρ 16, ρ 17, ρ 18, ρ 19, ρ 20, ρ 21, ρ 22] (γ 0) 0 [ρ 0, ρ 1, ρ 2, ρ 3, ρ 4, ρ 5, ρ 6, ρ 7, ρ 8, ρ 9, ρ 10, ρ 11, ρ 12, ρ 13, ρ 14, ρ 15, ρ 16, ρ 17, ρ 18, ρ 19, ρ 20, ρ 21, ρ 22, ρ 23, ρ 24, ρ 25, ρ 26, ρ 27, ρ 28, ρ 29, ρ 30, ρ 31, ρ 32, ρ 33, ρ 34, ρ 35, ρ 36, ρ 37, ρ 38] (γ 1) := hJ
  have r8 : (0 : Int) ≤ ρ 8 ∧ ρ 8 ≤ 19 := zRnA hr 8
  have r39 : ((-1) : Int) ≤ ρ 39 ∧ ρ 39 ≤ (-1) := zRnA hr 39
  have r41 : (46 : Int) ≤ ρ 41 ∧ ρ 41 ≤ 46 := zRnA hr 41
  have f1 : (0 : Int) ≤ -ρ 40 + ρ 1 + (-1) := zAllA hf 1
  have f7 : (0 : Int) ≤ -ρ 37 + ρ 23 := zAllA hf 7
  obtain ⟨w_0, w_1, w_2, w_3, w_4⟩ : (ρ 23 ≥ ρ 37) ∧ (¬ (ρ 39 ≥ 0)) ∧ (ρ 8 ≠ 20) ∧ (0 ≤ -ρ 40 + ρ 1 + (-1)) ∧ (¬ (ρ 41 ≠ 46)) := ⟨by omega, by omega, by omega, by omega, by omega⟩
  have m1 : γ 0 15 0 34 = ρ 1 := zAllA hm 1
  have m4 : γ 0 15 0 32 = ρ 4 := zAllA hm 4
  have m5 : γ 0 15 0 33 = ρ 5 := zAllA hm 5
  have m6 : γ 0 15 0 17 = ρ 6 := zAllA hm 6
  have m7 : γ 0 15 0 18 = ρ 7 := zAllA hm 7
  have m8 : γ 0 15 0 14 = ρ 8 := zAllA hm 8
  have m27 : γ 1 15 0 44 = ρ 28 := zAllA hm 27
  have m28 : γ 1 15 0 49 = ρ 29 := zAllA hm 28
  have m29 : γ 1 15 0 50 = ρ 30 := zAllA hm 29
  have m35 : γ 1 15 0 46 = ρ 35 := zAllA hm 35
  have m36 : γ 1 15 0 47 = ρ 36 := zAllA hm 36
  have m37 : γ 1 15 0 48 = ρ 37 := zAllA hm 37
  have m40 : γ 4 15 0 35 = ρ 40 := zAllA hm 40
  have l0 : sn21 [ρ 35, ρ 36, ρ 37, ρ 8] (γ 1) 0 (ρ 39) (γ 2) := hS21 _ _ _ _ _ (zAllA hl 0)
  have l1 : sn39 [ρ 35, ρ 36, ρ 37, ρ 8] (γ 2) 0 (ρ 8) (γ 3) := hS39 _ _ _ _ _ (zAllA hl 1)
  have l2 : sn7 [ρ 24, ρ 1] (γ 3) 0 0 (γ 4) := hS7 _ _ _ _ _ (zAllA hl 2)
  have l3 : sn6 [ρ 40, ρ 1] (γ 4) 0 (ρ 41) (γ 5) := hS6 _ _ _ _ _ (zAllA hl 3)
  have l4 : sn31 [ρ 1, ρ 15, ρ 37] (γ 5) 0 0 (γ 6) := hS31 _ _ _ _ _ (zAllA hl 4)
  show sn49 [ρ 0, ρ 1, ρ 2, ρ 3, ρ 4, ρ 5, ρ 6, ρ 7, ρ 8, ρ 9, ρ 10, ρ 11, ρ 12, ρ 13, ρ 14, ρ 15, ρ 16, ρ 17, ρ 18, ρ 19, ρ 20, ρ 21, ρ 22] (γ 0) 0 0 (γ 6)
  have hD : en49 (γ 0) (0, [ρ 23], γ 1) = .inr (0, 0, γ 6) := by
    unfold en49
    refine zIP (show (0 : Nat) = 0 by decide) (zLV (γ 1) rfl (zLV (ρ 23) rfl (zLE m1 (zLE m4 (zLE m5 (zLE m6 (zLE m7 ?_)))))))
    refine zLE m8 (zLE m27 (zLE m28 (zLE m29 (zLE m35 (zLE m36 (zLE m37 (zIP w_0 ?_)))))))
    refine zLE (show fn21 [ρ 35, ρ 36, ρ 37] (γ 1) = (0, ρ 39, γ 2) from l0.symm) (zLV (γ 2) rfl (zLV (ρ 39) rfl (zIN w_1 (zIP w_2 (zLE (show fn39 [ρ 35, ρ 36, ρ 37] (γ 2) = (0, ρ 8, γ 3) from l1.symm) (zLV (γ 3) rfl (zLE (show fn7 [] (γ 3) = (0, 0, γ 4) from l2.symm) ?_)))))))
    refine zLV (γ 4) rfl (zLE m40 (zLE (show fn6 [ρ 40] (γ 4) = (0, ρ 41, γ 5) from l3.symm) (zLV (γ 5) rfl (zIP w_3 (zLV (ρ 41) rfl (zIN w_4 (zLE (show fn31 [] (γ 5) = (0, 0, γ 6) from l4.symm) ?_)))))))
    refine zLV (γ 6) rfl (zIN zQ0_ ?_)
    rfl
  exact zGoo_aend hJ hD
theorem vn49a0_20 {S : Nat → zSpc} (hS6 : zIm S 6 sn6) (hS7 : zIm S 7 sn7) (hS8 : zIm S 8 sn8) (hS21 : zIm S 21 sn21) (hS25 : zIm S 25 sn25) (hS27 : zIm S 27 sn27) (hS28 : zIm S 28 sn28) (hS30 : zIm S 30 sn30) (hS31 : zIm S 31 sn31) (hS39 : zIm S 39 sn39) (hS43 : zIm S 43 sn43) (hS44 : zIm S 44 sn44) (hS45 : zIm S 45 sn45) (hS46 : zIm S 46 sn46) (hS47 : zIm S 47 sn47) {a : List Int} {g : rHp} : ∀ (ρ : Nat → Int) (γ : Nat → rHp), jn49 a g 0 (zAg (zNA a49_ 0) ρ) (γ 1) → zO 23 S a g q49a0_20 ρ γ → zGl (fun i vs g1 => jn49 a g i vs g1) (sn49 a g) q49a0_20 ρ γ := by
  intro ρ γ hJ h
  obtain ⟨ha, hg, hr, hf, hm, hc, hl⟩ := h
  have ha : a = [ρ 0, ρ 1, ρ 2, ρ 3, ρ 4, ρ 5, ρ 6, ρ 7, ρ 8, ρ 9, ρ 10, ρ 11, ρ 12, ρ 13, ρ 14, ρ 15, ρ 16, ρ 17, ρ 18, ρ 19, ρ 20, ρ 21, ρ 22] := ha
  subst ha
  subst hg
  have hJ : jn49 [ρ 0, ρ 1, ρ 2, ρ 3, ρ 4, ρ 5, ρ 6, ρ 7, ρ 8, ρ 9, ρ 10, ρ 11, ρ 12, ρ 13, ρ 14, ρ 15, ρ 16, ρ 17, ρ 18, ρ 19, ρ 20, ρ 21, ρ 22] (γ 0) 0 [ρ 0, ρ 1, ρ 2, ρ 3, ρ 4, ρ 5, ρ 6, ρ 7, ρ 8, ρ 9, ρ 10, ρ 11, ρ 12, ρ 13, ρ 14, ρ 15, ρ 16, ρ 17, ρ 18, ρ 19, ρ 20, ρ 21, ρ 22, ρ 23, ρ 24, ρ 25, ρ 26, ρ 27, ρ 28, ρ 29, ρ 30, ρ 31, ρ 32, ρ 33, ρ 34, ρ 35, ρ 36, ρ 37, ρ 38] (γ 1) := hJ
  have r8 : (0 : Int) ≤ ρ 8 ∧ ρ 8 ≤ 19 := zRnA hr 8
  have r23 : (0 : Int) ≤ ρ 23 ∧ ρ 23 ≤ 4 := zRnA hr 23
  have r37 : (0 : Int) ≤ ρ 37 ∧ ρ 37 ≤ 0 := zRnA hr 37
  have r39 : ((-1) : Int) ≤ ρ 39 ∧ ρ 39 ≤ (-1) := zRnA hr 39
  have r41 : (46 : Int) ≤ ρ 41 ∧ ρ 41 ≤ 46 := zRnA hr 41
  have f0 : (0 : Int) ≤ -ρ 7 + -ρ 6 + 399 := zAllA hf 0
  have f1 : (0 : Int) ≤ -ρ 40 + ρ 1 + (-1) := zAllA hf 1
  obtain ⟨w_0, w_1, w_2, w_3, w_4, w_5, w_6⟩ : (ρ 23 ≥ ρ 37) ∧ (¬ (ρ 39 ≥ 0)) ∧ (ρ 8 ≠ 20) ∧ (0 ≤ -ρ 40 + ρ 1 + (-1)) ∧ (¬ (ρ 41 ≠ 46)) ∧ (ρ 7 + ρ 6 ≠ 400) ∧ (0 ≥ ρ 37) := ⟨by omega, by omega, by omega, by omega, by omega, by omega, by omega⟩
  have m1 : γ 0 15 0 34 = ρ 1 := zAllA hm 1
  have m4 : γ 0 15 0 32 = ρ 4 := zAllA hm 4
  have m5 : γ 0 15 0 33 = ρ 5 := zAllA hm 5
  have m6 : γ 0 15 0 17 = ρ 6 := zAllA hm 6
  have m7 : γ 0 15 0 18 = ρ 7 := zAllA hm 7
  have m8 : γ 0 15 0 14 = ρ 8 := zAllA hm 8
  have m27 : γ 1 15 0 44 = ρ 28 := zAllA hm 27
  have m28 : γ 1 15 0 49 = ρ 29 := zAllA hm 28
  have m29 : γ 1 15 0 50 = ρ 30 := zAllA hm 29
  have m35 : γ 1 15 0 46 = ρ 35 := zAllA hm 35
  have m36 : γ 1 15 0 47 = ρ 36 := zAllA hm 36
  have m37 : γ 1 15 0 48 = ρ 37 := zAllA hm 37
  have m40 : γ 4 15 0 35 = ρ 40 := zAllA hm 40
  have c7 : γ 7 = rUp (γ 6) 15 0 35 (ρ 40 + 1) := And.right (zChA hc 7)
  have c9 : γ 9 = rUp (γ 8) 67 0 (ρ 7 + ρ 6) (ρ 8) := And.right (zChA hc 5)
  have c10 : γ 10 = rUp (γ 9) 68 0 (4 * ρ 7 + 4 * ρ 6) 0 := And.right (zChA hc 4)
  have c11 : γ 11 = rUp (γ 10) 68 0 (4 * ρ 7 + 4 * ρ 6 + 1) 0 := And.right (zChA hc 3)
  have c12 : γ 12 = rUp (γ 11) 68 0 (4 * ρ 7 + 4 * ρ 6 + 2) 0 := And.right (zChA hc 2)
  have c13 : γ 13 = rUp (γ 12) 68 0 (4 * ρ 7 + 4 * ρ 6 + 3) 0 := And.right (zChA hc 1)
  have c14 : γ 14 = rUp (γ 13) 15 0 18 (ρ 7 + 1) := And.right (zChA hc 0)
  have l0 : sn21 [ρ 35, ρ 36, ρ 37, ρ 8] (γ 1) 0 (ρ 39) (γ 2) := hS21 _ _ _ _ _ (zAllA hl 0)
  have l1 : sn39 [ρ 35, ρ 36, ρ 37, ρ 8] (γ 2) 0 (ρ 8) (γ 3) := hS39 _ _ _ _ _ (zAllA hl 1)
  have l2 : sn7 [ρ 24, ρ 1] (γ 3) 0 0 (γ 4) := hS7 _ _ _ _ _ (zAllA hl 2)
  have l3 : sn6 [ρ 40, ρ 1] (γ 4) 0 (ρ 41) (γ 5) := hS6 _ _ _ _ _ (zAllA hl 3)
  have l4 : sn31 [ρ 1, ρ 15, ρ 37] (γ 5) 0 1 (γ 6) := hS31 _ _ _ _ _ (zAllA hl 4)
  have l5 : sn46 [ρ 8, ρ 7 + ρ 6, ρ 8 + 1, ρ 6, ρ 7, ρ 37] (γ 7) 0 (-1) (γ 8) := hS46 _ _ _ _ _ (zAllA hl 5)
  show sn49 [ρ 0, ρ 1, ρ 2, ρ 3, ρ 4, ρ 5, ρ 6, ρ 7, ρ 8, ρ 9, ρ 10, ρ 11, ρ 12, ρ 13, ρ 14, ρ 15, ρ 16, ρ 17, ρ 18, ρ 19, ρ 20, ρ 21, ρ 22] (γ 0) 0 1 (γ 14)
  have hD : en49 (γ 0) (0, [ρ 23], γ 1) = .inr (0, 1, γ 14) := by
    unfold en49
    refine zIP (show (0 : Nat) = 0 by decide) (zLV (γ 1) rfl (zLV (ρ 23) rfl (zLE m1 (zLE m4 (zLE m5 (zLE m6 (zLE m7 ?_)))))))
    refine zLE m8 (zLE m27 (zLE m28 (zLE m29 (zLE m35 (zLE m36 (zLE m37 (zIP w_0 ?_)))))))
    refine zLE (show fn21 [ρ 35, ρ 36, ρ 37] (γ 1) = (0, ρ 39, γ 2) from l0.symm) (zLV (γ 2) rfl (zLV (ρ 39) rfl (zIN w_1 (zIP w_2 (zLE (show fn39 [ρ 35, ρ 36, ρ 37] (γ 2) = (0, ρ 8, γ 3) from l1.symm) (zLV (γ 3) rfl (zLE (show fn7 [] (γ 3) = (0, 0, γ 4) from l2.symm) ?_)))))))
    refine zLV (γ 4) rfl (zLE m40 (zLE (show fn6 [ρ 40] (γ 4) = (0, ρ 41, γ 5) from l3.symm) (zLV (γ 5) rfl (zIP w_3 (zLV (ρ 41) rfl (zIN w_4 (zLE (show fn31 [] (γ 5) = (0, 1, γ 6) from l4.symm) ?_)))))))
    refine zLV (γ 6) rfl (zIP zQ1_ (zLE c7.symm (zLE (show fn46 [ρ 8, ρ 7 + ρ 6] (γ 7) = (0, (-1), γ 8) from l5.symm) (zLV (γ 8) rfl (zIP w_5 (zLE c9.symm (zIP w_6 ?_)))))))
    refine zLE c10.symm (zLE c11.symm (zLE c12.symm (zLE c13.symm (zLE c14.symm ?_))))
    rfl
  exact zGoo_aend hJ hD
theorem vn49a0_21 {S : Nat → zSpc} (hS6 : zIm S 6 sn6) (hS7 : zIm S 7 sn7) (hS8 : zIm S 8 sn8) (hS21 : zIm S 21 sn21) (hS25 : zIm S 25 sn25) (hS27 : zIm S 27 sn27) (hS28 : zIm S 28 sn28) (hS30 : zIm S 30 sn30) (hS31 : zIm S 31 sn31) (hS39 : zIm S 39 sn39) (hS43 : zIm S 43 sn43) (hS44 : zIm S 44 sn44) (hS45 : zIm S 45 sn45) (hS46 : zIm S 46 sn46) (hS47 : zIm S 47 sn47) {a : List Int} {g : rHp} : ∀ (ρ : Nat → Int) (γ : Nat → rHp), jn49 a g 0 (zAg (zNA a49_ 0) ρ) (γ 1) → zO 23 S a g q49a0_21 ρ γ → zGl (fun i vs g1 => jn49 a g i vs g1) (sn49 a g) q49a0_21 ρ γ := by
  intro ρ γ hJ h
  obtain ⟨ha, hg, hr, hf, hm, hc, hl⟩ := h
  have ha : a = [ρ 0, ρ 1, ρ 2, ρ 3, ρ 4, ρ 5, ρ 6, ρ 7, ρ 8, ρ 9, ρ 10, ρ 11, ρ 12, ρ 13, ρ 14, ρ 15, ρ 16, ρ 17, ρ 18, ρ 19, ρ 20, ρ 21, ρ 22] := ha
  subst ha
  subst hg
  have hJ : jn49 [ρ 0, ρ 1, ρ 2, ρ 3, ρ 4, ρ 5, ρ 6, ρ 7, ρ 8, ρ 9, ρ 10, ρ 11, ρ 12, ρ 13, ρ 14, ρ 15, ρ 16, ρ 17, ρ 18, ρ 19, ρ 20, ρ 21, ρ 22] (γ 0) 0 [ρ 0, ρ 1, ρ 2, ρ 3, ρ 4, ρ 5, ρ 6, ρ 7, ρ 8, ρ 9, ρ 10, ρ 11, ρ 12, ρ 13, ρ 14, ρ 15, ρ 16, ρ 17, ρ 18, ρ 19, ρ 20, ρ 21, ρ 22, ρ 23, ρ 24, ρ 25, ρ 26, ρ 27, ρ 28, ρ 29, ρ 30, ρ 31, ρ 32, ρ 33, ρ 34, ρ 35, ρ 36, ρ 37, ρ 38] (γ 1) := hJ
  have r8 : (0 : Int) ≤ ρ 8 ∧ ρ 8 ≤ 19 := zRnA hr 8
  have r37 : (1 : Int) ≤ ρ 37 ∧ ρ 37 ≤ 1 := zRnA hr 37
  have r39 : ((-1) : Int) ≤ ρ 39 ∧ ρ 39 ≤ (-1) := zRnA hr 39
  have r41 : (46 : Int) ≤ ρ 41 ∧ ρ 41 ≤ 46 := zRnA hr 41
  have f0 : (0 : Int) ≤ -ρ 7 + -ρ 6 + 399 := zAllA hf 0
  have f1 : (0 : Int) ≤ -ρ 40 + ρ 1 + (-1) := zAllA hf 1
  have f7 : (0 : Int) ≤ -ρ 37 + ρ 23 := zAllA hf 7
  obtain ⟨w_0, w_1, w_2, w_3, w_4, w_5, w_6, w_7⟩ : (ρ 23 ≥ ρ 37) ∧ (¬ (ρ 39 ≥ 0)) ∧ (ρ 8 ≠ 20) ∧ (0 ≤ -ρ 40 + ρ 1 + (-1)) ∧ (¬ (ρ 41 ≠ 46)) ∧ (ρ 7 + ρ 6 ≠ 400) ∧ (¬ (0 ≥ ρ 37)) ∧ (1 ≥ ρ 37) := ⟨by omega, by omega, by omega, by omega, by omega, by omega, by omega, by omega⟩
  have m1 : γ 0 15 0 34 = ρ 1 := zAllA hm 1
  have m4 : γ 0 15 0 32 = ρ 4 := zAllA hm 4
  have m5 : γ 0 15 0 33 = ρ 5 := zAllA hm 5
  have m6 : γ 0 15 0 17 = ρ 6 := zAllA hm 6
  have m7 : γ 0 15 0 18 = ρ 7 := zAllA hm 7
  have m8 : γ 0 15 0 14 = ρ 8 := zAllA hm 8
  have m27 : γ 1 15 0 44 = ρ 28 := zAllA hm 27
  have m28 : γ 1 15 0 49 = ρ 29 := zAllA hm 28
  have m29 : γ 1 15 0 50 = ρ 30 := zAllA hm 29
  have m35 : γ 1 15 0 46 = ρ 35 := zAllA hm 35
  have m36 : γ 1 15 0 47 = ρ 36 := zAllA hm 36
  have m37 : γ 1 15 0 48 = ρ 37 := zAllA hm 37
  have m40 : γ 4 15 0 35 = ρ 40 := zAllA hm 40
  have m42 : γ 1 87 0 0 = ρ 42 := zAllA hm 42
  have c7 : γ 7 = rUp (γ 6) 15 0 35 (ρ 40 + 1) := And.right (zChA hc 7)
  have c9 : γ 9 = rUp (γ 8) 67 0 (ρ 7 + ρ 6) (ρ 8) := And.right (zChA hc 5)
  have c10 : γ 10 = rUp (γ 9) 68 0 (4 * ρ 7 + 4 * ρ 6) (ρ 42) := And.right (zChA hc 4)
  have c11 : γ 11 = rUp (γ 10) 68 0 (4 * ρ 7 + 4 * ρ 6 + 1) 0 := And.right (zChA hc 3)
  have c12 : γ 12 = rUp (γ 11) 68 0 (4 * ρ 7 + 4 * ρ 6 + 2) 0 := And.right (zChA hc 2)
  have c13 : γ 13 = rUp (γ 12) 68 0 (4 * ρ 7 + 4 * ρ 6 + 3) 0 := And.right (zChA hc 1)
  have c14 : γ 14 = rUp (γ 13) 15 0 18 (ρ 7 + 1) := And.right (zChA hc 0)
  have l0 : sn21 [ρ 35, ρ 36, ρ 37, ρ 8] (γ 1) 0 (ρ 39) (γ 2) := hS21 _ _ _ _ _ (zAllA hl 0)
  have l1 : sn39 [ρ 35, ρ 36, ρ 37, ρ 8] (γ 2) 0 (ρ 8) (γ 3) := hS39 _ _ _ _ _ (zAllA hl 1)
  have l2 : sn7 [ρ 24, ρ 1] (γ 3) 0 0 (γ 4) := hS7 _ _ _ _ _ (zAllA hl 2)
  have l3 : sn6 [ρ 40, ρ 1] (γ 4) 0 (ρ 41) (γ 5) := hS6 _ _ _ _ _ (zAllA hl 3)
  have l4 : sn31 [ρ 1, ρ 15, ρ 37] (γ 5) 0 1 (γ 6) := hS31 _ _ _ _ _ (zAllA hl 4)
  have l5 : sn46 [ρ 8, ρ 7 + ρ 6, ρ 8 + 1, ρ 6, ρ 7, ρ 37] (γ 7) 0 (-1) (γ 8) := hS46 _ _ _ _ _ (zAllA hl 5)
  show sn49 [ρ 0, ρ 1, ρ 2, ρ 3, ρ 4, ρ 5, ρ 6, ρ 7, ρ 8, ρ 9, ρ 10, ρ 11, ρ 12, ρ 13, ρ 14, ρ 15, ρ 16, ρ 17, ρ 18, ρ 19, ρ 20, ρ 21, ρ 22] (γ 0) 0 1 (γ 14)
  have hD : en49 (γ 0) (0, [ρ 23], γ 1) = .inr (0, 1, γ 14) := by
    unfold en49
    refine zIP (show (0 : Nat) = 0 by decide) (zLV (γ 1) rfl (zLV (ρ 23) rfl (zLE m1 (zLE m4 (zLE m5 (zLE m6 (zLE m7 ?_)))))))
    refine zLE m8 (zLE m27 (zLE m28 (zLE m29 (zLE m35 (zLE m36 (zLE m37 (zIP w_0 ?_)))))))
    refine zLE (show fn21 [ρ 35, ρ 36, ρ 37] (γ 1) = (0, ρ 39, γ 2) from l0.symm) (zLV (γ 2) rfl (zLV (ρ 39) rfl (zIN w_1 (zIP w_2 (zLE (show fn39 [ρ 35, ρ 36, ρ 37] (γ 2) = (0, ρ 8, γ 3) from l1.symm) (zLV (γ 3) rfl (zLE (show fn7 [] (γ 3) = (0, 0, γ 4) from l2.symm) ?_)))))))
    refine zLV (γ 4) rfl (zLE m40 (zLE (show fn6 [ρ 40] (γ 4) = (0, ρ 41, γ 5) from l3.symm) (zLV (γ 5) rfl (zIP w_3 (zLV (ρ 41) rfl (zIN w_4 (zLE (show fn31 [] (γ 5) = (0, 1, γ 6) from l4.symm) ?_)))))))
    refine zLV (γ 6) rfl (zIP zQ1_ (zLE c7.symm (zLE (show fn46 [ρ 8, ρ 7 + ρ 6] (γ 7) = (0, (-1), γ 8) from l5.symm) (zLV (γ 8) rfl (zIP w_5 (zLE c9.symm (zIN w_6 ?_)))))))
    refine zLE m42 (zLE c10.symm (zIP w_7 (zLE c11.symm (zLE c12.symm (zLE c13.symm (zLE c14.symm ?_))))))
    rfl
  exact zGoo_aend hJ hD
theorem vn49a0_22 {S : Nat → zSpc} (hS6 : zIm S 6 sn6) (hS7 : zIm S 7 sn7) (hS8 : zIm S 8 sn8) (hS21 : zIm S 21 sn21) (hS25 : zIm S 25 sn25) (hS27 : zIm S 27 sn27) (hS28 : zIm S 28 sn28) (hS30 : zIm S 30 sn30) (hS31 : zIm S 31 sn31) (hS39 : zIm S 39 sn39) (hS43 : zIm S 43 sn43) (hS44 : zIm S 44 sn44) (hS45 : zIm S 45 sn45) (hS46 : zIm S 46 sn46) (hS47 : zIm S 47 sn47) {a : List Int} {g : rHp} : ∀ (ρ : Nat → Int) (γ : Nat → rHp), jn49 a g 0 (zAg (zNA a49_ 0) ρ) (γ 1) → zO 23 S a g q49a0_22 ρ γ → zGl (fun i vs g1 => jn49 a g i vs g1) (sn49 a g) q49a0_22 ρ γ := by
  intro ρ γ hJ h
  obtain ⟨ha, hg, hr, hf, hm, hc, hl⟩ := h
  have ha : a = [ρ 0, ρ 1, ρ 2, ρ 3, ρ 4, ρ 5, ρ 6, ρ 7, ρ 8, ρ 9, ρ 10, ρ 11, ρ 12, ρ 13, ρ 14, ρ 15, ρ 16, ρ 17, ρ 18, ρ 19, ρ 20, ρ 21, ρ 22] := ha
  subst ha
  subst hg
  have hJ : jn49 [ρ 0, ρ 1, ρ 2, ρ 3, ρ 4, ρ 5, ρ 6, ρ 7, ρ 8, ρ 9, ρ 10, ρ 11, ρ 12, ρ 13, ρ 14, ρ 15, ρ 16, ρ 17, ρ 18, ρ 19, ρ 20, ρ 21, ρ 22] (γ 0) 0 [ρ 0, ρ 1, ρ 2, ρ 3, ρ 4, ρ 5, ρ 6, ρ 7, ρ 8, ρ 9, ρ 10, ρ 11, ρ 12, ρ 13, ρ 14, ρ 15, ρ 16, ρ 17, ρ 18, ρ 19, ρ 20, ρ 21, ρ 22, ρ 23, ρ 24, ρ 25, ρ 26, ρ 27, ρ 28, ρ 29, ρ 30, ρ 31, ρ 32, ρ 33, ρ 34, ρ 35, ρ 36, ρ 37, ρ 38] (γ 1) := hJ
  have r8 : (0 : Int) ≤ ρ 8 ∧ ρ 8 ≤ 19 := zRnA hr 8
  have r37 : (2 : Int) ≤ ρ 37 ∧ ρ 37 ≤ 2 := zRnA hr 37
  have r39 : ((-1) : Int) ≤ ρ 39 ∧ ρ 39 ≤ (-1) := zRnA hr 39
  have r41 : (46 : Int) ≤ ρ 41 ∧ ρ 41 ≤ 46 := zRnA hr 41
  have f0 : (0 : Int) ≤ -ρ 7 + -ρ 6 + 399 := zAllA hf 0
  have f1 : (0 : Int) ≤ -ρ 40 + ρ 1 + (-1) := zAllA hf 1
  have f7 : (0 : Int) ≤ -ρ 37 + ρ 23 := zAllA hf 7
  obtain ⟨w_0, w_1, w_2, w_3, w_4, w_5, w_6, w_7, w_8⟩ : (ρ 23 ≥ ρ 37) ∧ (¬ (ρ 39 ≥ 0)) ∧ (ρ 8 ≠ 20) ∧ (0 ≤ -ρ 40 + ρ 1 + (-1)) ∧ (¬ (ρ 41 ≠ 46)) ∧ (ρ 7 + ρ 6 ≠ 400) ∧ (¬ (0 ≥ ρ 37)) ∧ (¬ (1 ≥ ρ 37)) ∧ (2 ≥ ρ 37) := ⟨by omega, by omega, by omega, by omega, by omega, by omega, by omega, by omega, by omega⟩
  have m1 : γ 0 15 0 34 = ρ 1 := zAllA hm 1
  have m4 : γ 0 15 0 32 = ρ 4 := zAllA hm 4
  have m5 : γ 0 15 0 33 = ρ 5 := zAllA hm 5
  have m6 : γ 0 15 0 17 = ρ 6 := zAllA hm 6
  have m7 : γ 0 15 0 18 = ρ 7 := zAllA hm 7
  have m8 : γ 0 15 0 14 = ρ 8 := zAllA hm 8
  have m27 : γ 1 15 0 44 = ρ 28 := zAllA hm 27
  have m28 : γ 1 15 0 49 = ρ 29 := zAllA hm 28
  have m29 : γ 1 15 0 50 = ρ 30 := zAllA hm 29
  have m35 : γ 1 15 0 46 = ρ 35 := zAllA hm 35
  have m36 : γ 1 15 0 47 = ρ 36 := zAllA hm 36
  have m37 : γ 1 15 0 48 = ρ 37 := zAllA hm 37
  have m40 : γ 4 15 0 35 = ρ 40 := zAllA hm 40
  have m42 : γ 1 87 0 0 = ρ 42 := zAllA hm 42
  have m43 : γ 1 87 0 1 = ρ 43 := zAllA hm 43
  have c7 : γ 7 = rUp (γ 6) 15 0 35 (ρ 40 + 1) := And.right (zChA hc 7)
  have c9 : γ 9 = rUp (γ 8) 67 0 (ρ 7 + ρ 6) (ρ 8) := And.right (zChA hc 5)
  have c10 : γ 10 = rUp (γ 9) 68 0 (4 * ρ 7 + 4 * ρ 6) (ρ 42) := And.right (zChA hc 4)
  have c11 : γ 11 = rUp (γ 10) 68 0 (4 * ρ 7 + 4 * ρ 6 + 1) (ρ 43) := And.right (zChA hc 3)
  have c12 : γ 12 = rUp (γ 11) 68 0 (4 * ρ 7 + 4 * ρ 6 + 2) 0 := And.right (zChA hc 2)
  have c13 : γ 13 = rUp (γ 12) 68 0 (4 * ρ 7 + 4 * ρ 6 + 3) 0 := And.right (zChA hc 1)
  have c14 : γ 14 = rUp (γ 13) 15 0 18 (ρ 7 + 1) := And.right (zChA hc 0)
  have l0 : sn21 [ρ 35, ρ 36, ρ 37, ρ 8] (γ 1) 0 (ρ 39) (γ 2) := hS21 _ _ _ _ _ (zAllA hl 0)
  have l1 : sn39 [ρ 35, ρ 36, ρ 37, ρ 8] (γ 2) 0 (ρ 8) (γ 3) := hS39 _ _ _ _ _ (zAllA hl 1)
  have l2 : sn7 [ρ 24, ρ 1] (γ 3) 0 0 (γ 4) := hS7 _ _ _ _ _ (zAllA hl 2)
  have l3 : sn6 [ρ 40, ρ 1] (γ 4) 0 (ρ 41) (γ 5) := hS6 _ _ _ _ _ (zAllA hl 3)
  have l4 : sn31 [ρ 1, ρ 15, ρ 37] (γ 5) 0 1 (γ 6) := hS31 _ _ _ _ _ (zAllA hl 4)
  have l5 : sn46 [ρ 8, ρ 7 + ρ 6, ρ 8 + 1, ρ 6, ρ 7, ρ 37] (γ 7) 0 (-1) (γ 8) := hS46 _ _ _ _ _ (zAllA hl 5)
  show sn49 [ρ 0, ρ 1, ρ 2, ρ 3, ρ 4, ρ 5, ρ 6, ρ 7, ρ 8, ρ 9, ρ 10, ρ 11, ρ 12, ρ 13, ρ 14, ρ 15, ρ 16, ρ 17, ρ 18, ρ 19, ρ 20, ρ 21, ρ 22] (γ 0) 0 1 (γ 14)
  have hD : en49 (γ 0) (0, [ρ 23], γ 1) = .inr (0, 1, γ 14) := by
    unfold en49
    refine zIP (show (0 : Nat) = 0 by decide) (zLV (γ 1) rfl (zLV (ρ 23) rfl (zLE m1 (zLE m4 (zLE m5 (zLE m6 (zLE m7 ?_)))))))
    refine zLE m8 (zLE m27 (zLE m28 (zLE m29 (zLE m35 (zLE m36 (zLE m37 (zIP w_0 ?_)))))))
    refine zLE (show fn21 [ρ 35, ρ 36, ρ 37] (γ 1) = (0, ρ 39, γ 2) from l0.symm) (zLV (γ 2) rfl (zLV (ρ 39) rfl (zIN w_1 (zIP w_2 (zLE (show fn39 [ρ 35, ρ 36, ρ 37] (γ 2) = (0, ρ 8, γ 3) from l1.symm) (zLV (γ 3) rfl (zLE (show fn7 [] (γ 3) = (0, 0, γ 4) from l2.symm) ?_)))))))
    refine zLV (γ 4) rfl (zLE m40 (zLE (show fn6 [ρ 40] (γ 4) = (0, ρ 41, γ 5) from l3.symm) (zLV (γ 5) rfl (zIP w_3 (zLV (ρ 41) rfl (zIN w_4 (zLE (show fn31 [] (γ 5) = (0, 1, γ 6) from l4.symm) ?_)))))))
    refine zLV (γ 6) rfl (zIP zQ1_ (zLE c7.symm (zLE (show fn46 [ρ 8, ρ 7 + ρ 6] (γ 7) = (0, (-1), γ 8) from l5.symm) (zLV (γ 8) rfl (zIP w_5 (zLE c9.symm (zIN w_6 ?_)))))))
    refine zLE m42 (zLE c10.symm (zIN w_7 (zLE m43 (zLE c11.symm (zIP w_8 (zLE c12.symm (zLE c13.symm ?_)))))))
    refine zLE c14.symm ?_
    rfl
  exact zGoo_aend hJ hD
theorem vn49a0_23 {S : Nat → zSpc} (hS6 : zIm S 6 sn6) (hS7 : zIm S 7 sn7) (hS8 : zIm S 8 sn8) (hS21 : zIm S 21 sn21) (hS25 : zIm S 25 sn25) (hS27 : zIm S 27 sn27) (hS28 : zIm S 28 sn28) (hS30 : zIm S 30 sn30) (hS31 : zIm S 31 sn31) (hS39 : zIm S 39 sn39) (hS43 : zIm S 43 sn43) (hS44 : zIm S 44 sn44) (hS45 : zIm S 45 sn45) (hS46 : zIm S 46 sn46) (hS47 : zIm S 47 sn47) {a : List Int} {g : rHp} : ∀ (ρ : Nat → Int) (γ : Nat → rHp), jn49 a g 0 (zAg (zNA a49_ 0) ρ) (γ 1) → zO 23 S a g q49a0_23 ρ γ → zGl (fun i vs g1 => jn49 a g i vs g1) (sn49 a g) q49a0_23 ρ γ := by
  intro ρ γ hJ h
  obtain ⟨ha, hg, hr, hf, hm, hc, hl⟩ := h
  have ha : a = [ρ 0, ρ 1, ρ 2, ρ 3, ρ 4, ρ 5, ρ 6, ρ 7, ρ 8, ρ 9, ρ 10, ρ 11, ρ 12, ρ 13, ρ 14, ρ 15, ρ 16, ρ 17, ρ 18, ρ 19, ρ 20, ρ 21, ρ 22] := ha
  subst ha
  subst hg
  have hJ : jn49 [ρ 0, ρ 1, ρ 2, ρ 3, ρ 4, ρ 5, ρ 6, ρ 7, ρ 8, ρ 9, ρ 10, ρ 11, ρ 12, ρ 13, ρ 14, ρ 15, ρ 16, ρ 17, ρ 18, ρ 19, ρ 20, ρ 21, ρ 22] (γ 0) 0 [ρ 0, ρ 1, ρ 2, ρ 3, ρ 4, ρ 5, ρ 6, ρ 7, ρ 8, ρ 9, ρ 10, ρ 11, ρ 12, ρ 13, ρ 14, ρ 15, ρ 16, ρ 17, ρ 18, ρ 19, ρ 20, ρ 21, ρ 22, ρ 23, ρ 24, ρ 25, ρ 26, ρ 27, ρ 28, ρ 29, ρ 30, ρ 31, ρ 32, ρ 33, ρ 34, ρ 35, ρ 36, ρ 37, ρ 38] (γ 1) := hJ
  have r8 : (0 : Int) ≤ ρ 8 ∧ ρ 8 ≤ 19 := zRnA hr 8
  have r37 : (3 : Int) ≤ ρ 37 ∧ ρ 37 ≤ 3 := zRnA hr 37
  have r39 : ((-1) : Int) ≤ ρ 39 ∧ ρ 39 ≤ (-1) := zRnA hr 39
  have r41 : (46 : Int) ≤ ρ 41 ∧ ρ 41 ≤ 46 := zRnA hr 41
  have f0 : (0 : Int) ≤ -ρ 7 + -ρ 6 + 399 := zAllA hf 0
  have f1 : (0 : Int) ≤ -ρ 40 + ρ 1 + (-1) := zAllA hf 1
  have f7 : (0 : Int) ≤ -ρ 37 + ρ 23 := zAllA hf 7
  obtain ⟨w_0, w_1, w_2, w_3, w_4, w_5, w_6, w_7, w_8, w_9⟩ : (ρ 23 ≥ ρ 37) ∧ (¬ (ρ 39 ≥ 0)) ∧ (ρ 8 ≠ 20) ∧ (0 ≤ -ρ 40 + ρ 1 + (-1)) ∧ (¬ (ρ 41 ≠ 46)) ∧ (ρ 7 + ρ 6 ≠ 400) ∧ (¬ (0 ≥ ρ 37)) ∧ (¬ (1 ≥ ρ 37)) ∧ (¬ (2 ≥ ρ 37)) ∧ (3 ≥ ρ 37) := ⟨by omega, by omega, by omega, by omega, by omega, by omega, by omega, by omega, by omega, by omega⟩
  have m1 : γ 0 15 0 34 = ρ 1 := zAllA hm 1
  have m4 : γ 0 15 0 32 = ρ 4 := zAllA hm 4
  have m5 : γ 0 15 0 33 = ρ 5 := zAllA hm 5
  have m6 : γ 0 15 0 17 = ρ 6 := zAllA hm 6
  have m7 : γ 0 15 0 18 = ρ 7 := zAllA hm 7
  have m8 : γ 0 15 0 14 = ρ 8 := zAllA hm 8
  have m27 : γ 1 15 0 44 = ρ 28 := zAllA hm 27
  have m28 : γ 1 15 0 49 = ρ 29 := zAllA hm 28
  have m29 : γ 1 15 0 50 = ρ 30 := zAllA hm 29
  have m35 : γ 1 15 0 46 = ρ 35 := zAllA hm 35
  have m36 : γ 1 15 0 47 = ρ 36 := zAllA hm 36
  have m37 : γ 1 15 0 48 = ρ 37 := zAllA hm 37
  have m40 : γ 4 15 0 35 = ρ 40 := zAllA hm 40
  have m42 : γ 1 87 0 0 = ρ 42 := zAllA hm 42
  have m43 : γ 1 87 0 1 = ρ 43 := zAllA hm 43
  have m44 : γ 1 87 0 2 = ρ 44 := zAllA hm 44
  have c7 : γ 7 = rUp (γ 6) 15 0 35 (ρ 40 + 1) := And.right (zChA hc 7)
  have c9 : γ 9 = rUp (γ 8) 67 0 (ρ 7 + ρ 6) (ρ 8) := And.right (zChA hc 5)
  have c10 : γ 10 = rUp (γ 9) 68 0 (4 * ρ 7 + 4 * ρ 6) (ρ 42) := And.right (zChA hc 4)
  have c11 : γ 11 = rUp (γ 10) 68 0 (4 * ρ 7 + 4 * ρ 6 + 1) (ρ 43) := And.right (zChA hc 3)
  have c12 : γ 12 = rUp (γ 11) 68 0 (4 * ρ 7 + 4 * ρ 6 + 2) (ρ 44) := And.right (zChA hc 2)
  have c13 : γ 13 = rUp (γ 12) 68 0 (4 * ρ 7 + 4 * ρ 6 + 3) 0 := And.right (zChA hc 1)
  have c14 : γ 14 = rUp (γ 13) 15 0 18 (ρ 7 + 1) := And.right (zChA hc 0)
  have l0 : sn21 [ρ 35, ρ 36, ρ 37, ρ 8] (γ 1) 0 (ρ 39) (γ 2) := hS21 _ _ _ _ _ (zAllA hl 0)
  have l1 : sn39 [ρ 35, ρ 36, ρ 37, ρ 8] (γ 2) 0 (ρ 8) (γ 3) := hS39 _ _ _ _ _ (zAllA hl 1)
  have l2 : sn7 [ρ 24, ρ 1] (γ 3) 0 0 (γ 4) := hS7 _ _ _ _ _ (zAllA hl 2)
  have l3 : sn6 [ρ 40, ρ 1] (γ 4) 0 (ρ 41) (γ 5) := hS6 _ _ _ _ _ (zAllA hl 3)
  have l4 : sn31 [ρ 1, ρ 15, ρ 37] (γ 5) 0 1 (γ 6) := hS31 _ _ _ _ _ (zAllA hl 4)
  have l5 : sn46 [ρ 8, ρ 7 + ρ 6, ρ 8 + 1, ρ 6, ρ 7, ρ 37] (γ 7) 0 (-1) (γ 8) := hS46 _ _ _ _ _ (zAllA hl 5)
  show sn49 [ρ 0, ρ 1, ρ 2, ρ 3, ρ 4, ρ 5, ρ 6, ρ 7, ρ 8, ρ 9, ρ 10, ρ 11, ρ 12, ρ 13, ρ 14, ρ 15, ρ 16, ρ 17, ρ 18, ρ 19, ρ 20, ρ 21, ρ 22] (γ 0) 0 1 (γ 14)
  have hD : en49 (γ 0) (0, [ρ 23], γ 1) = .inr (0, 1, γ 14) := by
    unfold en49
    refine zIP (show (0 : Nat) = 0 by decide) (zLV (γ 1) rfl (zLV (ρ 23) rfl (zLE m1 (zLE m4 (zLE m5 (zLE m6 (zLE m7 ?_)))))))
    refine zLE m8 (zLE m27 (zLE m28 (zLE m29 (zLE m35 (zLE m36 (zLE m37 (zIP w_0 ?_)))))))
    refine zLE (show fn21 [ρ 35, ρ 36, ρ 37] (γ 1) = (0, ρ 39, γ 2) from l0.symm) (zLV (γ 2) rfl (zLV (ρ 39) rfl (zIN w_1 (zIP w_2 (zLE (show fn39 [ρ 35, ρ 36, ρ 37] (γ 2) = (0, ρ 8, γ 3) from l1.symm) (zLV (γ 3) rfl (zLE (show fn7 [] (γ 3) = (0, 0, γ 4) from l2.symm) ?_)))))))
    refine zLV (γ 4) rfl (zLE m40 (zLE (show fn6 [ρ 40] (γ 4) = (0, ρ 41, γ 5) from l3.symm) (zLV (γ 5) rfl (zIP w_3 (zLV (ρ 41) rfl (zIN w_4 (zLE (show fn31 [] (γ 5) = (0, 1, γ 6) from l4.symm) ?_)))))))
    refine zLV (γ 6) rfl (zIP zQ1_ (zLE c7.symm (zLE (show fn46 [ρ 8, ρ 7 + ρ 6] (γ 7) = (0, (-1), γ 8) from l5.symm) (zLV (γ 8) rfl (zIP w_5 (zLE c9.symm (zIN w_6 ?_)))))))
    refine zLE m42 (zLE c10.symm (zIN w_7 (zLE m43 (zLE c11.symm (zIN w_8 (zLE m44 (zLE c12.symm ?_)))))))
    refine zIP w_9 (zLE c13.symm (zLE c14.symm ?_))
    rfl
  exact zGoo_aend hJ hD
theorem vn49a0_24 {S : Nat → zSpc} (hS6 : zIm S 6 sn6) (hS7 : zIm S 7 sn7) (hS8 : zIm S 8 sn8) (hS21 : zIm S 21 sn21) (hS25 : zIm S 25 sn25) (hS27 : zIm S 27 sn27) (hS28 : zIm S 28 sn28) (hS30 : zIm S 30 sn30) (hS31 : zIm S 31 sn31) (hS39 : zIm S 39 sn39) (hS43 : zIm S 43 sn43) (hS44 : zIm S 44 sn44) (hS45 : zIm S 45 sn45) (hS46 : zIm S 46 sn46) (hS47 : zIm S 47 sn47) {a : List Int} {g : rHp} : ∀ (ρ : Nat → Int) (γ : Nat → rHp), jn49 a g 0 (zAg (zNA a49_ 0) ρ) (γ 1) → zO 23 S a g q49a0_24 ρ γ → zGl (fun i vs g1 => jn49 a g i vs g1) (sn49 a g) q49a0_24 ρ γ := by
  intro ρ γ hJ h
  obtain ⟨ha, hg, hr, hf, hm, hc, hl⟩ := h
  have ha : a = [ρ 0, ρ 1, ρ 2, ρ 3, ρ 4, ρ 5, ρ 6, ρ 7, ρ 8, ρ 9, ρ 10, ρ 11, ρ 12, ρ 13, ρ 14, ρ 15, ρ 16, ρ 17, ρ 18, ρ 19, ρ 20, ρ 21, ρ 22] := ha
  subst ha
  subst hg
  have hJ : jn49 [ρ 0, ρ 1, ρ 2, ρ 3, ρ 4, ρ 5, ρ 6, ρ 7, ρ 8, ρ 9, ρ 10, ρ 11, ρ 12, ρ 13, ρ 14, ρ 15, ρ 16, ρ 17, ρ 18, ρ 19, ρ 20, ρ 21, ρ 22] (γ 0) 0 [ρ 0, ρ 1, ρ 2, ρ 3, ρ 4, ρ 5, ρ 6, ρ 7, ρ 8, ρ 9, ρ 10, ρ 11, ρ 12, ρ 13, ρ 14, ρ 15, ρ 16, ρ 17, ρ 18, ρ 19, ρ 20, ρ 21, ρ 22, ρ 23, ρ 24, ρ 25, ρ 26, ρ 27, ρ 28, ρ 29, ρ 30, ρ 31, ρ 32, ρ 33, ρ 34, ρ 35, ρ 36, ρ 37, ρ 38] (γ 1) := hJ
  have r8 : (0 : Int) ≤ ρ 8 ∧ ρ 8 ≤ 19 := zRnA hr 8
  have r37 : (4 : Int) ≤ ρ 37 ∧ ρ 37 ≤ 4 := zRnA hr 37
  have r39 : ((-1) : Int) ≤ ρ 39 ∧ ρ 39 ≤ (-1) := zRnA hr 39
  have r41 : (46 : Int) ≤ ρ 41 ∧ ρ 41 ≤ 46 := zRnA hr 41
  have f0 : (0 : Int) ≤ -ρ 7 + -ρ 6 + 399 := zAllA hf 0
  have f1 : (0 : Int) ≤ -ρ 40 + ρ 1 + (-1) := zAllA hf 1
  have f7 : (0 : Int) ≤ -ρ 37 + ρ 23 := zAllA hf 7
  obtain ⟨w_0, w_1, w_2, w_3, w_4, w_5, w_6, w_7, w_8, w_9⟩ : (ρ 23 ≥ ρ 37) ∧ (¬ (ρ 39 ≥ 0)) ∧ (ρ 8 ≠ 20) ∧ (0 ≤ -ρ 40 + ρ 1 + (-1)) ∧ (¬ (ρ 41 ≠ 46)) ∧ (ρ 7 + ρ 6 ≠ 400) ∧ (¬ (0 ≥ ρ 37)) ∧ (¬ (1 ≥ ρ 37)) ∧ (¬ (2 ≥ ρ 37)) ∧ (¬ (3 ≥ ρ 37)) := ⟨by omega, by omega, by omega, by omega, by omega, by omega, by omega, by omega, by omega, by omega⟩
  have m1 : γ 0 15 0 34 = ρ 1 := zAllA hm 1
  have m4 : γ 0 15 0 32 = ρ 4 := zAllA hm 4
  have m5 : γ 0 15 0 33 = ρ 5 := zAllA hm 5
  have m6 : γ 0 15 0 17 = ρ 6 := zAllA hm 6
  have m7 : γ 0 15 0 18 = ρ 7 := zAllA hm 7
  have m8 : γ 0 15 0 14 = ρ 8 := zAllA hm 8
  have m27 : γ 1 15 0 44 = ρ 28 := zAllA hm 27
  have m28 : γ 1 15 0 49 = ρ 29 := zAllA hm 28
  have m29 : γ 1 15 0 50 = ρ 30 := zAllA hm 29
  have m35 : γ 1 15 0 46 = ρ 35 := zAllA hm 35
  have m36 : γ 1 15 0 47 = ρ 36 := zAllA hm 36
  have m37 : γ 1 15 0 48 = ρ 37 := zAllA hm 37
  have m40 : γ 4 15 0 35 = ρ 40 := zAllA hm 40
  have m42 : γ 1 87 0 0 = ρ 42 := zAllA hm 42
  have m43 : γ 1 87 0 1 = ρ 43 := zAllA hm 43
  have m44 : γ 1 87 0 2 = ρ 44 := zAllA hm 44
  have m45 : γ 1 87 0 3 = ρ 45 := zAllA hm 45
  have c7 : γ 7 = rUp (γ 6) 15 0 35 (ρ 40 + 1) := And.right (zChA hc 7)
  have c9 : γ 9 = rUp (γ 8) 67 0 (ρ 7 + ρ 6) (ρ 8) := And.right (zChA hc 5)
  have c10 : γ 10 = rUp (γ 9) 68 0 (4 * ρ 7 + 4 * ρ 6) (ρ 42) := And.right (zChA hc 4)
  have c11 : γ 11 = rUp (γ 10) 68 0 (4 * ρ 7 + 4 * ρ 6 + 1) (ρ 43) := And.right (zChA hc 3)
  have c12 : γ 12 = rUp (γ 11) 68 0 (4 * ρ 7 + 4 * ρ 6 + 2) (ρ 44) := And.right (zChA hc 2)
  have c13 : γ 13 = rUp (γ 12) 68 0 (4 * ρ 7 + 4 * ρ 6 + 3) (ρ 45) := And.right (zChA hc 1)
  have c14 : γ 14 = rUp (γ 13) 15 0 18 (ρ 7 + 1) := And.right (zChA hc 0)
  have l0 : sn21 [ρ 35, ρ 36, ρ 37, ρ 8] (γ 1) 0 (ρ 39) (γ 2) := hS21 _ _ _ _ _ (zAllA hl 0)
  have l1 : sn39 [ρ 35, ρ 36, ρ 37, ρ 8] (γ 2) 0 (ρ 8) (γ 3) := hS39 _ _ _ _ _ (zAllA hl 1)
  have l2 : sn7 [ρ 24, ρ 1] (γ 3) 0 0 (γ 4) := hS7 _ _ _ _ _ (zAllA hl 2)
  have l3 : sn6 [ρ 40, ρ 1] (γ 4) 0 (ρ 41) (γ 5) := hS6 _ _ _ _ _ (zAllA hl 3)
  have l4 : sn31 [ρ 1, ρ 15, ρ 37] (γ 5) 0 1 (γ 6) := hS31 _ _ _ _ _ (zAllA hl 4)
  have l5 : sn46 [ρ 8, ρ 7 + ρ 6, ρ 8 + 1, ρ 6, ρ 7, ρ 37] (γ 7) 0 (-1) (γ 8) := hS46 _ _ _ _ _ (zAllA hl 5)
  show sn49 [ρ 0, ρ 1, ρ 2, ρ 3, ρ 4, ρ 5, ρ 6, ρ 7, ρ 8, ρ 9, ρ 10, ρ 11, ρ 12, ρ 13, ρ 14, ρ 15, ρ 16, ρ 17, ρ 18, ρ 19, ρ 20, ρ 21, ρ 22] (γ 0) 0 1 (γ 14)
  have hD : en49 (γ 0) (0, [ρ 23], γ 1) = .inr (0, 1, γ 14) := by
    unfold en49
    refine zIP (show (0 : Nat) = 0 by decide) (zLV (γ 1) rfl (zLV (ρ 23) rfl (zLE m1 (zLE m4 (zLE m5 (zLE m6 (zLE m7 ?_)))))))
    refine zLE m8 (zLE m27 (zLE m28 (zLE m29 (zLE m35 (zLE m36 (zLE m37 (zIP w_0 ?_)))))))
    refine zLE (show fn21 [ρ 35, ρ 36, ρ 37] (γ 1) = (0, ρ 39, γ 2) from l0.symm) (zLV (γ 2) rfl (zLV (ρ 39) rfl (zIN w_1 (zIP w_2 (zLE (show fn39 [ρ 35, ρ 36, ρ 37] (γ 2) = (0, ρ 8, γ 3) from l1.symm) (zLV (γ 3) rfl (zLE (show fn7 [] (γ 3) = (0, 0, γ 4) from l2.symm) ?_)))))))
    refine zLV (γ 4) rfl (zLE m40 (zLE (show fn6 [ρ 40] (γ 4) = (0, ρ 41, γ 5) from l3.symm) (zLV (γ 5) rfl (zIP w_3 (zLV (ρ 41) rfl (zIN w_4 (zLE (show fn31 [] (γ 5) = (0, 1, γ 6) from l4.symm) ?_)))))))
    refine zLV (γ 6) rfl (zIP zQ1_ (zLE c7.symm (zLE (show fn46 [ρ 8, ρ 7 + ρ 6] (γ 7) = (0, (-1), γ 8) from l5.symm) (zLV (γ 8) rfl (zIP w_5 (zLE c9.symm (zIN w_6 ?_)))))))
    refine zLE m42 (zLE c10.symm (zIN w_7 (zLE m43 (zLE c11.symm (zIN w_8 (zLE m44 (zLE c12.symm ?_)))))))
    refine zIN w_9 (zLE m45 (zLE c13.symm (zLE c14.symm ?_)))
    rfl
  exact zGoo_aend hJ hD
theorem vn49a0_25 {S : Nat → zSpc} (hS6 : zIm S 6 sn6) (hS7 : zIm S 7 sn7) (hS8 : zIm S 8 sn8) (hS21 : zIm S 21 sn21) (hS25 : zIm S 25 sn25) (hS27 : zIm S 27 sn27) (hS28 : zIm S 28 sn28) (hS30 : zIm S 30 sn30) (hS31 : zIm S 31 sn31) (hS39 : zIm S 39 sn39) (hS43 : zIm S 43 sn43) (hS44 : zIm S 44 sn44) (hS45 : zIm S 45 sn45) (hS46 : zIm S 46 sn46) (hS47 : zIm S 47 sn47) {a : List Int} {g : rHp} : ∀ (ρ : Nat → Int) (γ : Nat → rHp), jn49 a g 0 (zAg (zNA a49_ 0) ρ) (γ 1) → zO 23 S a g q49a0_25 ρ γ → zGl (fun i vs g1 => jn49 a g i vs g1) (sn49 a g) q49a0_25 ρ γ := by
  intro ρ γ hJ h
  obtain ⟨ha, hg, hr, hf, hm, hc, hl⟩ := h
  have ha : a = [ρ 0, ρ 1, ρ 2, ρ 3, ρ 4, ρ 5, ρ 6, ρ 7, ρ 8, ρ 9, ρ 10, ρ 11, ρ 12, ρ 13, ρ 14, ρ 15, ρ 16, ρ 17, ρ 18, ρ 19, ρ 20, ρ 21, ρ 22] := ha
  subst ha
  subst hg
  have hJ : jn49 [ρ 0, ρ 1, ρ 2, ρ 3, ρ 4, ρ 5, ρ 6, ρ 7, ρ 8, ρ 9, ρ 10, ρ 11, ρ 12, ρ 13, ρ 14, ρ 15, ρ 16, ρ 17, ρ 18, ρ 19, ρ 20, ρ 21, ρ 22] (γ 0) 0 [ρ 0, ρ 1, ρ 2, ρ 3, ρ 4, ρ 5, ρ 6, ρ 7, ρ 8, ρ 9, ρ 10, ρ 11, ρ 12, ρ 13, ρ 14, ρ 15, ρ 16, ρ 17, ρ 18, ρ 19, ρ 20, ρ 21, ρ 22, ρ 23, ρ 24, ρ 25, ρ 26, ρ 27, ρ 28, ρ 29, ρ 30, ρ 31, ρ 32, ρ 33, ρ 34, ρ 35, ρ 36, ρ 37, ρ 38] (γ 1) := hJ
  have r8 : (0 : Int) ≤ ρ 8 ∧ ρ 8 ≤ 19 := zRnA hr 8
  have r39 : ((-1) : Int) ≤ ρ 39 ∧ ρ 39 ≤ (-1) := zRnA hr 39
  have r41 : (46 : Int) ≤ ρ 41 ∧ ρ 41 ≤ 46 := zRnA hr 41
  have f2 : (0 : Int) ≤ -ρ 7 + -ρ 6 + 400 := zAllA hf 2
  have f3 : (0 : Int) ≤ ρ 7 + ρ 6 + (-400) := zAllA hf 3
  have f4 : (0 : Int) ≤ -ρ 40 + ρ 1 + (-1) := zAllA hf 4
  have f10 : (0 : Int) ≤ -ρ 37 + ρ 23 := zAllA hf 10
  obtain ⟨w_0, w_1, w_2, w_3, w_4, w_5⟩ : (ρ 23 ≥ ρ 37) ∧ (¬ (ρ 39 ≥ 0)) ∧ (ρ 8 ≠ 20) ∧ (0 ≤ -ρ 40 + ρ 1 + (-1)) ∧ (¬ (ρ 41 ≠ 46)) ∧ (¬ (ρ 7 + ρ 6 ≠ 400)) := ⟨by omega, by omega, by omega, by omega, by omega, by omega⟩
  have m1 : γ 0 15 0 34 = ρ 1 := zAllA hm 1
  have m4 : γ 0 15 0 32 = ρ 4 := zAllA hm 4
  have m5 : γ 0 15 0 33 = ρ 5 := zAllA hm 5
  have m6 : γ 0 15 0 17 = ρ 6 := zAllA hm 6
  have m7 : γ 0 15 0 18 = ρ 7 := zAllA hm 7
  have m8 : γ 0 15 0 14 = ρ 8 := zAllA hm 8
  have m27 : γ 1 15 0 44 = ρ 28 := zAllA hm 27
  have m28 : γ 1 15 0 49 = ρ 29 := zAllA hm 28
  have m29 : γ 1 15 0 50 = ρ 30 := zAllA hm 29
  have m35 : γ 1 15 0 46 = ρ 35 := zAllA hm 35
  have m36 : γ 1 15 0 47 = ρ 36 := zAllA hm 36
  have m37 : γ 1 15 0 48 = ρ 37 := zAllA hm 37
  have m40 : γ 4 15 0 35 = ρ 40 := zAllA hm 40
  have c7 : γ 7 = rUp (γ 6) 15 0 35 (ρ 40 + 1) := And.right (zChA hc 2)
  have l0 : sn21 [ρ 35, ρ 36, ρ 37, ρ 8] (γ 1) 0 (ρ 39) (γ 2) := hS21 _ _ _ _ _ (zAllA hl 0)
  have l1 : sn39 [ρ 35, ρ 36, ρ 37, ρ 8] (γ 2) 0 (ρ 8) (γ 3) := hS39 _ _ _ _ _ (zAllA hl 1)
  have l2 : sn7 [ρ 24, ρ 1] (γ 3) 0 0 (γ 4) := hS7 _ _ _ _ _ (zAllA hl 2)
  have l3 : sn6 [ρ 40, ρ 1] (γ 4) 0 (ρ 41) (γ 5) := hS6 _ _ _ _ _ (zAllA hl 3)
  have l4 : sn31 [ρ 1, ρ 15, ρ 37] (γ 5) 0 1 (γ 6) := hS31 _ _ _ _ _ (zAllA hl 4)
  have l5 : sn46 [ρ 8, ρ 7 + ρ 6, ρ 8 + 1, ρ 6, ρ 7, ρ 37] (γ 7) 0 (-1) (γ 8) := hS46 _ _ _ _ _ (zAllA hl 5)
  have l6 : sn8 [ρ 35, ρ 1, ρ 15] (γ 8) 0 0 (γ 9) := hS8 _ _ _ _ _ (zAllA hl 6)
  show sn49 [ρ 0, ρ 1, ρ 2, ρ 3, ρ 4, ρ 5, ρ 6, ρ 7, ρ 8, ρ 9, ρ 10, ρ 11, ρ 12, ρ 13, ρ 14, ρ 15, ρ 16, ρ 17, ρ 18, ρ 19, ρ 20, ρ 21, ρ 22] (γ 0) 0 0 (γ 9)
  have hD : en49 (γ 0) (0, [ρ 23], γ 1) = .inr (0, 0, γ 9) := by
    unfold en49
    refine zIP (show (0 : Nat) = 0 by decide) (zLV (γ 1) rfl (zLV (ρ 23) rfl (zLE m1 (zLE m4 (zLE m5 (zLE m6 (zLE m7 ?_)))))))
    refine zLE m8 (zLE m27 (zLE m28 (zLE m29 (zLE m35 (zLE m36 (zLE m37 (zIP w_0 ?_)))))))
    refine zLE (show fn21 [ρ 35, ρ 36, ρ 37] (γ 1) = (0, ρ 39, γ 2) from l0.symm) (zLV (γ 2) rfl (zLV (ρ 39) rfl (zIN w_1 (zIP w_2 (zLE (show fn39 [ρ 35, ρ 36, ρ 37] (γ 2) = (0, ρ 8, γ 3) from l1.symm) (zLV (γ 3) rfl (zLE (show fn7 [] (γ 3) = (0, 0, γ 4) from l2.symm) ?_)))))))
    refine zLV (γ 4) rfl (zLE m40 (zLE (show fn6 [ρ 40] (γ 4) = (0, ρ 41, γ 5) from l3.symm) (zLV (γ 5) rfl (zIP w_3 (zLV (ρ 41) rfl (zIN w_4 (zLE (show fn31 [] (γ 5) = (0, 1, γ 6) from l4.symm) ?_)))))))
    refine zLV (γ 6) rfl (zIP zQ1_ (zLE c7.symm (zLE (show fn46 [ρ 8, ρ 7 + ρ 6] (γ 7) = (0, (-1), γ 8) from l5.symm) (zLV (γ 8) rfl (zIN w_5 (zLE (show fn8 [ρ 35] (γ 8) = (0, 0, γ 9) from l6.symm) (zLV (γ 9) rfl ?_)))))))
    rfl
  exact zGoo_aend hJ hD
theorem vn49a0_26 {S : Nat → zSpc} (hS6 : zIm S 6 sn6) (hS7 : zIm S 7 sn7) (hS8 : zIm S 8 sn8) (hS21 : zIm S 21 sn21) (hS25 : zIm S 25 sn25) (hS27 : zIm S 27 sn27) (hS28 : zIm S 28 sn28) (hS30 : zIm S 30 sn30) (hS31 : zIm S 31 sn31) (hS39 : zIm S 39 sn39) (hS43 : zIm S 43 sn43) (hS44 : zIm S 44 sn44) (hS45 : zIm S 45 sn45) (hS46 : zIm S 46 sn46) (hS47 : zIm S 47 sn47) {a : List Int} {g : rHp} : ∀ (ρ : Nat → Int) (γ : Nat → rHp), jn49 a g 0 (zAg (zNA a49_ 0) ρ) (γ 1) → zO 23 S a g q49a0_26 ρ γ → zGl (fun i vs g1 => jn49 a g i vs g1) (sn49 a g) q49a0_26 ρ γ := by
  intro ρ γ hJ h
  obtain ⟨ha, hg, hr, hf, hm, hc, hl⟩ := h
  have ha : a = [ρ 0, ρ 1, ρ 2, ρ 3, ρ 4, ρ 5, ρ 6, ρ 7, ρ 8, ρ 9, ρ 10, ρ 11, ρ 12, ρ 13, ρ 14, ρ 15, ρ 16, ρ 17, ρ 18, ρ 19, ρ 20, ρ 21, ρ 22] := ha
  subst ha
  subst hg
  have hJ : jn49 [ρ 0, ρ 1, ρ 2, ρ 3, ρ 4, ρ 5, ρ 6, ρ 7, ρ 8, ρ 9, ρ 10, ρ 11, ρ 12, ρ 13, ρ 14, ρ 15, ρ 16, ρ 17, ρ 18, ρ 19, ρ 20, ρ 21, ρ 22] (γ 0) 0 [ρ 0, ρ 1, ρ 2, ρ 3, ρ 4, ρ 5, ρ 6, ρ 7, ρ 8, ρ 9, ρ 10, ρ 11, ρ 12, ρ 13, ρ 14, ρ 15, ρ 16, ρ 17, ρ 18, ρ 19, ρ 20, ρ 21, ρ 22, ρ 23, ρ 24, ρ 25, ρ 26, ρ 27, ρ 28, ρ 29, ρ 30, ρ 31, ρ 32, ρ 33, ρ 34, ρ 35, ρ 36, ρ 37, ρ 38] (γ 1) := hJ
  have r8 : (0 : Int) ≤ ρ 8 ∧ ρ 8 ≤ 19 := zRnA hr 8
  have r39 : ((-1) : Int) ≤ ρ 39 ∧ ρ 39 ≤ (-1) := zRnA hr 39
  have f2 : (0 : Int) ≤ ρ 40 + -ρ 1 := zAllA hf 2
  have f8 : (0 : Int) ≤ -ρ 37 + ρ 23 := zAllA hf 8
  obtain ⟨w_0, w_1, w_2, w_3⟩ : (ρ 23 ≥ ρ 37) ∧ (¬ (ρ 39 ≥ 0)) ∧ (ρ 8 ≠ 20) ∧ (¬ (0 ≤ -ρ 40 + ρ 1 + (-1))) := ⟨by omega, by omega, by omega, by omega⟩
  have m1 : γ 0 15 0 34 = ρ 1 := zAllA hm 1
  have m4 : γ 0 15 0 32 = ρ 4 := zAllA hm 4
  have m5 : γ 0 15 0 33 = ρ 5 := zAllA hm 5
  have m6 : γ 0 15 0 17 = ρ 6 := zAllA hm 6
  have m7 : γ 0 15 0 18 = ρ 7 := zAllA hm 7
  have m8 : γ 0 15 0 14 = ρ 8 := zAllA hm 8
  have m27 : γ 1 15 0 44 = ρ 28 := zAllA hm 27
  have m28 : γ 1 15 0 49 = ρ 29 := zAllA hm 28
  have m29 : γ 1 15 0 50 = ρ 30 := zAllA hm 29
  have m35 : γ 1 15 0 46 = ρ 35 := zAllA hm 35
  have m36 : γ 1 15 0 47 = ρ 36 := zAllA hm 36
  have m37 : γ 1 15 0 48 = ρ 37 := zAllA hm 37
  have m40 : γ 4 15 0 35 = ρ 40 := zAllA hm 40
  have l0 : sn21 [ρ 35, ρ 36, ρ 37, ρ 8] (γ 1) 0 (ρ 39) (γ 2) := hS21 _ _ _ _ _ (zAllA hl 0)
  have l1 : sn39 [ρ 35, ρ 36, ρ 37, ρ 8] (γ 2) 0 (ρ 8) (γ 3) := hS39 _ _ _ _ _ (zAllA hl 1)
  have l2 : sn7 [ρ 24, ρ 1] (γ 3) 0 0 (γ 4) := hS7 _ _ _ _ _ (zAllA hl 2)
  have l3 : sn6 [ρ 40, ρ 1] (γ 4) 0 (-1) (γ 5) := hS6 _ _ _ _ _ (zAllA hl 3)
  have l4 : sn6 [ρ 40, ρ 1] (γ 5) 0 (-1) (γ 6) := hS6 _ _ _ _ _ (zAllA hl 4)
  have l5 : sn8 [ρ 40, ρ 1, ρ 15] (γ 6) 0 0 (γ 7) := hS8 _ _ _ _ _ (zAllA hl 5)
  show sn49 [ρ 0, ρ 1, ρ 2, ρ 3, ρ 4, ρ 5, ρ 6, ρ 7, ρ 8, ρ 9, ρ 10, ρ 11, ρ 12, ρ 13, ρ 14, ρ 15, ρ 16, ρ 17, ρ 18, ρ 19, ρ 20, ρ 21, ρ 22] (γ 0) 0 0 (γ 7)
  have hD : en49 (γ 0) (0, [ρ 23], γ 1) = .inr (0, 0, γ 7) := by
    unfold en49
    refine zIP (show (0 : Nat) = 0 by decide) (zLV (γ 1) rfl (zLV (ρ 23) rfl (zLE m1 (zLE m4 (zLE m5 (zLE m6 (zLE m7 ?_)))))))
    refine zLE m8 (zLE m27 (zLE m28 (zLE m29 (zLE m35 (zLE m36 (zLE m37 (zIP w_0 ?_)))))))
    refine zLE (show fn21 [ρ 35, ρ 36, ρ 37] (γ 1) = (0, ρ 39, γ 2) from l0.symm) (zLV (γ 2) rfl (zLV (ρ 39) rfl (zIN w_1 (zIP w_2 (zLE (show fn39 [ρ 35, ρ 36, ρ 37] (γ 2) = (0, ρ 8, γ 3) from l1.symm) (zLV (γ 3) rfl (zLE (show fn7 [] (γ 3) = (0, 0, γ 4) from l2.symm) ?_)))))))
    refine zLV (γ 4) rfl (zLE m40 (zLE (show fn6 [ρ 40] (γ 4) = (0, (-1), γ 5) from l3.symm) (zLV (γ 5) rfl (zIN w_3 (zLE (show fn6 [ρ 40] (γ 5) = (0, (-1), γ 6) from l4.symm) (zLV (γ 6) rfl (zLE (show fn8 [ρ 40] (γ 6) = (0, 0, γ 7) from l5.symm) ?_)))))))
    refine zLV (γ 7) rfl ?_
    rfl
  exact zGoo_aend hJ hD
theorem vn49a0_27 {S : Nat → zSpc} (hS6 : zIm S 6 sn6) (hS7 : zIm S 7 sn7) (hS8 : zIm S 8 sn8) (hS21 : zIm S 21 sn21) (hS25 : zIm S 25 sn25) (hS27 : zIm S 27 sn27) (hS28 : zIm S 28 sn28) (hS30 : zIm S 30 sn30) (hS31 : zIm S 31 sn31) (hS39 : zIm S 39 sn39) (hS43 : zIm S 43 sn43) (hS44 : zIm S 44 sn44) (hS45 : zIm S 45 sn45) (hS46 : zIm S 46 sn46) (hS47 : zIm S 47 sn47) {a : List Int} {g : rHp} : ∀ (ρ : Nat → Int) (γ : Nat → rHp), jn49 a g 0 (zAg (zNA a49_ 0) ρ) (γ 1) → zO 23 S a g q49a0_27 ρ γ → zGl (fun i vs g1 => jn49 a g i vs g1) (sn49 a g) q49a0_27 ρ γ := by
  intro ρ γ hJ h
  obtain ⟨ha, hg, hr, hf, hm, hc, hl⟩ := h
  have ha : a = [ρ 0, ρ 1, ρ 2, ρ 3, ρ 4, ρ 5, ρ 6, ρ 7, ρ 8, ρ 9, ρ 10, ρ 11, ρ 12, ρ 13, ρ 14, ρ 15, ρ 16, ρ 17, ρ 18, ρ 19, ρ 20, ρ 21, ρ 22] := ha
  subst ha
  subst hg
  have hJ : jn49 [ρ 0, ρ 1, ρ 2, ρ 3, ρ 4, ρ 5, ρ 6, ρ 7, ρ 8, ρ 9, ρ 10, ρ 11, ρ 12, ρ 13, ρ 14, ρ 15, ρ 16, ρ 17, ρ 18, ρ 19, ρ 20, ρ 21, ρ 22] (γ 0) 0 [ρ 0, ρ 1, ρ 2, ρ 3, ρ 4, ρ 5, ρ 6, ρ 7, ρ 8, ρ 9, ρ 10, ρ 11, ρ 12, ρ 13, ρ 14, ρ 15, ρ 16, ρ 17, ρ 18, ρ 19, ρ 20, ρ 21, ρ 22, ρ 23, ρ 24, ρ 25, ρ 26, ρ 27, ρ 28, ρ 29, ρ 30, ρ 31, ρ 32, ρ 33, ρ 34, ρ 35, ρ 36, ρ 37, ρ 38] (γ 1) := hJ
  have r8 : (20 : Int) ≤ ρ 8 ∧ ρ 8 ≤ 20 := zRnA hr 8
  have r39 : ((-1) : Int) ≤ ρ 39 ∧ ρ 39 ≤ (-1) := zRnA hr 39
  have f4 : (0 : Int) ≤ -ρ 37 + ρ 23 := zAllA hf 4
  obtain ⟨w_0, w_1, w_2⟩ : (ρ 23 ≥ ρ 37) ∧ (¬ (ρ 39 ≥ 0)) ∧ (¬ (ρ 8 ≠ 20)) := ⟨by omega, by omega, by omega⟩
  have m1 : γ 0 15 0 34 = ρ 1 := zAllA hm 1
  have m4 : γ 0 15 0 32 = ρ 4 := zAllA hm 4
  have m5 : γ 0 15 0 33 = ρ 5 := zAllA hm 5
  have m6 : γ 0 15 0 17 = ρ 6 := zAllA hm 6
  have m7 : γ 0 15 0 18 = ρ 7 := zAllA hm 7
  have m8 : γ 0 15 0 14 = ρ 8 := zAllA hm 8
  have m27 : γ 1 15 0 44 = ρ 28 := zAllA hm 27
  have m28 : γ 1 15 0 49 = ρ 29 := zAllA hm 28
  have m29 : γ 1 15 0 50 = ρ 30 := zAllA hm 29
  have m35 : γ 1 15 0 46 = ρ 35 := zAllA hm 35
  have m36 : γ 1 15 0 47 = ρ 36 := zAllA hm 36
  have m37 : γ 1 15 0 48 = ρ 37 := zAllA hm 37
  have l0 : sn21 [ρ 35, ρ 36, ρ 37, ρ 8] (γ 1) 0 (ρ 39) (γ 2) := hS21 _ _ _ _ _ (zAllA hl 0)
  have l1 : sn8 [ρ 35, ρ 1, ρ 15] (γ 2) 0 0 (γ 3) := hS8 _ _ _ _ _ (zAllA hl 1)
  show sn49 [ρ 0, ρ 1, ρ 2, ρ 3, ρ 4, ρ 5, ρ 6, ρ 7, ρ 8, ρ 9, ρ 10, ρ 11, ρ 12, ρ 13, ρ 14, ρ 15, ρ 16, ρ 17, ρ 18, ρ 19, ρ 20, ρ 21, ρ 22] (γ 0) 0 0 (γ 3)
  have hD : en49 (γ 0) (0, [ρ 23], γ 1) = .inr (0, 0, γ 3) := by
    unfold en49
    refine zIP (show (0 : Nat) = 0 by decide) (zLV (γ 1) rfl (zLV (ρ 23) rfl (zLE m1 (zLE m4 (zLE m5 (zLE m6 (zLE m7 ?_)))))))
    refine zLE m8 (zLE m27 (zLE m28 (zLE m29 (zLE m35 (zLE m36 (zLE m37 (zIP w_0 ?_)))))))
    refine zLE (show fn21 [ρ 35, ρ 36, ρ 37] (γ 1) = (0, ρ 39, γ 2) from l0.symm) (zLV (γ 2) rfl (zLV (ρ 39) rfl (zIN w_1 (zIN w_2 (zLE (show fn8 [ρ 35] (γ 2) = (0, 0, γ 3) from l1.symm) (zLV (γ 3) rfl ?_))))))
    rfl
  exact zGoo_aend hJ hD
theorem vn49a0_28 {S : Nat → zSpc} (hS6 : zIm S 6 sn6) (hS7 : zIm S 7 sn7) (hS8 : zIm S 8 sn8) (hS21 : zIm S 21 sn21) (hS25 : zIm S 25 sn25) (hS27 : zIm S 27 sn27) (hS28 : zIm S 28 sn28) (hS30 : zIm S 30 sn30) (hS31 : zIm S 31 sn31) (hS39 : zIm S 39 sn39) (hS43 : zIm S 43 sn43) (hS44 : zIm S 44 sn44) (hS45 : zIm S 45 sn45) (hS46 : zIm S 46 sn46) (hS47 : zIm S 47 sn47) {a : List Int} {g : rHp} : ∀ (ρ : Nat → Int) (γ : Nat → rHp), jn49 a g 0 (zAg (zNA a49_ 0) ρ) (γ 1) → zO 23 S a g q49a0_28 ρ γ → zGl (fun i vs g1 => jn49 a g i vs g1) (sn49 a g) q49a0_28 ρ γ := by
  intro ρ γ hJ h
  obtain ⟨ha, hg, hr, hf, hm, hc, hl⟩ := h
  have ha : a = [ρ 0, ρ 1, ρ 2, ρ 3, ρ 4, ρ 5, ρ 6, ρ 7, ρ 8, ρ 9, ρ 10, ρ 11, ρ 12, ρ 13, ρ 14, ρ 15, ρ 16, ρ 17, ρ 18, ρ 19, ρ 20, ρ 21, ρ 22] := ha
  subst ha
  subst hg
  have hJ : jn49 [ρ 0, ρ 1, ρ 2, ρ 3, ρ 4, ρ 5, ρ 6, ρ 7, ρ 8, ρ 9, ρ 10, ρ 11, ρ 12, ρ 13, ρ 14, ρ 15, ρ 16, ρ 17, ρ 18, ρ 19, ρ 20, ρ 21, ρ 22] (γ 0) 0 [ρ 0, ρ 1, ρ 2, ρ 3, ρ 4, ρ 5, ρ 6, ρ 7, ρ 8, ρ 9, ρ 10, ρ 11, ρ 12, ρ 13, ρ 14, ρ 15, ρ 16, ρ 17, ρ 18, ρ 19, ρ 20, ρ 21, ρ 22, ρ 23, ρ 24, ρ 25, ρ 26, ρ 27, ρ 28, ρ 29, ρ 30, ρ 31, ρ 32, ρ 33, ρ 34, ρ 35, ρ 36, ρ 37, ρ 38] (γ 1) := hJ
  have r39 : (0 : Int) ≤ ρ 39 ∧ ρ 39 ≤ 3 := zRnA hr 39
  have f0 : (0 : Int) ≤ ρ 37 + -ρ 23 + (-1) := zAllA hf 0
  have w_0 : ¬ (ρ 23 ≥ ρ 37) := by omega
  have m1 : γ 0 15 0 34 = ρ 1 := zAllA hm 1
  have m4 : γ 0 15 0 32 = ρ 4 := zAllA hm 4
  have m5 : γ 0 15 0 33 = ρ 5 := zAllA hm 5
  have m6 : γ 0 15 0 17 = ρ 6 := zAllA hm 6
  have m7 : γ 0 15 0 18 = ρ 7 := zAllA hm 7
  have m8 : γ 0 15 0 14 = ρ 8 := zAllA hm 8
  have m27 : γ 1 15 0 44 = ρ 28 := zAllA hm 27
  have m28 : γ 1 15 0 49 = ρ 29 := zAllA hm 28
  have m29 : γ 1 15 0 50 = ρ 30 := zAllA hm 29
  have m35 : γ 1 15 0 46 = ρ 35 := zAllA hm 35
  have m36 : γ 1 15 0 47 = ρ 36 := zAllA hm 36
  have m37 : γ 1 15 0 48 = ρ 37 := zAllA hm 37
  have m39 : γ 1 85 0 (ρ 23) = ρ 39 := zAllA hm 39
  have l0 : ρ 39 ≠ 1 := zAllA hl 0
  have wl_0 : ρ 39 ≠ 1 := by omega
  show jn49 [ρ 0, ρ 1, ρ 2, ρ 3, ρ 4, ρ 5, ρ 6, ρ 7, ρ 8, ρ 9, ρ 10, ρ 11, ρ 12, ρ 13, ρ 14, ρ 15, ρ 16, ρ 17, ρ 18, ρ 19, ρ 20, ρ 21, ρ 22] (γ 0) 0 [ρ 0, ρ 1, ρ 2, ρ 3, ρ 4, ρ 5, ρ 6, ρ 7, ρ 8, ρ 9, ρ 10, ρ 11, ρ 12, ρ 13, ρ 14, ρ 15, ρ 16, ρ 17, ρ 18, ρ 19, ρ 20, ρ 21, ρ 22, ρ 23 + 1, ρ 24, ρ 25, ρ 26, ρ 27, ρ 28, ρ 29, ρ 30, ρ 31, ρ 32, ρ 33, ρ 34, ρ 35, ρ 36, ρ 37, ρ 38] (γ 1)
  have hD : en49 (γ 0) (0, [ρ 23], γ 1) = .inl (0, [ρ 23 + 1], γ 1) := by
    unfold en49
    refine zIP (show (0 : Nat) = 0 by decide) (zLV (γ 1) rfl (zLV (ρ 23) rfl (zLE m1 (zLE m4 (zLE m5 (zLE m6 (zLE m7 ?_)))))))
    refine zLE m8 (zLE m27 (zLE m28 (zLE m29 (zLE m35 (zLE m36 (zLE m37 (zIN w_0 ?_)))))))
    refine zLE m39 (zIP wl_0 ?_)
    rfl
  exact zGoo_ato hJ hD
theorem vn49a0_29 {S : Nat → zSpc} (hS6 : zIm S 6 sn6) (hS7 : zIm S 7 sn7) (hS8 : zIm S 8 sn8) (hS21 : zIm S 21 sn21) (hS25 : zIm S 25 sn25) (hS27 : zIm S 27 sn27) (hS28 : zIm S 28 sn28) (hS30 : zIm S 30 sn30) (hS31 : zIm S 31 sn31) (hS39 : zIm S 39 sn39) (hS43 : zIm S 43 sn43) (hS44 : zIm S 44 sn44) (hS45 : zIm S 45 sn45) (hS46 : zIm S 46 sn46) (hS47 : zIm S 47 sn47) {a : List Int} {g : rHp} : ∀ (ρ : Nat → Int) (γ : Nat → rHp), jn49 a g 0 (zAg (zNA a49_ 0) ρ) (γ 1) → zO 23 S a g q49a0_29 ρ γ → zGl (fun i vs g1 => jn49 a g i vs g1) (sn49 a g) q49a0_29 ρ γ := by
  intro ρ γ hJ h
  obtain ⟨ha, hg, hr, hf, hm, hc, hl⟩ := h
  have ha : a = [ρ 0, ρ 1, ρ 2, ρ 3, ρ 4, ρ 5, ρ 6, ρ 7, ρ 8, ρ 9, ρ 10, ρ 11, ρ 12, ρ 13, ρ 14, ρ 15, ρ 16, ρ 17, ρ 18, ρ 19, ρ 20, ρ 21, ρ 22] := ha
  subst ha
  subst hg
  have hJ : jn49 [ρ 0, ρ 1, ρ 2, ρ 3, ρ 4, ρ 5, ρ 6, ρ 7, ρ 8, ρ 9, ρ 10, ρ 11, ρ 12, ρ 13, ρ 14, ρ 15, ρ 16, ρ 17, ρ 18, ρ 19, ρ 20, ρ 21, ρ 22] (γ 0) 0 [ρ 0, ρ 1, ρ 2, ρ 3, ρ 4, ρ 5, ρ 6, ρ 7, ρ 8, ρ 9, ρ 10, ρ 11, ρ 12, ρ 13, ρ 14, ρ 15, ρ 16, ρ 17, ρ 18, ρ 19, ρ 20, ρ 21, ρ 22, ρ 23, ρ 24, ρ 25, ρ 26, ρ 27, ρ 28, ρ 29, ρ 30, ρ 31, ρ 32, ρ 33, ρ 34, ρ 35, ρ 36, ρ 37, ρ 38] (γ 1) := hJ
  have r39 : (1 : Int) ≤ ρ 39 ∧ ρ 39 ≤ 1 := zRnA hr 39
  have f0 : (0 : Int) ≤ ρ 37 + -ρ 23 + (-1) := zAllA hf 0
  obtain ⟨w_0, w_1⟩ : (¬ (ρ 23 ≥ ρ 37)) ∧ (¬ (ρ 39 ≠ 1)) := ⟨by omega, by omega⟩
  have m1 : γ 0 15 0 34 = ρ 1 := zAllA hm 1
  have m4 : γ 0 15 0 32 = ρ 4 := zAllA hm 4
  have m5 : γ 0 15 0 33 = ρ 5 := zAllA hm 5
  have m6 : γ 0 15 0 17 = ρ 6 := zAllA hm 6
  have m7 : γ 0 15 0 18 = ρ 7 := zAllA hm 7
  have m8 : γ 0 15 0 14 = ρ 8 := zAllA hm 8
  have m27 : γ 1 15 0 44 = ρ 28 := zAllA hm 27
  have m28 : γ 1 15 0 49 = ρ 29 := zAllA hm 28
  have m29 : γ 1 15 0 50 = ρ 30 := zAllA hm 29
  have m35 : γ 1 15 0 46 = ρ 35 := zAllA hm 35
  have m36 : γ 1 15 0 47 = ρ 36 := zAllA hm 36
  have m37 : γ 1 15 0 48 = ρ 37 := zAllA hm 37
  have m39 : γ 1 85 0 (ρ 23) = ρ 39 := zAllA hm 39
  have m40 : γ 1 86 0 (ρ 23) = ρ 40 := zAllA hm 40
  have m41 : γ 1 87 0 (ρ 23) = ρ 41 := zAllA hm 41
  have l0 : sn25 [ρ 40, ρ 41, 0, ρ 27, ρ 34] (γ 1) 0 0 (γ 2) := hS25 _ _ _ _ _ (zAllA hl 0)
  show jn49 [ρ 0, ρ 1, ρ 2, ρ 3, ρ 4, ρ 5, ρ 6, ρ 7, ρ 8, ρ 9, ρ 10, ρ 11, ρ 12, ρ 13, ρ 14, ρ 15, ρ 16, ρ 17, ρ 18, ρ 19, ρ 20, ρ 21, ρ 22] (γ 0) 0 [ρ 0, ρ 1, ρ 2, ρ 3, ρ 4, ρ 5, ρ 6, ρ 7, ρ 8, ρ 9, ρ 10, ρ 11, ρ 12, ρ 13, ρ 14, ρ 15, ρ 16, ρ 17, ρ 18, ρ 19, ρ 20, ρ 21, ρ 22, ρ 23 + 1, ρ 24, ρ 25, ρ 26, ρ 27 + 1, ρ 28, ρ 29, ρ 30, ρ 31, ρ 32, ρ 33, ρ 34, ρ 35, ρ 36, ρ 37, ρ 38] (γ 2)
  have hD : en49 (γ 0) (0, [ρ 23], γ 1) = .inl (0, [ρ 23 + 1], γ 2) := by
    unfold en49
    refine zIP (show (0 : Nat) = 0 by decide) (zLV (γ 1) rfl (zLV (ρ 23) rfl (zLE m1 (zLE m4 (zLE m5 (zLE m6 (zLE m7 ?_)))))))
    refine zLE m8 (zLE m27 (zLE m28 (zLE m29 (zLE m35 (zLE m36 (zLE m37 (zIN w_0 ?_)))))))
    refine zLE m39 (zIN w_1 (zLE m40 (zLE m41 (zLE (show fn25 [ρ 40, ρ 41, 0] (γ 1) = (0, 0, γ 2) from l0.symm) (zLV (γ 2) rfl ?_)))))
    rfl
  exact zGoo_ato hJ hD
theorem vn49a1_0 {S : Nat → zSpc} (hS6 : zIm S 6 sn6) (hS7 : zIm S 7 sn7) (hS8 : zIm S 8 sn8) (hS21 : zIm S 21 sn21) (hS25 : zIm S 25 sn25) (hS27 : zIm S 27 sn27) (hS28 : zIm S 28 sn28) (hS30 : zIm S 30 sn30) (hS31 : zIm S 31 sn31) (hS39 : zIm S 39 sn39) (hS43 : zIm S 43 sn43) (hS44 : zIm S 44 sn44) (hS45 : zIm S 45 sn45) (hS46 : zIm S 46 sn46) (hS47 : zIm S 47 sn47) {a : List Int} {g : rHp} : ∀ (ρ : Nat → Int) (γ : Nat → rHp), jn49 a g 1 (zAg (zNA a49_ 1) ρ) (γ 1) → zO 23 S a g q49a1_0 ρ γ → zGl (fun i vs g1 => jn49 a g i vs g1) (sn49 a g) q49a1_0 ρ γ := by
  intro ρ γ hJ h
  obtain ⟨ha, hg, hr, hf, hm, hc, hl⟩ := h
  have ha : a = [ρ 0, ρ 1, ρ 2, ρ 3, ρ 4, ρ 5, ρ 6, ρ 7, ρ 8, ρ 9, ρ 10, ρ 11, ρ 12, ρ 13, ρ 14, ρ 15, ρ 16, ρ 17, ρ 18, ρ 19, ρ 20, ρ 21, ρ 22] := ha
  subst ha
  subst hg
  have hJ : jn49 [ρ 0, ρ 1, ρ 2, ρ 3, ρ 4, ρ 5, ρ 6, ρ 7, ρ 8, ρ 9, ρ 10, ρ 11, ρ 12, ρ 13, ρ 14, ρ 15, ρ 16, ρ 17, ρ 18, ρ 19, ρ 20, ρ 21, ρ 22] (γ 0) 1 [ρ 0, ρ 1, ρ 2, ρ 3, ρ 4, ρ 5, ρ 6, ρ 7, ρ 8, ρ 9, ρ 10, ρ 11, ρ 12, ρ 13, ρ 14, ρ 15, ρ 16, ρ 17, ρ 18, ρ 19, ρ 20, ρ 21, ρ 22, ρ 23, ρ 24, ρ 25, ρ 26, ρ 27, ρ 28, ρ 29, ρ 30, ρ 31, ρ 32, ρ 33, ρ 34, ρ 35, ρ 36, ρ 37, ρ 38, ρ 39, ρ 40, ρ 41, ρ 42] (γ 1) := hJ
  have f14 : (0 : Int) ≤ -ρ 40 + ρ 23 := zAllA hf 14
  have w_0 : ρ 23 ≥ ρ 40 := by omega
  have m1 : γ 0 15 0 34 = ρ 1 := zAllA hm 1
  have m5 : γ 0 15 0 33 = ρ 5 := zAllA hm 5
  have m28 : γ 1 15 0 44 = ρ 31 := zAllA hm 28
  have m38 : γ 1 15 0 48 = ρ 40 := zAllA hm 38
  have l0 : sn43 [ρ 26, ρ 1, ρ 27, ρ 28, ρ 30, ρ 29, ρ 4, ρ 5, ρ 31, ρ 41, ρ 15, ρ 34, ρ 35, ρ 36, ρ 37] (γ 1) 0 0 (γ 2) := hS43 _ _ _ _ _ (zAllA hl 0)
  show sn49 [ρ 0, ρ 1, ρ 2, ρ 3, ρ 4, ρ 5, ρ 6, ρ 7, ρ 8, ρ 9, ρ 10, ρ 11, ρ 12, ρ 13, ρ 14, ρ 15, ρ 16, ρ 17, ρ 18, ρ 19, ρ 20, ρ 21, ρ 22] (γ 0) 0 0 (γ 2)
  have hD : en49 (γ 0) (1, [ρ 23, ρ 24, ρ 25], γ 1) = .inr (0, 0, γ 2) := by
    unfold en49
    refine zIN (show ¬ (1 : Nat) = 0 by decide) (zIP (show (1 : Nat) = 1 by decide) (zLV (γ 1) rfl (zLV (ρ 23) rfl (zLV (ρ 24) rfl (zLV (ρ 25) rfl (zLE m1 (zLE m5 ?_)))))))
    refine zLE m28 (zLE m38 (zIP w_0 (zLE (show fn43 [] (γ 1) = (0, 0, γ 2) from l0.symm) (zLV (γ 2) rfl (zIN zQ0_ ?_)))))
    rfl
  exact zGoo_aend hJ hD
theorem vn49a1_1 {S : Nat → zSpc} (hS6 : zIm S 6 sn6) (hS7 : zIm S 7 sn7) (hS8 : zIm S 8 sn8) (hS21 : zIm S 21 sn21) (hS25 : zIm S 25 sn25) (hS27 : zIm S 27 sn27) (hS28 : zIm S 28 sn28) (hS30 : zIm S 30 sn30) (hS31 : zIm S 31 sn31) (hS39 : zIm S 39 sn39) (hS43 : zIm S 43 sn43) (hS44 : zIm S 44 sn44) (hS45 : zIm S 45 sn45) (hS46 : zIm S 46 sn46) (hS47 : zIm S 47 sn47) {a : List Int} {g : rHp} : ∀ (ρ : Nat → Int) (γ : Nat → rHp), jn49 a g 1 (zAg (zNA a49_ 1) ρ) (γ 1) → zO 23 S a g q49a1_1 ρ γ → zGl (fun i vs g1 => jn49 a g i vs g1) (sn49 a g) q49a1_1 ρ γ := by
  intro ρ γ hJ h
  obtain ⟨ha, hg, hr, hf, hm, hc, hl⟩ := h
  have ha : a = [ρ 0, ρ 1, ρ 2, ρ 3, ρ 4, ρ 5, ρ 6, ρ 7, ρ 8, ρ 9, ρ 10, ρ 11, ρ 12, ρ 13, ρ 14, ρ 15, ρ 16, ρ 17, ρ 18, ρ 19, ρ 20, ρ 21, ρ 22] := ha
  subst ha
  subst hg
  have hJ : jn49 [ρ 0, ρ 1, ρ 2, ρ 3, ρ 4, ρ 5, ρ 6, ρ 7, ρ 8, ρ 9, ρ 10, ρ 11, ρ 12, ρ 13, ρ 14, ρ 15, ρ 16, ρ 17, ρ 18, ρ 19, ρ 20, ρ 21, ρ 22] (γ 0) 1 [ρ 0, ρ 1, ρ 2, ρ 3, ρ 4, ρ 5, ρ 6, ρ 7, ρ 8, ρ 9, ρ 10, ρ 11, ρ 12, ρ 13, ρ 14, ρ 15, ρ 16, ρ 17, ρ 18, ρ 19, ρ 20, ρ 21, ρ 22, ρ 23, ρ 24, ρ 25, ρ 26, ρ 27, ρ 28, ρ 29, ρ 30, ρ 31, ρ 32, ρ 33, ρ 34, ρ 35, ρ 36, ρ 37, ρ 38, ρ 39, ρ 40, ρ 41, ρ 42] (γ 1) := hJ
  have r54 : (46 : Int) ≤ ρ 54 ∧ ρ 54 ≤ 46 := zRnA hr 54
  have f1 : (0 : Int) ≤ -ρ 53 + ρ 1 + (-1) := zAllA hf 1
  have f18 : (0 : Int) ≤ -ρ 40 + ρ 23 := zAllA hf 18
  obtain ⟨w_0, w_1, w_2⟩ : (ρ 23 ≥ ρ 40) ∧ (0 ≤ -ρ 53 + ρ 1 + (-1)) ∧ (ρ 54 = 46) := ⟨by omega, by omega, by omega⟩
  have m1 : γ 0 15 0 34 = ρ 1 := zAllA hm 1
  have m5 : γ 0 15 0 33 = ρ 5 := zAllA hm 5
  have m28 : γ 1 15 0 44 = ρ 31 := zAllA hm 28
  have m38 : γ 1 15 0 48 = ρ 40 := zAllA hm 38
  have m52 : γ 3 15 0 35 = ρ 53 := zAllA hm 52
  have l0 : sn43 [ρ 26, ρ 1, ρ 27, ρ 28, ρ 30, ρ 29, ρ 4, ρ 5, ρ 31, ρ 41, ρ 15, ρ 34, ρ 35, ρ 36, ρ 37] (γ 1) 0 1 (γ 2) := hS43 _ _ _ _ _ (zAllA hl 0)
  have l1 : sn7 [ρ 43, ρ 1] (γ 2) 0 0 (γ 3) := hS7 _ _ _ _ _ (zAllA hl 1)
  have l2 : sn6 [ρ 53, ρ 1] (γ 3) 0 (ρ 54) (γ 4) := hS6 _ _ _ _ _ (zAllA hl 2)
  have l3 : sn30 [ρ 46] (γ 4) 0 0 (γ 5) := hS30 _ _ _ _ _ (zAllA hl 3)
  have l4 : sn28 [ρ 1, ρ 15, ρ 52, ρ 46] (γ 5) 0 0 (γ 6) := hS28 _ _ _ _ _ (zAllA hl 4)
  show sn49 [ρ 0, ρ 1, ρ 2, ρ 3, ρ 4, ρ 5, ρ 6, ρ 7, ρ 8, ρ 9, ρ 10, ρ 11, ρ 12, ρ 13, ρ 14, ρ 15, ρ 16, ρ 17, ρ 18, ρ 19, ρ 20, ρ 21, ρ 22] (γ 0) 0 0 (γ 6)
  have hD : en49 (γ 0) (1, [ρ 23, ρ 24, ρ 25], γ 1) = .inr (0, 0, γ 6) := by
    unfold en49
    refine zIN (show ¬ (1 : Nat) = 0 by decide) (zIP (show (1 : Nat) = 1 by decide) (zLV (γ 1) rfl (zLV (ρ 23) rfl (zLV (ρ 24) rfl (zLV (ρ 25) rfl (zLE m1 (zLE m5 ?_)))))))
    refine zLE m28 (zLE m38 (zIP w_0 (zLE (show fn43 [] (γ 1) = (0, 1, γ 2) from l0.symm) (zLV (γ 2) rfl (zIP zQ1_ (zLE (show fn7 [] (γ 2) = (0, 0, γ 3) from l1.symm) (zLV (γ 3) rfl ?_)))))))
    refine zLE m52 (zLE (show fn6 [ρ 53] (γ 3) = (0, ρ 54, γ 4) from l2.symm) (zLV (γ 4) rfl (zIP w_1 (zLV (ρ 54) rfl (zIP w_2 (zLE (show fn30 [] (γ 4) = (0, 0, γ 5) from l3.symm) (zLV (γ 5) rfl ?_)))))))
    refine zLE (show fn28 [] (γ 5) = (0, 0, γ 6) from l4.symm) (zLV (γ 6) rfl (zIN zQ0_ ?_))
    rfl
  exact zGoo_aend hJ hD
theorem vn49a1_2 {S : Nat → zSpc} (hS6 : zIm S 6 sn6) (hS7 : zIm S 7 sn7) (hS8 : zIm S 8 sn8) (hS21 : zIm S 21 sn21) (hS25 : zIm S 25 sn25) (hS27 : zIm S 27 sn27) (hS28 : zIm S 28 sn28) (hS30 : zIm S 30 sn30) (hS31 : zIm S 31 sn31) (hS39 : zIm S 39 sn39) (hS43 : zIm S 43 sn43) (hS44 : zIm S 44 sn44) (hS45 : zIm S 45 sn45) (hS46 : zIm S 46 sn46) (hS47 : zIm S 47 sn47) {a : List Int} {g : rHp} : ∀ (ρ : Nat → Int) (γ : Nat → rHp), jn49 a g 1 (zAg (zNA a49_ 1) ρ) (γ 1) → zO 23 S a g q49a1_2 ρ γ → zGl (fun i vs g1 => jn49 a g i vs g1) (sn49 a g) q49a1_2 ρ γ := by
  intro ρ γ hJ h
  obtain ⟨ha, hg, hr, hf, hm, hc, hl⟩ := h
  have ha : a = [ρ 0, ρ 1, ρ 2, ρ 3, ρ 4, ρ 5, ρ 6, ρ 7, ρ 8, ρ 9, ρ 10, ρ 11, ρ 12, ρ 13, ρ 14, ρ 15, ρ 16, ρ 17, ρ 18, ρ 19, ρ 20, ρ 21, ρ 22] := ha
  subst ha
  subst hg
  have hJ : jn49 [ρ 0, ρ 1, ρ 2, ρ 3, ρ 4, ρ 5, ρ 6, ρ 7, ρ 8, ρ 9, ρ 10, ρ 11, ρ 12, ρ 13, ρ 14, ρ 15, ρ 16, ρ 17, ρ 18, ρ 19, ρ 20, ρ 21, ρ 22] (γ 0) 1 [ρ 0, ρ 1, ρ 2, ρ 3, ρ 4, ρ 5, ρ 6, ρ 7, ρ 8, ρ 9, ρ 10, ρ 11, ρ 12, ρ 13, ρ 14, ρ 15, ρ 16, ρ 17, ρ 18, ρ 19, ρ 20, ρ 21, ρ 22, ρ 23, ρ 24, ρ 25, ρ 26, ρ 27, ρ 28, ρ 29, ρ 30, ρ 31, ρ 32, ρ 33, ρ 34, ρ 35, ρ 36, ρ 37, ρ 38, ρ 39, ρ 40, ρ 41, ρ 42] (γ 1) := hJ
  have r54 : (46 : Int) ≤ ρ 54 ∧ ρ 54 ≤ 46 := zRnA hr 54
  have f0 : (0 : Int) ≤ -ρ 53 + ρ 1 + (-1) := zAllA hf 0
  have f17 : (0 : Int) ≤ -ρ 40 + ρ 23 := zAllA hf 17
  obtain ⟨w_0, w_1, w_2⟩ : (ρ 23 ≥ ρ 40) ∧ (0 ≤ -ρ 53 + ρ 1 + (-1)) ∧ (ρ 54 = 46) := ⟨by omega, by omega, by omega⟩
  have m1 : γ 0 15 0 34 = ρ 1 := zAllA hm 1
  have m5 : γ 0 15 0 33 = ρ 5 := zAllA hm 5
  have m28 : γ 1 15 0 44 = ρ 31 := zAllA hm 28
  have m38 : γ 1 15 0 48 = ρ 40 := zAllA hm 38
  have m52 : γ 3 15 0 35 = ρ 53 := zAllA hm 52
  have c7 : γ 7 = rUp (γ 6) 15 0 35 (ρ 53 + 1) := And.right (zChA hc 2)
  have c9 : γ 9 = rUp (γ 8) 15 0 33 (ρ 5 + 1) := And.right (zChA hc 0)
  have l0 : sn43 [ρ 26, ρ 1, ρ 27, ρ 28, ρ 30, ρ 29, ρ 4, ρ 5, ρ 31, ρ 41, ρ 15, ρ 34, ρ 35, ρ 36, ρ 37] (γ 1) 0 1 (γ 2) := hS43 _ _ _ _ _ (zAllA hl 0)
  have l1 : sn7 [ρ 43, ρ 1] (γ 2) 0 0 (γ 3) := hS7 _ _ _ _ _ (zAllA hl 1)
  have l2 : sn6 [ρ 53, ρ 1] (γ 3) 0 (ρ 54) (γ 4) := hS6 _ _ _ _ _ (zAllA hl 2)
  have l3 : sn30 [ρ 46] (γ 4) 0 0 (γ 5) := hS30 _ _ _ _ _ (zAllA hl 3)
  have l4 : sn28 [ρ 1, ρ 15, ρ 52, ρ 46] (γ 5) 0 1 (γ 6) := hS28 _ _ _ _ _ (zAllA hl 4)
  have l5 : sn44 [ρ 31, ρ 48, ρ 52] (γ 7) 0 0 (γ 8) := hS44 _ _ _ _ _ (zAllA hl 5)
  show sn49 [ρ 0, ρ 1, ρ 2, ρ 3, ρ 4, ρ 5, ρ 6, ρ 7, ρ 8, ρ 9, ρ 10, ρ 11, ρ 12, ρ 13, ρ 14, ρ 15, ρ 16, ρ 17, ρ 18, ρ 19, ρ 20, ρ 21, ρ 22] (γ 0) 0 1 (γ 9)
  have hD : en49 (γ 0) (1, [ρ 23, ρ 24, ρ 25], γ 1) = .inr (0, 1, γ 9) := by
    unfold en49
    refine zIN (show ¬ (1 : Nat) = 0 by decide) (zIP (show (1 : Nat) = 1 by decide) (zLV (γ 1) rfl (zLV (ρ 23) rfl (zLV (ρ 24) rfl (zLV (ρ 25) rfl (zLE m1 (zLE m5 ?_)))))))
    refine zLE m28 (zLE m38 (zIP w_0 (zLE (show fn43 [] (γ 1) = (0, 1, γ 2) from l0.symm) (zLV (γ 2) rfl (zIP zQ1_ (zLE (show fn7 [] (γ 2) = (0, 0, γ 3) from l1.symm) (zLV (γ 3) rfl ?_)))))))
    refine zLE m52 (zLE (show fn6 [ρ 53] (γ 3) = (0, ρ 54, γ 4) from l2.symm) (zLV (γ 4) rfl (zIP w_1 (zLV (ρ 54) rfl (zIP w_2 (zLE (show fn30 [] (γ 4) = (0, 0, γ 5) from l3.symm) (zLV (γ 5) rfl ?_)))))))
    refine zLE (show fn28 [] (γ 5) = (0, 1, γ 6) from l4.symm) (zLV (γ 6) rfl (zIP zQ1_ (zLE c7.symm (zLE (show fn44 [] (γ 7) = (0, 0, γ 8) from l5.symm) (zLV (γ 8) rfl (zLE c9.symm ?_))))))
    rfl
  exact zGoo_aend hJ hD
theorem vn49a1_3 {S : Nat → zSpc} (hS6 : zIm S 6 sn6) (hS7 : zIm S 7 sn7) (hS8 : zIm S 8 sn8) (hS21 : zIm S 21 sn21) (hS25 : zIm S 25 sn25) (hS27 : zIm S 27 sn27) (hS28 : zIm S 28 sn28) (hS30 : zIm S 30 sn30) (hS31 : zIm S 31 sn31) (hS39 : zIm S 39 sn39) (hS43 : zIm S 43 sn43) (hS44 : zIm S 44 sn44) (hS45 : zIm S 45 sn45) (hS46 : zIm S 46 sn46) (hS47 : zIm S 47 sn47) {a : List Int} {g : rHp} : ∀ (ρ : Nat → Int) (γ : Nat → rHp), jn49 a g 1 (zAg (zNA a49_ 1) ρ) (γ 1) → zO 23 S a g q49a1_3 ρ γ → zGl (fun i vs g1 => jn49 a g i vs g1) (sn49 a g) q49a1_3 ρ γ := by
  intro ρ γ hJ h
  obtain ⟨ha, hg, hr, hf, hm, hc, hl⟩ := h
  have ha : a = [ρ 0, ρ 1, ρ 2, ρ 3, ρ 4, ρ 5, ρ 6, ρ 7, ρ 8, ρ 9, ρ 10, ρ 11, ρ 12, ρ 13, ρ 14, ρ 15, ρ 16, ρ 17, ρ 18, ρ 19, ρ 20, ρ 21, ρ 22] := ha
  subst ha
  subst hg
  have hJ : jn49 [ρ 0, ρ 1, ρ 2, ρ 3, ρ 4, ρ 5, ρ 6, ρ 7, ρ 8, ρ 9, ρ 10, ρ 11, ρ 12, ρ 13, ρ 14, ρ 15, ρ 16, ρ 17, ρ 18, ρ 19, ρ 20, ρ 21, ρ 22] (γ 0) 1 [ρ 0, ρ 1, ρ 2, ρ 3, ρ 4, ρ 5, ρ 6, ρ 7, ρ 8, ρ 9, ρ 10, ρ 11, ρ 12, ρ 13, ρ 14, ρ 15, ρ 16, ρ 17, ρ 18, ρ 19, ρ 20, ρ 21, ρ 22, ρ 23, ρ 24, ρ 25, ρ 26, ρ 27, ρ 28, ρ 29, ρ 30, ρ 31, ρ 32, ρ 33, ρ 34, ρ 35, ρ 36, ρ 37, ρ 38, ρ 39, ρ 40, ρ 41, ρ 42] (γ 1) := hJ
  have r54 : ((-128) : Int) ≤ ρ 54 ∧ ρ 54 ≤ 127 := zRnA hr 54
  have f2 : (0 : Int) ≤ -ρ 53 + ρ 1 + (-1) := zAllA hf 2
  have f19 : (0 : Int) ≤ -ρ 40 + ρ 23 := zAllA hf 19
  obtain ⟨w_0, w_1⟩ : (ρ 23 ≥ ρ 40) ∧ (0 ≤ -ρ 53 + ρ 1 + (-1)) := ⟨by omega, by omega⟩
  have m1 : γ 0 15 0 34 = ρ 1 := zAllA hm 1
  have m5 : γ 0 15 0 33 = ρ 5 := zAllA hm 5
  have m28 : γ 1 15 0 44 = ρ 31 := zAllA hm 28
  have m38 : γ 1 15 0 48 = ρ 40 := zAllA hm 38
  have m52 : γ 3 15 0 35 = ρ 53 := zAllA hm 52
  have l0 : sn43 [ρ 26, ρ 1, ρ 27, ρ 28, ρ 30, ρ 29, ρ 4, ρ 5, ρ 31, ρ 41, ρ 15, ρ 34, ρ 35, ρ 36, ρ 37] (γ 1) 0 1 (γ 2) := hS43 _ _ _ _ _ (zAllA hl 0)
  have l1 : sn7 [ρ 43, ρ 1] (γ 2) 0 0 (γ 3) := hS7 _ _ _ _ _ (zAllA hl 1)
  have l2 : sn6 [ρ 53, ρ 1] (γ 3) 0 (ρ 54) (γ 4) := hS6 _ _ _ _ _ (zAllA hl 2)
  have l3 : ρ 54 ≠ 46 := zAllA hl 3
  have l4 : sn8 [ρ 53, ρ 1, ρ 15] (γ 4) 0 0 (γ 5) := hS8 _ _ _ _ _ (zAllA hl 4)
  have wl_0 : ¬ (ρ 54 = 46) := by omega
  show sn49 [ρ 0, ρ 1, ρ 2, ρ 3, ρ 4, ρ 5, ρ 6, ρ 7, ρ 8, ρ 9, ρ 10, ρ 11, ρ 12, ρ 13, ρ 14, ρ 15, ρ 16, ρ 17, ρ 18, ρ 19, ρ 20, ρ 21, ρ 22] (γ 0) 0 0 (γ 5)
  have hD : en49 (γ 0) (1, [ρ 23, ρ 24, ρ 25], γ 1) = .inr (0, 0, γ 5) := by
    unfold en49
    refine zIN (show ¬ (1 : Nat) = 0 by decide) (zIP (show (1 : Nat) = 1 by decide) (zLV (γ 1) rfl (zLV (ρ 23) rfl (zLV (ρ 24) rfl (zLV (ρ 25) rfl (zLE m1 (zLE m5 ?_)))))))
    refine zLE m28 (zLE m38 (zIP w_0 (zLE (show fn43 [] (γ 1) = (0, 1, γ 2) from l0.symm) (zLV (γ 2) rfl (zIP zQ1_ (zLE (show fn7 [] (γ 2) = (0, 0, γ 3) from l1.symm) (zLV (γ 3) rfl ?_)))))))
    refine zLE m52 (zLE (show fn6 [ρ 53] (γ 3) = (0, ρ 54, γ 4) from l2.symm) (zLV (γ 4) rfl (zIP w_1 (zLV (ρ 54) rfl (zIN wl_0 (zLE (show fn8 [ρ 53] (γ 4) = (0, 0, γ 5) from l4.symm) (zLV (γ 5) rfl ?_)))))))
    rfl
  exact zGoo_aend hJ hD
theorem vn49a1_4 {S : Nat → zSpc} (hS6 : zIm S 6 sn6) (hS7 : zIm S 7 sn7) (hS8 : zIm S 8 sn8) (hS21 : zIm S 21 sn21) (hS25 : zIm S 25 sn25) (hS27 : zIm S 27 sn27) (hS28 : zIm S 28 sn28) (hS30 : zIm S 30 sn30) (hS31 : zIm S 31 sn31) (hS39 : zIm S 39 sn39) (hS43 : zIm S 43 sn43) (hS44 : zIm S 44 sn44) (hS45 : zIm S 45 sn45) (hS46 : zIm S 46 sn46) (hS47 : zIm S 47 sn47) {a : List Int} {g : rHp} : ∀ (ρ : Nat → Int) (γ : Nat → rHp), jn49 a g 1 (zAg (zNA a49_ 1) ρ) (γ 1) → zO 23 S a g q49a1_4 ρ γ → zGl (fun i vs g1 => jn49 a g i vs g1) (sn49 a g) q49a1_4 ρ γ := by
  intro ρ γ hJ h
  obtain ⟨ha, hg, hr, hf, hm, hc, hl⟩ := h
  have ha : a = [ρ 0, ρ 1, ρ 2, ρ 3, ρ 4, ρ 5, ρ 6, ρ 7, ρ 8, ρ 9, ρ 10, ρ 11, ρ 12, ρ 13, ρ 14, ρ 15, ρ 16, ρ 17, ρ 18, ρ 19, ρ 20, ρ 21, ρ 22] := ha
  subst ha
  subst hg
  have hJ : jn49 [ρ 0, ρ 1, ρ 2, ρ 3, ρ 4, ρ 5, ρ 6, ρ 7, ρ 8, ρ 9, ρ 10, ρ 11, ρ 12, ρ 13, ρ 14, ρ 15, ρ 16, ρ 17, ρ 18, ρ 19, ρ 20, ρ 21, ρ 22] (γ 0) 1 [ρ 0, ρ 1, ρ 2, ρ 3, ρ 4, ρ 5, ρ 6, ρ 7, ρ 8, ρ 9, ρ 10, ρ 11, ρ 12, ρ 13, ρ 14, ρ 15, ρ 16, ρ 17, ρ 18, ρ 19, ρ 20, ρ 21, ρ 22, ρ 23, ρ 24, ρ 25, ρ 26, ρ 27, ρ 28, ρ 29, ρ 30, ρ 31, ρ 32, ρ 33, ρ 34, ρ 35, ρ 36, ρ 37, ρ 38, ρ 39, ρ 40, ρ 41, ρ 42] (γ 1) := hJ
  have f2 : (0 : Int) ≤ ρ 53 + -ρ 1 := zAllA hf 2
  have f19 : (0 : Int) ≤ -ρ 40 + ρ 23 := zAllA hf 19
  obtain ⟨w_0, w_1⟩ : (ρ 23 ≥ ρ 40) ∧ (¬ (0 ≤ -ρ 53 + ρ 1 + (-1))) := ⟨by omega, by omega⟩
  have m1 : γ 0 15 0 34 = ρ 1 := zAllA hm 1
  have m5 : γ 0 15 0 33 = ρ 5 := zAllA hm 5
  have m28 : γ 1 15 0 44 = ρ 31 := zAllA hm 28
  have m38 : γ 1 15 0 48 = ρ 40 := zAllA hm 38
  have m52 : γ 3 15 0 35 = ρ 53 := zAllA hm 52
  have l0 : sn43 [ρ 26, ρ 1, ρ 27, ρ 28, ρ 30, ρ 29, ρ 4, ρ 5, ρ 31, ρ 41, ρ 15, ρ 34, ρ 35, ρ 36, ρ 37] (γ 1) 0 1 (γ 2) := hS43 _ _ _ _ _ (zAllA hl 0)
  have l1 : sn7 [ρ 43, ρ 1] (γ 2) 0 0 (γ 3) := hS7 _ _ _ _ _ (zAllA hl 1)
  have l2 : sn6 [ρ 53, ρ 1] (γ 3) 0 (-1) (γ 4) := hS6 _ _ _ _ _ (zAllA hl 2)
  have l3 : sn8 [ρ 53, ρ 1, ρ 15] (γ 4) 0 0 (γ 5) := hS8 _ _ _ _ _ (zAllA hl 3)
  show sn49 [ρ 0, ρ 1, ρ 2, ρ 3, ρ 4, ρ 5, ρ 6, ρ 7, ρ 8, ρ 9, ρ 10, ρ 11, ρ 12, ρ 13, ρ 14, ρ 15, ρ 16, ρ 17, ρ 18, ρ 19, ρ 20, ρ 21, ρ 22] (γ 0) 0 0 (γ 5)
  have hD : en49 (γ 0) (1, [ρ 23, ρ 24, ρ 25], γ 1) = .inr (0, 0, γ 5) := by
    unfold en49
    refine zIN (show ¬ (1 : Nat) = 0 by decide) (zIP (show (1 : Nat) = 1 by decide) (zLV (γ 1) rfl (zLV (ρ 23) rfl (zLV (ρ 24) rfl (zLV (ρ 25) rfl (zLE m1 (zLE m5 ?_)))))))
    refine zLE m28 (zLE m38 (zIP w_0 (zLE (show fn43 [] (γ 1) = (0, 1, γ 2) from l0.symm) (zLV (γ 2) rfl (zIP zQ1_ (zLE (show fn7 [] (γ 2) = (0, 0, γ 3) from l1.symm) (zLV (γ 3) rfl ?_)))))))
    refine zLE m52 (zLE (show fn6 [ρ 53] (γ 3) = (0, (-1), γ 4) from l2.symm) (zLV (γ 4) rfl (zIN w_1 (zLE (show fn8 [ρ 53] (γ 4) = (0, 0, γ 5) from l3.symm) (zLV (γ 5) rfl ?_)))))
    rfl
  exact zGoo_aend hJ hD
theorem vn49a1_5 {S : Nat → zSpc} (hS6 : zIm S 6 sn6) (hS7 : zIm S 7 sn7) (hS8 : zIm S 8 sn8) (hS21 : zIm S 21 sn21) (hS25 : zIm S 25 sn25) (hS27 : zIm S 27 sn27) (hS28 : zIm S 28 sn28) (hS30 : zIm S 30 sn30) (hS31 : zIm S 31 sn31) (hS39 : zIm S 39 sn39) (hS43 : zIm S 43 sn43) (hS44 : zIm S 44 sn44) (hS45 : zIm S 45 sn45) (hS46 : zIm S 46 sn46) (hS47 : zIm S 47 sn47) {a : List Int} {g : rHp} : ∀ (ρ : Nat → Int) (γ : Nat → rHp), jn49 a g 1 (zAg (zNA a49_ 1) ρ) (γ 1) → zO 23 S a g q49a1_5 ρ γ → zGl (fun i vs g1 => jn49 a g i vs g1) (sn49 a g) q49a1_5 ρ γ := by
  intro ρ γ hJ h
  obtain ⟨ha, hg, hr, hf, hm, hc, hl⟩ := h
  have ha : a = [ρ 0, ρ 1, ρ 2, ρ 3, ρ 4, ρ 5, ρ 6, ρ 7, ρ 8, ρ 9, ρ 10, ρ 11, ρ 12, ρ 13, ρ 14, ρ 15, ρ 16, ρ 17, ρ 18, ρ 19, ρ 20, ρ 21, ρ 22] := ha
  subst ha
  subst hg
  have hJ : jn49 [ρ 0, ρ 1, ρ 2, ρ 3, ρ 4, ρ 5, ρ 6, ρ 7, ρ 8, ρ 9, ρ 10, ρ 11, ρ 12, ρ 13, ρ 14, ρ 15, ρ 16, ρ 17, ρ 18, ρ 19, ρ 20, ρ 21, ρ 22] (γ 0) 1 [ρ 0, ρ 1, ρ 2, ρ 3, ρ 4, ρ 5, ρ 6, ρ 7, ρ 8, ρ 9, ρ 10, ρ 11, ρ 12, ρ 13, ρ 14, ρ 15, ρ 16, ρ 17, ρ 18, ρ 19, ρ 20, ρ 21, ρ 22, ρ 23, ρ 24, ρ 25, ρ 26, ρ 27, ρ 28, ρ 29, ρ 30, ρ 31, ρ 32, ρ 33, ρ 34, ρ 35, ρ 36, ρ 37, ρ 38, ρ 39, ρ 40, ρ 41, ρ 42] (γ 1) := hJ
  have f0 : (0 : Int) ≤ ρ 40 + -ρ 23 + (-1) := zAllA hf 0
  have w_0 : ¬ (ρ 23 ≥ ρ 40) := by omega
  have m1 : γ 0 15 0 34 = ρ 1 := zAllA hm 1
  have m5 : γ 0 15 0 33 = ρ 5 := zAllA hm 5
  have m28 : γ 1 15 0 44 = ρ 31 := zAllA hm 28
  have m38 : γ 1 15 0 48 = ρ 40 := zAllA hm 38
  have m41 : γ 1 85 0 (ρ 23) = ρ 43 := zAllA hm 41
  have m42 : γ 1 87 0 (ρ 23) = ρ 44 := zAllA hm 42
  have c2 : γ 2 = rUp (γ 1) 70 0 (4 * ρ 31 + ρ 23) (ρ 43) := And.right (zChA hc 1)
  have c3 : γ 3 = rUp (γ 2) 76 0 (4 * ρ 31 + ρ 23) (ρ 44) := And.right (zChA hc 0)
  show jn49 [ρ 0, ρ 1, ρ 2, ρ 3, ρ 4, ρ 5, ρ 6, ρ 7, ρ 8, ρ 9, ρ 10, ρ 11, ρ 12, ρ 13, ρ 14, ρ 15, ρ 16, ρ 17, ρ 18, ρ 19, ρ 20, ρ 21, ρ 22] (γ 0) 1 [ρ 0, ρ 1, ρ 2, ρ 3, ρ 4, ρ 5, ρ 6, ρ 7, ρ 8, ρ 9, ρ 10, ρ 11, ρ 12, ρ 13, ρ 14, ρ 15, ρ 16, ρ 17, ρ 18, ρ 19, ρ 20, ρ 21, ρ 22, ρ 23 + 1, ρ 24, ρ 25, ρ 26, ρ 27, ρ 28, ρ 29, ρ 30, ρ 31, ρ 32, ρ 33, ρ 34, ρ 35, ρ 36, ρ 37, ρ 38, ρ 39, ρ 40, ρ 41, ρ 42] (γ 3)
  have hD : en49 (γ 0) (1, [ρ 23, ρ 24, ρ 25], γ 1) = .inl (1, [ρ 23 + 1, ρ 24, ρ 25], γ 3) := by
    unfold en49
    refine zIN (show ¬ (1 : Nat) = 0 by decide) (zIP (show (1 : Nat) = 1 by decide) (zLV (γ 1) rfl (zLV (ρ 23) rfl (zLV (ρ 24) rfl (zLV (ρ 25) rfl (zLE m1 (zLE m5 ?_)))))))
    refine zLE m28 (zLE m38 (zIN w_0 (zLE m41 (zLE c2.symm (zLE m42 (zLE c3.symm ?_))))))
    rfl
  exact zGoo_ato hJ hD
theorem yn49 {S : Nat → zSpc} (hS6 : zIm S 6 sn6) (hS7 : zIm S 7 sn7) (hS8 : zIm S 8 sn8) (hS21 : zIm S 21 sn21) (hS25 : zIm S 25 sn25) (hS27 : zIm S 27 sn27) (hS28 : zIm S 28 sn28) (hS30 : zIm S 30 sn30) (hS31 : zIm S 31 sn31) (hS39 : zIm S 39 sn39) (hS43 : zIm S 43 sn43) (hS44 : zIm S 44 sn44) (hS45 : zIm S 45 sn45) (hS46 : zIm S 46 sn46) (hS47 : zIm S 47 sn47) : ∀ x g o v gz, zSem uW uT w49_.2.2.2.1 w49_.2.2.1.1.length S q49 (fun i => q49a.getD i []) (zNA a49_) x g o v gz → sn49 x g o v gz := by
  intro a g o v gz h
  exact zSem_all (l0 := q49) (las := q49a) (S := S) (J := (fun i vs g1 => jn49 a g i vs g1)) (P := sn49 a g) (fun _ => (show zAll _ [q49_0, q49_1] from (zAll_c (vn49_0 hS6 hS7 hS8 hS21 hS25 hS27 hS28 hS30 hS31 hS39 hS43 hS44 hS45 hS46 hS47) (zAll_c (vn49_1 hS6 hS7 hS8 hS21 hS25 hS27 hS28 hS30 hS31 hS39 hS43 hS44 hS45 hS46 hS47) zAll_n)))) (fun _ => (show zAllI _ 0 [q49a0, q49a1] from ⟨(show zAll _ [q49a0_0, q49a0_1, q49a0_2, q49a0_3, q49a0_4, q49a0_5, q49a0_6, q49a0_7, q49a0_8, q49a0_9, q49a0_10, q49a0_11, q49a0_12, q49a0_13, q49a0_14, q49a0_15, q49a0_16, q49a0_17, q49a0_18, q49a0_19, q49a0_20, q49a0_21, q49a0_22, q49a0_23, q49a0_24, q49a0_25, q49a0_26, q49a0_27, q49a0_28, q49a0_29] from (zAll_c (vn49a0_0 hS6 hS7 hS8 hS21 hS25 hS27 hS28 hS30 hS31 hS39 hS43 hS44 hS45 hS46 hS47) (zAll_c (vn49a0_1 hS6 hS7 hS8 hS21 hS25 hS27 hS28 hS30 hS31 hS39 hS43 hS44 hS45 hS46 hS47) (zAll_c (vn49a0_2 hS6 hS7 hS8 hS21 hS25 hS27 hS28 hS30 hS31 hS39 hS43 hS44 hS45 hS46 hS47) (zAll_c (vn49a0_3 hS6 hS7 hS8 hS21 hS25 hS27 hS28 hS30 hS31 hS39 hS43 hS44 hS45 hS46 hS47) (zAll_c (vn49a0_4 hS6 hS7 hS8 hS21 hS25 hS27 hS28 hS30 hS31 hS39 hS43 hS44 hS45 hS46 hS47) (zAll_c (vn49a0_5 hS6 hS7 hS8 hS21 hS25 hS27 hS28 hS30 hS31 hS39 hS43 hS44 hS45 hS46 hS47) (zAll_c (vn49a0_6 hS6 hS7 hS8 hS21 hS25 hS27 hS28 hS30 hS31 hS39 hS43 hS44 hS45 hS46 hS47) (zAll_c (vn49a0_7 hS6 hS7 hS8 hS21 hS25 hS27 hS28 hS30 hS31 hS39 hS43 hS44 hS45 hS46 hS47) (zAll_c (vn49a0_8 hS6 hS7 hS8 hS21 hS25 hS27 hS28 hS30 hS31 hS39 hS43 hS44 hS45 hS46 hS47) (zAll_c (vn49a0_9 hS6 hS7 hS8 hS21 hS25 hS27 hS28 hS30 hS31 hS39 hS43 hS44 hS45 hS46 hS47) (zAll_c (vn49a0_10 hS6 hS7 hS8 hS21 hS25 hS27 hS28 hS30 hS31 hS39 hS43 hS44 hS45 hS46 hS47) (zAll_c (vn49a0_11 hS6 hS7 hS8 hS21 hS25 hS27 hS28 hS30 hS31 hS39 hS43 hS44 hS45 hS46 hS47) (zAll_c (vn49a0_12 hS6 hS7 hS8 hS21 hS25 hS27 hS28 hS30 hS31 hS39 hS43 hS44 hS45 hS46 hS47) (zAll_c (vn49a0_13 hS6 hS7 hS8 hS21 hS25 hS27 hS28 hS30 hS31 hS39 hS43 hS44 hS45 hS46 hS47) (zAll_c (vn49a0_14 hS6 hS7 hS8 hS21 hS25 hS27 hS28 hS30 hS31 hS39 hS43 hS44 hS45 hS46 hS47) (zAll_c (vn49a0_15 hS6 hS7 hS8 hS21 hS25 hS27 hS28 hS30 hS31 hS39 hS43 hS44 hS45 hS46 hS47) (zAll_c (vn49a0_16 hS6 hS7 hS8 hS21 hS25 hS27 hS28 hS30 hS31 hS39 hS43 hS44 hS45 hS46 hS47) (zAll_c (vn49a0_17 hS6 hS7 hS8 hS21 hS25 hS27 hS28 hS30 hS31 hS39 hS43 hS44 hS45 hS46 hS47) (zAll_c (vn49a0_18 hS6 hS7 hS8 hS21 hS25 hS27 hS28 hS30 hS31 hS39 hS43 hS44 hS45 hS46 hS47) (zAll_c (vn49a0_19 hS6 hS7 hS8 hS21 hS25 hS27 hS28 hS30 hS31 hS39 hS43 hS44 hS45 hS46 hS47) (zAll_c (vn49a0_20 hS6 hS7 hS8 hS21 hS25 hS27 hS28 hS30 hS31 hS39 hS43 hS44 hS45 hS46 hS47) (zAll_c (vn49a0_21 hS6 hS7 hS8 hS21 hS25 hS27 hS28 hS30 hS31 hS39 hS43 hS44 hS45 hS46 hS47) (zAll_c (vn49a0_22 hS6 hS7 hS8 hS21 hS25 hS27 hS28 hS30 hS31 hS39 hS43 hS44 hS45 hS46 hS47) (zAll_c (vn49a0_23 hS6 hS7 hS8 hS21 hS25 hS27 hS28 hS30 hS31 hS39 hS43 hS44 hS45 hS46 hS47) (zAll_c (vn49a0_24 hS6 hS7 hS8 hS21 hS25 hS27 hS28 hS30 hS31 hS39 hS43 hS44 hS45 hS46 hS47) (zAll_c (vn49a0_25 hS6 hS7 hS8 hS21 hS25 hS27 hS28 hS30 hS31 hS39 hS43 hS44 hS45 hS46 hS47) (zAll_c (vn49a0_26 hS6 hS7 hS8 hS21 hS25 hS27 hS28 hS30 hS31 hS39 hS43 hS44 hS45 hS46 hS47) (zAll_c (vn49a0_27 hS6 hS7 hS8 hS21 hS25 hS27 hS28 hS30 hS31 hS39 hS43 hS44 hS45 hS46 hS47) (zAll_c (vn49a0_28 hS6 hS7 hS8 hS21 hS25 hS27 hS28 hS30 hS31 hS39 hS43 hS44 hS45 hS46 hS47) (zAll_c (vn49a0_29 hS6 hS7 hS8 hS21 hS25 hS27 hS28 hS30 hS31 hS39 hS43 hS44 hS45 hS46 hS47) zAll_n))))))))))))))))))))))))))))))), ⟨(show zAll _ [q49a1_0, q49a1_1, q49a1_2, q49a1_3, q49a1_4, q49a1_5] from (zAll_c (vn49a1_0 hS6 hS7 hS8 hS21 hS25 hS27 hS28 hS30 hS31 hS39 hS43 hS44 hS45 hS46 hS47) (zAll_c (vn49a1_1 hS6 hS7 hS8 hS21 hS25 hS27 hS28 hS30 hS31 hS39 hS43 hS44 hS45 hS46 hS47) (zAll_c (vn49a1_2 hS6 hS7 hS8 hS21 hS25 hS27 hS28 hS30 hS31 hS39 hS43 hS44 hS45 hS46 hS47) (zAll_c (vn49a1_3 hS6 hS7 hS8 hS21 hS25 hS27 hS28 hS30 hS31 hS39 hS43 hS44 hS45 hS46 hS47) (zAll_c (vn49a1_4 hS6 hS7 hS8 hS21 hS25 hS27 hS28 hS30 hS31 hS39 hS43 hS44 hS45 hS46 hS47) (zAll_c (vn49a1_5 hS6 hS7 hS8 hS21 hS25 hS27 hS28 hS30 hS31 hS39 hS43 hS44 hS45 hS46 hS47) zAll_n))))))), trivial⟩⟩)) h
