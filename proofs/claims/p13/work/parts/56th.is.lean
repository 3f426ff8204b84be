/-! ===== the runs are the functions ===== -/
theorem vn247_0 {S : Nat → zSpc} (hS132 : zIm S 132 sn132) (hS228 : zIm S 228 sn228) (hS229 : zIm S 229 sn229) (hS230 : zIm S 230 sn230) (hS231 : zIm S 231 sn231) (hS244 : zIm S 244 sn244) (hS245 : zIm S 245 sn245) (hS246 : zIm S 246 sn246) {a : List Int} {g : rHp} : ∀ (ρ : Nat → Int) (γ : Nat → rHp), zO 25 S a g q247_0 ρ γ → zGl (fun _ _ _ => True) (sn247 a g) q247_0 ρ γ := by
  intro ρ γ h
  obtain ⟨ha, hg, hr, hf, hm, hc, hl⟩ := h
  have ha : a = [ρ 0, ρ 1, ρ 2, ρ 3, ρ 4, ρ 5, ρ 6, ρ 7, ρ 8, ρ 9, ρ 10, ρ 11, ρ 12, ρ 13, ρ 14, ρ 15, ρ 16, ρ 17, ρ 18, ρ 19, ρ 20, ρ 21, ρ 22, ρ 23, ρ 24] := ha
  subst ha
  subst hg
  have r13 : (0 : Int) ≤ ρ 13 ∧ ρ 13 ≤ 7 := zRnA hr 13
  have w_0 : 7 ≥ ρ 13 := by omega
  have m4 : γ 0 6 0 7 = ρ 4 := zAllA hm 4
  have m13 : γ 0 9 (ρ 4) 2 = ρ 13 := zAllA hm 13
  have m19 : γ 0 10 (9 * ρ 4 + 8) 4 = ρ 19 := zAllA hm 19
  have l0 : sn244 [ρ 0, ρ 1, ρ 2, ρ 3, ρ 4, ρ 6, ρ 7, ρ 8, ρ 9, ρ 14, ρ 15, ρ 16, ρ 17, ρ 18] (γ 0) 0 0 (γ 1) := hS244 _ _ _ _ _ (zAllA hl 0)
  show sn247 [ρ 0, ρ 1, ρ 2, ρ 3, ρ 4, ρ 5, ρ 6, ρ 7, ρ 8, ρ 9, ρ 10, ρ 11, ρ 12, ρ 13, ρ 14, ρ 15, ρ 16, ρ 17, ρ 18, ρ 19, ρ 20, ρ 21, ρ 22, ρ 23, ρ 24] (γ 0) 0 0 (γ 1)
  refine Eq.symm ?_
  show fn247 [] (γ 0) = _
  unfold fn247
  refine zLE m4 (zLE m13 (zLE m19 (zIP w_0 (zLE (show fn244 [] (γ 0) = (0, 0, γ 1) from l0.symm) (zLV (γ 1) rfl (zIP (show (0 : Nat) = 0 by decide) ?_))))))
  rfl
theorem vn247_1 {S : Nat → zSpc} (hS132 : zIm S 132 sn132) (hS228 : zIm S 228 sn228) (hS229 : zIm S 229 sn229) (hS230 : zIm S 230 sn230) (hS231 : zIm S 231 sn231) (hS244 : zIm S 244 sn244) (hS245 : zIm S 245 sn245) (hS246 : zIm S 246 sn246) {a : List Int} {g : rHp} : ∀ (ρ : Nat → Int) (γ : Nat → rHp), zO 25 S a g q247_1 ρ γ → zGl (fun _ _ _ => True) (sn247 a g) q247_1 ρ γ := by
  intro ρ γ h
  obtain ⟨ha, hg, hr, hf, hm, hc, hl⟩ := h
  have ha : a = [ρ 0, ρ 1, ρ 2, ρ 3, ρ 4, ρ 5, ρ 6, ρ 7, ρ 8, ρ 9, ρ 10, ρ 11, ρ 12, ρ 13, ρ 14, ρ 15, ρ 16, ρ 17, ρ 18, ρ 19, ρ 20, ρ 21, ρ 22, ρ 23, ρ 24] := ha
  subst ha
  subst hg
  have r13 : (0 : Int) ≤ ρ 13 ∧ ρ 13 ≤ 7 := zRnA hr 13
  have w_0 : 7 ≥ ρ 13 := by omega
  have m4 : γ 0 6 0 7 = ρ 4 := zAllA hm 4
  have m13 : γ 0 9 (ρ 4) 2 = ρ 13 := zAllA hm 13
  have m19 : γ 0 10 (9 * ρ 4 + 8) 4 = ρ 19 := zAllA hm 19
  have l0 : sn244 [ρ 0, ρ 1, ρ 2, ρ 3, ρ 4, ρ 6, ρ 7, ρ 8, ρ 9, ρ 14, ρ 15, ρ 16, ρ 17, ρ 18] (γ 0) 1 0 (γ 1) := hS244 _ _ _ _ _ (zAllA hl 0)
  show sn247 [ρ 0, ρ 1, ρ 2, ρ 3, ρ 4, ρ 5, ρ 6, ρ 7, ρ 8, ρ 9, ρ 10, ρ 11, ρ 12, ρ 13, ρ 14, ρ 15, ρ 16, ρ 17, ρ 18, ρ 19, ρ 20, ρ 21, ρ 22, ρ 23, ρ 24] (γ 0) 1 0 (γ 1)
  refine Eq.symm ?_
  show fn247 [] (γ 0) = _
  unfold fn247
  refine zLE m4 (zLE m13 (zLE m19 (zIP w_0 (zLE (show fn244 [] (γ 0) = (1, 0, γ 1) from l0.symm) (zLV (γ 1) rfl (zIN (show ¬ (1 : Nat) = 0 by decide) ?_))))))
  rfl
theorem vn247_2 {S : Nat → zSpc} (hS132 : zIm S 132 sn132) (hS228 : zIm S 228 sn228) (hS229 : zIm S 229 sn229) (hS230 : zIm S 230 sn230) (hS231 : zIm S 231 sn231) (hS244 : zIm S 244 sn244) (hS245 : zIm S 245 sn245) (hS246 : zIm S 246 sn246) {a : List Int} {g : rHp} : ∀ (ρ : Nat → Int) (γ : Nat → rHp), zO 25 S a g q247_2 ρ γ → zGl (fun _ _ _ => True) (sn247 a g) q247_2 ρ γ := by
  intro ρ γ h
  obtain ⟨ha, hg, hr, hf, hm, hc, hl⟩ := h
  have ha : a = [ρ 0, ρ 1, ρ 2, ρ 3, ρ 4, ρ 5, ρ 6, ρ 7, ρ 8, ρ 9, ρ 10, ρ 11, ρ 12, ρ 13, ρ 14, ρ 15, ρ 16, ρ 17, ρ 18, ρ 19, ρ 20, ρ 21, ρ 22, ρ 23, ρ 24] := ha
  subst ha
  subst hg
  have r13 : (8 : Int) ≤ ρ 13 ∧ ρ 13 ≤ 8 := zRnA hr 13
  have r19 : (3 : Int) ≤ ρ 19 ∧ ρ 19 ≤ 3 := zRnA hr 19
  obtain ⟨w_0, w_1, w_2, w_3⟩ : (¬ (7 ≥ ρ 13)) ∧ (ρ 19 ≠ 1) ∧ (0 ≤ -ρ 19 + 3) ∧ (ρ 19 ≠ 2) := ⟨by omega, by omega, by omega, by omega⟩
  have m4 : γ 0 6 0 7 = ρ 4 := zAllA hm 4
  have m13 : γ 0 9 (ρ 4) 2 = ρ 13 := zAllA hm 13
  have m19 : γ 0 10 (9 * ρ 4 + 8) 4 = ρ 19 := zAllA hm 19
  have l0 : sn132 [ρ 4, 7] (γ 0) 0 (9 * ρ 4 + 8) (γ 1) := hS132 _ _ _ _ _ (zAllA hl 0)
  have l1 : sn230 [9 * ρ 4 + 8, ρ 19] (γ 1) 0 0 (γ 2) := hS230 _ _ _ _ _ (zAllA hl 1)
  show sn247 [ρ 0, ρ 1, ρ 2, ρ 3, ρ 4, ρ 5, ρ 6, ρ 7, ρ 8, ρ 9, ρ 10, ρ 11, ρ 12, ρ 13, ρ 14, ρ 15, ρ 16, ρ 17, ρ 18, ρ 19, ρ 20, ρ 21, ρ 22, ρ 23, ρ 24] (γ 0) 0 0 (γ 2)
  refine Eq.symm ?_
  show fn247 [] (γ 0) = _
  unfold fn247
  refine zLE m4 (zLE m13 (zLE m19 (zIN w_0 (zLE (show fn132 [ρ 4, 7] (γ 0) = (0, 9 * ρ 4 + 8, γ 1) from l0.symm) (zLV (γ 1) rfl (zIP w_1 (zIP w_2 ?_)))))))
  refine zIP w_3 (zLE (show fn230 [9 * ρ 4 + 8] (γ 1) = (0, 0, γ 2) from l1.symm) (zLV (γ 2) rfl (zIN zQ0_ ?_)))
  rfl
theorem vn247_3 {S : Nat → zSpc} (hS132 : zIm S 132 sn132) (hS228 : zIm S 228 sn228) (hS229 : zIm S 229 sn229) (hS230 : zIm S 230 sn230) (hS231 : zIm S 231 sn231) (hS244 : zIm S 244 sn244) (hS245 : zIm S 245 sn245) (hS246 : zIm S 246 sn246) {a : List Int} {g : rHp} : ∀ (ρ : Nat → Int) (γ : Nat → rHp), zO 25 S a g q247_3 ρ γ → zGl (fun _ _ _ => True) (sn247 a g) q247_3 ρ γ := by
  intro ρ γ h
  obtain ⟨ha, hg, hr, hf, hm, hc, hl⟩ := h
  have ha : a = [ρ 0, ρ 1, ρ 2, ρ 3, ρ 4, ρ 5, ρ 6, ρ 7, ρ 8, ρ 9, ρ 10, ρ 11, ρ 12, ρ 13, ρ 14, ρ 15, ρ 16, ρ 17, ρ 18, ρ 19, ρ 20, ρ 21, ρ 22, ρ 23, ρ 24] := ha
  subst ha
  subst hg
  have r13 : (8 : Int) ≤ ρ 13 ∧ ρ 13 ≤ 8 := zRnA hr 13
  have r19 : (3 : Int) ≤ ρ 19 ∧ ρ 19 ≤ 3 := zRnA hr 19
  obtain ⟨w_0, w_1, w_2, w_3⟩ : (¬ (7 ≥ ρ 13)) ∧ (ρ 19 ≠ 1) ∧ (0 ≤ -ρ 19 + 3) ∧ (ρ 19 ≠ 2) := ⟨by omega, by omega, by omega, by omega⟩
  have m4 : γ 0 6 0 7 = ρ 4 := zAllA hm 4
  have m13 : γ 0 9 (ρ 4) 2 = ρ 13 := zAllA hm 13
  have m19 : γ 0 10 (9 * ρ 4 + 8) 4 = ρ 19 := zAllA hm 19
  have l0 : sn132 [ρ 4, 7] (γ 0) 0 (9 * ρ 4 + 8) (γ 1) := hS132 _ _ _ _ _ (zAllA hl 0)
  have l1 : sn230 [9 * ρ 4 + 8, ρ 19] (γ 1) 0 1 (γ 2) := hS230 _ _ _ _ _ (zAllA hl 1)
  have l2 : sn245 [ρ 0, ρ 1, ρ 2, ρ 3, ρ 4, ρ 6, ρ 7, ρ 8, ρ 9, ρ 13, ρ 14, ρ 15, ρ 16, ρ 17, ρ 18] (γ 2) 0 0 (γ 3) := hS245 _ _ _ _ _ (zAllA hl 2)
  show sn247 [ρ 0, ρ 1, ρ 2, ρ 3, ρ 4, ρ 5, ρ 6, ρ 7, ρ 8, ρ 9, ρ 10, ρ 11, ρ 12, ρ 13, ρ 14, ρ 15, ρ 16, ρ 17, ρ 18, ρ 19, ρ 20, ρ 21, ρ 22, ρ 23, ρ 24] (γ 0) 0 0 (γ 3)
  refine Eq.symm ?_
  show fn247 [] (γ 0) = _
  unfold fn247
  refine zLE m4 (zLE m13 (zLE m19 (zIN w_0 (zLE (show fn132 [ρ 4, 7] (γ 0) = (0, 9 * ρ 4 + 8, γ 1) from l0.symm) (zLV (γ 1) rfl (zIP w_1 (zIP w_2 ?_)))))))
  refine zIP w_3 (zLE (show fn230 [9 * ρ 4 + 8] (γ 1) = (0, 1, γ 2) from l1.symm) (zLV (γ 2) rfl (zIP zQ1_ (zLE (show fn245 [] (γ 2) = (0, 0, γ 3) from l2.symm) (zLV (γ 3) rfl (zIP (show (0 : Nat) = 0 by decide) ?_))))))
  rfl
theorem vn247_4 {S : Nat → zSpc} (hS132 : zIm S 132 sn132) (hS228 : zIm S 228 sn228) (hS229 : zIm S 229 sn229) (hS230 : zIm S 230 sn230) (hS231 : zIm S 231 sn231) (hS244 : zIm S 244 sn244) (hS245 : zIm S 245 sn245) (hS246 : zIm S 246 sn246) {a : List Int} {g : rHp} : ∀ (ρ : Nat → Int) (γ : Nat → rHp), zO 25 S a g q247_4 ρ γ → zGl (fun _ _ _ => True) (sn247 a g) q247_4 ρ γ := by
  intro ρ γ h
  obtain ⟨ha, hg, hr, hf, hm, hc, hl⟩ := h
  have ha : a = [ρ 0, ρ 1, ρ 2, ρ 3, ρ 4, ρ 5, ρ 6, ρ 7, ρ 8, ρ 9, ρ 10, ρ 11, ρ 12, ρ 13, ρ 14, ρ 15, ρ 16, ρ 17, ρ 18, ρ 19, ρ 20, ρ 21, ρ 22, ρ 23, ρ 24] := ha
  subst ha
  subst hg
  have r13 : (8 : Int) ≤ ρ 13 ∧ ρ 13 ≤ 8 := zRnA hr 13
  have r19 : (3 : Int) ≤ ρ 19 ∧ ρ 19 ≤ 3 := zRnA hr 19
  obtain ⟨w_0, w_1, w_2, w_3⟩ : (¬ (7 ≥ ρ 13)) ∧ (ρ 19 ≠ 1) ∧ (0 ≤ -ρ 19 + 3) ∧ (ρ 19 ≠ 2) := ⟨by omega, by omega, by omega, by omega⟩
  have m4 : γ 0 6 0 7 = ρ 4 := zAllA hm 4
  have m13 : γ 0 9 (ρ 4) 2 = ρ 13 := zAllA hm 13
  have m19 : γ 0 10 (9 * ρ 4 + 8) 4 = ρ 19 := zAllA hm 19
  have l0 : sn132 [ρ 4, 7] (γ 0) 0 (9 * ρ 4 + 8) (γ 1) := hS132 _ _ _ _ _ (zAllA hl 0)
  have l1 : sn230 [9 * ρ 4 + 8, ρ 19] (γ 1) 0 1 (γ 2) := hS230 _ _ _ _ _ (zAllA hl 1)
  have l2 : sn245 [ρ 0, ρ 1, ρ 2, ρ 3, ρ 4, ρ 6, ρ 7, ρ 8, ρ 9, ρ 13, ρ 14, ρ 15, ρ 16, ρ 17, ρ 18] (γ 2) 1 0 (γ 3) := hS245 _ _ _ _ _ (zAllA hl 2)
  show sn247 [ρ 0, ρ 1, ρ 2, ρ 3, ρ 4, ρ 5, ρ 6, ρ 7, ρ 8, ρ 9, ρ 10, ρ 11, ρ 12, ρ 13, ρ 14, ρ 15, ρ 16, ρ 17, ρ 18, ρ 19, ρ 20, ρ 21, ρ 22, ρ 23, ρ 24] (γ 0) 1 0 (γ 3)
  refine Eq.symm ?_
  show fn247 [] (γ 0) = _
  unfold fn247
  refine zLE m4 (zLE m13 (zLE m19 (zIN w_0 (zLE (show fn132 [ρ 4, 7] (γ 0) = (0, 9 * ρ 4 + 8, γ 1) from l0.symm) (zLV (γ 1) rfl (zIP w_1 (zIP w_2 ?_)))))))
  refine zIP w_3 (zLE (show fn230 [9 * ρ 4 + 8] (γ 1) = (0, 1, γ 2) from l1.symm) (zLV (γ 2) rfl (zIP zQ1_ (zLE (show fn245 [] (γ 2) = (1, 0, γ 3) from l2.symm) (zLV (γ 3) rfl (zIN (show ¬ (1 : Nat) = 0 by decide) ?_))))))
  rfl
theorem vn247_5 {S : Nat → zSpc} (hS132 : zIm S 132 sn132) (hS228 : zIm S 228 sn228) (hS229 : zIm S 229 sn229) (hS230 : zIm S 230 sn230) (hS231 : zIm S 231 sn231) (hS244 : zIm S 244 sn244) (hS245 : zIm S 245 sn245) (hS246 : zIm S 246 sn246) {a : List Int} {g : rHp} : ∀ (ρ : Nat → Int) (γ : Nat → rHp), zO 25 S a g q247_5 ρ γ → zGl (fun _ _ _ => True) (sn247 a g) q247_5 ρ γ := by
  intro ρ γ h
  obtain ⟨ha, hg, hr, hf, hm, hc, hl⟩ := h
  have ha : a = [ρ 0, ρ 1, ρ 2, ρ 3, ρ 4, ρ 5, ρ 6, ρ 7, ρ 8, ρ 9, ρ 10, ρ 11, ρ 12, ρ 13, ρ 14, ρ 15, ρ 16, ρ 17, ρ 18, ρ 19, ρ 20, ρ 21, ρ 22, ρ 23, ρ 24] := ha
  subst ha
  subst hg
  have r13 : (8 : Int) ≤ ρ 13 ∧ ρ 13 ≤ 8 := zRnA hr 13
  have r19 : (2 : Int) ≤ ρ 19 ∧ ρ 19 ≤ 2 := zRnA hr 19
  obtain ⟨w_0, w_1, w_2, w_3⟩ : (¬ (7 ≥ ρ 13)) ∧ (ρ 19 ≠ 1) ∧ (0 ≤ -ρ 19 + 3) ∧ (¬ (ρ 19 ≠ 2)) := ⟨by omega, by omega, by omega, by omega⟩
  have m4 : γ 0 6 0 7 = ρ 4 := zAllA hm 4
  have m13 : γ 0 9 (ρ 4) 2 = ρ 13 := zAllA hm 13
  have m19 : γ 0 10 (9 * ρ 4 + 8) 4 = ρ 19 := zAllA hm 19
  have l0 : sn132 [ρ 4, 7] (γ 0) 0 (9 * ρ 4 + 8) (γ 1) := hS132 _ _ _ _ _ (zAllA hl 0)
  have l1 : sn228 [9 * ρ 4 + 8, ρ 6, ρ 10, ρ 20, ρ 21, ρ 22] (γ 1) 0 0 (γ 2) := hS228 _ _ _ _ _ (zAllA hl 1)
  have l2 : sn245 [ρ 0, ρ 1, ρ 2, ρ 3, ρ 4, ρ 6, ρ 7, ρ 8, ρ 9, ρ 13, ρ 14, ρ 15, ρ 16, ρ 17, ρ 18] (γ 2) 0 0 (γ 3) := hS245 _ _ _ _ _ (zAllA hl 2)
  show sn247 [ρ 0, ρ 1, ρ 2, ρ 3, ρ 4, ρ 5, ρ 6, ρ 7, ρ 8, ρ 9, ρ 10, ρ 11, ρ 12, ρ 13, ρ 14, ρ 15, ρ 16, ρ 17, ρ 18, ρ 19, ρ 20, ρ 21, ρ 22, ρ 23, ρ 24] (γ 0) 0 0 (γ 3)
  refine Eq.symm ?_
  show fn247 [] (γ 0) = _
  unfold fn247
  refine zLE m4 (zLE m13 (zLE m19 (zIN w_0 (zLE (show fn132 [ρ 4, 7] (γ 0) = (0, 9 * ρ 4 + 8, γ 1) from l0.symm) (zLV (γ 1) rfl (zIP w_1 (zIP w_2 ?_)))))))
  refine zIN w_3 (zLE (show fn228 [9 * ρ 4 + 8] (γ 1) = (0, 0, γ 2) from l1.symm) (zLV (γ 2) rfl (zIN zQ0_ (zLE (show fn245 [] (γ 2) = (0, 0, γ 3) from l2.symm) (zLV (γ 3) rfl (zIP (show (0 : Nat) = 0 by decide) ?_))))))
  rfl
theorem vn247_6 {S : Nat → zSpc} (hS132 : zIm S 132 sn132) (hS228 : zIm S 228 sn228) (hS229 : zIm S 229 sn229) (hS230 : zIm S 230 sn230) (hS231 : zIm S 231 sn231) (hS244 : zIm S 244 sn244) (hS245 : zIm S 245 sn245) (hS246 : zIm S 246 sn246) {a : List Int} {g : rHp} : ∀ (ρ : Nat → Int) (γ : Nat → rHp), zO 25 S a g q247_6 ρ γ → zGl (fun _ _ _ => True) (sn247 a g) q247_6 ρ γ := by
  intro ρ γ h
  obtain ⟨ha, hg, hr, hf, hm, hc, hl⟩ := h
  have ha : a = [ρ 0, ρ 1, ρ 2, ρ 3, ρ 4, ρ 5, ρ 6, ρ 7, ρ 8, ρ 9, ρ 10, ρ 11, ρ 12, ρ 13, ρ 14, ρ 15, ρ 16, ρ 17, ρ 18, ρ 19, ρ 20, ρ 21, ρ 22, ρ 23, ρ 24] := ha
  subst ha
  subst hg
  have r13 : (8 : Int) ≤ ρ 13 ∧ ρ 13 ≤ 8 := zRnA hr 13
  have r19 : (2 : Int) ≤ ρ 19 ∧ ρ 19 ≤ 2 := zRnA hr 19
  obtain ⟨w_0, w_1, w_2, w_3⟩ : (¬ (7 ≥ ρ 13)) ∧ (ρ 19 ≠ 1) ∧ (0 ≤ -ρ 19 + 3) ∧ (¬ (ρ 19 ≠ 2)) := ⟨by omega, by omega, by omega, by omega⟩
  have m4 : γ 0 6 0 7 = ρ 4 := zAllA hm 4
  have m13 : γ 0 9 (ρ 4) 2 = ρ 13 := zAllA hm 13
  have m19 : γ 0 10 (9 * ρ 4 + 8) 4 = ρ 19 := zAllA hm 19
  have l0 : sn132 [ρ 4, 7] (γ 0) 0 (9 * ρ 4 + 8) (γ 1) := hS132 _ _ _ _ _ (zAllA hl 0)
  have l1 : sn228 [9 * ρ 4 + 8, ρ 6, ρ 10, ρ 20, ρ 21, ρ 22] (γ 1) 0 0 (γ 2) := hS228 _ _ _ _ _ (zAllA hl 1)
  have l2 : sn245 [ρ 0, ρ 1, ρ 2, ρ 3, ρ 4, ρ 6, ρ 7, ρ 8, ρ 9, ρ 13, ρ 14, ρ 15, ρ 16, ρ 17, ρ 18] (γ 2) 1 0 (γ 3) := hS245 _ _ _ _ _ (zAllA hl 2)
  show sn247 [ρ 0, ρ 1, ρ 2, ρ 3, ρ 4, ρ 5, ρ 6, ρ 7, ρ 8, ρ 9, ρ 10, ρ 11, ρ 12, ρ 13, ρ 14, ρ 15, ρ 16, ρ 17, ρ 18, ρ 19, ρ 20, ρ 21, ρ 22, ρ 23, ρ 24] (γ 0) 1 0 (γ 3)
  refine Eq.symm ?_
  show fn247 [] (γ 0) = _
  unfold fn247
  refine zLE m4 (zLE m13 (zLE m19 (zIN w_0 (zLE (show fn132 [ρ 4, 7] (γ 0) = (0, 9 * ρ 4 + 8, γ 1) from l0.symm) (zLV (γ 1) rfl (zIP w_1 (zIP w_2 ?_)))))))
  refine zIN w_3 (zLE (show fn228 [9 * ρ 4 + 8] (γ 1) = (0, 0, γ 2) from l1.symm) (zLV (γ 2) rfl (zIN zQ0_ (zLE (show fn245 [] (γ 2) = (1, 0, γ 3) from l2.symm) (zLV (γ 3) rfl (zIN (show ¬ (1 : Nat) = 0 by decide) ?_))))))
  rfl
theorem vn247_7 {S : Nat → zSpc} (hS132 : zIm S 132 sn132) (hS228 : zIm S 228 sn228) (hS229 : zIm S 229 sn229) (hS230 : zIm S 230 sn230) (hS231 : zIm S 231 sn231) (hS244 : zIm S 244 sn244) (hS245 : zIm S 245 sn245) (hS246 : zIm S 246 sn246) {a : List Int} {g : rHp} : ∀ (ρ : Nat → Int) (γ : Nat → rHp), zO 25 S a g q247_7 ρ γ → zGl (fun _ _ _ => True) (sn247 a g) q247_7 ρ γ := by
  intro ρ γ h
  obtain ⟨ha, hg, hr, hf, hm, hc, hl⟩ := h
  have ha : a = [ρ 0, ρ 1, ρ 2, ρ 3, ρ 4, ρ 5, ρ 6, ρ 7, ρ 8, ρ 9, ρ 10, ρ 11, ρ 12, ρ 13, ρ 14, ρ 15, ρ 16, ρ 17, ρ 18, ρ 19, ρ 20, ρ 21, ρ 22, ρ 23, ρ 24] := ha
  subst ha
  subst hg
  have r13 : (8 : Int) ≤ ρ 13 ∧ ρ 13 ≤ 8 := zRnA hr 13
  have r19 : (2 : Int) ≤ ρ 19 ∧ ρ 19 ≤ 2 := zRnA hr 19
  obtain ⟨w_0, w_1, w_2, w_3⟩ : (¬ (7 ≥ ρ 13)) ∧ (ρ 19 ≠ 1) ∧ (0 ≤ -ρ 19 + 3) ∧ (¬ (ρ 19 ≠ 2)) := ⟨by omega, by omega, by omega, by omega⟩
  have m4 : γ 0 6 0 7 = ρ 4 := zAllA hm 4
  have m13 : γ 0 9 (ρ 4) 2 = ρ 13 := zAllA hm 13
  have m19 : γ 0 10 (9 * ρ 4 + 8) 4 = ρ 19 := zAllA hm 19
  have l0 : sn132 [ρ 4, 7] (γ 0) 0 (9 * ρ 4 + 8) (γ 1) := hS132 _ _ _ _ _ (zAllA hl 0)
  have l1 : sn228 [9 * ρ 4 + 8, ρ 6, ρ 10, ρ 20, ρ 21, ρ 22] (γ 1) 0 1 (γ 2) := hS228 _ _ _ _ _ (zAllA hl 1)
  show sn247 [ρ 0, ρ 1, ρ 2, ρ 3, ρ 4, ρ 5, ρ 6, ρ 7, ρ 8, ρ 9, ρ 10, ρ 11, ρ 12, ρ 13, ρ 14, ρ 15, ρ 16, ρ 17, ρ 18, ρ 19, ρ 20, ρ 21, ρ 22, ρ 23, ρ 24] (γ 0) 0 0 (γ 2)
  refine Eq.symm ?_
  show fn247 [] (γ 0) = _
  unfold fn247
  refine zLE m4 (zLE m13 (zLE m19 (zIN w_0 (zLE (show fn132 [ρ 4, 7] (γ 0) = (0, 9 * ρ 4 + 8, γ 1) from l0.symm) (zLV (γ 1) rfl (zIP w_1 (zIP w_2 ?_)))))))
  refine zIN w_3 (zLE (show fn228 [9 * ρ 4 + 8] (γ 1) = (0, 1, γ 2) from l1.symm) (zLV (γ 2) rfl (zIP zQ1_ ?_)))
  rfl
theorem vn247_8 {S : Nat → zSpc} (hS132 : zIm S 132 sn132) (hS228 : zIm S 228 sn228) (hS229 : zIm S 229 sn229) (hS230 : zIm S 230 sn230) (hS231 : zIm S 231 sn231) (hS244 : zIm S 244 sn244) (hS245 : zIm S 245 sn245) (hS246 : zIm S 246 sn246) {a : List Int} {g : rHp} : ∀ (ρ : Nat → Int) (γ : Nat → rHp), zO 25 S a g q247_8 ρ γ → zGl (fun _ _ _ => True) (sn247 a g) q247_8 ρ γ := by
  intro ρ γ h
  obtain ⟨ha, hg, hr, hf, hm, hc, hl⟩ := h
  have ha : a = [ρ 0, ρ 1, ρ 2, ρ 3, ρ 4, ρ 5, ρ 6, ρ 7, ρ 8, ρ 9, ρ 10, ρ 11, ρ 12, ρ 13, ρ 14, ρ 15, ρ 16, ρ 17, ρ 18, ρ 19, ρ 20, ρ 21, ρ 22, ρ 23, ρ 24] := ha
  subst ha
  subst hg
  have r13 : (8 : Int) ≤ ρ 13 ∧ ρ 13 ≤ 8 := zRnA hr 13
  have r19 : (4 : Int) ≤ ρ 19 ∧ ρ 19 ≤ 5 := zRnA hr 19
  obtain ⟨w_0, w_1, w_2, w_3⟩ : (¬ (7 ≥ ρ 13)) ∧ (ρ 19 ≠ 1) ∧ (¬ (0 ≤ -ρ 19 + 3)) ∧ (0 ≤ -ρ 19 + 5) := ⟨by omega, by omega, by omega, by omega⟩
  have m4 : γ 0 6 0 7 = ρ 4 := zAllA hm 4
  have m13 : γ 0 9 (ρ 4) 2 = ρ 13 := zAllA hm 13
  have m19 : γ 0 10 (9 * ρ 4 + 8) 4 = ρ 19 := zAllA hm 19
  have l0 : sn132 [ρ 4, 7] (γ 0) 0 (9 * ρ 4 + 8) (γ 1) := hS132 _ _ _ _ _ (zAllA hl 0)
  have l1 : sn229 [9 * ρ 4 + 8, ρ 19] (γ 1) 0 0 (γ 2) := hS229 _ _ _ _ _ (zAllA hl 1)
  show sn247 [ρ 0, ρ 1, ρ 2, ρ 3, ρ 4, ρ 5, ρ 6, ρ 7, ρ 8, ρ 9, ρ 10, ρ 11, ρ 12, ρ 13, ρ 14, ρ 15, ρ 16, ρ 17, ρ 18, ρ 19, ρ 20, ρ 21, ρ 22, ρ 23, ρ 24] (γ 0) 0 0 (γ 2)
  refine Eq.symm ?_
  show fn247 [] (γ 0) = _
  unfold fn247
  refine zLE m4 (zLE m13 (zLE m19 (zIN w_0 (zLE (show fn132 [ρ 4, 7] (γ 0) = (0, 9 * ρ 4 + 8, γ 1) from l0.symm) (zLV (γ 1) rfl (zIP w_1 (zIN w_2 ?_)))))))
  refine zIP w_3 (zLE (show fn229 [9 * ρ 4 + 8] (γ 1) = (0, 0, γ 2) from l1.symm) (zLV (γ 2) rfl (zIN zQ0_ ?_)))
  rfl
theorem vn247_9 {S : Nat → zSpc} (hS132 : zIm S 132 sn132) (hS228 : zIm S 228 sn228) (hS229 : zIm S 229 sn229) (hS230 : zIm S 230 sn230) (hS231 : zIm S 231 sn231) (hS244 : zIm S 244 sn244) (hS245 : zIm S 245 sn245) (hS246 : zIm S 246 sn246) {a : List Int} {g : rHp} : ∀ (ρ : Nat → Int) (γ : Nat → rHp), zO 25 S a g q247_9 ρ γ → zGl (fun _ _ _ => True) (sn247 a g) q247_9 ρ γ := by
  intro ρ γ h
  obtain ⟨ha, hg, hr, hf, hm, hc, hl⟩ := h
  have ha : a = [ρ 0, ρ 1, ρ 2, ρ 3, ρ 4, ρ 5, ρ 6, ρ 7, ρ 8, ρ 9, ρ 10, ρ 11, ρ 12, ρ 13, ρ 14, ρ 15, ρ 16, ρ 17, ρ 18, ρ 19, ρ 20, ρ 21, ρ 22, ρ 23, ρ 24] := ha
  subst ha
  subst hg
  have r13 : (8 : Int) ≤ ρ 13 ∧ ρ 13 ≤ 8 := zRnA hr 13
  have r19 : (4 : Int) ≤ ρ 19 ∧ ρ 19 ≤ 5 := zRnA hr 19
  obtain ⟨w_0, w_1, w_2, w_3⟩ : (¬ (7 ≥ ρ 13)) ∧ (ρ 19 ≠ 1) ∧ (¬ (0 ≤ -ρ 19 + 3)) ∧ (0 ≤ -ρ 19 + 5) := ⟨by omega, by omega, by omega, by omega⟩
  have m4 : γ 0 6 0 7 = ρ 4 := zAllA hm 4
  have m13 : γ 0 9 (ρ 4) 2 = ρ 13 := zAllA hm 13
  have m19 : γ 0 10 (9 * ρ 4 + 8) 4 = ρ 19 := zAllA hm 19
  have l0 : sn132 [ρ 4, 7] (γ 0) 0 (9 * ρ 4 + 8) (γ 1) := hS132 _ _ _ _ _ (zAllA hl 0)
  have l1 : sn229 [9 * ρ 4 + 8, ρ 19] (γ 1) 0 1 (γ 2) := hS229 _ _ _ _ _ (zAllA hl 1)
  have l2 : sn245 [ρ 0, ρ 1, ρ 2, ρ 3, ρ 4, ρ 6, ρ 7, ρ 8, ρ 9, ρ 13, ρ 14, ρ 15, ρ 16, ρ 17, ρ 18] (γ 2) 0 0 (γ 3) := hS245 _ _ _ _ _ (zAllA hl 2)
  show sn247 [ρ 0, ρ 1, ρ 2, ρ 3, ρ 4, ρ 5, ρ 6, ρ 7, ρ 8, ρ 9, ρ 10, ρ 11, ρ 12, ρ 13, ρ 14, ρ 15, ρ 16, ρ 17, ρ 18, ρ 19, ρ 20, ρ 21, ρ 22, ρ 23, ρ 24] (γ 0) 0 0 (γ 3)
  refine Eq.symm ?_
  show fn247 [] (γ 0) = _
  unfold fn247
  refine zLE m4 (zLE m13 (zLE m19 (zIN w_0 (zLE (show fn132 [ρ 4, 7] (γ 0) = (0, 9 * ρ 4 + 8, γ 1) from l0.symm) (zLV (γ 1) rfl (zIP w_1 (zIN w_2 ?_)))))))
  refine zIP w_3 (zLE (show fn229 [9 * ρ 4 + 8] (γ 1) = (0, 1, γ 2) from l1.symm) (zLV (γ 2) rfl (zIP zQ1_ (zLE (show fn245 [] (γ 2) = (0, 0, γ 3) from l2.symm) (zLV (γ 3) rfl (zIP (show (0 : Nat) = 0 by decide) ?_))))))
  rfl
theorem vn247_10 {S : Nat → zSpc} (hS132 : zIm S 132 sn132) (hS228 : zIm S 228 sn228) (hS229 : zIm S 229 sn229) (hS230 : zIm S 230 sn230) (hS231 : zIm S 231 sn231) (hS244 : zIm S 244 sn244) (hS245 : zIm S 245 sn245) (hS246 : zIm S 246 sn246) {a : List Int} {g : rHp} : ∀ (ρ : Nat → Int) (γ : Nat → rHp), zO 25 S a g q247_10 ρ γ → zGl (fun _ _ _ => True) (sn247 a g) q247_10 ρ γ := by
  intro ρ γ h
  obtain ⟨ha, hg, hr, hf, hm, hc, hl⟩ := h
  have ha : a = [ρ 0, ρ 1, ρ 2, ρ 3, ρ 4, ρ 5, ρ 6, ρ 7, ρ 8, ρ 9, ρ 10, ρ 11, ρ 12, ρ 13, ρ 14, ρ 15, ρ 16, ρ 17, ρ 18, ρ 19, ρ 20, ρ 21, ρ 22, ρ 23, ρ 24] := ha
  subst ha
  subst hg
  have r13 : (8 : Int) ≤ ρ 13 ∧ ρ 13 ≤ 8 := zRnA hr 13
  have r19 : (4 : Int) ≤ ρ 19 ∧ ρ 19 ≤ 5 := zRnA hr 19
  obtain ⟨w_0, w_1, w_2, w_3⟩ : (¬ (7 ≥ ρ 13)) ∧ (ρ 19 ≠ 1) ∧ (¬ (0 ≤ -ρ 19 + 3)) ∧ (0 ≤ -ρ 19 + 5) := ⟨by omega, by omega, by omega, by omega⟩
  have m4 : γ 0 6 0 7 = ρ 4 := zAllA hm 4
  have m13 : γ 0 9 (ρ 4) 2 = ρ 13 := zAllA hm 13
  have m19 : γ 0 10 (9 * ρ 4 + 8) 4 = ρ 19 := zAllA hm 19
  have l0 : sn132 [ρ 4, 7] (γ 0) 0 (9 * ρ 4 + 8) (γ 1) := hS132 _ _ _ _ _ (zAllA hl 0)
  have l1 : sn229 [9 * ρ 4 + 8, ρ 19] (γ 1) 0 1 (γ 2) := hS229 _ _ _ _ _ (zAllA hl 1)
  have l2 : sn245 [ρ 0, ρ 1, ρ 2, ρ 3, ρ 4, ρ 6, ρ 7, ρ 8, ρ 9, ρ 13, ρ 14, ρ 15, ρ 16, ρ 17, ρ 18] (γ 2) 1 0 (γ 3) := hS245 _ _ _ _ _ (zAllA hl 2)
  show sn247 [ρ 0, ρ 1, ρ 2, ρ 3, ρ 4, ρ 5, ρ 6, ρ 7, ρ 8, ρ 9, ρ 10, ρ 11, ρ 12, ρ 13, ρ 14, ρ 15, ρ 16, ρ 17, ρ 18, ρ 19, ρ 20, ρ 21, ρ 22, ρ 23, ρ 24] (γ 0) 1 0 (γ 3)
  refine Eq.symm ?_
  show fn247 [] (γ 0) = _
  unfold fn247
  refine zLE m4 (zLE m13 (zLE m19 (zIN w_0 (zLE (show fn132 [ρ 4, 7] (γ 0) = (0, 9 * ρ 4 + 8, γ 1) from l0.symm) (zLV (γ 1) rfl (zIP w_1 (zIN w_2 ?_)))))))
  refine zIP w_3 (zLE (show fn229 [9 * ρ 4 + 8] (γ 1) = (0, 1, γ 2) from l1.symm) (zLV (γ 2) rfl (zIP zQ1_ (zLE (show fn245 [] (γ 2) = (1, 0, γ 3) from l2.symm) (zLV (γ 3) rfl (zIN (show ¬ (1 : Nat) = 0 by decide) ?_))))))
  rfl
theorem vn247_11 {S : Nat → zSpc} (hS132 : zIm S 132 sn132) (hS228 : zIm S 228 sn228) (hS229 : zIm S 229 sn229) (hS230 : zIm S 230 sn230) (hS231 : zIm S 231 sn231) (hS244 : zIm S 244 sn244) (hS245 : zIm S 245 sn245) (hS246 : zIm S 246 sn246) {a : List Int} {g : rHp} : ∀ (ρ : Nat → Int) (γ : Nat → rHp), zO 25 S a g q247_11 ρ γ → zGl (fun _ _ _ => True) (sn247 a g) q247_11 ρ γ := by
  intro ρ γ h
  obtain ⟨ha, hg, hr, hf, hm, hc, hl⟩ := h
  have ha : a = [ρ 0, ρ 1, ρ 2, ρ 3, ρ 4, ρ 5, ρ 6, ρ 7, ρ 8, ρ 9, ρ 10, ρ 11, ρ 12, ρ 13, ρ 14, ρ 15, ρ 16, ρ 17, ρ 18, ρ 19, ρ 20, ρ 21, ρ 22, ρ 23, ρ 24] := ha
  subst ha
  subst hg
  have r13 : (8 : Int) ≤ ρ 13 ∧ ρ 13 ≤ 8 := zRnA hr 13
  have r19 : (6 : Int) ≤ ρ 19 ∧ ρ 19 ≤ 8 := zRnA hr 19
  obtain ⟨w_0, w_1, w_2, w_3⟩ : (¬ (7 ≥ ρ 13)) ∧ (ρ 19 ≠ 1) ∧ (¬ (0 ≤ -ρ 19 + 3)) ∧ (¬ (0 ≤ -ρ 19 + 5)) := ⟨by omega, by omega, by omega, by omega⟩
  have m4 : γ 0 6 0 7 = ρ 4 := zAllA hm 4
  have m13 : γ 0 9 (ρ 4) 2 = ρ 13 := zAllA hm 13
  have m19 : γ 0 10 (9 * ρ 4 + 8) 4 = ρ 19 := zAllA hm 19
  have l0 : sn132 [ρ 4, 7] (γ 0) 0 (9 * ρ 4 + 8) (γ 1) := hS132 _ _ _ _ _ (zAllA hl 0)
  have l1 : sn231 [9 * ρ 4 + 8, ρ 19, ρ 24] (γ 1) 0 0 (γ 2) := hS231 _ _ _ _ _ (zAllA hl 1)
  show sn247 [ρ 0, ρ 1, ρ 2, ρ 3, ρ 4, ρ 5, ρ 6, ρ 7, ρ 8, ρ 9, ρ 10, ρ 11, ρ 12, ρ 13, ρ 14, ρ 15, ρ 16, ρ 17, ρ 18, ρ 19, ρ 20, ρ 21, ρ 22, ρ 23, ρ 24] (γ 0) 0 0 (γ 2)
  refine Eq.symm ?_
  show fn247 [] (γ 0) = _
  unfold fn247
  refine zLE m4 (zLE m13 (zLE m19 (zIN w_0 (zLE (show fn132 [ρ 4, 7] (γ 0) = (0, 9 * ρ 4 + 8, γ 1) from l0.symm) (zLV (γ 1) rfl (zIP w_1 (zIN w_2 ?_)))))))
  refine zIN w_3 (zLE (show fn231 [9 * ρ 4 + 8] (γ 1) = (0, 0, γ 2) from l1.symm) (zLV (γ 2) rfl (zIN zQ0_ ?_)))
  rfl
theorem vn247_12 {S : Nat → zSpc} (hS132 : zIm S 132 sn132) (hS228 : zIm S 228 sn228) (hS229 : zIm S 229 sn229) (hS230 : zIm S 230 sn230) (hS231 : zIm S 231 sn231) (hS244 : zIm S 244 sn244) (hS245 : zIm S 245 sn245) (hS246 : zIm S 246 sn246) {a : List Int} {g : rHp} : ∀ (ρ : Nat → Int) (γ : Nat → rHp), zO 25 S a g q247_12 ρ γ → zGl (fun _ _ _ => True) (sn247 a g) q247_12 ρ γ := by
  intro ρ γ h
  obtain ⟨ha, hg, hr, hf, hm, hc, hl⟩ := h
  have ha : a = [ρ 0, ρ 1, ρ 2, ρ 3, ρ 4, ρ 5, ρ 6, ρ 7, ρ 8, ρ 9, ρ 10, ρ 11, ρ 12, ρ 13, ρ 14, ρ 15, ρ 16, ρ 17, ρ 18, ρ 19, ρ 20, ρ 21, ρ 22, ρ 23, ρ 24] := ha
  subst ha
  subst hg
  have r13 : (8 : Int) ≤ ρ 13 ∧ ρ 13 ≤ 8 := zRnA hr 13
  have r19 : (6 : Int) ≤ ρ 19 ∧ ρ 19 ≤ 8 := zRnA hr 19
  obtain ⟨w_0, w_1, w_2, w_3⟩ : (¬ (7 ≥ ρ 13)) ∧ (ρ 19 ≠ 1) ∧ (¬ (0 ≤ -ρ 19 + 3)) ∧ (¬ (0 ≤ -ρ 19 + 5)) := ⟨by omega, by omega, by omega, by omega⟩
  have m4 : γ 0 6 0 7 = ρ 4 := zAllA hm 4
  have m13 : γ 0 9 (ρ 4) 2 = ρ 13 := zAllA hm 13
  have m19 : γ 0 10 (9 * ρ 4 + 8) 4 = ρ 19 := zAllA hm 19
  have l0 : sn132 [ρ 4, 7] (γ 0) 0 (9 * ρ 4 + 8) (γ 1) := hS132 _ _ _ _ _ (zAllA hl 0)
  have l1 : sn231 [9 * ρ 4 + 8, ρ 19, ρ 24] (γ 1) 0 1 (γ 2) := hS231 _ _ _ _ _ (zAllA hl 1)
  have l2 : sn245 [ρ 0, ρ 1, ρ 2, ρ 3, ρ 4, ρ 6, ρ 7, ρ 8, ρ 9, ρ 13, ρ 14, ρ 15, ρ 16, ρ 17, ρ 18] (γ 2) 0 0 (γ 3) := hS245 _ _ _ _ _ (zAllA hl 2)
  show sn247 [ρ 0, ρ 1, ρ 2, ρ 3, ρ 4, ρ 5, ρ 6, ρ 7, ρ 8, ρ 9, ρ 10, ρ 11, ρ 12, ρ 13, ρ 14, ρ 15, ρ 16, ρ 17, ρ 18, ρ 19, ρ 20, ρ 21, ρ 22, ρ 23, ρ 24] (γ 0) 0 0 (γ 3)
  refine Eq.symm ?_
  show fn247 [] (γ 0) = _
  unfold fn247
  refine zLE m4 (zLE m13 (zLE m19 (zIN w_0 (zLE (show fn132 [ρ 4, 7] (γ 0) = (0, 9 * ρ 4 + 8, γ 1) from l0.symm) (zLV (γ 1) rfl (zIP w_1 (zIN w_2 ?_)))))))
  refine zIN w_3 (zLE (show fn231 [9 * ρ 4 + 8] (γ 1) = (0, 1, γ 2) from l1.symm) (zLV (γ 2) rfl (zIP zQ1_ (zLE (show fn245 [] (γ 2) = (0, 0, γ 3) from l2.symm) (zLV (γ 3) rfl (zIP (show (0 : Nat) = 0 by decide) ?_))))))
  rfl
theorem vn247_13 {S : Nat → zSpc} (hS132 : zIm S 132 sn132) (hS228 : zIm S 228 sn228) (hS229 : zIm S 229 sn229) (hS230 : zIm S 230 sn230) (hS231 : zIm S 231 sn231) (hS244 : zIm S 244 sn244) (hS245 : zIm S 245 sn245) (hS246 : zIm S 246 sn246) {a : List Int} {g : rHp} : ∀ (ρ : Nat → Int) (γ : Nat → rHp), zO 25 S a g q247_13 ρ γ → zGl (fun _ _ _ => True) (sn247 a g) q247_13 ρ γ := by
  intro ρ γ h
  obtain ⟨ha, hg, hr, hf, hm, hc, hl⟩ := h
  have ha : a = [ρ 0, ρ 1, ρ 2, ρ 3, ρ 4, ρ 5, ρ 6, ρ 7, ρ 8, ρ 9, ρ 10, ρ 11, ρ 12, ρ 13, ρ 14, ρ 15, ρ 16, ρ 17, ρ 18, ρ 19, ρ 20, ρ 21, ρ 22, ρ 23, ρ 24] := ha
  subst ha
  subst hg
  have r13 : (8 : Int) ≤ ρ 13 ∧ ρ 13 ≤ 8 := zRnA hr 13
  have r19 : (6 : Int) ≤ ρ 19 ∧ ρ 19 ≤ 8 := zRnA hr 19
  obtain ⟨w_0, w_1, w_2, w_3⟩ : (¬ (7 ≥ ρ 13)) ∧ (ρ 19 ≠ 1) ∧ (¬ (0 ≤ -ρ 19 + 3)) ∧ (¬ (0 ≤ -ρ 19 + 5)) := ⟨by omega, by omega, by omega, by omega⟩
  have m4 : γ 0 6 0 7 = ρ 4 := zAllA hm 4
  have m13 : γ 0 9 (ρ 4) 2 = ρ 13 := zAllA hm 13
  have m19 : γ 0 10 (9 * ρ 4 + 8) 4 = ρ 19 := zAllA hm 19
  have l0 : sn132 [ρ 4, 7] (γ 0) 0 (9 * ρ 4 + 8) (γ 1) := hS132 _ _ _ _ _ (zAllA hl 0)
  have l1 : sn231 [9 * ρ 4 + 8, ρ 19, ρ 24] (γ 1) 0 1 (γ 2) := hS231 _ _ _ _ _ (zAllA hl 1)
  have l2 : sn245 [ρ 0, ρ 1, ρ 2, ρ 3, ρ 4, ρ 6, ρ 7, ρ 8, ρ 9, ρ 13, ρ 14, ρ 15, ρ 16, ρ 17, ρ 18] (γ 2) 1 0 (γ 3) := hS245 _ _ _ _ _ (zAllA hl 2)
  show sn247 [ρ 0, ρ 1, ρ 2, ρ 3, ρ 4, ρ 5, ρ 6, ρ 7, ρ 8, ρ 9, ρ 10, ρ 11, ρ 12, ρ 13, ρ 14, ρ 15, ρ 16, ρ 17, ρ 18, ρ 19, ρ 20, ρ 21, ρ 22, ρ 23, ρ 24] (γ 0) 1 0 (γ 3)
  refine Eq.symm ?_
  show fn247 [] (γ 0) = _
  unfold fn247
  refine zLE m4 (zLE m13 (zLE m19 (zIN w_0 (zLE (show fn132 [ρ 4, 7] (γ 0) = (0, 9 * ρ 4 + 8, γ 1) from l0.symm) (zLV (γ 1) rfl (zIP w_1 (zIN w_2 ?_)))))))
  refine zIN w_3 (zLE (show fn231 [9 * ρ 4 + 8] (γ 1) = (0, 1, γ 2) from l1.symm) (zLV (γ 2) rfl (zIP zQ1_ (zLE (show fn245 [] (γ 2) = (1, 0, γ 3) from l2.symm) (zLV (γ 3) rfl (zIN (show ¬ (1 : Nat) = 0 by decide) ?_))))))
  rfl
theorem vn247_14 {S : Nat → zSpc} (hS132 : zIm S 132 sn132) (hS228 : zIm S 228 sn228) (hS229 : zIm S 229 sn229) (hS230 : zIm S 230 sn230) (hS231 : zIm S 231 sn231) (hS244 : zIm S 244 sn244) (hS245 : zIm S 245 sn245) (hS246 : zIm S 246 sn246) {a : List Int} {g : rHp} : ∀ (ρ : Nat → Int) (γ : Nat → rHp), zO 25 S a g q247_14 ρ γ → zGl (fun _ _ _ => True) (sn247 a g) q247_14 ρ γ := by
  intro ρ γ h
  obtain ⟨ha, hg, hr, hf, hm, hc, hl⟩ := h
  have ha : a = [ρ 0, ρ 1, ρ 2, ρ 3, ρ 4, ρ 5, ρ 6, ρ 7, ρ 8, ρ 9, ρ 10, ρ 11, ρ 12, ρ 13, ρ 14, ρ 15, ρ 16, ρ 17, ρ 18, ρ 19, ρ 20, ρ 21, ρ 22, ρ 23, ρ 24] := ha
  subst ha
  subst hg
  have r13 : (8 : Int) ≤ ρ 13 ∧ ρ 13 ≤ 8 := zRnA hr 13
  have r19 : (1 : Int) ≤ ρ 19 ∧ ρ 19 ≤ 1 := zRnA hr 19
  obtain ⟨w_0, w_1⟩ : (¬ (7 ≥ ρ 13)) ∧ (¬ (ρ 19 ≠ 1)) := ⟨by omega, by omega⟩
  have m4 : γ 0 6 0 7 = ρ 4 := zAllA hm 4
  have m13 : γ 0 9 (ρ 4) 2 = ρ 13 := zAllA hm 13
  have m19 : γ 0 10 (9 * ρ 4 + 8) 4 = ρ 19 := zAllA hm 19
  have l0 : sn132 [ρ 4, 7] (γ 0) 0 (9 * ρ 4 + 8) (γ 1) := hS132 _ _ _ _ _ (zAllA hl 0)
  have l1 : sn246 [ρ 0, ρ 1, ρ 2, ρ 3, ρ 4, ρ 6, ρ 7, ρ 8, ρ 9, ρ 10, ρ 11, ρ 12, ρ 13, ρ 14, ρ 15, ρ 16, ρ 17, ρ 18, ρ 20, ρ 21, ρ 22, ρ 23] (γ 1) 0 0 (γ 2) := hS246 _ _ _ _ _ (zAllA hl 1)
  show sn247 [ρ 0, ρ 1, ρ 2, ρ 3, ρ 4, ρ 5, ρ 6, ρ 7, ρ 8, ρ 9, ρ 10, ρ 11, ρ 12, ρ 13, ρ 14, ρ 15, ρ 16, ρ 17, ρ 18, ρ 19, ρ 20, ρ 21, ρ 22, ρ 23, ρ 24] (γ 0) 0 0 (γ 2)
  refine Eq.symm ?_
  show fn247 [] (γ 0) = _
  unfold fn247
  refine zLE m4 (zLE m13 (zLE m19 (zIN w_0 (zLE (show fn132 [ρ 4, 7] (γ 0) = (0, 9 * ρ 4 + 8, γ 1) from l0.symm) (zLV (γ 1) rfl (zIN w_1 (zLE (show fn246 [] (γ 1) = (0, 0, γ 2) from l1.symm) ?_)))))))
  refine zLV (γ 2) rfl (zIP (show (0 : Nat) = 0 by decide) ?_)
  rfl
theorem vn247_15 {S : Nat → zSpc} (hS132 : zIm S 132 sn132) (hS228 : zIm S 228 sn228) (hS229 : zIm S 229 sn229) (hS230 : zIm S 230 sn230) (hS231 : zIm S 231 sn231) (hS244 : zIm S 244 sn244) (hS245 : zIm S 245 sn245) (hS246 : zIm S 246 sn246) {a : List Int} {g : rHp} : ∀ (ρ : Nat → Int) (γ : Nat → rHp), zO 25 S a g q247_15 ρ γ → zGl (fun _ _ _ => True) (sn247 a g) q247_15 ρ γ := by
  intro ρ γ h
  obtain ⟨ha, hg, hr, hf, hm, hc, hl⟩ := h
  have ha : a = [ρ 0, ρ 1, ρ 2, ρ 3, ρ 4, ρ 5, ρ 6, ρ 7, ρ 8, ρ 9, ρ 10, ρ 11, ρ 12, ρ 13, ρ 14, ρ 15, ρ 16, ρ 17, ρ 18, ρ 19, ρ 20, ρ 21, ρ 22, ρ 23, ρ 24] := ha
  subst ha
  subst hg
  have r13 : (8 : Int) ≤ ρ 13 ∧ ρ 13 ≤ 8 := zRnA hr 13
  have r19 : (1 : Int) ≤ ρ 19 ∧ ρ 19 ≤ 1 := zRnA hr 19
  obtain ⟨w_0, w_1⟩ : (¬ (7 ≥ ρ 13)) ∧ (¬ (ρ 19 ≠ 1)) := ⟨by omega, by omega⟩
  have m4 : γ 0 6 0 7 = ρ 4 := zAllA hm 4
  have m13 : γ 0 9 (ρ 4) 2 = ρ 13 := zAllA hm 13
  have m19 : γ 0 10 (9 * ρ 4 + 8) 4 = ρ 19 := zAllA hm 19
  have l0 : sn132 [ρ 4, 7] (γ 0) 0 (9 * ρ 4 + 8) (γ 1) := hS132 _ _ _ _ _ (zAllA hl 0)
  have l1 : sn246 [ρ 0, ρ 1, ρ 2, ρ 3, ρ 4, ρ 6, ρ 7, ρ 8, ρ 9, ρ 10, ρ 11, ρ 12, ρ 13, ρ 14, ρ 15, ρ 16, ρ 17, ρ 18, ρ 20, ρ 21, ρ 22, ρ 23] (γ 1) 1 0 (γ 2) := hS246 _ _ _ _ _ (zAllA hl 1)
  show sn247 [ρ 0, ρ 1, ρ 2, ρ 3, ρ 4, ρ 5, ρ 6, ρ 7, ρ 8, ρ 9, ρ 10, ρ 11, ρ 12, ρ 13, ρ 14, ρ 15, ρ 16, ρ 17, ρ 18, ρ 19, ρ 20, ρ 21, ρ 22, ρ 23, ρ 24] (γ 0) 1 0 (γ 2)
  refine Eq.symm ?_
  show fn247 [] (γ 0) = _
  unfold fn247
  refine zLE m4 (zLE m13 (zLE m19 (zIN w_0 (zLE (show fn132 [ρ 4, 7] (γ 0) = (0, 9 * ρ 4 + 8, γ 1) from l0.symm) (zLV (γ 1) rfl (zIN w_1 (zLE (show fn246 [] (γ 1) = (1, 0, γ 2) from l1.symm) ?_)))))))
  refine zLV (γ 2) rfl (zIN (show ¬ (1 : Nat) = 0 by decide) (zIP (show (1 : Nat) = 1 by decide) ?_))
  rfl
theorem vn247_16 {S : Nat → zSpc} (hS132 : zIm S 132 sn132) (hS228 : zIm S 228 sn228) (hS229 : zIm S 229 sn229) (hS230 : zIm S 230 sn230) (hS231 : zIm S 231 sn231) (hS244 : zIm S 244 sn244) (hS245 : zIm S 245 sn245) (hS246 : zIm S 246 sn246) {a : List Int} {g : rHp} : ∀ (ρ : Nat → Int) (γ : Nat → rHp), zO 25 S a g q247_16 ρ γ → zGl (fun _ _ _ => True) (sn247 a g) q247_16 ρ γ := by
  intro ρ γ h
  obtain ⟨ha, hg, hr, hf, hm, hc, hl⟩ := h
  have ha : a = [ρ 0, ρ 1, ρ 2, ρ 3, ρ 4, ρ 5, ρ 6, ρ 7, ρ 8, ρ 9, ρ 10, ρ 11, ρ 12, ρ 13, ρ 14, ρ 15, ρ 16, ρ 17, ρ 18, ρ 19, ρ 20, ρ 21, ρ 22, ρ 23, ρ 24] := ha
  subst ha
  subst hg
  have r13 : (8 : Int) ≤ ρ 13 ∧ ρ 13 ≤ 8 := zRnA hr 13
  have r19 : (1 : Int) ≤ ρ 19 ∧ ρ 19 ≤ 1 := zRnA hr 19
  obtain ⟨w_0, w_1⟩ : (¬ (7 ≥ ρ 13)) ∧ (¬ (ρ 19 ≠ 1)) := ⟨by omega, by omega⟩
  have m4 : γ 0 6 0 7 = ρ 4 := zAllA hm 4
  have m13 : γ 0 9 (ρ 4) 2 = ρ 13 := zAllA hm 13
  have m19 : γ 0 10 (9 * ρ 4 + 8) 4 = ρ 19 := zAllA hm 19
  have l0 : sn132 [ρ 4, 7] (γ 0) 0 (9 * ρ 4 + 8) (γ 1) := hS132 _ _ _ _ _ (zAllA hl 0)
  have l1 : sn246 [ρ 0, ρ 1, ρ 2, ρ 3, ρ 4, ρ 6, ρ 7, ρ 8, ρ 9, ρ 10, ρ 11, ρ 12, ρ 13, ρ 14, ρ 15, ρ 16, ρ 17, ρ 18, ρ 20, ρ 21, ρ 22, ρ 23] (γ 1) 4 0 (γ 2) := hS246 _ _ _ _ _ (zAllA hl 1)
  show sn247 [ρ 0, ρ 1, ρ 2, ρ 3, ρ 4, ρ 5, ρ 6, ρ 7, ρ 8, ρ 9, ρ 10, ρ 11, ρ 12, ρ 13, ρ 14, ρ 15, ρ 16, ρ 17, ρ 18, ρ 19, ρ 20, ρ 21, ρ 22, ρ 23, ρ 24] (γ 0) 4 0 (γ 2)
  refine Eq.symm ?_
  show fn247 [] (γ 0) = _
  unfold fn247
  refine zLE m4 (zLE m13 (zLE m19 (zIN w_0 (zLE (show fn132 [ρ 4, 7] (γ 0) = (0, 9 * ρ 4 + 8, γ 1) from l0.symm) (zLV (γ 1) rfl (zIN w_1 (zLE (show fn246 [] (γ 1) = (4, 0, γ 2) from l1.symm) ?_)))))))
  refine zLV (γ 2) rfl (zIN (show ¬ (4 : Nat) = 0 by decide) (zIN (show ¬ (4 : Nat) = 1 by decide) ?_))
  rfl
theorem yn247 {S : Nat → zSpc} (hS132 : zIm S 132 sn132) (hS228 : zIm S 228 sn228) (hS229 : zIm S 229 sn229) (hS230 : zIm S 230 sn230) (hS231 : zIm S 231 sn231) (hS244 : zIm S 244 sn244) (hS245 : zIm S 245 sn245) (hS246 : zIm S 246 sn246) : ∀ x g o v gz, zSem uW uT w247_.2.2.2.1 w247_.2.2.1.1.length S q247 (fun i => q247a.getD i []) (zNA a247_) x g o v gz → sn247 x g o v gz := by
  intro a g o v gz h
  exact zSem_all (l0 := q247) (las := q247a) (S := S) (J := (fun _ _ _ => True)) (P := sn247 a g) (fun _ => (show zAll _ [q247_0, q247_1, q247_2, q247_3, q247_4, q247_5, q247_6, q247_7, q247_8, q247_9, q247_10, q247_11, q247_12, q247_13, q247_14, q247_15, q247_16] from (zAll_c (vn247_0 hS132 hS228 hS229 hS230 hS231 hS244 hS245 hS246) (zAll_c (vn247_1 hS132 hS228 hS229 hS230 hS231 hS244 hS245 hS246) (zAll_c (vn247_2 hS132 hS228 hS229 hS230 hS231 hS244 hS245 hS246) (zAll_c (vn247_3 hS132 hS228 hS229 hS230 hS231 hS244 hS245 hS246) (zAll_c (vn247_4 hS132 hS228 hS229 hS230 hS231 hS244 hS245 hS246) (zAll_c (vn247_5 hS132 hS228 hS229 hS230 hS231 hS244 hS245 hS246) (zAll_c (vn247_6 hS132 hS228 hS229 hS230 hS231 hS244 hS245 hS246) (zAll_c (vn247_7 hS132 hS228 hS229 hS230 hS231 hS244 hS245 hS246) (zAll_c (vn247_8 hS132 hS228 hS229 hS230 hS231 hS244 hS245 hS246) (zAll_c (vn247_9 hS132 hS228 hS229 hS230 hS231 hS244 hS245 hS246) (zAll_c (vn247_10 hS132 hS228 hS229 hS230 hS231 hS244 hS245 hS246) (zAll_c (vn247_11 hS132 hS228 hS229 hS230 hS231 hS244 hS245 hS246) (zAll_c (vn247_12 hS132 hS228 hS229 hS230 hS231 hS244 hS245 hS246) (zAll_c (vn247_13 hS132 hS228 hS229 hS230 hS231 hS244 hS245 hS246) (zAll_c (vn247_14 hS132 hS228 hS229 hS230 hS231 hS244 hS245 hS246) (zAll_c (vn247_15 hS132 hS228 hS229 hS230 hS231 hS244 hS245 hS246) (zAll_c (vn247_16 hS132 hS228 hS229 hS230 hS231 hS244 hS245 hS246) zAll_n))))))))))))))))))) (fun _ => (show zAllI _ 0 [] from trivial)) h
theorem vn248_0 {S : Nat → zSpc} (hS225 : zIm S 225 sn225) (hS226 : zIm S 226 sn226) (hS227 : zIm S 227 sn227) (hS232 : zIm S 232 sn232) (hS247 : zIm S 247 sn247) {a : List Int} {g : rHp} : ∀ (ρ : Nat → Int) (γ : Nat → rHp), zO 29 S a g q248_0 ρ γ → zGl (fun i vs g1 => jn248 a g i vs g1) (sn248 a g) q248_0 ρ γ := by
  intro ρ γ h
  obtain ⟨ha, hg, hr, hf, hm, hc, hl⟩ := h
  have ha : a = [ρ 0, ρ 1, ρ 2, ρ 3, ρ 4, ρ 5, ρ 6, ρ 7, ρ 8, ρ 9, ρ 10, ρ 11, ρ 12, ρ 13, ρ 14, ρ 15, ρ 16, ρ 17, ρ 18, ρ 19, ρ 20, ρ 21, ρ 22, ρ 23, ρ 24, ρ 25, ρ 26, ρ 27, ρ 28] := ha
  subst ha
  subst hg
  have r9 : ((-2147483648) : Int) ≤ ρ 9 ∧ ρ 9 ≤ 1 := zRnA hr 9
  have w_0 : ρ 9 ≤ 1 := by omega
  have m4 : γ 0 6 0 7 = ρ 4 := zAllA hm 4
  have m9 : γ 0 6 0 10 = ρ 9 := zAllA hm 9
  have m11 : γ 0 6 0 12 = ρ 11 := zAllA hm 11
  have m12 : γ 0 6 0 13 = ρ 12 := zAllA hm 12
  have m14 : γ 0 9 (ρ 4) 3 = ρ 14 := zAllA hm 14
  have m22 : γ 0 10 (9 * ρ 4 + 7) 10 = ρ 22 := zAllA hm 22
  have l0 : sn226 [9 * ρ 4 + 7, 0, ρ 6, ρ 20, ρ 21] (γ 0) 0 (ρ 29) (γ 1) := hS226 _ _ _ _ _ (zAllA hl 0)
  show jn248 [ρ 0, ρ 1, ρ 2, ρ 3, ρ 4, ρ 5, ρ 6, ρ 7, ρ 8, ρ 9, ρ 10, ρ 11, ρ 12, ρ 13, ρ 14, ρ 15, ρ 16, ρ 17, ρ 18, ρ 19, ρ 20, ρ 21, ρ 22, ρ 23, ρ 24, ρ 25, ρ 26, ρ 27, ρ 28] (γ 0) 0 [ρ 0, ρ 1, ρ 2, ρ 3, ρ 4, ρ 5, ρ 6, ρ 7, ρ 8, ρ 9, ρ 10, ρ 11, ρ 12, ρ 13, ρ 14, ρ 15, ρ 16, ρ 17, ρ 18, ρ 19, ρ 20, ρ 21, ρ 22, ρ 23, ρ 24, ρ 25, ρ 26, ρ 27, ρ 28, 0, ρ 29, 0, 0, ρ 0, ρ 3, ρ 6, ρ 7, ρ 12] (γ 1)
  have hD : dn248 [] (γ 0) = .inl (0, [0, ρ 29, 0, 0], γ 1) := by
    unfold dn248
    refine zLE m4 (zLE m9 (zLE m11 (zLE m12 (zLE m14 (zLE m22 (zIP w_0 (zLE (show fn226 [9 * ρ 4 + 7, 0] (γ 0) = (0, ρ 29, γ 1) from l0.symm) ?_)))))))
    refine zLV (γ 1) rfl (zLV (ρ 29) rfl ?_)
    rfl
  exact zGoo_to hD
theorem vn248_1 {S : Nat → zSpc} (hS225 : zIm S 225 sn225) (hS226 : zIm S 226 sn226) (hS227 : zIm S 227 sn227) (hS232 : zIm S 232 sn232) (hS247 : zIm S 247 sn247) {a : List Int} {g : rHp} : ∀ (ρ : Nat → Int) (γ : Nat → rHp), zO 29 S a g q248_1 ρ γ → zGl (fun i vs g1 => jn248 a g i vs g1) (sn248 a g) q248_1 ρ γ := by
  intro ρ γ h
  obtain ⟨ha, hg, hr, hf, hm, hc, hl⟩ := h
  have ha : a = [ρ 0, ρ 1, ρ 2, ρ 3, ρ 4, ρ 5, ρ 6, ρ 7, ρ 8, ρ 9, ρ 10, ρ 11, ρ 12, ρ 13, ρ 14, ρ 15, ρ 16, ρ 17, ρ 18, ρ 19, ρ 20, ρ 21, ρ 22, ρ 23, ρ 24, ρ 25, ρ 26, ρ 27, ρ 28] := ha
  subst ha
  subst hg
  have r9 : (2 : Int) ≤ ρ 9 ∧ ρ 9 ≤ 2147483647 := zRnA hr 9
  have r12 : ((-2147483648) : Int) ≤ ρ 12 ∧ ρ 12 ≤ 2147483647 := zRnA hr 12
  have w_0 : ¬ (ρ 9 ≤ 1) := by omega
  have m4 : γ 0 6 0 7 = ρ 4 := zAllA hm 4
  have m9 : γ 0 6 0 10 = ρ 9 := zAllA hm 9
  have m11 : γ 0 6 0 12 = ρ 11 := zAllA hm 11
  have m12 : γ 0 6 0 13 = ρ 12 := zAllA hm 12
  have m14 : γ 0 9 (ρ 4) 3 = ρ 14 := zAllA hm 14
  have m22 : γ 0 10 (9 * ρ 4 + 7) 10 = ρ 22 := zAllA hm 22
  have l0 : ρ 12 ≠ 0 := zAllA hl 0
  have l1 : sn226 [9 * ρ 4 + 7, 0, ρ 6, ρ 20, ρ 21] (γ 0) 0 (ρ 29) (γ 1) := hS226 _ _ _ _ _ (zAllA hl 1)
  have wl_0 : ρ 12 ≠ 0 := by omega
  show jn248 [ρ 0, ρ 1, ρ 2, ρ 3, ρ 4, ρ 5, ρ 6, ρ 7, ρ 8, ρ 9, ρ 10, ρ 11, ρ 12, ρ 13, ρ 14, ρ 15, ρ 16, ρ 17, ρ 18, ρ 19, ρ 20, ρ 21, ρ 22, ρ 23, ρ 24, ρ 25, ρ 26, ρ 27, ρ 28] (γ 0) 0 [ρ 0, ρ 1, ρ 2, ρ 3, ρ 4, ρ 5, ρ 6, ρ 7, ρ 8, ρ 9, ρ 10, ρ 11, ρ 12, ρ 13, ρ 14, ρ 15, ρ 16, ρ 17, ρ 18, ρ 19, ρ 20, ρ 21, ρ 22, ρ 23, ρ 24, ρ 25, ρ 26, ρ 27, ρ 28, 0, ρ 29, 0, 0, ρ 0, ρ 3, ρ 6, ρ 7, ρ 12] (γ 1)
  have hD : dn248 [] (γ 0) = .inl (0, [0, ρ 29, 0, 0], γ 1) := by
    unfold dn248
    refine zLE m4 (zLE m9 (zLE m11 (zLE m12 (zLE m14 (zLE m22 (zIN w_0 (zIP wl_0 ?_)))))))
    refine zLE (show fn226 [9 * ρ 4 + 7, 0] (γ 0) = (0, ρ 29, γ 1) from l1.symm) (zLV (γ 1) rfl (zLV (ρ 29) rfl ?_))
    rfl
  exact zGoo_to hD
theorem vn248_2 {S : Nat → zSpc} (hS225 : zIm S 225 sn225) (hS226 : zIm S 226 sn226) (hS227 : zIm S 227 sn227) (hS232 : zIm S 232 sn232) (hS247 : zIm S 247 sn247) {a : List Int} {g : rHp} : ∀ (ρ : Nat → Int) (γ : Nat → rHp), zO 29 S a g q248_2 ρ γ → zGl (fun i vs g1 => jn248 a g i vs g1) (sn248 a g) q248_2 ρ γ := by
  intro ρ γ h
  obtain ⟨ha, hg, hr, hf, hm, hc, hl⟩ := h
  have ha : a = [ρ 0, ρ 1, ρ 2, ρ 3, ρ 4, ρ 5, ρ 6, ρ 7, ρ 8, ρ 9, ρ 10, ρ 11, ρ 12, ρ 13, ρ 14, ρ 15, ρ 16, ρ 17, ρ 18, ρ 19, ρ 20, ρ 21, ρ 22, ρ 23, ρ 24, ρ 25, ρ 26, ρ 27, ρ 28] := ha
  subst ha
  subst hg
  have r9 : (2 : Int) ≤ ρ 9 ∧ ρ 9 ≤ 2147483647 := zRnA hr 9
  have r12 : (0 : Int) ≤ ρ 12 ∧ ρ 12 ≤ 0 := zRnA hr 12
  have r14 : (0 : Int) ≤ ρ 14 ∧ ρ 14 ≤ 8 := zRnA hr 14
  have r22 : (0 : Int) ≤ ρ 22 ∧ ρ 22 ≤ 7 := zRnA hr 22
  obtain ⟨w_0, w_1⟩ : (¬ (ρ 9 ≤ 1)) ∧ (¬ (ρ 12 ≠ 0)) := ⟨by omega, by omega⟩
  have m4 : γ 0 6 0 7 = ρ 4 := zAllA hm 4
  have m9 : γ 0 6 0 10 = ρ 9 := zAllA hm 9
  have m11 : γ 0 6 0 12 = ρ 11 := zAllA hm 11
  have m12 : γ 0 6 0 13 = ρ 12 := zAllA hm 12
  have m14 : γ 0 9 (ρ 4) 3 = ρ 14 := zAllA hm 14
  have m22 : γ 0 10 (9 * ρ 4 + 7) 10 = ρ 22 := zAllA hm 22
  have l0 : ρ 22 ≠ ρ 14 + (-1) := zAllA hl 0
  have l1 : sn226 [9 * ρ 4 + 7, 0, ρ 6, ρ 20, ρ 21] (γ 0) 0 (ρ 29) (γ 1) := hS226 _ _ _ _ _ (zAllA hl 1)
  have wl_0 : ρ 22 ≠ ρ 14 + (-1) := by omega
  show jn248 [ρ 0, ρ 1, ρ 2, ρ 3, ρ 4, ρ 5, ρ 6, ρ 7, ρ 8, ρ 9, ρ 10, ρ 11, ρ 12, ρ 13, ρ 14, ρ 15, ρ 16, ρ 17, ρ 18, ρ 19, ρ 20, ρ 21, ρ 22, ρ 23, ρ 24, ρ 25, ρ 26, ρ 27, ρ 28] (γ 0) 0 [ρ 0, ρ 1, ρ 2, ρ 3, ρ 4, ρ 5, ρ 6, ρ 7, ρ 8, ρ 9, ρ 10, ρ 11, ρ 12, ρ 13, ρ 14, ρ 15, ρ 16, ρ 17, ρ 18, ρ 19, ρ 20, ρ 21, ρ 22, ρ 23, ρ 24, ρ 25, ρ 26, ρ 27, ρ 28, 0, ρ 29, 0, 0, ρ 0, ρ 3, ρ 6, ρ 7, ρ 12] (γ 1)
  have hD : dn248 [] (γ 0) = .inl (0, [0, ρ 29, 0, 0], γ 1) := by
    unfold dn248
    refine zLE m4 (zLE m9 (zLE m11 (zLE m12 (zLE m14 (zLE m22 (zIN w_0 (zIN w_1 ?_)))))))
    refine zIP wl_0 (zLE (show fn226 [9 * ρ 4 + 7, 0] (γ 0) = (0, ρ 29, γ 1) from l1.symm) (zLV (γ 1) rfl (zLV (ρ 29) rfl ?_)))
    rfl
  exact zGoo_to hD
theorem vn248_3 {S : Nat → zSpc} (hS225 : zIm S 225 sn225) (hS226 : zIm S 226 sn226) (hS227 : zIm S 227 sn227) (hS232 : zIm S 232 sn232) (hS247 : zIm S 247 sn247) {a : List Int} {g : rHp} : ∀ (ρ : Nat → Int) (γ : Nat → rHp), zO 29 S a g q248_3 ρ γ → zGl (fun i vs g1 => jn248 a g i vs g1) (sn248 a g) q248_3 ρ γ := by
  intro ρ γ h
  obtain ⟨ha, hg, hr, hf, hm, hc, hl⟩ := h
  have ha : a = [ρ 0, ρ 1, ρ 2, ρ 3, ρ 4, ρ 5, ρ 6, ρ 7, ρ 8, ρ 9, ρ 10, ρ 11, ρ 12, ρ 13, ρ 14, ρ 15, ρ 16, ρ 17, ρ 18, ρ 19, ρ 20, ρ 21, ρ 22, ρ 23, ρ 24, ρ 25, ρ 26, ρ 27, ρ 28] := ha
  subst ha
  subst hg
  have r9 : (2 : Int) ≤ ρ 9 ∧ ρ 9 ≤ 2147483647 := zRnA hr 9
  have r12 : (0 : Int) ≤ ρ 12 ∧ ρ 12 ≤ 0 := zRnA hr 12
  have f0 : (0 : Int) ≤ -ρ 22 + ρ 14 + (-1) := zAllA hf 0
  have f1 : (0 : Int) ≤ ρ 22 + -ρ 14 + 1 := zAllA hf 1
  obtain ⟨w_0, w_1, w_2⟩ : (¬ (ρ 9 ≤ 1)) ∧ (¬ (ρ 12 ≠ 0)) ∧ (¬ (ρ 22 ≠ ρ 14 + (-1))) := ⟨by omega, by omega, by omega⟩
  have m4 : γ 0 6 0 7 = ρ 4 := zAllA hm 4
  have m9 : γ 0 6 0 10 = ρ 9 := zAllA hm 9
  have m11 : γ 0 6 0 12 = ρ 11 := zAllA hm 11
  have m12 : γ 0 6 0 13 = ρ 12 := zAllA hm 12
  have m14 : γ 0 9 (ρ 4) 3 = ρ 14 := zAllA hm 14
  have m22 : γ 0 10 (9 * ρ 4 + 7) 10 = ρ 22 := zAllA hm 22
  have l0 : sn226 [9 * ρ 4 + 7, ρ 11, ρ 6, ρ 20, ρ 21] (γ 0) 0 (ρ 29) (γ 1) := hS226 _ _ _ _ _ (zAllA hl 0)
  show jn248 [ρ 0, ρ 1, ρ 2, ρ 3, ρ 4, ρ 5, ρ 6, ρ 7, ρ 8, ρ 9, ρ 10, ρ 11, ρ 12, ρ 13, ρ 14, ρ 15, ρ 16, ρ 17, ρ 18, ρ 19, ρ 20, ρ 21, ρ 22, ρ 23, ρ 24, ρ 25, ρ 26, ρ 27, ρ 28] (γ 0) 0 [ρ 0, ρ 1, ρ 2, ρ 3, ρ 4, ρ 5, ρ 6, ρ 7, ρ 8, ρ 9, ρ 10, ρ 11, ρ 12, ρ 13, ρ 14, ρ 15, ρ 16, ρ 17, ρ 18, ρ 19, ρ 20, ρ 21, ρ 22, ρ 23, ρ 24, ρ 25, ρ 26, ρ 27, ρ 28, 0, ρ 29, ρ 11, 1, ρ 0, ρ 3, ρ 6, ρ 7, ρ 12] (γ 1)
  have hD : dn248 [] (γ 0) = .inl (0, [0, ρ 29, ρ 11, 1], γ 1) := by
    unfold dn248
    refine zLE m4 (zLE m9 (zLE m11 (zLE m12 (zLE m14 (zLE m22 (zIN w_0 (zIN w_1 ?_)))))))
    refine zIN w_2 (zLE (show fn226 [9 * ρ 4 + 7, ρ 11] (γ 0) = (0, ρ 29, γ 1) from l0.symm) (zLV (γ 1) rfl (zLV (ρ 29) rfl ?_)))
    rfl
  exact zGoo_to hD
theorem vn248a0_0 {S : Nat → zSpc} (hS225 : zIm S 225 sn225) (hS226 : zIm S 226 sn226) (hS227 : zIm S 227 sn227) (hS232 : zIm S 232 sn232) (hS247 : zIm S 247 sn247) {a : List Int} {g : rHp} : ∀ (ρ : Nat → Int) (γ : Nat → rHp), jn248 a g 0 (zAg (zNA a248_ 0) ρ) (γ 1) → zO 29 S a g q248a0_0 ρ γ → zGl (fun i vs g1 => jn248 a g i vs g1) (sn248 a g) q248a0_0 ρ γ := by
  intro ρ γ hJ h
  obtain ⟨ha, hg, hr, hf, hm, hc, hl⟩ := h
  have ha : a = [ρ 0, ρ 1, ρ 2, ρ 3, ρ 4, ρ 5, ρ 6, ρ 7, ρ 8, ρ 9, ρ 10, ρ 11, ρ 12, ρ 13, ρ 14, ρ 15, ρ 16, ρ 17, ρ 18, ρ 19, ρ 20, ρ 21, ρ 22, ρ 23, ρ 24, ρ 25, ρ 26, ρ 27, ρ 28] := ha
  subst ha
  subst hg
  have hJ : jn248 [ρ 0, ρ 1, ρ 2, ρ 3, ρ 4, ρ 5, ρ 6, ρ 7, ρ 8, ρ 9, ρ 10, ρ 11, ρ 12, ρ 13, ρ 14, ρ 15, ρ 16, ρ 17, ρ 18, ρ 19, ρ 20, ρ 21, ρ 22, ρ 23, ρ 24, ρ 25, ρ 26, ρ 27, ρ 28] (γ 0) 0 [ρ 0, ρ 1, ρ 2, ρ 3, ρ 4, ρ 5, ρ 6, ρ 7, ρ 8, ρ 9, ρ 10, ρ 11, ρ 12, ρ 13, ρ 14, ρ 15, ρ 16, ρ 17, ρ 18, ρ 19, ρ 20, ρ 21, ρ 22, ρ 23, ρ 24, ρ 25, ρ 26, ρ 27, ρ 28, ρ 29, ρ 30, ρ 31, ρ 32, ρ 33, ρ 34, ρ 35, ρ 36, ρ 37] (γ 1) := hJ
  have r30 : ((-1) : Int) ≤ ρ 30 ∧ ρ 30 ≤ (-1) := zRnA hr 30
  have w_0 : ρ 30 < 0 := by omega
  have m4 : γ 0 6 0 7 = ρ 4 := zAllA hm 4
  have m10 : γ 0 6 0 11 = ρ 10 := zAllA hm 10
  have m11 : γ 0 6 0 12 = ρ 11 := zAllA hm 11
  have m33 : γ 1 6 0 13 = ρ 37 := zAllA hm 33
  show sn248 [ρ 0, ρ 1, ρ 2, ρ 3, ρ 4, ρ 5, ρ 6, ρ 7, ρ 8, ρ 9, ρ 10, ρ 11, ρ 12, ρ 13, ρ 14, ρ 15, ρ 16, ρ 17, ρ 18, ρ 19, ρ 20, ρ 21, ρ 22, ρ 23, ρ 24, ρ 25, ρ 26, ρ 27, ρ 28] (γ 0) 0 0 (γ 1)
  have hD : en248 (γ 0) (0, [ρ 29, ρ 30, ρ 31, ρ 32], γ 1) = .inr (0, 0, γ 1) := by
    unfold en248
    refine zIP (show (0 : Nat) = 0 by decide) (zLV (γ 1) rfl (zLV (ρ 29) rfl (zLV (ρ 30) rfl (zLV (ρ 31) rfl (zLV (ρ 32) rfl (zLE m4 (zLE m10 ?_)))))))
    refine zLE m11 (zLE m33 (zIP w_0 ?_))
    rfl
  exact zGoo_aend hJ hD
theorem vn248a0_1 {S : Nat → zSpc} (hS225 : zIm S 225 sn225) (hS226 : zIm S 226 sn226) (hS227 : zIm S 227 sn227) (hS232 : zIm S 232 sn232) (hS247 : zIm S 247 sn247) {a : List Int} {g : rHp} : ∀ (ρ : Nat → Int) (γ : Nat → rHp), jn248 a g 0 (zAg (zNA a248_ 0) ρ) (γ 1) → zO 29 S a g q248a0_1 ρ γ → zGl (fun i vs g1 => jn248 a g i vs g1) (sn248 a g) q248a0_1 ρ γ := by
  intro ρ γ hJ h
  obtain ⟨ha, hg, hr, hf, hm, hc, hl⟩ := h
  have ha : a = [ρ 0, ρ 1, ρ 2, ρ 3, ρ 4, ρ 5, ρ 6, ρ 7, ρ 8, ρ 9, ρ 10, ρ 11, ρ 12, ρ 13, ρ 14, ρ 15, ρ 16, ρ 17, ρ 18, ρ 19, ρ 20, ρ 21, ρ 22, ρ 23, ρ 24, ρ 25, ρ 26, ρ 27, ρ 28] := ha
  subst ha
  subst hg
  have hJ : jn248 [ρ 0, ρ 1, ρ 2, ρ 3, ρ 4, ρ 5, ρ 6, ρ 7, ρ 8, ρ 9, ρ 10, ρ 11, ρ 12, ρ 13, ρ 14, ρ 15, ρ 16, ρ 17, ρ 18, ρ 19, ρ 20, ρ 21, ρ 22, ρ 23, ρ 24, ρ 25, ρ 26, ρ 27, ρ 28] (γ 0) 0 [ρ 0, ρ 1, ρ 2, ρ 3, ρ 4, ρ 5, ρ 6, ρ 7, ρ 8, ρ 9, ρ 10, ρ 11, ρ 12, ρ 13, ρ 14, ρ 15, ρ 16, ρ 17, ρ 18, ρ 19, ρ 20, ρ 21, ρ 22, ρ 23, ρ 24, ρ 25, ρ 26, ρ 27, ρ 28, ρ 29, ρ 30, ρ 31, ρ 32, ρ 33, ρ 34, ρ 35, ρ 36, ρ 37] (γ 1) := hJ
  have r30 : (0 : Int) ≤ ρ 30 ∧ ρ 30 ≤ 2000 := zRnA hr 30
  have f0 : (0 : Int) ≤ ρ 30 + -ρ 10 := zAllA hf 0
  obtain ⟨w_0, w_1⟩ : (¬ (ρ 30 < 0)) ∧ (ρ 30 ≥ ρ 10) := ⟨by omega, by omega⟩
  have m4 : γ 0 6 0 7 = ρ 4 := zAllA hm 4
  have m10 : γ 0 6 0 11 = ρ 10 := zAllA hm 10
  have m11 : γ 0 6 0 12 = ρ 11 := zAllA hm 11
  have m33 : γ 1 6 0 13 = ρ 37 := zAllA hm 33
  show sn248 [ρ 0, ρ 1, ρ 2, ρ 3, ρ 4, ρ 5, ρ 6, ρ 7, ρ 8, ρ 9, ρ 10, ρ 11, ρ 12, ρ 13, ρ 14, ρ 15, ρ 16, ρ 17, ρ 18, ρ 19, ρ 20, ρ 21, ρ 22, ρ 23, ρ 24, ρ 25, ρ 26, ρ 27, ρ 28] (γ 0) 0 0 (γ 1)
  have hD : en248 (γ 0) (0, [ρ 29, ρ 30, ρ 31, ρ 32], γ 1) = .inr (0, 0, γ 1) := by
    unfold en248
    refine zIP (show (0 : Nat) = 0 by decide) (zLV (γ 1) rfl (zLV (ρ 29) rfl (zLV (ρ 30) rfl (zLV (ρ 31) rfl (zLV (ρ 32) rfl (zLE m4 (zLE m10 ?_)))))))
    refine zLE m11 (zLE m33 (zIN w_0 (zIP w_1 ?_)))
    rfl
  exact zGoo_aend hJ hD
theorem vn248a0_2 {S : Nat → zSpc} (hS225 : zIm S 225 sn225) (hS226 : zIm S 226 sn226) (hS227 : zIm S 227 sn227) (hS232 : zIm S 232 sn232) (hS247 : zIm S 247 sn247) {a : List Int} {g : rHp} : ∀ (ρ : Nat → Int) (γ : Nat → rHp), jn248 a g 0 (zAg (zNA a248_ 0) ρ) (γ 1) → zO 29 S a g q248a0_2 ρ γ → zGl (fun i vs g1 => jn248 a g i vs g1) (sn248 a g) q248a0_2 ρ γ := by
  intro ρ γ hJ h
  obtain ⟨ha, hg, hr, hf, hm, hc, hl⟩ := h
  have ha : a = [ρ 0, ρ 1, ρ 2, ρ 3, ρ 4, ρ 5, ρ 6, ρ 7, ρ 8, ρ 9, ρ 10, ρ 11, ρ 12, ρ 13, ρ 14, ρ 15, ρ 16, ρ 17, ρ 18, ρ 19, ρ 20, ρ 21, ρ 22, ρ 23, ρ 24, ρ 25, ρ 26, ρ 27, ρ 28] := ha
  subst ha
  subst hg
  have hJ : jn248 [ρ 0, ρ 1, ρ 2, ρ 3, ρ 4, ρ 5, ρ 6, ρ 7, ρ 8, ρ 9, ρ 10, ρ 11, ρ 12, ρ 13, ρ 14, ρ 15, ρ 16, ρ 17, ρ 18, ρ 19, ρ 20, ρ 21, ρ 22, ρ 23, ρ 24, ρ 25, ρ 26, ρ 27, ρ 28] (γ 0) 0 [ρ 0, ρ 1, ρ 2, ρ 3, ρ 4, ρ 5, ρ 6, ρ 7, ρ 8, ρ 9, ρ 10, ρ 11, ρ 12, ρ 13, ρ 14, ρ 15, ρ 16, ρ 17, ρ 18, ρ 19, ρ 20, ρ 21, ρ 22, ρ 23, ρ 24, ρ 25, ρ 26, ρ 27, ρ 28, ρ 29, ρ 30, ρ 31, ρ 32, ρ 33, ρ 34, ρ 35, ρ 36, ρ 37] (γ 1) := hJ
  have r29 : (2000 : Int) ≤ ρ 29 ∧ ρ 29 ≤ 2000 := zRnA hr 29
  have r30 : (0 : Int) ≤ ρ 30 ∧ ρ 30 ≤ 2000 := zRnA hr 30
  have f0 : (0 : Int) ≤ -ρ 30 + ρ 10 + (-1) := zAllA hf 0
  obtain ⟨w_0, w_1, w_2⟩ : (¬ (ρ 30 < 0)) ∧ (¬ (ρ 30 ≥ ρ 10)) ∧ (ρ 29 ≥ 2000) := ⟨by omega, by omega, by omega⟩
  have m4 : γ 0 6 0 7 = ρ 4 := zAllA hm 4
  have m10 : γ 0 6 0 11 = ρ 10 := zAllA hm 10
  have m11 : γ 0 6 0 12 = ρ 11 := zAllA hm 11
  have m33 : γ 1 6 0 13 = ρ 37 := zAllA hm 33
  show sn248 [ρ 0, ρ 1, ρ 2, ρ 3, ρ 4, ρ 5, ρ 6, ρ 7, ρ 8, ρ 9, ρ 10, ρ 11, ρ 12, ρ 13, ρ 14, ρ 15, ρ 16, ρ 17, ρ 18, ρ 19, ρ 20, ρ 21, ρ 22, ρ 23, ρ 24, ρ 25, ρ 26, ρ 27, ρ 28] (γ 0) 0 0 (γ 1)
  have hD : en248 (γ 0) (0, [ρ 29, ρ 30, ρ 31, ρ 32], γ 1) = .inr (0, 0, γ 1) := by
    unfold en248
    refine zIP (show (0 : Nat) = 0 by decide) (zLV (γ 1) rfl (zLV (ρ 29) rfl (zLV (ρ 30) rfl (zLV (ρ 31) rfl (zLV (ρ 32) rfl (zLE m4 (zLE m10 ?_)))))))
    refine zLE m11 (zLE m33 (zIN w_0 (zIN w_1 (zIP w_2 ?_))))
    rfl
  exact zGoo_aend hJ hD
theorem vn248a0_3 {S : Nat → zSpc} (hS225 : zIm S 225 sn225) (hS226 : zIm S 226 sn226) (hS227 : zIm S 227 sn227) (hS232 : zIm S 232 sn232) (hS247 : zIm S 247 sn247) {a : List Int} {g : rHp} : ∀ (ρ : Nat → Int) (γ : Nat → rHp), jn248 a g 0 (zAg (zNA a248_ 0) ρ) (γ 1) → zO 29 S a g q248a0_3 ρ γ → zGl (fun i vs g1 => jn248 a g i vs g1) (sn248 a g) q248a0_3 ρ γ := by
  intro ρ γ hJ h
  obtain ⟨ha, hg, hr, hf, hm, hc, hl⟩ := h
  have ha : a = [ρ 0, ρ 1, ρ 2, ρ 3, ρ 4, ρ 5, ρ 6, ρ 7, ρ 8, ρ 9, ρ 10, ρ 11, ρ 12, ρ 13, ρ 14, ρ 15, ρ 16, ρ 17, ρ 18, ρ 19, ρ 20, ρ 21, ρ 22, ρ 23, ρ 24, ρ 25, ρ 26, ρ 27, ρ 28] := ha
  subst ha
  subst hg
  have hJ : jn248 [ρ 0, ρ 1, ρ 2, ρ 3, ρ 4, ρ 5, ρ 6, ρ 7, ρ 8, ρ 9, ρ 10, ρ 11, ρ 12, ρ 13, ρ 14, ρ 15, ρ 16, ρ 17, ρ 18, ρ 19, ρ 20, ρ 21, ρ 22, ρ 23, ρ 24, ρ 25, ρ 26, ρ 27, ρ 28] (γ 0) 0 [ρ 0, ρ 1, ρ 2, ρ 3, ρ 4, ρ 5, ρ 6, ρ 7, ρ 8, ρ 9, ρ 10, ρ 11, ρ 12, ρ 13, ρ 14, ρ 15, ρ 16, ρ 17, ρ 18, ρ 19, ρ 20, ρ 21, ρ 22, ρ 23, ρ 24, ρ 25, ρ 26, ρ 27, ρ 28, ρ 29, ρ 30, ρ 31, ρ 32, ρ 33, ρ 34, ρ 35, ρ 36, ρ 37] (γ 1) := hJ
  have r29 : (0 : Int) ≤ ρ 29 ∧ ρ 29 ≤ 1999 := zRnA hr 29
  have r30 : (0 : Int) ≤ ρ 30 ∧ ρ 30 ≤ 2000 := zRnA hr 30
  have f0 : (0 : Int) ≤ ρ 31 + -ρ 30 + (-1) := zAllA hf 0
  have f1 : (0 : Int) ≤ -ρ 30 + ρ 10 + (-1) := zAllA hf 1
  obtain ⟨w_0, w_1, w_2, w_3⟩ : (¬ (ρ 30 < 0)) ∧ (¬ (ρ 30 ≥ ρ 10)) ∧ (¬ (ρ 29 ≥ 2000)) ∧ (ρ 30 < ρ 31) := ⟨by omega, by omega, by omega, by omega⟩
  have m4 : γ 0 6 0 7 = ρ 4 := zAllA hm 4
  have m10 : γ 0 6 0 11 = ρ 10 := zAllA hm 10
  have m11 : γ 0 6 0 12 = ρ 11 := zAllA hm 11
  have m33 : γ 1 6 0 13 = ρ 37 := zAllA hm 33
  have l0 : sn227 [9 * ρ 4 + 7, ρ 30, ρ 21] (γ 1) 0 (ρ 38) (γ 2) := hS227 _ _ _ _ _ (zAllA hl 0)
  show jn248 [ρ 0, ρ 1, ρ 2, ρ 3, ρ 4, ρ 5, ρ 6, ρ 7, ρ 8, ρ 9, ρ 10, ρ 11, ρ 12, ρ 13, ρ 14, ρ 15, ρ 16, ρ 17, ρ 18, ρ 19, ρ 20, ρ 21, ρ 22, ρ 23, ρ 24, ρ 25, ρ 26, ρ 27, ρ 28] (γ 0) 0 [ρ 0, ρ 1, ρ 2, ρ 3, ρ 4, ρ 5, ρ 6, ρ 7, ρ 8, ρ 9, ρ 10, ρ 11, ρ 12, ρ 13, ρ 14, ρ 15, ρ 16, ρ 17, ρ 18, ρ 19, ρ 20, ρ 21, ρ 22, ρ 23, ρ 24, ρ 25, ρ 26, ρ 27, ρ 28, ρ 29 + 1, ρ 38, ρ 31, ρ 32, ρ 33, ρ 34, ρ 35, ρ 36, ρ 37] (γ 2)
  have hD : en248 (γ 0) (0, [ρ 29, ρ 30, ρ 31, ρ 32], γ 1) = .inl (0, [ρ 29 + 1, ρ 38, ρ 31, ρ 32], γ 2) := by
    unfold en248
    refine zIP (show (0 : Nat) = 0 by decide) (zLV (γ 1) rfl (zLV (ρ 29) rfl (zLV (ρ 30) rfl (zLV (ρ 31) rfl (zLV (ρ 32) rfl (zLE m4 (zLE m10 ?_)))))))
    refine zLE m11 (zLE m33 (zIN w_0 (zIN w_1 (zIN w_2 (zIP w_3 (zLE (show fn227 [9 * ρ 4 + 7, ρ 30] (γ 1) = (0, ρ 38, γ 2) from l0.symm) (zLV (γ 2) rfl ?_)))))))
    refine zLV (ρ 38) rfl ?_
    rfl
  exact zGoo_ato hJ hD
theorem vn248a0_4 {S : Nat → zSpc} (hS225 : zIm S 225 sn225) (hS226 : zIm S 226 sn226) (hS227 : zIm S 227 sn227) (hS232 : zIm S 232 sn232) (hS247 : zIm S 247 sn247) {a : List Int} {g : rHp} : ∀ (ρ : Nat → Int) (γ : Nat → rHp), jn248 a g 0 (zAg (zNA a248_ 0) ρ) (γ 1) → zO 29 S a g q248a0_4 ρ γ → zGl (fun i vs g1 => jn248 a g i vs g1) (sn248 a g) q248a0_4 ρ γ := by
  intro ρ γ hJ h
  obtain ⟨ha, hg, hr, hf, hm, hc, hl⟩ := h
  have ha : a = [ρ 0, ρ 1, ρ 2, ρ 3, ρ 4, ρ 5, ρ 6, ρ 7, ρ 8, ρ 9, ρ 10, ρ 11, ρ 12, ρ 13, ρ 14, ρ 15, ρ 16, ρ 17, ρ 18, ρ 19, ρ 20, ρ 21, ρ 22, ρ 23, ρ 24, ρ 25, ρ 26, ρ 27, ρ 28] := ha
  subst ha
  subst hg
  have hJ : jn248 [ρ 0, ρ 1, ρ 2, ρ 3, ρ 4, ρ 5, ρ 6, ρ 7, ρ 8, ρ 9, ρ 10, ρ 11, ρ 12, ρ 13, ρ 14, ρ 15, ρ 16, ρ 17, ρ 18, ρ 19, ρ 20, ρ 21, ρ 22, ρ 23, ρ 24, ρ 25, ρ 26, ρ 27, ρ 28] (γ 0) 0 [ρ 0, ρ 1, ρ 2, ρ 3, ρ 4, ρ 5, ρ 6, ρ 7, ρ 8, ρ 9, ρ 10, ρ 11, ρ 12, ρ 13, ρ 14, ρ 15, ρ 16, ρ 17, ρ 18, ρ 19, ρ 20, ρ 21, ρ 22, ρ 23, ρ 24, ρ 25, ρ 26, ρ 27, ρ 28, ρ 29, ρ 30, ρ 31, ρ 32, ρ 33, ρ 34, ρ 35, ρ 36, ρ 37] (γ 1) := hJ
  have r29 : (0 : Int) ≤ ρ 29 ∧ ρ 29 ≤ 1999 := zRnA hr 29
  have r30 : (0 : Int) ≤ ρ 30 ∧ ρ 30 ≤ 2000 := zRnA hr 30
  have f0 : (0 : Int) ≤ -ρ 31 + ρ 30 := zAllA hf 0
  have f1 : (0 : Int) ≤ -ρ 30 + ρ 10 + (-1) := zAllA hf 1
  obtain ⟨w_0, w_1, w_2, w_3⟩ : (¬ (ρ 30 < 0)) ∧ (¬ (ρ 30 ≥ ρ 10)) ∧ (¬ (ρ 29 ≥ 2000)) ∧ (¬ (ρ 30 < ρ 31)) := ⟨by omega, by omega, by omega, by omega⟩
  have m4 : γ 0 6 0 7 = ρ 4 := zAllA hm 4
  have m10 : γ 0 6 0 11 = ρ 10 := zAllA hm 10
  have m11 : γ 0 6 0 12 = ρ 11 := zAllA hm 11
  have m33 : γ 1 6 0 13 = ρ 37 := zAllA hm 33
  have l0 : sn225 [9 * ρ 4 + 7, ρ 30, ρ 19, ρ 20] (γ 1) 0 0 (γ 2) := hS225 _ _ _ _ _ (zAllA hl 0)
  have l1 : sn227 [9 * ρ 4 + 7, ρ 30, ρ 21] (γ 2) 0 (ρ 38) (γ 3) := hS227 _ _ _ _ _ (zAllA hl 1)
  show jn248 [ρ 0, ρ 1, ρ 2, ρ 3, ρ 4, ρ 5, ρ 6, ρ 7, ρ 8, ρ 9, ρ 10, ρ 11, ρ 12, ρ 13, ρ 14, ρ 15, ρ 16, ρ 17, ρ 18, ρ 19, ρ 20, ρ 21, ρ 22, ρ 23, ρ 24, ρ 25, ρ 26, ρ 27, ρ 28] (γ 0) 0 [ρ 0, ρ 1, ρ 2, ρ 3, ρ 4, ρ 5, ρ 6, ρ 7, ρ 8, ρ 9, ρ 10, ρ 11, ρ 12, ρ 13, ρ 14, ρ 15, ρ 16, ρ 17, ρ 18, ρ 19, ρ 20, ρ 21, ρ 22, ρ 23, ρ 24, ρ 25, ρ 26, ρ 27, ρ 28, ρ 29 + 1, ρ 38, ρ 31, ρ 32, ρ 33, ρ 34, ρ 35, ρ 36, ρ 37] (γ 3)
  have hD : en248 (γ 0) (0, [ρ 29, ρ 30, ρ 31, ρ 32], γ 1) = .inl (0, [ρ 29 + 1, ρ 38, ρ 31, ρ 32], γ 3) := by
    unfold en248
    refine zIP (show (0 : Nat) = 0 by decide) (zLV (γ 1) rfl (zLV (ρ 29) rfl (zLV (ρ 30) rfl (zLV (ρ 31) rfl (zLV (ρ 32) rfl (zLE m4 (zLE m10 ?_)))))))
    refine zLE m11 (zLE m33 (zIN w_0 (zIN w_1 (zIN w_2 (zIN w_3 (zLE (show fn225 [9 * ρ 4 + 7, ρ 30] (γ 1) = (0, 0, γ 2) from l0.symm) (zLV (γ 2) rfl ?_)))))))
    refine zIN zQ0_ (zLE (show fn227 [9 * ρ 4 + 7, ρ 30] (γ 2) = (0, ρ 38, γ 3) from l1.symm) (zLV (γ 3) rfl (zLV (ρ 38) rfl ?_)))
    rfl
  exact zGoo_ato hJ hD
theorem vn248a0_5 {S : Nat → zSpc} (hS225 : zIm S 225 sn225) (hS226 : zIm S 226 sn226) (hS227 : zIm S 227 sn227) (hS232 : zIm S 232 sn232) (hS247 : zIm S 247 sn247) {a : List Int} {g : rHp} : ∀ (ρ : Nat → Int) (γ : Nat → rHp), jn248 a g 0 (zAg (zNA a248_ 0) ρ) (γ 1) → zO 29 S a g q248a0_5 ρ γ → zGl (fun i vs g1 => jn248 a g i vs g1) (sn248 a g) q248a0_5 ρ γ := by
  intro ρ γ hJ h
  obtain ⟨ha, hg, hr, hf, hm, hc, hl⟩ := h
  have ha : a = [ρ 0, ρ 1, ρ 2, ρ 3, ρ 4, ρ 5, ρ 6, ρ 7, ρ 8, ρ 9, ρ 10, ρ 11, ρ 12, ρ 13, ρ 14, ρ 15, ρ 16, ρ 17, ρ 18, ρ 19, ρ 20, ρ 21, ρ 22, ρ 23, ρ 24, ρ 25, ρ 26, ρ 27, ρ 28] := ha
  subst ha
  subst hg
  have hJ : jn248 [ρ 0, ρ 1, ρ 2, ρ 3, ρ 4, ρ 5, ρ 6, ρ 7, ρ 8, ρ 9, ρ 10, ρ 11, ρ 12, ρ 13, ρ 14, ρ 15, ρ 16, ρ 17, ρ 18, ρ 19, ρ 20, ρ 21, ρ 22, ρ 23, ρ 24, ρ 25, ρ 26, ρ 27, ρ 28] (γ 0) 0 [ρ 0, ρ 1, ρ 2, ρ 3, ρ 4, ρ 5, ρ 6, ρ 7, ρ 8, ρ 9, ρ 10, ρ 11, ρ 12, ρ 13, ρ 14, ρ 15, ρ 16, ρ 17, ρ 18, ρ 19, ρ 20, ρ 21, ρ 22, ρ 23, ρ 24, ρ 25, ρ 26, ρ 27, ρ 28, ρ 29, ρ 30, ρ 31, ρ 32, ρ 33, ρ 34, ρ 35, ρ 36, ρ 37] (γ 1) := hJ
  have r29 : (0 : Int) ≤ ρ 29 ∧ ρ 29 ≤ 1999 := zRnA hr 29
  have r30 : (0 : Int) ≤ ρ 30 ∧ ρ 30 ≤ 2000 := zRnA hr 30
  have f6 : (0 : Int) ≤ -ρ 30 + ρ 11 + (-1) := zAllA hf 6
  have f7 : (0 : Int) ≤ -ρ 31 + ρ 30 := zAllA hf 7
  have f8 : (0 : Int) ≤ -ρ 30 + ρ 10 + (-1) := zAllA hf 8
  obtain ⟨w_0, w_1, w_2, w_3, w_4⟩ : (¬ (ρ 30 < 0)) ∧ (¬ (ρ 30 ≥ ρ 10)) ∧ (¬ (ρ 29 ≥ 2000)) ∧ (¬ (ρ 30 < ρ 31)) ∧ (ρ 30 < ρ 11) := ⟨by omega, by omega, by omega, by omega, by omega⟩
  have m4 : γ 0 6 0 7 = ρ 4 := zAllA hm 4
  have m10 : γ 0 6 0 11 = ρ 10 := zAllA hm 10
  have m11 : γ 0 6 0 12 = ρ 11 := zAllA hm 11
  have m33 : γ 1 6 0 13 = ρ 37 := zAllA hm 33
  have m39 : γ 5 6 0 13 = ρ 42 := zAllA hm 39
  have c4 : γ 4 = rUp (γ 3) 6 0 13 (ρ 37) := And.right (zChA hc 3)
  have c6 : γ 6 = rUp (γ 5) 6 0 13 (ρ 42) := And.right (zChA hc 1)
  have l0 : sn225 [9 * ρ 4 + 7, ρ 30, ρ 19, ρ 20] (γ 1) 0 1 (γ 2) := hS225 _ _ _ _ _ (zAllA hl 0)
  have l1 : sn232 [9 * ρ 4 + 7, ρ 30, ρ 33, ρ 22] (γ 2) 0 0 (γ 3) := hS232 _ _ _ _ _ (zAllA hl 1)
  have l2 : sn247 [ρ 33 + 1, ρ 1, ρ 2, ρ 34, ρ 4, ρ 5, ρ 35, ρ 36, ρ 8, ρ 9, ρ 10, ρ 11, ρ 37, ρ 13, ρ 14, ρ 15, ρ 16, ρ 17, ρ 18, ρ 23, ρ 24, ρ 25, ρ 26, ρ 27, ρ 28] (γ 4) 0 0 (γ 5) := hS247 _ _ _ _ _ (zAllA hl 2)
  have l3 : sn227 [9 * ρ 4 + 7, ρ 30, ρ 21] (γ 6) 0 (ρ 43) (γ 7) := hS227 _ _ _ _ _ (zAllA hl 3)
  show jn248 [ρ 0, ρ 1, ρ 2, ρ 3, ρ 4, ρ 5, ρ 6, ρ 7, ρ 8, ρ 9, ρ 10, ρ 11, ρ 12, ρ 13, ρ 14, ρ 15, ρ 16, ρ 17, ρ 18, ρ 19, ρ 20, ρ 21, ρ 22, ρ 23, ρ 24, ρ 25, ρ 26, ρ 27, ρ 28] (γ 0) 0 [ρ 0, ρ 1, ρ 2, ρ 3, ρ 4, ρ 5, ρ 6, ρ 7, ρ 8, ρ 9, ρ 10, ρ 11, ρ 12, ρ 13, ρ 14, ρ 15, ρ 16, ρ 17, ρ 18, ρ 19, ρ 20, ρ 21, ρ 22, ρ 23, ρ 24, ρ 25, ρ 26, ρ 27, ρ 28, ρ 29 + 1, ρ 43, ρ 31, ρ 32, ρ 38, ρ 39, ρ 40, ρ 41, ρ 42] (γ 7)
  have hD : en248 (γ 0) (0, [ρ 29, ρ 30, ρ 31, ρ 32], γ 1) = .inl (0, [ρ 29 + 1, ρ 43, ρ 31, ρ 32], γ 7) := by
    unfold en248
    refine zIP (show (0 : Nat) = 0 by decide) (zLV (γ 1) rfl (zLV (ρ 29) rfl (zLV (ρ 30) rfl (zLV (ρ 31) rfl (zLV (ρ 32) rfl (zLE m4 (zLE m10 ?_)))))))
    refine zLE m11 (zLE m33 (zIN w_0 (zIN w_1 (zIN w_2 (zIN w_3 (zLE (show fn225 [9 * ρ 4 + 7, ρ 30] (γ 1) = (0, 1, γ 2) from l0.symm) (zLV (γ 2) rfl ?_)))))))
    refine zIP zQ1_ (zLE (show fn232 [9 * ρ 4 + 7, ρ 30] (γ 2) = (0, 0, γ 3) from l1.symm) (zLV (γ 3) rfl (zIP (show (0 : Nat) = 0 by decide) (zIP w_4 (zLE c4.symm (zLE (show fn247 [] (γ 4) = (0, 0, γ 5) from l2.symm) (zLV (γ 5) rfl ?_)))))))
    refine zIP (show (0 : Nat) = 0 by decide) (zLE m39 (zLE c6.symm (zLE (show fn227 [9 * ρ 4 + 7, ρ 30] (γ 6) = (0, ρ 43, γ 7) from l3.symm) (zLV (γ 7) rfl (zLV (ρ 43) rfl ?_)))))
    rfl
  exact zGoo_ato hJ hD
theorem vn248a0_6 {S : Nat → zSpc} (hS225 : zIm S 225 sn225) (hS226 : zIm S 226 sn226) (hS227 : zIm S 227 sn227) (hS232 : zIm S 232 sn232) (hS247 : zIm S 247 sn247) {a : List Int} {g : rHp} : ∀ (ρ : Nat → Int) (γ : Nat → rHp), jn248 a g 0 (zAg (zNA a248_ 0) ρ) (γ 1) → zO 29 S a g q248a0_6 ρ γ → zGl (fun i vs g1 => jn248 a g i vs g1) (sn248 a g) q248a0_6 ρ γ := by
  intro ρ γ hJ h
  obtain ⟨ha, hg, hr, hf, hm, hc, hl⟩ := h
  have ha : a = [ρ 0, ρ 1, ρ 2, ρ 3, ρ 4, ρ 5, ρ 6, ρ 7, ρ 8, ρ 9, ρ 10, ρ 11, ρ 12, ρ 13, ρ 14, ρ 15, ρ 16, ρ 17, ρ 18, ρ 19, ρ 20, ρ 21, ρ 22, ρ 23, ρ 24, ρ 25, ρ 26, ρ 27, ρ 28] := ha
  subst ha
  subst hg
  have hJ : jn248 [ρ 0, ρ 1, ρ 2, ρ 3, ρ 4, ρ 5, ρ 6, ρ 7, ρ 8, ρ 9, ρ 10, ρ 11, ρ 12, ρ 13, ρ 14, ρ 15, ρ 16, ρ 17, ρ 18, ρ 19, ρ 20, ρ 21, ρ 22, ρ 23, ρ 24, ρ 25, ρ 26, ρ 27, ρ 28] (γ 0) 0 [ρ 0, ρ 1, ρ 2, ρ 3, ρ 4, ρ 5, ρ 6, ρ 7, ρ 8, ρ 9, ρ 10, ρ 11, ρ 12, ρ 13, ρ 14, ρ 15, ρ 16, ρ 17, ρ 18, ρ 19, ρ 20, ρ 21, ρ 22, ρ 23, ρ 24, ρ 25, ρ 26, ρ 27, ρ 28, ρ 29, ρ 30, ρ 31, ρ 32, ρ 33, ρ 34, ρ 35, ρ 36, ρ 37] (γ 1) := hJ
  have r29 : (0 : Int) ≤ ρ 29 ∧ ρ 29 ≤ 1999 := zRnA hr 29
  have r30 : (0 : Int) ≤ ρ 30 ∧ ρ 30 ≤ 2000 := zRnA hr 30
  have f5 : (0 : Int) ≤ -ρ 30 + ρ 11 + (-1) := zAllA hf 5
  have f6 : (0 : Int) ≤ -ρ 31 + ρ 30 := zAllA hf 6
  have f7 : (0 : Int) ≤ -ρ 30 + ρ 10 + (-1) := zAllA hf 7
  obtain ⟨w_0, w_1, w_2, w_3, w_4⟩ : (¬ (ρ 30 < 0)) ∧ (¬ (ρ 30 ≥ ρ 10)) ∧ (¬ (ρ 29 ≥ 2000)) ∧ (¬ (ρ 30 < ρ 31)) ∧ (ρ 30 < ρ 11) := ⟨by omega, by omega, by omega, by omega, by omega⟩
  have m4 : γ 0 6 0 7 = ρ 4 := zAllA hm 4
  have m10 : γ 0 6 0 11 = ρ 10 := zAllA hm 10
  have m11 : γ 0 6 0 12 = ρ 11 := zAllA hm 11
  have m33 : γ 1 6 0 13 = ρ 37 := zAllA hm 33
  have c4 : γ 4 = rUp (γ 3) 6 0 13 (ρ 37) := And.right (zChA hc 1)
  have l0 : sn225 [9 * ρ 4 + 7, ρ 30, ρ 19, ρ 20] (γ 1) 0 1 (γ 2) := hS225 _ _ _ _ _ (zAllA hl 0)
  have l1 : sn232 [9 * ρ 4 + 7, ρ 30, ρ 33, ρ 22] (γ 2) 0 0 (γ 3) := hS232 _ _ _ _ _ (zAllA hl 1)
  have l2 : sn247 [ρ 33 + 1, ρ 1, ρ 2, ρ 34, ρ 4, ρ 5, ρ 35, ρ 36, ρ 8, ρ 9, ρ 10, ρ 11, ρ 37, ρ 13, ρ 14, ρ 15, ρ 16, ρ 17, ρ 18, ρ 23, ρ 24, ρ 25, ρ 26, ρ 27, ρ 28] (γ 4) 1 0 (γ 5) := hS247 _ _ _ _ _ (zAllA hl 2)
  show sn248 [ρ 0, ρ 1, ρ 2, ρ 3, ρ 4, ρ 5, ρ 6, ρ 7, ρ 8, ρ 9, ρ 10, ρ 11, ρ 12, ρ 13, ρ 14, ρ 15, ρ 16, ρ 17, ρ 18, ρ 19, ρ 20, ρ 21, ρ 22, ρ 23, ρ 24, ρ 25, ρ 26, ρ 27, ρ 28] (γ 0) 1 0 (γ 5)
  have hD : en248 (γ 0) (0, [ρ 29, ρ 30, ρ 31, ρ 32], γ 1) = .inr (1, 0, γ 5) := by
    unfold en248
    refine zIP (show (0 : Nat) = 0 by decide) (zLV (γ 1) rfl (zLV (ρ 29) rfl (zLV (ρ 30) rfl (zLV (ρ 31) rfl (zLV (ρ 32) rfl (zLE m4 (zLE m10 ?_)))))))
    refine zLE m11 (zLE m33 (zIN w_0 (zIN w_1 (zIN w_2 (zIN w_3 (zLE (show fn225 [9 * ρ 4 + 7, ρ 30] (γ 1) = (0, 1, γ 2) from l0.symm) (zLV (γ 2) rfl ?_)))))))
    refine zIP zQ1_ (zLE (show fn232 [9 * ρ 4 + 7, ρ 30] (γ 2) = (0, 0, γ 3) from l1.symm) (zLV (γ 3) rfl (zIP (show (0 : Nat) = 0 by decide) (zIP w_4 (zLE c4.symm (zLE (show fn247 [] (γ 4) = (1, 0, γ 5) from l2.symm) (zLV (γ 5) rfl ?_)))))))
    refine zIN (show ¬ (1 : Nat) = 0 by decide) (zIP (show (1 : Nat) = 1 by decide) ?_)
    rfl
  exact zGoo_aend hJ hD
theorem vn248a0_7 {S : Nat → zSpc} (hS225 : zIm S 225 sn225) (hS226 : zIm S 226 sn226) (hS227 : zIm S 227 sn227) (hS232 : zIm S 232 sn232) (hS247 : zIm S 247 sn247) {a : List Int} {g : rHp} : ∀ (ρ : Nat → Int) (γ : Nat → rHp), jn248 a g 0 (zAg (zNA a248_ 0) ρ) (γ 1) → zO 29 S a g q248a0_7 ρ γ → zGl (fun i vs g1 => jn248 a g i vs g1) (sn248 a g) q248a0_7 ρ γ := by
  intro ρ γ hJ h
  obtain ⟨ha, hg, hr, hf, hm, hc, hl⟩ := h
  have ha : a = [ρ 0, ρ 1, ρ 2, ρ 3, ρ 4, ρ 5, ρ 6, ρ 7, ρ 8, ρ 9, ρ 10, ρ 11, ρ 12, ρ 13, ρ 14, ρ 15, ρ 16, ρ 17, ρ 18, ρ 19, ρ 20, ρ 21, ρ 22, ρ 23, ρ 24, ρ 25, ρ 26, ρ 27, ρ 28] := ha
  subst ha
  subst hg
  have hJ : jn248 [ρ 0, ρ 1, ρ 2, ρ 3, ρ 4, ρ 5, ρ 6, ρ 7, ρ 8, ρ 9, ρ 10, ρ 11, ρ 12, ρ 13, ρ 14, ρ 15, ρ 16, ρ 17, ρ 18, ρ 19, ρ 20, ρ 21, ρ 22, ρ 23, ρ 24, ρ 25, ρ 26, ρ 27, ρ 28] (γ 0) 0 [ρ 0, ρ 1, ρ 2, ρ 3, ρ 4, ρ 5, ρ 6, ρ 7, ρ 8, ρ 9, ρ 10, ρ 11, ρ 12, ρ 13, ρ 14, ρ 15, ρ 16, ρ 17, ρ 18, ρ 19, ρ 20, ρ 21, ρ 22, ρ 23, ρ 24, ρ 25, ρ 26, ρ 27, ρ 28, ρ 29, ρ 30, ρ 31, ρ 32, ρ 33, ρ 34, ρ 35, ρ 36, ρ 37] (γ 1) := hJ
  have r29 : (0 : Int) ≤ ρ 29 ∧ ρ 29 ≤ 1999 := zRnA hr 29
  have r30 : (0 : Int) ≤ ρ 30 ∧ ρ 30 ≤ 2000 := zRnA hr 30
  have f5 : (0 : Int) ≤ -ρ 30 + ρ 11 + (-1) := zAllA hf 5
  have f6 : (0 : Int) ≤ -ρ 31 + ρ 30 := zAllA hf 6
  have f7 : (0 : Int) ≤ -ρ 30 + ρ 10 + (-1) := zAllA hf 7
  obtain ⟨w_0, w_1, w_2, w_3, w_4⟩ : (¬ (ρ 30 < 0)) ∧ (¬ (ρ 30 ≥ ρ 10)) ∧ (¬ (ρ 29 ≥ 2000)) ∧ (¬ (ρ 30 < ρ 31)) ∧ (ρ 30 < ρ 11) := ⟨by omega, by omega, by omega, by omega, by omega⟩
  have m4 : γ 0 6 0 7 = ρ 4 := zAllA hm 4
  have m10 : γ 0 6 0 11 = ρ 10 := zAllA hm 10
  have m11 : γ 0 6 0 12 = ρ 11 := zAllA hm 11
  have m33 : γ 1 6 0 13 = ρ 37 := zAllA hm 33
  have c4 : γ 4 = rUp (γ 3) 6 0 13 (ρ 37) := And.right (zChA hc 1)
  have l0 : sn225 [9 * ρ 4 + 7, ρ 30, ρ 19, ρ 20] (γ 1) 0 1 (γ 2) := hS225 _ _ _ _ _ (zAllA hl 0)
  have l1 : sn232 [9 * ρ 4 + 7, ρ 30, ρ 33, ρ 22] (γ 2) 0 0 (γ 3) := hS232 _ _ _ _ _ (zAllA hl 1)
  have l2 : sn247 [ρ 33 + 1, ρ 1, ρ 2, ρ 34, ρ 4, ρ 5, ρ 35, ρ 36, ρ 8, ρ 9, ρ 10, ρ 11, ρ 37, ρ 13, ρ 14, ρ 15, ρ 16, ρ 17, ρ 18, ρ 23, ρ 24, ρ 25, ρ 26, ρ 27, ρ 28] (γ 4) 4 0 (γ 5) := hS247 _ _ _ _ _ (zAllA hl 2)
  show sn248 [ρ 0, ρ 1, ρ 2, ρ 3, ρ 4, ρ 5, ρ 6, ρ 7, ρ 8, ρ 9, ρ 10, ρ 11, ρ 12, ρ 13, ρ 14, ρ 15, ρ 16, ρ 17, ρ 18, ρ 19, ρ 20, ρ 21, ρ 22, ρ 23, ρ 24, ρ 25, ρ 26, ρ 27, ρ 28] (γ 0) 4 0 (γ 5)
  have hD : en248 (γ 0) (0, [ρ 29, ρ 30, ρ 31, ρ 32], γ 1) = .inr (4, 0, γ 5) := by
    unfold en248
    refine zIP (show (0 : Nat) = 0 by decide) (zLV (γ 1) rfl (zLV (ρ 29) rfl (zLV (ρ 30) rfl (zLV (ρ 31) rfl (zLV (ρ 32) rfl (zLE m4 (zLE m10 ?_)))))))
    refine zLE m11 (zLE m33 (zIN w_0 (zIN w_1 (zIN w_2 (zIN w_3 (zLE (show fn225 [9 * ρ 4 + 7, ρ 30] (γ 1) = (0, 1, γ 2) from l0.symm) (zLV (γ 2) rfl ?_)))))))
    refine zIP zQ1_ (zLE (show fn232 [9 * ρ 4 + 7, ρ 30] (γ 2) = (0, 0, γ 3) from l1.symm) (zLV (γ 3) rfl (zIP (show (0 : Nat) = 0 by decide) (zIP w_4 (zLE c4.symm (zLE (show fn247 [] (γ 4) = (4, 0, γ 5) from l2.symm) (zLV (γ 5) rfl ?_)))))))
    refine zIN (show ¬ (4 : Nat) = 0 by decide) (zIN (show ¬ (4 : Nat) = 1 by decide) ?_)
    rfl
  exact zGoo_aend hJ hD
theorem vn248a0_8 {S : Nat → zSpc} (hS225 : zIm S 225 sn225) (hS226 : zIm S 226 sn226) (hS227 : zIm S 227 sn227) (hS232 : zIm S 232 sn232) (hS247 : zIm S 247 sn247) {a : List Int} {g : rHp} : ∀ (ρ : Nat → Int) (γ : Nat → rHp), jn248 a g 0 (zAg (zNA a248_ 0) ρ) (γ 1) → zO 29 S a g q248a0_8 ρ γ → zGl (fun i vs g1 => jn248 a g i vs g1) (sn248 a g) q248a0_8 ρ γ := by
  intro ρ γ hJ h
  obtain ⟨ha, hg, hr, hf, hm, hc, hl⟩ := h
  have ha : a = [ρ 0, ρ 1, ρ 2, ρ 3, ρ 4, ρ 5, ρ 6, ρ 7, ρ 8, ρ 9, ρ 10, ρ 11, ρ 12, ρ 13, ρ 14, ρ 15, ρ 16, ρ 17, ρ 18, ρ 19, ρ 20, ρ 21, ρ 22, ρ 23, ρ 24, ρ 25, ρ 26, ρ 27, ρ 28] := ha
  subst ha
  subst hg
  have hJ : jn248 [ρ 0, ρ 1, ρ 2, ρ 3, ρ 4, ρ 5, ρ 6, ρ 7, ρ 8, ρ 9, ρ 10, ρ 11, ρ 12, ρ 13, ρ 14, ρ 15, ρ 16, ρ 17, ρ 18, ρ 19, ρ 20, ρ 21, ρ 22, ρ 23, ρ 24, ρ 25, ρ 26, ρ 27, ρ 28] (γ 0) 0 [ρ 0, ρ 1, ρ 2, ρ 3, ρ 4, ρ 5, ρ 6, ρ 7, ρ 8, ρ 9, ρ 10, ρ 11, ρ 12, ρ 13, ρ 14, ρ 15, ρ 16, ρ 17, ρ 18, ρ 19, ρ 20, ρ 21, ρ 22, ρ 23, ρ 24, ρ 25, ρ 26, ρ 27, ρ 28, ρ 29, ρ 30, ρ 31, ρ 32, ρ 33, ρ 34, ρ 35, ρ 36, ρ 37] (γ 1) := hJ
  have r29 : (0 : Int) ≤ ρ 29 ∧ ρ 29 ≤ 1999 := zRnA hr 29
  have r30 : (0 : Int) ≤ ρ 30 ∧ ρ 30 ≤ 2000 := zRnA hr 30
  have f6 : (0 : Int) ≤ ρ 30 + -ρ 11 := zAllA hf 6
  have f7 : (0 : Int) ≤ -ρ 31 + ρ 30 := zAllA hf 7
  have f8 : (0 : Int) ≤ -ρ 30 + ρ 10 + (-1) := zAllA hf 8
  obtain ⟨w_0, w_1, w_2, w_3, w_4⟩ : (¬ (ρ 30 < 0)) ∧ (¬ (ρ 30 ≥ ρ 10)) ∧ (¬ (ρ 29 ≥ 2000)) ∧ (¬ (ρ 30 < ρ 31)) ∧ (¬ (ρ 30 < ρ 11)) := ⟨by omega, by omega, by omega, by omega, by omega⟩
  have m4 : γ 0 6 0 7 = ρ 4 := zAllA hm 4
  have m10 : γ 0 6 0 11 = ρ 10 := zAllA hm 10
  have m11 : γ 0 6 0 12 = ρ 11 := zAllA hm 11
  have m33 : γ 1 6 0 13 = ρ 37 := zAllA hm 33
  have m39 : γ 5 6 0 13 = ρ 43 := zAllA hm 39
  have c4 : γ 4 = rUp (γ 3) 6 0 13 (ρ 38) := And.right (zChA hc 3)
  have c6 : γ 6 = rUp (γ 5) 6 0 13 (ρ 44) := And.right (zChA hc 1)
  have l0 : sn225 [9 * ρ 4 + 7, ρ 30, ρ 19, ρ 20] (γ 1) 0 1 (γ 2) := hS225 _ _ _ _ _ (zAllA hl 0)
  have l1 : sn232 [9 * ρ 4 + 7, ρ 30, ρ 33, ρ 22] (γ 2) 0 0 (γ 3) := hS232 _ _ _ _ _ (zAllA hl 1)
  have l2 : zOpP (.iadd) (γ 0) (γ 1) [ρ 37, 1] (ρ 38) := zAllA hl 2
  have l3 : sn247 [ρ 33 + 1, ρ 1, ρ 2, ρ 34, ρ 4, ρ 5, ρ 35, ρ 36, ρ 8, ρ 9, ρ 10, ρ 11, ρ 38, ρ 13, ρ 14, ρ 15, ρ 16, ρ 17, ρ 18, ρ 23, ρ 24, ρ 25, ρ 26, ρ 27, ρ 28] (γ 4) 0 0 (γ 5) := hS247 _ _ _ _ _ (zAllA hl 3)
  have l4 : zOpP (.isub) (γ 0) (γ 1) [ρ 43, 1] (ρ 44) := zAllA hl 4
  have l5 : sn227 [9 * ρ 4 + 7, ρ 30, ρ 21] (γ 6) 0 (ρ 45) (γ 7) := hS227 _ _ _ _ _ (zAllA hl 5)
  show jn248 [ρ 0, ρ 1, ρ 2, ρ 3, ρ 4, ρ 5, ρ 6, ρ 7, ρ 8, ρ 9, ρ 10, ρ 11, ρ 12, ρ 13, ρ 14, ρ 15, ρ 16, ρ 17, ρ 18, ρ 19, ρ 20, ρ 21, ρ 22, ρ 23, ρ 24, ρ 25, ρ 26, ρ 27, ρ 28] (γ 0) 0 [ρ 0, ρ 1, ρ 2, ρ 3, ρ 4, ρ 5, ρ 6, ρ 7, ρ 8, ρ 9, ρ 10, ρ 11, ρ 12, ρ 13, ρ 14, ρ 15, ρ 16, ρ 17, ρ 18, ρ 19, ρ 20, ρ 21, ρ 22, ρ 23, ρ 24, ρ 25, ρ 26, ρ 27, ρ 28, ρ 29 + 1, ρ 45, ρ 31, ρ 32, ρ 39, ρ 40, ρ 41, ρ 42, ρ 44] (γ 7)
  have hD : en248 (γ 0) (0, [ρ 29, ρ 30, ρ 31, ρ 32], γ 1) = .inl (0, [ρ 29 + 1, ρ 45, ρ 31, ρ 32], γ 7) := by
    unfold en248
    refine zIP (show (0 : Nat) = 0 by decide) (zLV (γ 1) rfl (zLV (ρ 29) rfl (zLV (ρ 30) rfl (zLV (ρ 31) rfl (zLV (ρ 32) rfl (zLE m4 (zLE m10 ?_)))))))
    refine zLE m11 (zLE m33 (zIN w_0 (zIN w_1 (zIN w_2 (zIN w_3 (zLE (show fn225 [9 * ρ 4 + 7, ρ 30] (γ 1) = (0, 1, γ 2) from l0.symm) (zLV (γ 2) rfl ?_)))))))
    refine zIP zQ1_ (zLE (show fn232 [9 * ρ 4 + 7, ρ 30] (γ 2) = (0, 0, γ 3) from l1.symm) (zLV (γ 3) rfl (zIP (show (0 : Nat) = 0 by decide) (zIN w_4 (zLE (zF2_ok l2) (zLE c4.symm (zLE (show fn247 [] (γ 4) = (0, 0, γ 5) from l3.symm) ?_)))))))
    refine zLV (γ 5) rfl (zIP (show (0 : Nat) = 0 by decide) (zLE m39 (zLE (zF2_ok l4) (zLE c6.symm (zLE (show fn227 [9 * ρ 4 + 7, ρ 30] (γ 6) = (0, ρ 45, γ 7) from l5.symm) (zLV (γ 7) rfl (zLV (ρ 45) rfl ?_)))))))
    rfl
  exact zGoo_ato hJ hD
theorem vn248a0_9 {S : Nat → zSpc} (hS225 : zIm S 225 sn225) (hS226 : zIm S 226 sn226) (hS227 : zIm S 227 sn227) (hS232 : zIm S 232 sn232) (hS247 : zIm S 247 sn247) {a : List Int} {g : rHp} : ∀ (ρ : Nat → Int) (γ : Nat → rHp), jn248 a g 0 (zAg (zNA a248_ 0) ρ) (γ 1) → zO 29 S a g q248a0_9 ρ γ → zGl (fun i vs g1 => jn248 a g i vs g1) (sn248 a g) q248a0_9 ρ γ := by
  intro ρ γ hJ h
  obtain ⟨ha, hg, hr, hf, hm, hc, hl⟩ := h
  have ha : a = [ρ 0, ρ 1, ρ 2, ρ 3, ρ 4, ρ 5, ρ 6, ρ 7, ρ 8, ρ 9, ρ 10, ρ 11, ρ 12, ρ 13, ρ 14, ρ 15, ρ 16, ρ 17, ρ 18, ρ 19, ρ 20, ρ 21, ρ 22, ρ 23, ρ 24, ρ 25, ρ 26, ρ 27, ρ 28] := ha
  subst ha
  subst hg
  have hJ : jn248 [ρ 0, ρ 1, ρ 2, ρ 3, ρ 4, ρ 5, ρ 6, ρ 7, ρ 8, ρ 9, ρ 10, ρ 11, ρ 12, ρ 13, ρ 14, ρ 15, ρ 16, ρ 17, ρ 18, ρ 19, ρ 20, ρ 21, ρ 22, ρ 23, ρ 24, ρ 25, ρ 26, ρ 27, ρ 28] (γ 0) 0 [ρ 0, ρ 1, ρ 2, ρ 3, ρ 4, ρ 5, ρ 6, ρ 7, ρ 8, ρ 9, ρ 10, ρ 11, ρ 12, ρ 13, ρ 14, ρ 15, ρ 16, ρ 17, ρ 18, ρ 19, ρ 20, ρ 21, ρ 22, ρ 23, ρ 24, ρ 25, ρ 26, ρ 27, ρ 28, ρ 29, ρ 30, ρ 31, ρ 32, ρ 33, ρ 34, ρ 35, ρ 36, ρ 37] (γ 1) := hJ
  have r29 : (0 : Int) ≤ ρ 29 ∧ ρ 29 ≤ 1999 := zRnA hr 29
  have r30 : (0 : Int) ≤ ρ 30 ∧ ρ 30 ≤ 2000 := zRnA hr 30
  have f5 : (0 : Int) ≤ ρ 30 + -ρ 11 := zAllA hf 5
  have f6 : (0 : Int) ≤ -ρ 31 + ρ 30 := zAllA hf 6
  have f7 : (0 : Int) ≤ -ρ 30 + ρ 10 + (-1) := zAllA hf 7
  obtain ⟨w_0, w_1, w_2, w_3, w_4⟩ : (¬ (ρ 30 < 0)) ∧ (¬ (ρ 30 ≥ ρ 10)) ∧ (¬ (ρ 29 ≥ 2000)) ∧ (¬ (ρ 30 < ρ 31)) ∧ (¬ (ρ 30 < ρ 11)) := ⟨by omega, by omega, by omega, by omega, by omega⟩
  have m4 : γ 0 6 0 7 = ρ 4 := zAllA hm 4
  have m10 : γ 0 6 0 11 = ρ 10 := zAllA hm 10
  have m11 : γ 0 6 0 12 = ρ 11 := zAllA hm 11
  have m33 : γ 1 6 0 13 = ρ 37 := zAllA hm 33
  have c4 : γ 4 = rUp (γ 3) 6 0 13 (ρ 38) := And.right (zChA hc 1)
  have l0 : sn225 [9 * ρ 4 + 7, ρ 30, ρ 19, ρ 20] (γ 1) 0 1 (γ 2) := hS225 _ _ _ _ _ (zAllA hl 0)
  have l1 : sn232 [9 * ρ 4 + 7, ρ 30, ρ 33, ρ 22] (γ 2) 0 0 (γ 3) := hS232 _ _ _ _ _ (zAllA hl 1)
  have l2 : zOpP (.iadd) (γ 0) (γ 1) [ρ 37, 1] (ρ 38) := zAllA hl 2
  have l3 : sn247 [ρ 33 + 1, ρ 1, ρ 2, ρ 34, ρ 4, ρ 5, ρ 35, ρ 36, ρ 8, ρ 9, ρ 10, ρ 11, ρ 38, ρ 13, ρ 14, ρ 15, ρ 16, ρ 17, ρ 18, ρ 23, ρ 24, ρ 25, ρ 26, ρ 27, ρ 28] (γ 4) 1 0 (γ 5) := hS247 _ _ _ _ _ (zAllA hl 3)
  show sn248 [ρ 0, ρ 1, ρ 2, ρ 3, ρ 4, ρ 5, ρ 6, ρ 7, ρ 8, ρ 9, ρ 10, ρ 11, ρ 12, ρ 13, ρ 14, ρ 15, ρ 16, ρ 17, ρ 18, ρ 19, ρ 20, ρ 21, ρ 22, ρ 23, ρ 24, ρ 25, ρ 26, ρ 27, ρ 28] (γ 0) 1 0 (γ 5)
  have hD : en248 (γ 0) (0, [ρ 29, ρ 30, ρ 31, ρ 32], γ 1) = .inr (1, 0, γ 5) := by
    unfold en248
    refine zIP (show (0 : Nat) = 0 by decide) (zLV (γ 1) rfl (zLV (ρ 29) rfl (zLV (ρ 30) rfl (zLV (ρ 31) rfl (zLV (ρ 32) rfl (zLE m4 (zLE m10 ?_)))))))
    refine zLE m11 (zLE m33 (zIN w_0 (zIN w_1 (zIN w_2 (zIN w_3 (zLE (show fn225 [9 * ρ 4 + 7, ρ 30] (γ 1) = (0, 1, γ 2) from l0.symm) (zLV (γ 2) rfl ?_)))))))
    refine zIP zQ1_ (zLE (show fn232 [9 * ρ 4 + 7, ρ 30] (γ 2) = (0, 0, γ 3) from l1.symm) (zLV (γ 3) rfl (zIP (show (0 : Nat) = 0 by decide) (zIN w_4 (zLE (zF2_ok l2) (zLE c4.symm (zLE (show fn247 [] (γ 4) = (1, 0, γ 5) from l3.symm) ?_)))))))
    refine zLV (γ 5) rfl (zIN (show ¬ (1 : Nat) = 0 by decide) (zIP (show (1 : Nat) = 1 by decide) ?_))
    rfl
  exact zGoo_aend hJ hD
theorem vn248a0_10 {S : Nat → zSpc} (hS225 : zIm S 225 sn225) (hS226 : zIm S 226 sn226) (hS227 : zIm S 227 sn227) (hS232 : zIm S 232 sn232) (hS247 : zIm S 247 sn247) {a : List Int} {g : rHp} : ∀ (ρ : Nat → Int) (γ : Nat → rHp), jn248 a g 0 (zAg (zNA a248_ 0) ρ) (γ 1) → zO 29 S a g q248a0_10 ρ γ → zGl (fun i vs g1 => jn248 a g i vs g1) (sn248 a g) q248a0_10 ρ γ := by
  intro ρ γ hJ h
  obtain ⟨ha, hg, hr, hf, hm, hc, hl⟩ := h
  have ha : a = [ρ 0, ρ 1, ρ 2, ρ 3, ρ 4, ρ 5, ρ 6, ρ 7, ρ 8, ρ 9, ρ 10, ρ 11, ρ 12, ρ 13, ρ 14, ρ 15, ρ 16, ρ 17, ρ 18, ρ 19, ρ 20, ρ 21, ρ 22, ρ 23, ρ 24, ρ 25, ρ 26, ρ 27, ρ 28] := ha
  subst ha
  subst hg
  have hJ : jn248 [ρ 0, ρ 1, ρ 2, ρ 3, ρ 4, ρ 5, ρ 6, ρ 7, ρ 8, ρ 9, ρ 10, ρ 11, ρ 12, ρ 13, ρ 14, ρ 15, ρ 16, ρ 17, ρ 18, ρ 19, ρ 20, ρ 21, ρ 22, ρ 23, ρ 24, ρ 25, ρ 26, ρ 27, ρ 28] (γ 0) 0 [ρ 0, ρ 1, ρ 2, ρ 3, ρ 4, ρ 5, ρ 6, ρ 7, ρ 8, ρ 9, ρ 10, ρ 11, ρ 12, ρ 13, ρ 14, ρ 15, ρ 16, ρ 17, ρ 18, ρ 19, ρ 20, ρ 21, ρ 22, ρ 23, ρ 24, ρ 25, ρ 26, ρ 27, ρ 28, ρ 29, ρ 30, ρ 31, ρ 32, ρ 33, ρ 34, ρ 35, ρ 36, ρ 37] (γ 1) := hJ
  have r29 : (0 : Int) ≤ ρ 29 ∧ ρ 29 ≤ 1999 := zRnA hr 29
  have r30 : (0 : Int) ≤ ρ 30 ∧ ρ 30 ≤ 2000 := zRnA hr 30
  have f5 : (0 : Int) ≤ ρ 30 + -ρ 11 := zAllA hf 5
  have f6 : (0 : Int) ≤ -ρ 31 + ρ 30 := zAllA hf 6
  have f7 : (0 : Int) ≤ -ρ 30 + ρ 10 + (-1) := zAllA hf 7
  obtain ⟨w_0, w_1, w_2, w_3, w_4⟩ : (¬ (ρ 30 < 0)) ∧ (¬ (ρ 30 ≥ ρ 10)) ∧ (¬ (ρ 29 ≥ 2000)) ∧ (¬ (ρ 30 < ρ 31)) ∧ (¬ (ρ 30 < ρ 11)) := ⟨by omega, by omega, by omega, by omega, by omega⟩
  have m4 : γ 0 6 0 7 = ρ 4 := zAllA hm 4
  have m10 : γ 0 6 0 11 = ρ 10 := zAllA hm 10
  have m11 : γ 0 6 0 12 = ρ 11 := zAllA hm 11
  have m33 : γ 1 6 0 13 = ρ 37 := zAllA hm 33
  have c4 : γ 4 = rUp (γ 3) 6 0 13 (ρ 38) := And.right (zChA hc 1)
  have l0 : sn225 [9 * ρ 4 + 7, ρ 30, ρ 19, ρ 20] (γ 1) 0 1 (γ 2) := hS225 _ _ _ _ _ (zAllA hl 0)
  have l1 : sn232 [9 * ρ 4 + 7, ρ 30, ρ 33, ρ 22] (γ 2) 0 0 (γ 3) := hS232 _ _ _ _ _ (zAllA hl 1)
  have l2 : zOpP (.iadd) (γ 0) (γ 1) [ρ 37, 1] (ρ 38) := zAllA hl 2
  have l3 : sn247 [ρ 33 + 1, ρ 1, ρ 2, ρ 34, ρ 4, ρ 5, ρ 35, ρ 36, ρ 8, ρ 9, ρ 10, ρ 11, ρ 38, ρ 13, ρ 14, ρ 15, ρ 16, ρ 17, ρ 18, ρ 23, ρ 24, ρ 25, ρ 26, ρ 27, ρ 28] (γ 4) 4 0 (γ 5) := hS247 _ _ _ _ _ (zAllA hl 3)
  show sn248 [ρ 0, ρ 1, ρ 2, ρ 3, ρ 4, ρ 5, ρ 6, ρ 7, ρ 8, ρ 9, ρ 10, ρ 11, ρ 12, ρ 13, ρ 14, ρ 15, ρ 16, ρ 17, ρ 18, ρ 19, ρ 20, ρ 21, ρ 22, ρ 23, ρ 24, ρ 25, ρ 26, ρ 27, ρ 28] (γ 0) 4 0 (γ 5)
  have hD : en248 (γ 0) (0, [ρ 29, ρ 30, ρ 31, ρ 32], γ 1) = .inr (4, 0, γ 5) := by
    unfold en248
    refine zIP (show (0 : Nat) = 0 by decide) (zLV (γ 1) rfl (zLV (ρ 29) rfl (zLV (ρ 30) rfl (zLV (ρ 31) rfl (zLV (ρ 32) rfl (zLE m4 (zLE m10 ?_)))))))
    refine zLE m11 (zLE m33 (zIN w_0 (zIN w_1 (zIN w_2 (zIN w_3 (zLE (show fn225 [9 * ρ 4 + 7, ρ 30] (γ 1) = (0, 1, γ 2) from l0.symm) (zLV (γ 2) rfl ?_)))))))
    refine zIP zQ1_ (zLE (show fn232 [9 * ρ 4 + 7, ρ 30] (γ 2) = (0, 0, γ 3) from l1.symm) (zLV (γ 3) rfl (zIP (show (0 : Nat) = 0 by decide) (zIN w_4 (zLE (zF2_ok l2) (zLE c4.symm (zLE (show fn247 [] (γ 4) = (4, 0, γ 5) from l3.symm) ?_)))))))
    refine zLV (γ 5) rfl (zIN (show ¬ (4 : Nat) = 0 by decide) (zIN (show ¬ (4 : Nat) = 1 by decide) ?_))
    rfl
  exact zGoo_aend hJ hD
theorem vn248a0_11 {S : Nat → zSpc} (hS225 : zIm S 225 sn225) (hS226 : zIm S 226 sn226) (hS227 : zIm S 227 sn227) (hS232 : zIm S 232 sn232) (hS247 : zIm S 247 sn247) {a : List Int} {g : rHp} : ∀ (ρ : Nat → Int) (γ : Nat → rHp), jn248 a g 0 (zAg (zNA a248_ 0) ρ) (γ 1) → zO 29 S a g q248a0_11 ρ γ → zGl (fun i vs g1 => jn248 a g i vs g1) (sn248 a g) q248a0_11 ρ γ := by
  intro ρ γ hJ h
  obtain ⟨ha, hg, hr, hf, hm, hc, hl⟩ := h
  have ha : a = [ρ 0, ρ 1, ρ 2, ρ 3, ρ 4, ρ 5, ρ 6, ρ 7, ρ 8, ρ 9, ρ 10, ρ 11, ρ 12, ρ 13, ρ 14, ρ 15, ρ 16, ρ 17, ρ 18, ρ 19, ρ 20, ρ 21, ρ 22, ρ 23, ρ 24, ρ 25, ρ 26, ρ 27, ρ 28] := ha
  subst ha
  subst hg
  have hJ : jn248 [ρ 0, ρ 1, ρ 2, ρ 3, ρ 4, ρ 5, ρ 6, ρ 7, ρ 8, ρ 9, ρ 10, ρ 11, ρ 12, ρ 13, ρ 14, ρ 15, ρ 16, ρ 17, ρ 18, ρ 19, ρ 20, ρ 21, ρ 22, ρ 23, ρ 24, ρ 25, ρ 26, ρ 27, ρ 28] (γ 0) 0 [ρ 0, ρ 1, ρ 2, ρ 3, ρ 4, ρ 5, ρ 6, ρ 7, ρ 8, ρ 9, ρ 10, ρ 11, ρ 12, ρ 13, ρ 14, ρ 15, ρ 16, ρ 17, ρ 18, ρ 19, ρ 20, ρ 21, ρ 22, ρ 23, ρ 24, ρ 25, ρ 26, ρ 27, ρ 28, ρ 29, ρ 30, ρ 31, ρ 32, ρ 33, ρ 34, ρ 35, ρ 36, ρ 37] (γ 1) := hJ
  have r29 : (0 : Int) ≤ ρ 29 ∧ ρ 29 ≤ 1999 := zRnA hr 29
  have r30 : (0 : Int) ≤ ρ 30 ∧ ρ 30 ≤ 2000 := zRnA hr 30
  have f0 : (0 : Int) ≤ -ρ 31 + ρ 30 := zAllA hf 0
  have f1 : (0 : Int) ≤ -ρ 30 + ρ 10 + (-1) := zAllA hf 1
  obtain ⟨w_0, w_1, w_2, w_3⟩ : (¬ (ρ 30 < 0)) ∧ (¬ (ρ 30 ≥ ρ 10)) ∧ (¬ (ρ 29 ≥ 2000)) ∧ (¬ (ρ 30 < ρ 31)) := ⟨by omega, by omega, by omega, by omega⟩
  have m4 : γ 0 6 0 7 = ρ 4 := zAllA hm 4
  have m10 : γ 0 6 0 11 = ρ 10 := zAllA hm 10
  have m11 : γ 0 6 0 12 = ρ 11 := zAllA hm 11
  have m33 : γ 1 6 0 13 = ρ 37 := zAllA hm 33
  have l0 : sn225 [9 * ρ 4 + 7, ρ 30, ρ 19, ρ 20] (γ 1) 0 1 (γ 2) := hS225 _ _ _ _ _ (zAllA hl 0)
  have l1 : sn232 [9 * ρ 4 + 7, ρ 30, ρ 33, ρ 22] (γ 2) 4 0 (γ 3) := hS232 _ _ _ _ _ (zAllA hl 1)
  show sn248 [ρ 0, ρ 1, ρ 2, ρ 3, ρ 4, ρ 5, ρ 6, ρ 7, ρ 8, ρ 9, ρ 10, ρ 11, ρ 12, ρ 13, ρ 14, ρ 15, ρ 16, ρ 17, ρ 18, ρ 19, ρ 20, ρ 21, ρ 22, ρ 23, ρ 24, ρ 25, ρ 26, ρ 27, ρ 28] (γ 0) 4 0 (γ 3)
  have hD : en248 (γ 0) (0, [ρ 29, ρ 30, ρ 31, ρ 32], γ 1) = .inr (4, 0, γ 3) := by
    unfold en248
    refine zIP (show (0 : Nat) = 0 by decide) (zLV (γ 1) rfl (zLV (ρ 29) rfl (zLV (ρ 30) rfl (zLV (ρ 31) rfl (zLV (ρ 32) rfl (zLE m4 (zLE m10 ?_)))))))
    refine zLE m11 (zLE m33 (zIN w_0 (zIN w_1 (zIN w_2 (zIN w_3 (zLE (show fn225 [9 * ρ 4 + 7, ρ 30] (γ 1) = (0, 1, γ 2) from l0.symm) (zLV (γ 2) rfl ?_)))))))
    refine zIP zQ1_ (zLE (show fn232 [9 * ρ 4 + 7, ρ 30] (γ 2) = (4, 0, γ 3) from l1.symm) (zLV (γ 3) rfl (zIN (show ¬ (4 : Nat) = 0 by decide) ?_)))
    rfl
  exact zGoo_aend hJ hD
theorem yn248 {S : Nat → zSpc} (hS225 : zIm S 225 sn225) (hS226 : zIm S 226 sn226) (hS227 : zIm S 227 sn227) (hS232 : zIm S 232 sn232) (hS247 : zIm S 247 sn247) : ∀ x g o v gz, zSem uW uT w248_.2.2.2.1 w248_.2.2.1.1.length S q248 (fun i => q248a.getD i []) (zNA a248_) x g o v gz → sn248 x g o v gz := by
  intro a g o v gz h
  exact zSem_all (l0 := q248) (las := q248a) (S := S) (J := (fun i vs g1 => jn248 a g i vs g1)) (P := sn248 a g) (fun _ => (show zAll _ [q248_0, q248_1, q248_2, q248_3] from (zAll_c (vn248_0 hS225 hS226 hS227 hS232 hS247) (zAll_c (vn248_1 hS225 hS226 hS227 hS232 hS247) (zAll_c (vn248_2 hS225 hS226 hS227 hS232 hS247) (zAll_c (vn248_3 hS225 hS226 hS227 hS232 hS247) zAll_n)))))) (fun _ => (show zAllI _ 0 [q248a0] from ⟨(show zAll _ [q248a0_0, q248a0_1, q248a0_2, q248a0_3, q248a0_4, q248a0_5, q248a0_6, q248a0_7, q248a0_8, q248a0_9, q248a0_10, q248a0_11] from (zAll_c (vn248a0_0 hS225 hS226 hS227 hS232 hS247) (zAll_c (vn248a0_1 hS225 hS226 hS227 hS232 hS247) (zAll_c (vn248a0_2 hS225 hS226 hS227 hS232 hS247) (zAll_c (vn248a0_3 hS225 hS226 hS227 hS232 hS247) (zAll_c (vn248a0_4 hS225 hS226 hS227 hS232 hS247) (zAll_c (vn248a0_5 hS225 hS226 hS227 hS232 hS247) (zAll_c (vn248a0_6 hS225 hS226 hS227 hS232 hS247) (zAll_c (vn248a0_7 hS225 hS226 hS227 hS232 hS247) (zAll_c (vn248a0_8 hS225 hS226 hS227 hS232 hS247) (zAll_c (vn248a0_9 hS225 hS226 hS227 hS232 hS247) (zAll_c (vn248a0_10 hS225 hS226 hS227 hS232 hS247) (zAll_c (vn248a0_11 hS225 hS226 hS227 hS232 hS247) zAll_n))))))))))))), trivial⟩)) h
theorem vn249_0 {S : Nat → zSpc} (hS132 : zIm S 132 sn132) (hS228 : zIm S 228 sn228) (hS229 : zIm S 229 sn229) (hS230 : zIm S 230 sn230) (hS231 : zIm S 231 sn231) (hS244 : zIm S 244 sn244) (hS247 : zIm S 247 sn247) (hS248 : zIm S 248 sn248) {a : List Int} {g : rHp} : ∀ (ρ : Nat → Int) (γ : Nat → rHp), zO 31 S a g q249_0 ρ γ → zGl (fun _ _ _ => True) (sn249 a g) q249_0 ρ γ := by
  intro ρ γ h
  obtain ⟨ha, hg, hr, hf, hm, hc, hl⟩ := h
  have ha : a = [ρ 0, ρ 1, ρ 2, ρ 3, ρ 4, ρ 5, ρ 6, ρ 7, ρ 8, ρ 9, ρ 10, ρ 11, ρ 12, ρ 13, ρ 14, ρ 15, ρ 16, ρ 17, ρ 18, ρ 19, ρ 20, ρ 21, ρ 22, ρ 23, ρ 24, ρ 25, ρ 26, ρ 27, ρ 28, ρ 29, ρ 30] := ha
  subst ha
  subst hg
  have r13 : (0 : Int) ≤ ρ 13 ∧ ρ 13 ≤ 6 := zRnA hr 13
  have w_0 : 6 ≥ ρ 13 := by omega
  have m4 : γ 0 6 0 7 = ρ 4 := zAllA hm 4
  have m13 : γ 0 9 (ρ 4) 2 = ρ 13 := zAllA hm 13
  have m19 : γ 0 10 (9 * ρ 4 + 7) 4 = ρ 19 := zAllA hm 19
  have l0 : sn244 [ρ 0, ρ 1, ρ 2, ρ 3, ρ 4, ρ 6, ρ 7, ρ 8, ρ 9, ρ 14, ρ 15, ρ 16, ρ 17, ρ 18] (γ 0) 0 0 (γ 1) := hS244 _ _ _ _ _ (zAllA hl 0)
  show sn249 [ρ 0, ρ 1, ρ 2, ρ 3, ρ 4, ρ 5, ρ 6, ρ 7, ρ 8, ρ 9, ρ 10, ρ 11, ρ 12, ρ 13, ρ 14, ρ 15, ρ 16, ρ 17, ρ 18, ρ 19, ρ 20, ρ 21, ρ 22, ρ 23, ρ 24, ρ 25, ρ 26, ρ 27, ρ 28, ρ 29, ρ 30] (γ 0) 0 0 (γ 1)
  refine Eq.symm ?_
  show fn249 [] (γ 0) = _
  unfold fn249
  refine zLE m4 (zLE m13 (zLE m19 (zIP w_0 (zLE (show fn244 [] (γ 0) = (0, 0, γ 1) from l0.symm) (zLV (γ 1) rfl (zIP (show (0 : Nat) = 0 by decide) ?_))))))
  rfl
theorem vn249_1 {S : Nat → zSpc} (hS132 : zIm S 132 sn132) (hS228 : zIm S 228 sn228) (hS229 : zIm S 229 sn229) (hS230 : zIm S 230 sn230) (hS231 : zIm S 231 sn231) (hS244 : zIm S 244 sn244) (hS247 : zIm S 247 sn247) (hS248 : zIm S 248 sn248) {a : List Int} {g : rHp} : ∀ (ρ : Nat → Int) (γ : Nat → rHp), zO 31 S a g q249_1 ρ γ → zGl (fun _ _ _ => True) (sn249 a g) q249_1 ρ γ := by
  intro ρ γ h
  obtain ⟨ha, hg, hr, hf, hm, hc, hl⟩ := h
  have ha : a = [ρ 0, ρ 1, ρ 2, ρ 3, ρ 4, ρ 5, ρ 6, ρ 7, ρ 8, ρ 9, ρ 10, ρ 11, ρ 12, ρ 13, ρ 14, ρ 15, ρ 16, ρ 17, ρ 18, ρ 19, ρ 20, ρ 21, ρ 22, ρ 23, ρ 24, ρ 25, ρ 26, ρ 27, ρ 28, ρ 29, ρ 30] := ha
  subst ha
  subst hg
  have r13 : (0 : Int) ≤ ρ 13 ∧ ρ 13 ≤ 6 := zRnA hr 13
  have w_0 : 6 ≥ ρ 13 := by omega
  have m4 : γ 0 6 0 7 = ρ 4 := zAllA hm 4
  have m13 : γ 0 9 (ρ 4) 2 = ρ 13 := zAllA hm 13
  have m19 : γ 0 10 (9 * ρ 4 + 7) 4 = ρ 19 := zAllA hm 19
  have l0 : sn244 [ρ 0, ρ 1, ρ 2, ρ 3, ρ 4, ρ 6, ρ 7, ρ 8, ρ 9, ρ 14, ρ 15, ρ 16, ρ 17, ρ 18] (γ 0) 1 0 (γ 1) := hS244 _ _ _ _ _ (zAllA hl 0)
  show sn249 [ρ 0, ρ 1, ρ 2, ρ 3, ρ 4, ρ 5, ρ 6, ρ 7, ρ 8, ρ 9, ρ 10, ρ 11, ρ 12, ρ 13, ρ 14, ρ 15, ρ 16, ρ 17, ρ 18, ρ 19, ρ 20, ρ 21, ρ 22, ρ 23, ρ 24, ρ 25, ρ 26, ρ 27, ρ 28, ρ 29, ρ 30] (γ 0) 1 0 (γ 1)
  refine Eq.symm ?_
  show fn249 [] (γ 0) = _
  unfold fn249
  refine zLE m4 (zLE m13 (zLE m19 (zIP w_0 (zLE (show fn244 [] (γ 0) = (1, 0, γ 1) from l0.symm) (zLV (γ 1) rfl (zIN (show ¬ (1 : Nat) = 0 by decide) ?_))))))
  rfl
theorem vn249_2 {S : Nat → zSpc} (hS132 : zIm S 132 sn132) (hS228 : zIm S 228 sn228) (hS229 : zIm S 229 sn229) (hS230 : zIm S 230 sn230) (hS231 : zIm S 231 sn231) (hS244 : zIm S 244 sn244) (hS247 : zIm S 247 sn247) (hS248 : zIm S 248 sn248) {a : List Int} {g : rHp} : ∀ (ρ : Nat → Int) (γ : Nat → rHp), zO 31 S a g q249_2 ρ γ → zGl (fun _ _ _ => True) (sn249 a g) q249_2 ρ γ := by
  intro ρ γ h
  obtain ⟨ha, hg, hr, hf, hm, hc, hl⟩ := h
  have ha : a = [ρ 0, ρ 1, ρ 2, ρ 3, ρ 4, ρ 5, ρ 6, ρ 7, ρ 8, ρ 9, ρ 10, ρ 11, ρ 12, ρ 13, ρ 14, ρ 15, ρ 16, ρ 17, ρ 18, ρ 19, ρ 20, ρ 21, ρ 22, ρ 23, ρ 24, ρ 25, ρ 26, ρ 27, ρ 28, ρ 29, ρ 30] := ha
  subst ha
  subst hg
  have r13 : (7 : Int) ≤ ρ 13 ∧ ρ 13 ≤ 8 := zRnA hr 13
  have r19 : (3 : Int) ≤ ρ 19 ∧ ρ 19 ≤ 3 := zRnA hr 19
  obtain ⟨w_0, w_1, w_2, w_3⟩ : (¬ (6 ≥ ρ 13)) ∧ (ρ 19 ≠ 1) ∧ (0 ≤ -ρ 19 + 3) ∧ (ρ 19 ≠ 2) := ⟨by omega, by omega, by omega, by omega⟩
  have m4 : γ 0 6 0 7 = ρ 4 := zAllA hm 4
  have m13 : γ 0 9 (ρ 4) 2 = ρ 13 := zAllA hm 13
  have m19 : γ 0 10 (9 * ρ 4 + 7) 4 = ρ 19 := zAllA hm 19
  have l0 : sn132 [ρ 4, 6] (γ 0) 0 (9 * ρ 4 + 7) (γ 1) := hS132 _ _ _ _ _ (zAllA hl 0)
  have l1 : sn230 [9 * ρ 4 + 7, ρ 19] (γ 1) 0 0 (γ 2) := hS230 _ _ _ _ _ (zAllA hl 1)
  show sn249 [ρ 0, ρ 1, ρ 2, ρ 3, ρ 4, ρ 5, ρ 6, ρ 7, ρ 8, ρ 9, ρ 10, ρ 11, ρ 12, ρ 13, ρ 14, ρ 15, ρ 16, ρ 17, ρ 18, ρ 19, ρ 20, ρ 21, ρ 22, ρ 23, ρ 24, ρ 25, ρ 26, ρ 27, ρ 28, ρ 29, ρ 30] (γ 0) 0 0 (γ 2)
  refine Eq.symm ?_
  show fn249 [] (γ 0) = _
  unfold fn249
  refine zLE m4 (zLE m13 (zLE m19 (zIN w_0 (zLE (show fn132 [ρ 4, 6] (γ 0) = (0, 9 * ρ 4 + 7, γ 1) from l0.symm) (zLV (γ 1) rfl (zIP w_1 (zIP w_2 ?_)))))))
  refine zIP w_3 (zLE (show fn230 [9 * ρ 4 + 7] (γ 1) = (0, 0, γ 2) from l1.symm) (zLV (γ 2) rfl (zIN zQ0_ ?_)))
  rfl
theorem vn249_3 {S : Nat → zSpc} (hS132 : zIm S 132 sn132) (hS228 : zIm S 228 sn228) (hS229 : zIm S 229 sn229) (hS230 : zIm S 230 sn230) (hS231 : zIm S 231 sn231) (hS244 : zIm S 244 sn244) (hS247 : zIm S 247 sn247) (hS248 : zIm S 248 sn248) {a : List Int} {g : rHp} : ∀ (ρ : Nat → Int) (γ : Nat → rHp), zO 31 S a g q249_3 ρ γ → zGl (fun _ _ _ => True) (sn249 a g) q249_3 ρ γ := by
  intro ρ γ h
  obtain ⟨ha, hg, hr, hf, hm, hc, hl⟩ := h
  have ha : a = [ρ 0, ρ 1, ρ 2, ρ 3, ρ 4, ρ 5, ρ 6, ρ 7, ρ 8, ρ 9, ρ 10, ρ 11, ρ 12, ρ 13, ρ 14, ρ 15, ρ 16, ρ 17, ρ 18, ρ 19, ρ 20, ρ 21, ρ 22, ρ 23, ρ 24, ρ 25, ρ 26, ρ 27, ρ 28, ρ 29, ρ 30] := ha
  subst ha
  subst hg
  have r13 : (7 : Int) ≤ ρ 13 ∧ ρ 13 ≤ 8 := zRnA hr 13
  have r19 : (3 : Int) ≤ ρ 19 ∧ ρ 19 ≤ 3 := zRnA hr 19
  obtain ⟨w_0, w_1, w_2, w_3⟩ : (¬ (6 ≥ ρ 13)) ∧ (ρ 19 ≠ 1) ∧ (0 ≤ -ρ 19 + 3) ∧ (ρ 19 ≠ 2) := ⟨by omega, by omega, by omega, by omega⟩
  have m4 : γ 0 6 0 7 = ρ 4 := zAllA hm 4
  have m13 : γ 0 9 (ρ 4) 2 = ρ 13 := zAllA hm 13
  have m19 : γ 0 10 (9 * ρ 4 + 7) 4 = ρ 19 := zAllA hm 19
  have l0 : sn132 [ρ 4, 6] (γ 0) 0 (9 * ρ 4 + 7) (γ 1) := hS132 _ _ _ _ _ (zAllA hl 0)
  have l1 : sn230 [9 * ρ 4 + 7, ρ 19] (γ 1) 0 1 (γ 2) := hS230 _ _ _ _ _ (zAllA hl 1)
  have l2 : sn247 [ρ 0, ρ 1, ρ 2, ρ 3, ρ 4, ρ 5, ρ 6, ρ 7, ρ 8, ρ 9, ρ 10, ρ 11, ρ 12, ρ 13, ρ 14, ρ 15, ρ 16, ρ 17, ρ 18, ρ 25, ρ 26, ρ 27, ρ 28, ρ 29, ρ 30] (γ 2) 0 0 (γ 3) := hS247 _ _ _ _ _ (zAllA hl 2)
  show sn249 [ρ 0, ρ 1, ρ 2, ρ 3, ρ 4, ρ 5, ρ 6, ρ 7, ρ 8, ρ 9, ρ 10, ρ 11, ρ 12, ρ 13, ρ 14, ρ 15, ρ 16, ρ 17, ρ 18, ρ 19, ρ 20, ρ 21, ρ 22, ρ 23, ρ 24, ρ 25, ρ 26, ρ 27, ρ 28, ρ 29, ρ 30] (γ 0) 0 0 (γ 3)
  refine Eq.symm ?_
  show fn249 [] (γ 0) = _
  unfold fn249
  refine zLE m4 (zLE m13 (zLE m19 (zIN w_0 (zLE (show fn132 [ρ 4, 6] (γ 0) = (0, 9 * ρ 4 + 7, γ 1) from l0.symm) (zLV (γ 1) rfl (zIP w_1 (zIP w_2 ?_)))))))
  refine zIP w_3 (zLE (show fn230 [9 * ρ 4 + 7] (γ 1) = (0, 1, γ 2) from l1.symm) (zLV (γ 2) rfl (zIP zQ1_ (zLE (show fn247 [] (γ 2) = (0, 0, γ 3) from l2.symm) (zLV (γ 3) rfl (zIP (show (0 : Nat) = 0 by decide) ?_))))))
  rfl
theorem vn249_4 {S : Nat → zSpc} (hS132 : zIm S 132 sn132) (hS228 : zIm S 228 sn228) (hS229 : zIm S 229 sn229) (hS230 : zIm S 230 sn230) (hS231 : zIm S 231 sn231) (hS244 : zIm S 244 sn244) (hS247 : zIm S 247 sn247) (hS248 : zIm S 248 sn248) {a : List Int} {g : rHp} : ∀ (ρ : Nat → Int) (γ : Nat → rHp), zO 31 S a g q249_4 ρ γ → zGl (fun _ _ _ => True) (sn249 a g) q249_4 ρ γ := by
  intro ρ γ h
  obtain ⟨ha, hg, hr, hf, hm, hc, hl⟩ := h
  have ha : a = [ρ 0, ρ 1, ρ 2, ρ 3, ρ 4, ρ 5, ρ 6, ρ 7, ρ 8, ρ 9, ρ 10, ρ 11, ρ 12, ρ 13, ρ 14, ρ 15, ρ 16, ρ 17, ρ 18, ρ 19, ρ 20, ρ 21, ρ 22, ρ 23, ρ 24, ρ 25, ρ 26, ρ 27, ρ 28, ρ 29, ρ 30] := ha
  subst ha
  subst hg
  have r13 : (7 : Int) ≤ ρ 13 ∧ ρ 13 ≤ 8 := zRnA hr 13
  have r19 : (3 : Int) ≤ ρ 19 ∧ ρ 19 ≤ 3 := zRnA hr 19
  obtain ⟨w_0, w_1, w_2, w_3⟩ : (¬ (6 ≥ ρ 13)) ∧ (ρ 19 ≠ 1) ∧ (0 ≤ -ρ 19 + 3) ∧ (ρ 19 ≠ 2) := ⟨by omega, by omega, by omega, by omega⟩
  have m4 : γ 0 6 0 7 = ρ 4 := zAllA hm 4
  have m13 : γ 0 9 (ρ 4) 2 = ρ 13 := zAllA hm 13
  have m19 : γ 0 10 (9 * ρ 4 + 7) 4 = ρ 19 := zAllA hm 19
  have l0 : sn132 [ρ 4, 6] (γ 0) 0 (9 * ρ 4 + 7) (γ 1) := hS132 _ _ _ _ _ (zAllA hl 0)
  have l1 : sn230 [9 * ρ 4 + 7, ρ 19] (γ 1) 0 1 (γ 2) := hS230 _ _ _ _ _ (zAllA hl 1)
  have l2 : sn247 [ρ 0, ρ 1, ρ 2, ρ 3, ρ 4, ρ 5, ρ 6, ρ 7, ρ 8, ρ 9, ρ 10, ρ 11, ρ 12, ρ 13, ρ 14, ρ 15, ρ 16, ρ 17, ρ 18, ρ 25, ρ 26, ρ 27, ρ 28, ρ 29, ρ 30] (γ 2) 1 0 (γ 3) := hS247 _ _ _ _ _ (zAllA hl 2)
  show sn249 [ρ 0, ρ 1, ρ 2, ρ 3, ρ 4, ρ 5, ρ 6, ρ 7, ρ 8, ρ 9, ρ 10, ρ 11, ρ 12, ρ 13, ρ 14, ρ 15, ρ 16, ρ 17, ρ 18, ρ 19, ρ 20, ρ 21, ρ 22, ρ 23, ρ 24, ρ 25, ρ 26, ρ 27, ρ 28, ρ 29, ρ 30] (γ 0) 1 0 (γ 3)
  refine Eq.symm ?_
  show fn249 [] (γ 0) = _
  unfold fn249
  refine zLE m4 (zLE m13 (zLE m19 (zIN w_0 (zLE (show fn132 [ρ 4, 6] (γ 0) = (0, 9 * ρ 4 + 7, γ 1) from l0.symm) (zLV (γ 1) rfl (zIP w_1 (zIP w_2 ?_)))))))
  refine zIP w_3 (zLE (show fn230 [9 * ρ 4 + 7] (γ 1) = (0, 1, γ 2) from l1.symm) (zLV (γ 2) rfl (zIP zQ1_ (zLE (show fn247 [] (γ 2) = (1, 0, γ 3) from l2.symm) (zLV (γ 3) rfl (zIN (show ¬ (1 : Nat) = 0 by decide) (zIP (show (1 : Nat) = 1 by decide) ?_)))))))
  rfl
theorem vn249_5 {S : Nat → zSpc} (hS132 : zIm S 132 sn132) (hS228 : zIm S 228 sn228) (hS229 : zIm S 229 sn229) (hS230 : zIm S 230 sn230) (hS231 : zIm S 231 sn231) (hS244 : zIm S 244 sn244) (hS247 : zIm S 247 sn247) (hS248 : zIm S 248 sn248) {a : List Int} {g : rHp} : ∀ (ρ : Nat → Int) (γ : Nat → rHp), zO 31 S a g q249_5 ρ γ → zGl (fun _ _ _ => True) (sn249 a g) q249_5 ρ γ := by
  intro ρ γ h
  obtain ⟨ha, hg, hr, hf, hm, hc, hl⟩ := h
  have ha : a = [ρ 0, ρ 1, ρ 2, ρ 3, ρ 4, ρ 5, ρ 6, ρ 7, ρ 8, ρ 9, ρ 10, ρ 11, ρ 12, ρ 13, ρ 14, ρ 15, ρ 16, ρ 17, ρ 18, ρ 19, ρ 20, ρ 21, ρ 22, ρ 23, ρ 24, ρ 25, ρ 26, ρ 27, ρ 28, ρ 29, ρ 30] := ha
  subst ha
  subst hg
  have r13 : (8 : Int) ≤ ρ 13 ∧ ρ 13 ≤ 8 := zRnA hr 13
  have r19 : (3 : Int) ≤ ρ 19 ∧ ρ 19 ≤ 3 := zRnA hr 19
  obtain ⟨w_0, w_1, w_2, w_3⟩ : (¬ (6 ≥ ρ 13)) ∧ (ρ 19 ≠ 1) ∧ (0 ≤ -ρ 19 + 3) ∧ (ρ 19 ≠ 2) := ⟨by omega, by omega, by omega, by omega⟩
  have m4 : γ 0 6 0 7 = ρ 4 := zAllA hm 4
  have m13 : γ 0 9 (ρ 4) 2 = ρ 13 := zAllA hm 13
  have m19 : γ 0 10 (9 * ρ 4 + 7) 4 = ρ 19 := zAllA hm 19
  have l0 : sn132 [ρ 4, 6] (γ 0) 0 (9 * ρ 4 + 7) (γ 1) := hS132 _ _ _ _ _ (zAllA hl 0)
  have l1 : sn230 [9 * ρ 4 + 7, ρ 19] (γ 1) 0 1 (γ 2) := hS230 _ _ _ _ _ (zAllA hl 1)
  have l2 : sn247 [ρ 0, ρ 1, ρ 2, ρ 3, ρ 4, ρ 5, ρ 6, ρ 7, ρ 8, ρ 9, ρ 10, ρ 11, ρ 12, ρ 13, ρ 14, ρ 15, ρ 16, ρ 17, ρ 18, ρ 25, ρ 26, ρ 27, ρ 28, ρ 29, ρ 30] (γ 2) 4 0 (γ 3) := hS247 _ _ _ _ _ (zAllA hl 2)
  show sn249 [ρ 0, ρ 1, ρ 2, ρ 3, ρ 4, ρ 5, ρ 6, ρ 7, ρ 8, ρ 9, ρ 10, ρ 11, ρ 12, ρ 13, ρ 14, ρ 15, ρ 16, ρ 17, ρ 18, ρ 19, ρ 20, ρ 21, ρ 22, ρ 23, ρ 24, ρ 25, ρ 26, ρ 27, ρ 28, ρ 29, ρ 30] (γ 0) 4 0 (γ 3)
  refine Eq.symm ?_
  show fn249 [] (γ 0) = _
  unfold fn249
  refine zLE m4 (zLE m13 (zLE m19 (zIN w_0 (zLE (show fn132 [ρ 4, 6] (γ 0) = (0, 9 * ρ 4 + 7, γ 1) from l0.symm) (zLV (γ 1) rfl (zIP w_1 (zIP w_2 ?_)))))))
  refine zIP w_3 (zLE (show fn230 [9 * ρ 4 + 7] (γ 1) = (0, 1, γ 2) from l1.symm) (zLV (γ 2) rfl (zIP zQ1_ (zLE (show fn247 [] (γ 2) = (4, 0, γ 3) from l2.symm) (zLV (γ 3) rfl (zIN (show ¬ (4 : Nat) = 0 by decide) (zIN (show ¬ (4 : Nat) = 1 by decide) ?_)))))))
  rfl
theorem vn249_6 {S : Nat → zSpc} (hS132 : zIm S 132 sn132) (hS228 : zIm S 228 sn228) (hS229 : zIm S 229 sn229) (hS230 : zIm S 230 sn230) (hS231 : zIm S 231 sn231) (hS244 : zIm S 244 sn244) (hS247 : zIm S 247 sn247) (hS248 : zIm S 248 sn248) {a : List Int} {g : rHp} : ∀ (ρ : Nat → Int) (γ : Nat → rHp), zO 31 S a g q249_6 ρ γ → zGl (fun _ _ _ => True) (sn249 a g) q249_6 ρ γ := by
  intro ρ γ h
  obtain ⟨ha, hg, hr, hf, hm, hc, hl⟩ := h
  have ha : a = [ρ 0, ρ 1, ρ 2, ρ 3, ρ 4, ρ 5, ρ 6, ρ 7, ρ 8, ρ 9, ρ 10, ρ 11, ρ 12, ρ 13, ρ 14, ρ 15, ρ 16, ρ 17, ρ 18, ρ 19, ρ 20, ρ 21, ρ 22, ρ 23, ρ 24, ρ 25, ρ 26, ρ 27, ρ 28, ρ 29, ρ 30] := ha
  subst ha
  subst hg
  have r13 : (7 : Int) ≤ ρ 13 ∧ ρ 13 ≤ 8 := zRnA hr 13
  have r19 : (2 : Int) ≤ ρ 19 ∧ ρ 19 ≤ 2 := zRnA hr 19
  obtain ⟨w_0, w_1, w_2, w_3⟩ : (¬ (6 ≥ ρ 13)) ∧ (ρ 19 ≠ 1) ∧ (0 ≤ -ρ 19 + 3) ∧ (¬ (ρ 19 ≠ 2)) := ⟨by omega, by omega, by omega, by omega⟩
  have m4 : γ 0 6 0 7 = ρ 4 := zAllA hm 4
  have m13 : γ 0 9 (ρ 4) 2 = ρ 13 := zAllA hm 13
  have m19 : γ 0 10 (9 * ρ 4 + 7) 4 = ρ 19 := zAllA hm 19
  have l0 : sn132 [ρ 4, 6] (γ 0) 0 (9 * ρ 4 + 7) (γ 1) := hS132 _ _ _ _ _ (zAllA hl 0)
  have l1 : sn228 [9 * ρ 4 + 7, ρ 6, ρ 10, ρ 20, ρ 21, ρ 22] (γ 1) 0 0 (γ 2) := hS228 _ _ _ _ _ (zAllA hl 1)
  have l2 : sn247 [ρ 0, ρ 1, ρ 2, ρ 3, ρ 4, ρ 5, ρ 6, ρ 7, ρ 8, ρ 9, ρ 10, ρ 11, ρ 12, ρ 13, ρ 14, ρ 15, ρ 16, ρ 17, ρ 18, ρ 25, ρ 26, ρ 27, ρ 28, ρ 29, ρ 30] (γ 2) 0 0 (γ 3) := hS247 _ _ _ _ _ (zAllA hl 2)
  show sn249 [ρ 0, ρ 1, ρ 2, ρ 3, ρ 4, ρ 5, ρ 6, ρ 7, ρ 8, ρ 9, ρ 10, ρ 11, ρ 12, ρ 13, ρ 14, ρ 15, ρ 16, ρ 17, ρ 18, ρ 19, ρ 20, ρ 21, ρ 22, ρ 23, ρ 24, ρ 25, ρ 26, ρ 27, ρ 28, ρ 29, ρ 30] (γ 0) 0 0 (γ 3)
  refine Eq.symm ?_
  show fn249 [] (γ 0) = _
  unfold fn249
  refine zLE m4 (zLE m13 (zLE m19 (zIN w_0 (zLE (show fn132 [ρ 4, 6] (γ 0) = (0, 9 * ρ 4 + 7, γ 1) from l0.symm) (zLV (γ 1) rfl (zIP w_1 (zIP w_2 ?_)))))))
  refine zIN w_3 (zLE (show fn228 [9 * ρ 4 + 7] (γ 1) = (0, 0, γ 2) from l1.symm) (zLV (γ 2) rfl (zIN zQ0_ (zLE (show fn247 [] (γ 2) = (0, 0, γ 3) from l2.symm) (zLV (γ 3) rfl (zIP (show (0 : Nat) = 0 by decide) ?_))))))
  rfl
theorem vn249_7 {S : Nat → zSpc} (hS132 : zIm S 132 sn132) (hS228 : zIm S 228 sn228) (hS229 : zIm S 229 sn229) (hS230 : zIm S 230 sn230) (hS231 : zIm S 231 sn231) (hS244 : zIm S 244 sn244) (hS247 : zIm S 247 sn247) (hS248 : zIm S 248 sn248) {a : List Int} {g : rHp} : ∀ (ρ : Nat → Int) (γ : Nat → rHp), zO 31 S a g q249_7 ρ γ → zGl (fun _ _ _ => True) (sn249 a g) q249_7 ρ γ := by
  intro ρ γ h
  obtain ⟨ha, hg, hr, hf, hm, hc, hl⟩ := h
  have ha : a = [ρ 0, ρ 1, ρ 2, ρ 3, ρ 4, ρ 5, ρ 6, ρ 7, ρ 8, ρ 9, ρ 10, ρ 11, ρ 12, ρ 13, ρ 14, ρ 15, ρ 16, ρ 17, ρ 18, ρ 19, ρ 20, ρ 21, ρ 22, ρ 23, ρ 24, ρ 25, ρ 26, ρ 27, ρ 28, ρ 29, ρ 30] := ha
  subst ha
  subst hg
  have r13 : (7 : Int) ≤ ρ 13 ∧ ρ 13 ≤ 8 := zRnA hr 13
  have r19 : (2 : Int) ≤ ρ 19 ∧ ρ 19 ≤ 2 := zRnA hr 19
  obtain ⟨w_0, w_1, w_2, w_3⟩ : (¬ (6 ≥ ρ 13)) ∧ (ρ 19 ≠ 1) ∧ (0 ≤ -ρ 19 + 3) ∧ (¬ (ρ 19 ≠ 2)) := ⟨by omega, by omega, by omega, by omega⟩
  have m4 : γ 0 6 0 7 = ρ 4 := zAllA hm 4
  have m13 : γ 0 9 (ρ 4) 2 = ρ 13 := zAllA hm 13
  have m19 : γ 0 10 (9 * ρ 4 + 7) 4 = ρ 19 := zAllA hm 19
  have l0 : sn132 [ρ 4, 6] (γ 0) 0 (9 * ρ 4 + 7) (γ 1) := hS132 _ _ _ _ _ (zAllA hl 0)
  have l1 : sn228 [9 * ρ 4 + 7, ρ 6, ρ 10, ρ 20, ρ 21, ρ 22] (γ 1) 0 0 (γ 2) := hS228 _ _ _ _ _ (zAllA hl 1)
  have l2 : sn247 [ρ 0, ρ 1, ρ 2, ρ 3, ρ 4, ρ 5, ρ 6, ρ 7, ρ 8, ρ 9, ρ 10, ρ 11, ρ 12, ρ 13, ρ 14, ρ 15, ρ 16, ρ 17, ρ 18, ρ 25, ρ 26, ρ 27, ρ 28, ρ 29, ρ 30] (γ 2) 1 0 (γ 3) := hS247 _ _ _ _ _ (zAllA hl 2)
  show sn249 [ρ 0, ρ 1, ρ 2, ρ 3, ρ 4, ρ 5, ρ 6, ρ 7, ρ 8, ρ 9, ρ 10, ρ 11, ρ 12, ρ 13, ρ 14, ρ 15, ρ 16, ρ 17, ρ 18, ρ 19, ρ 20, ρ 21, ρ 22, ρ 23, ρ 24, ρ 25, ρ 26, ρ 27, ρ 28, ρ 29, ρ 30] (γ 0) 1 0 (γ 3)
  refine Eq.symm ?_
  show fn249 [] (γ 0) = _
  unfold fn249
  refine zLE m4 (zLE m13 (zLE m19 (zIN w_0 (zLE (show fn132 [ρ 4, 6] (γ 0) = (0, 9 * ρ 4 + 7, γ 1) from l0.symm) (zLV (γ 1) rfl (zIP w_1 (zIP w_2 ?_)))))))
  refine zIN w_3 (zLE (show fn228 [9 * ρ 4 + 7] (γ 1) = (0, 0, γ 2) from l1.symm) (zLV (γ 2) rfl (zIN zQ0_ (zLE (show fn247 [] (γ 2) = (1, 0, γ 3) from l2.symm) (zLV (γ 3) rfl (zIN (show ¬ (1 : Nat) = 0 by decide) (zIP (show (1 : Nat) = 1 by decide) ?_)))))))
  rfl
theorem vn249_8 {S : Nat → zSpc} (hS132 : zIm S 132 sn132) (hS228 : zIm S 228 sn228) (hS229 : zIm S 229 sn229) (hS230 : zIm S 230 sn230) (hS231 : zIm S 231 sn231) (hS244 : zIm S 244 sn244) (hS247 : zIm S 247 sn247) (hS248 : zIm S 248 sn248) {a : List Int} {g : rHp} : ∀ (ρ : Nat → Int) (γ : Nat → rHp), zO 31 S a g q249_8 ρ γ → zGl (fun _ _ _ => True) (sn249 a g) q249_8 ρ γ := by
  intro ρ γ h
  obtain ⟨ha, hg, hr, hf, hm, hc, hl⟩ := h
  have ha : a = [ρ 0, ρ 1, ρ 2, ρ 3, ρ 4, ρ 5, ρ 6, ρ 7, ρ 8, ρ 9, ρ 10, ρ 11, ρ 12, ρ 13, ρ 14, ρ 15, ρ 16, ρ 17, ρ 18, ρ 19, ρ 20, ρ 21, ρ 22, ρ 23, ρ 24, ρ 25, ρ 26, ρ 27, ρ 28, ρ 29, ρ 30] := ha
  subst ha
  subst hg
  have r13 : (8 : Int) ≤ ρ 13 ∧ ρ 13 ≤ 8 := zRnA hr 13
  have r19 : (2 : Int) ≤ ρ 19 ∧ ρ 19 ≤ 2 := zRnA hr 19
  obtain ⟨w_0, w_1, w_2, w_3⟩ : (¬ (6 ≥ ρ 13)) ∧ (ρ 19 ≠ 1) ∧ (0 ≤ -ρ 19 + 3) ∧ (¬ (ρ 19 ≠ 2)) := ⟨by omega, by omega, by omega, by omega⟩
  have m4 : γ 0 6 0 7 = ρ 4 := zAllA hm 4
  have m13 : γ 0 9 (ρ 4) 2 = ρ 13 := zAllA hm 13
  have m19 : γ 0 10 (9 * ρ 4 + 7) 4 = ρ 19 := zAllA hm 19
  have l0 : sn132 [ρ 4, 6] (γ 0) 0 (9 * ρ 4 + 7) (γ 1) := hS132 _ _ _ _ _ (zAllA hl 0)
  have l1 : sn228 [9 * ρ 4 + 7, ρ 6, ρ 10, ρ 20, ρ 21, ρ 22] (γ 1) 0 0 (γ 2) := hS228 _ _ _ _ _ (zAllA hl 1)
  have l2 : sn247 [ρ 0, ρ 1, ρ 2, ρ 3, ρ 4, ρ 5, ρ 6, ρ 7, ρ 8, ρ 9, ρ 10, ρ 11, ρ 12, ρ 13, ρ 14, ρ 15, ρ 16, ρ 17, ρ 18, ρ 25, ρ 26, ρ 27, ρ 28, ρ 29, ρ 30] (γ 2) 4 0 (γ 3) := hS247 _ _ _ _ _ (zAllA hl 2)
  show sn249 [ρ 0, ρ 1, ρ 2, ρ 3, ρ 4, ρ 5, ρ 6, ρ 7, ρ 8, ρ 9, ρ 10, ρ 11, ρ 12, ρ 13, ρ 14, ρ 15, ρ 16, ρ 17, ρ 18, ρ 19, ρ 20, ρ 21, ρ 22, ρ 23, ρ 24, ρ 25, ρ 26, ρ 27, ρ 28, ρ 29, ρ 30] (γ 0) 4 0 (γ 3)
  refine Eq.symm ?_
  show fn249 [] (γ 0) = _
  unfold fn249
  refine zLE m4 (zLE m13 (zLE m19 (zIN w_0 (zLE (show fn132 [ρ 4, 6] (γ 0) = (0, 9 * ρ 4 + 7, γ 1) from l0.symm) (zLV (γ 1) rfl (zIP w_1 (zIP w_2 ?_)))))))
  refine zIN w_3 (zLE (show fn228 [9 * ρ 4 + 7] (γ 1) = (0, 0, γ 2) from l1.symm) (zLV (γ 2) rfl (zIN zQ0_ (zLE (show fn247 [] (γ 2) = (4, 0, γ 3) from l2.symm) (zLV (γ 3) rfl (zIN (show ¬ (4 : Nat) = 0 by decide) (zIN (show ¬ (4 : Nat) = 1 by decide) ?_)))))))
  rfl
theorem vn249_9 {S : Nat → zSpc} (hS132 : zIm S 132 sn132) (hS228 : zIm S 228 sn228) (hS229 : zIm S 229 sn229) (hS230 : zIm S 230 sn230) (hS231 : zIm S 231 sn231) (hS244 : zIm S 244 sn244) (hS247 : zIm S 247 sn247) (hS248 : zIm S 248 sn248) {a : List Int} {g : rHp} : ∀ (ρ : Nat → Int) (γ : Nat → rHp), zO 31 S a g q249_9 ρ γ → zGl (fun _ _ _ => True) (sn249 a g) q249_9 ρ γ := by
  intro ρ γ h
  obtain ⟨ha, hg, hr, hf, hm, hc, hl⟩ := h
  have ha : a = [ρ 0, ρ 1, ρ 2, ρ 3, ρ 4, ρ 5, ρ 6, ρ 7, ρ 8, ρ 9, ρ 10, ρ 11, ρ 12, ρ 13, ρ 14, ρ 15, ρ 16, ρ 17, ρ 18, ρ 19, ρ 20, ρ 21, ρ 22, ρ 23, ρ 24, ρ 25, ρ 26, ρ 27, ρ 28, ρ 29, ρ 30] := ha
  subst ha
  subst hg
  have r13 : (7 : Int) ≤ ρ 13 ∧ ρ 13 ≤ 8 := zRnA hr 13
  have r19 : (2 : Int) ≤ ρ 19 ∧ ρ 19 ≤ 2 := zRnA hr 19
  obtain ⟨w_0, w_1, w_2, w_3⟩ : (¬ (6 ≥ ρ 13)) ∧ (ρ 19 ≠ 1) ∧ (0 ≤ -ρ 19 + 3) ∧ (¬ (ρ 19 ≠ 2)) := ⟨by omega, by omega, by omega, by omega⟩
  have m4 : γ 0 6 0 7 = ρ 4 := zAllA hm 4
  have m13 : γ 0 9 (ρ 4) 2 = ρ 13 := zAllA hm 13
  have m19 : γ 0 10 (9 * ρ 4 + 7) 4 = ρ 19 := zAllA hm 19
  have l0 : sn132 [ρ 4, 6] (γ 0) 0 (9 * ρ 4 + 7) (γ 1) := hS132 _ _ _ _ _ (zAllA hl 0)
  have l1 : sn228 [9 * ρ 4 + 7, ρ 6, ρ 10, ρ 20, ρ 21, ρ 22] (γ 1) 0 1 (γ 2) := hS228 _ _ _ _ _ (zAllA hl 1)
  show sn249 [ρ 0, ρ 1, ρ 2, ρ 3, ρ 4, ρ 5, ρ 6, ρ 7, ρ 8, ρ 9, ρ 10, ρ 11, ρ 12, ρ 13, ρ 14, ρ 15, ρ 16, ρ 17, ρ 18, ρ 19, ρ 20, ρ 21, ρ 22, ρ 23, ρ 24, ρ 25, ρ 26, ρ 27, ρ 28, ρ 29, ρ 30] (γ 0) 0 0 (γ 2)
  refine Eq.symm ?_
  show fn249 [] (γ 0) = _
  unfold fn249
  refine zLE m4 (zLE m13 (zLE m19 (zIN w_0 (zLE (show fn132 [ρ 4, 6] (γ 0) = (0, 9 * ρ 4 + 7, γ 1) from l0.symm) (zLV (γ 1) rfl (zIP w_1 (zIP w_2 ?_)))))))
  refine zIN w_3 (zLE (show fn228 [9 * ρ 4 + 7] (γ 1) = (0, 1, γ 2) from l1.symm) (zLV (γ 2) rfl (zIP zQ1_ ?_)))
  rfl
theorem vn249_10 {S : Nat → zSpc} (hS132 : zIm S 132 sn132) (hS228 : zIm S 228 sn228) (hS229 : zIm S 229 sn229) (hS230 : zIm S 230 sn230) (hS231 : zIm S 231 sn231) (hS244 : zIm S 244 sn244) (hS247 : zIm S 247 sn247) (hS248 : zIm S 248 sn248) {a : List Int} {g : rHp} : ∀ (ρ : Nat → Int) (γ : Nat → rHp), zO 31 S a g q249_10 ρ γ → zGl (fun _ _ _ => True) (sn249 a g) q249_10 ρ γ := by
  intro ρ γ h
  obtain ⟨ha, hg, hr, hf, hm, hc, hl⟩ := h
  have ha : a = [ρ 0, ρ 1, ρ 2, ρ 3, ρ 4, ρ 5, ρ 6, ρ 7, ρ 8, ρ 9, ρ 10, ρ 11, ρ 12, ρ 13, ρ 14, ρ 15, ρ 16, ρ 17, ρ 18, ρ 19, ρ 20, ρ 21, ρ 22, ρ 23, ρ 24, ρ 25, ρ 26, ρ 27, ρ 28, ρ 29, ρ 30] := ha
  subst ha
  subst hg
  have r13 : (7 : Int) ≤ ρ 13 ∧ ρ 13 ≤ 8 := zRnA hr 13
  have r19 : (4 : Int) ≤ ρ 19 ∧ ρ 19 ≤ 5 := zRnA hr 19
  obtain ⟨w_0, w_1, w_2, w_3⟩ : (¬ (6 ≥ ρ 13)) ∧ (ρ 19 ≠ 1) ∧ (¬ (0 ≤ -ρ 19 + 3)) ∧ (0 ≤ -ρ 19 + 5) := ⟨by omega, by omega, by omega, by omega⟩
  have m4 : γ 0 6 0 7 = ρ 4 := zAllA hm 4
  have m13 : γ 0 9 (ρ 4) 2 = ρ 13 := zAllA hm 13
  have m19 : γ 0 10 (9 * ρ 4 + 7) 4 = ρ 19 := zAllA hm 19
  have l0 : sn132 [ρ 4, 6] (γ 0) 0 (9 * ρ 4 + 7) (γ 1) := hS132 _ _ _ _ _ (zAllA hl 0)
  have l1 : sn229 [9 * ρ 4 + 7, ρ 19] (γ 1) 0 0 (γ 2) := hS229 _ _ _ _ _ (zAllA hl 1)
  show sn249 [ρ 0, ρ 1, ρ 2, ρ 3, ρ 4, ρ 5, ρ 6, ρ 7, ρ 8, ρ 9, ρ 10, ρ 11, ρ 12, ρ 13, ρ 14, ρ 15, ρ 16, ρ 17, ρ 18, ρ 19, ρ 20, ρ 21, ρ 22, ρ 23, ρ 24, ρ 25, ρ 26, ρ 27, ρ 28, ρ 29, ρ 30] (γ 0) 0 0 (γ 2)
  refine Eq.symm ?_
  show fn249 [] (γ 0) = _
  unfold fn249
  refine zLE m4 (zLE m13 (zLE m19 (zIN w_0 (zLE (show fn132 [ρ 4, 6] (γ 0) = (0, 9 * ρ 4 + 7, γ 1) from l0.symm) (zLV (γ 1) rfl (zIP w_1 (zIN w_2 ?_)))))))
  refine zIP w_3 (zLE (show fn229 [9 * ρ 4 + 7] (γ 1) = (0, 0, γ 2) from l1.symm) (zLV (γ 2) rfl (zIN zQ0_ ?_)))
  rfl
theorem vn249_11 {S : Nat → zSpc} (hS132 : zIm S 132 sn132) (hS228 : zIm S 228 sn228) (hS229 : zIm S 229 sn229) (hS230 : zIm S 230 sn230) (hS231 : zIm S 231 sn231) (hS244 : zIm S 244 sn244) (hS247 : zIm S 247 sn247) (hS248 : zIm S 248 sn248) {a : List Int} {g : rHp} : ∀ (ρ : Nat → Int) (γ : Nat → rHp), zO 31 S a g q249_11 ρ γ → zGl (fun _ _ _ => True) (sn249 a g) q249_11 ρ γ := by
  intro ρ γ h
  obtain ⟨ha, hg, hr, hf, hm, hc, hl⟩ := h
  have ha : a = [ρ 0, ρ 1, ρ 2, ρ 3, ρ 4, ρ 5, ρ 6, ρ 7, ρ 8, ρ 9, ρ 10, ρ 11, ρ 12, ρ 13, ρ 14, ρ 15, ρ 16, ρ 17, ρ 18, ρ 19, ρ 20, ρ 21, ρ 22, ρ 23, ρ 24, ρ 25, ρ 26, ρ 27, ρ 28, ρ 29, ρ 30] := ha
  subst ha
  subst hg
  have r13 : (7 : Int) ≤ ρ 13 ∧ ρ 13 ≤ 8 := zRnA hr 13
  have r19 : (4 : Int) ≤ ρ 19 ∧ ρ 19 ≤ 5 := zRnA hr 19
  obtain ⟨w_0, w_1, w_2, w_3⟩ : (¬ (6 ≥ ρ 13)) ∧ (ρ 19 ≠ 1) ∧ (¬ (0 ≤ -ρ 19 + 3)) ∧ (0 ≤ -ρ 19 + 5) := ⟨by omega, by omega, by omega, by omega⟩
  have m4 : γ 0 6 0 7 = ρ 4 := zAllA hm 4
  have m13 : γ 0 9 (ρ 4) 2 = ρ 13 := zAllA hm 13
  have m19 : γ 0 10 (9 * ρ 4 + 7) 4 = ρ 19 := zAllA hm 19
  have l0 : sn132 [ρ 4, 6] (γ 0) 0 (9 * ρ 4 + 7) (γ 1) := hS132 _ _ _ _ _ (zAllA hl 0)
  have l1 : sn229 [9 * ρ 4 + 7, ρ 19] (γ 1) 0 1 (γ 2) := hS229 _ _ _ _ _ (zAllA hl 1)
  have l2 : sn247 [ρ 0, ρ 1, ρ 2, ρ 3, ρ 4, ρ 5, ρ 6, ρ 7, ρ 8, ρ 9, ρ 10, ρ 11, ρ 12, ρ 13, ρ 14, ρ 15, ρ 16, ρ 17, ρ 18, ρ 25, ρ 26, ρ 27, ρ 28, ρ 29, ρ 30] (γ 2) 0 0 (γ 3) := hS247 _ _ _ _ _ (zAllA hl 2)
  show sn249 [ρ 0, ρ 1, ρ 2, ρ 3, ρ 4, ρ 5, ρ 6, ρ 7, ρ 8, ρ 9, ρ 10, ρ 11, ρ 12, ρ 13, ρ 14, ρ 15, ρ 16, ρ 17, ρ 18, ρ 19, ρ 20, ρ 21, ρ 22, ρ 23, ρ 24, ρ 25, ρ 26, ρ 27, ρ 28, ρ 29, ρ 30] (γ 0) 0 0 (γ 3)
  refine Eq.symm ?_
  show fn249 [] (γ 0) = _
  unfold fn249
  refine zLE m4 (zLE m13 (zLE m19 (zIN w_0 (zLE (show fn132 [ρ 4, 6] (γ 0) = (0, 9 * ρ 4 + 7, γ 1) from l0.symm) (zLV (γ 1) rfl (zIP w_1 (zIN w_2 ?_)))))))
  refine zIP w_3 (zLE (show fn229 [9 * ρ 4 + 7] (γ 1) = (0, 1, γ 2) from l1.symm) (zLV (γ 2) rfl (zIP zQ1_ (zLE (show fn247 [] (γ 2) = (0, 0, γ 3) from l2.symm) (zLV (γ 3) rfl (zIP (show (0 : Nat) = 0 by decide) ?_))))))
  rfl
theorem vn249_12 {S : Nat → zSpc} (hS132 : zIm S 132 sn132) (hS228 : zIm S 228 sn228) (hS229 : zIm S 229 sn229) (hS230 : zIm S 230 sn230) (hS231 : zIm S 231 sn231) (hS244 : zIm S 244 sn244) (hS247 : zIm S 247 sn247) (hS248 : zIm S 248 sn248) {a : List Int} {g : rHp} : ∀ (ρ : Nat → Int) (γ : Nat → rHp), zO 31 S a g q249_12 ρ γ → zGl (fun _ _ _ => True) (sn249 a g) q249_12 ρ γ := by
  intro ρ γ h
  obtain ⟨ha, hg, hr, hf, hm, hc, hl⟩ := h
  have ha : a = [ρ 0, ρ 1, ρ 2, ρ 3, ρ 4, ρ 5, ρ 6, ρ 7, ρ 8, ρ 9, ρ 10, ρ 11, ρ 12, ρ 13, ρ 14, ρ 15, ρ 16, ρ 17, ρ 18, ρ 19, ρ 20, ρ 21, ρ 22, ρ 23, ρ 24, ρ 25, ρ 26, ρ 27, ρ 28, ρ 29, ρ 30] := ha
  subst ha
  subst hg
  have r13 : (7 : Int) ≤ ρ 13 ∧ ρ 13 ≤ 8 := zRnA hr 13
  have r19 : (4 : Int) ≤ ρ 19 ∧ ρ 19 ≤ 5 := zRnA hr 19
  obtain ⟨w_0, w_1, w_2, w_3⟩ : (¬ (6 ≥ ρ 13)) ∧ (ρ 19 ≠ 1) ∧ (¬ (0 ≤ -ρ 19 + 3)) ∧ (0 ≤ -ρ 19 + 5) := ⟨by omega, by omega, by omega, by omega⟩
  have m4 : γ 0 6 0 7 = ρ 4 := zAllA hm 4
  have m13 : γ 0 9 (ρ 4) 2 = ρ 13 := zAllA hm 13
  have m19 : γ 0 10 (9 * ρ 4 + 7) 4 = ρ 19 := zAllA hm 19
  have l0 : sn132 [ρ 4, 6] (γ 0) 0 (9 * ρ 4 + 7) (γ 1) := hS132 _ _ _ _ _ (zAllA hl 0)
  have l1 : sn229 [9 * ρ 4 + 7, ρ 19] (γ 1) 0 1 (γ 2) := hS229 _ _ _ _ _ (zAllA hl 1)
  have l2 : sn247 [ρ 0, ρ 1, ρ 2, ρ 3, ρ 4, ρ 5, ρ 6, ρ 7, ρ 8, ρ 9, ρ 10, ρ 11, ρ 12, ρ 13, ρ 14, ρ 15, ρ 16, ρ 17, ρ 18, ρ 25, ρ 26, ρ 27, ρ 28, ρ 29, ρ 30] (γ 2) 1 0 (γ 3) := hS247 _ _ _ _ _ (zAllA hl 2)
  show sn249 [ρ 0, ρ 1, ρ 2, ρ 3, ρ 4, ρ 5, ρ 6, ρ 7, ρ 8, ρ 9, ρ 10, ρ 11, ρ 12, ρ 13, ρ 14, ρ 15, ρ 16, ρ 17, ρ 18, ρ 19, ρ 20, ρ 21, ρ 22, ρ 23, ρ 24, ρ 25, ρ 26, ρ 27, ρ 28, ρ 29, ρ 30] (γ 0) 1 0 (γ 3)
  refine Eq.symm ?_
  show fn249 [] (γ 0) = _
  unfold fn249
  refine zLE m4 (zLE m13 (zLE m19 (zIN w_0 (zLE (show fn132 [ρ 4, 6] (γ 0) = (0, 9 * ρ 4 + 7, γ 1) from l0.symm) (zLV (γ 1) rfl (zIP w_1 (zIN w_2 ?_)))))))
  refine zIP w_3 (zLE (show fn229 [9 * ρ 4 + 7] (γ 1) = (0, 1, γ 2) from l1.symm) (zLV (γ 2) rfl (zIP zQ1_ (zLE (show fn247 [] (γ 2) = (1, 0, γ 3) from l2.symm) (zLV (γ 3) rfl (zIN (show ¬ (1 : Nat) = 0 by decide) (zIP (show (1 : Nat) = 1 by decide) ?_)))))))
  rfl
theorem vn249_13 {S : Nat → zSpc} (hS132 : zIm S 132 sn132) (hS228 : zIm S 228 sn228) (hS229 : zIm S 229 sn229) (hS230 : zIm S 230 sn230) (hS231 : zIm S 231 sn231) (hS244 : zIm S 244 sn244) (hS247 : zIm S 247 sn247) (hS248 : zIm S 248 sn248) {a : List Int} {g : rHp} : ∀ (ρ : Nat → Int) (γ : Nat → rHp), zO 31 S a g q249_13 ρ γ → zGl (fun _ _ _ => True) (sn249 a g) q249_13 ρ γ := by
  intro ρ γ h
  obtain ⟨ha, hg, hr, hf, hm, hc, hl⟩ := h
  have ha : a = [ρ 0, ρ 1, ρ 2, ρ 3, ρ 4, ρ 5, ρ 6, ρ 7, ρ 8, ρ 9, ρ 10, ρ 11, ρ 12, ρ 13, ρ 14, ρ 15, ρ 16, ρ 17, ρ 18, ρ 19, ρ 20, ρ 21, ρ 22, ρ 23, ρ 24, ρ 25, ρ 26, ρ 27, ρ 28, ρ 29, ρ 30] := ha
  subst ha
  subst hg
  have r13 : (8 : Int) ≤ ρ 13 ∧ ρ 13 ≤ 8 := zRnA hr 13
  have r19 : (4 : Int) ≤ ρ 19 ∧ ρ 19 ≤ 5 := zRnA hr 19
  obtain ⟨w_0, w_1, w_2, w_3⟩ : (¬ (6 ≥ ρ 13)) ∧ (ρ 19 ≠ 1) ∧ (¬ (0 ≤ -ρ 19 + 3)) ∧ (0 ≤ -ρ 19 + 5) := ⟨by omega, by omega, by omega, by omega⟩
  have m4 : γ 0 6 0 7 = ρ 4 := zAllA hm 4
  have m13 : γ 0 9 (ρ 4) 2 = ρ 13 := zAllA hm 13
  have m19 : γ 0 10 (9 * ρ 4 + 7) 4 = ρ 19 := zAllA hm 19
  have l0 : sn132 [ρ 4, 6] (γ 0) 0 (9 * ρ 4 + 7) (γ 1) := hS132 _ _ _ _ _ (zAllA hl 0)
  have l1 : sn229 [9 * ρ 4 + 7, ρ 19] (γ 1) 0 1 (γ 2) := hS229 _ _ _ _ _ (zAllA hl 1)
  have l2 : sn247 [ρ 0, ρ 1, ρ 2, ρ 3, ρ 4, ρ 5, ρ 6, ρ 7, ρ 8, ρ 9, ρ 10, ρ 11, ρ 12, ρ 13, ρ 14, ρ 15, ρ 16, ρ 17, ρ 18, ρ 25, ρ 26, ρ 27, ρ 28, ρ 29, ρ 30] (γ 2) 4 0 (γ 3) := hS247 _ _ _ _ _ (zAllA hl 2)
  show sn249 [ρ 0, ρ 1, ρ 2, ρ 3, ρ 4, ρ 5, ρ 6, ρ 7, ρ 8, ρ 9, ρ 10, ρ 11, ρ 12, ρ 13, ρ 14, ρ 15, ρ 16, ρ 17, ρ 18, ρ 19, ρ 20, ρ 21, ρ 22, ρ 23, ρ 24, ρ 25, ρ 26, ρ 27, ρ 28, ρ 29, ρ 30] (γ 0) 4 0 (γ 3)
  refine Eq.symm ?_
  show fn249 [] (γ 0) = _
  unfold fn249
  refine zLE m4 (zLE m13 (zLE m19 (zIN w_0 (zLE (show fn132 [ρ 4, 6] (γ 0) = (0, 9 * ρ 4 + 7, γ 1) from l0.symm) (zLV (γ 1) rfl (zIP w_1 (zIN w_2 ?_)))))))
  refine zIP w_3 (zLE (show fn229 [9 * ρ 4 + 7] (γ 1) = (0, 1, γ 2) from l1.symm) (zLV (γ 2) rfl (zIP zQ1_ (zLE (show fn247 [] (γ 2) = (4, 0, γ 3) from l2.symm) (zLV (γ 3) rfl (zIN (show ¬ (4 : Nat) = 0 by decide) (zIN (show ¬ (4 : Nat) = 1 by decide) ?_)))))))
  rfl
theorem vn249_14 {S : Nat → zSpc} (hS132 : zIm S 132 sn132) (hS228 : zIm S 228 sn228) (hS229 : zIm S 229 sn229) (hS230 : zIm S 230 sn230) (hS231 : zIm S 231 sn231) (hS244 : zIm S 244 sn244) (hS247 : zIm S 247 sn247) (hS248 : zIm S 248 sn248) {a : List Int} {g : rHp} : ∀ (ρ : Nat → Int) (γ : Nat → rHp), zO 31 S a g q249_14 ρ γ → zGl (fun _ _ _ => True) (sn249 a g) q249_14 ρ γ := by
  intro ρ γ h
  obtain ⟨ha, hg, hr, hf, hm, hc, hl⟩ := h
  have ha : a = [ρ 0, ρ 1, ρ 2, ρ 3, ρ 4, ρ 5, ρ 6, ρ 7, ρ 8, ρ 9, ρ 10, ρ 11, ρ 12, ρ 13, ρ 14, ρ 15, ρ 16, ρ 17, ρ 18, ρ 19, ρ 20, ρ 21, ρ 22, ρ 23, ρ 24, ρ 25, ρ 26, ρ 27, ρ 28, ρ 29, ρ 30] := ha
  subst ha
  subst hg
  have r13 : (7 : Int) ≤ ρ 13 ∧ ρ 13 ≤ 8 := zRnA hr 13
  have r19 : (6 : Int) ≤ ρ 19 ∧ ρ 19 ≤ 8 := zRnA hr 19
  obtain ⟨w_0, w_1, w_2, w_3⟩ : (¬ (6 ≥ ρ 13)) ∧ (ρ 19 ≠ 1) ∧ (¬ (0 ≤ -ρ 19 + 3)) ∧ (¬ (0 ≤ -ρ 19 + 5)) := ⟨by omega, by omega, by omega, by omega⟩
  have m4 : γ 0 6 0 7 = ρ 4 := zAllA hm 4
  have m13 : γ 0 9 (ρ 4) 2 = ρ 13 := zAllA hm 13
  have m19 : γ 0 10 (9 * ρ 4 + 7) 4 = ρ 19 := zAllA hm 19
  have l0 : sn132 [ρ 4, 6] (γ 0) 0 (9 * ρ 4 + 7) (γ 1) := hS132 _ _ _ _ _ (zAllA hl 0)
  have l1 : sn231 [9 * ρ 4 + 7, ρ 19, ρ 24] (γ 1) 0 0 (γ 2) := hS231 _ _ _ _ _ (zAllA hl 1)
  show sn249 [ρ 0, ρ 1, ρ 2, ρ 3, ρ 4, ρ 5, ρ 6, ρ 7, ρ 8, ρ 9, ρ 10, ρ 11, ρ 12, ρ 13, ρ 14, ρ 15, ρ 16, ρ 17, ρ 18, ρ 19, ρ 20, ρ 21, ρ 22, ρ 23, ρ 24, ρ 25, ρ 26, ρ 27, ρ 28, ρ 29, ρ 30] (γ 0) 0 0 (γ 2)
  refine Eq.symm ?_
  show fn249 [] (γ 0) = _
  unfold fn249
  refine zLE m4 (zLE m13 (zLE m19 (zIN w_0 (zLE (show fn132 [ρ 4, 6] (γ 0) = (0, 9 * ρ 4 + 7, γ 1) from l0.symm) (zLV (γ 1) rfl (zIP w_1 (zIN w_2 ?_)))))))
  refine zIN w_3 (zLE (show fn231 [9 * ρ 4 + 7] (γ 1) = (0, 0, γ 2) from l1.symm) (zLV (γ 2) rfl (zIN zQ0_ ?_)))
  rfl
theorem vn249_15 {S : Nat → zSpc} (hS132 : zIm S 132 sn132) (hS228 : zIm S 228 sn228) (hS229 : zIm S 229 sn229) (hS230 : zIm S 230 sn230) (hS231 : zIm S 231 sn231) (hS244 : zIm S 244 sn244) (hS247 : zIm S 247 sn247) (hS248 : zIm S 248 sn248) {a : List Int} {g : rHp} : ∀ (ρ : Nat → Int) (γ : Nat → rHp), zO 31 S a g q249_15 ρ γ → zGl (fun _ _ _ => True) (sn249 a g) q249_15 ρ γ := by
  intro ρ γ h
  obtain ⟨ha, hg, hr, hf, hm, hc, hl⟩ := h
  have ha : a = [ρ 0, ρ 1, ρ 2, ρ 3, ρ 4, ρ 5, ρ 6, ρ 7, ρ 8, ρ 9, ρ 10, ρ 11, ρ 12, ρ 13, ρ 14, ρ 15, ρ 16, ρ 17, ρ 18, ρ 19, ρ 20, ρ 21, ρ 22, ρ 23, ρ 24, ρ 25, ρ 26, ρ 27, ρ 28, ρ 29, ρ 30] := ha
  subst ha
  subst hg
  have r13 : (7 : Int) ≤ ρ 13 ∧ ρ 13 ≤ 8 := zRnA hr 13
  have r19 : (6 : Int) ≤ ρ 19 ∧ ρ 19 ≤ 8 := zRnA hr 19
  obtain ⟨w_0, w_1, w_2, w_3⟩ : (¬ (6 ≥ ρ 13)) ∧ (ρ 19 ≠ 1) ∧ (¬ (0 ≤ -ρ 19 + 3)) ∧ (¬ (0 ≤ -ρ 19 + 5)) := ⟨by omega, by omega, by omega, by omega⟩
  have m4 : γ 0 6 0 7 = ρ 4 := zAllA hm 4
  have m13 : γ 0 9 (ρ 4) 2 = ρ 13 := zAllA hm 13
  have m19 : γ 0 10 (9 * ρ 4 + 7) 4 = ρ 19 := zAllA hm 19
  have l0 : sn132 [ρ 4, 6] (γ 0) 0 (9 * ρ 4 + 7) (γ 1) := hS132 _ _ _ _ _ (zAllA hl 0)
  have l1 : sn231 [9 * ρ 4 + 7, ρ 19, ρ 24] (γ 1) 0 1 (γ 2) := hS231 _ _ _ _ _ (zAllA hl 1)
  have l2 : sn247 [ρ 0, ρ 1, ρ 2, ρ 3, ρ 4, ρ 5, ρ 6, ρ 7, ρ 8, ρ 9, ρ 10, ρ 11, ρ 12, ρ 13, ρ 14, ρ 15, ρ 16, ρ 17, ρ 18, ρ 25, ρ 26, ρ 27, ρ 28, ρ 29, ρ 30] (γ 2) 0 0 (γ 3) := hS247 _ _ _ _ _ (zAllA hl 2)
  show sn249 [ρ 0, ρ 1, ρ 2, ρ 3, ρ 4, ρ 5, ρ 6, ρ 7, ρ 8, ρ 9, ρ 10, ρ 11, ρ 12, ρ 13, ρ 14, ρ 15, ρ 16, ρ 17, ρ 18, ρ 19, ρ 20, ρ 21, ρ 22, ρ 23, ρ 24, ρ 25, ρ 26, ρ 27, ρ 28, ρ 29, ρ 30] (γ 0) 0 0 (γ 3)
  refine Eq.symm ?_
  show fn249 [] (γ 0) = _
  unfold fn249
  refine zLE m4 (zLE m13 (zLE m19 (zIN w_0 (zLE (show fn132 [ρ 4, 6] (γ 0) = (0, 9 * ρ 4 + 7, γ 1) from l0.symm) (zLV (γ 1) rfl (zIP w_1 (zIN w_2 ?_)))))))
  refine zIN w_3 (zLE (show fn231 [9 * ρ 4 + 7] (γ 1) = (0, 1, γ 2) from l1.symm) (zLV (γ 2) rfl (zIP zQ1_ (zLE (show fn247 [] (γ 2) = (0, 0, γ 3) from l2.symm) (zLV (γ 3) rfl (zIP (show (0 : Nat) = 0 by decide) ?_))))))
  rfl
theorem vn249_16 {S : Nat → zSpc} (hS132 : zIm S 132 sn132) (hS228 : zIm S 228 sn228) (hS229 : zIm S 229 sn229) (hS230 : zIm S 230 sn230) (hS231 : zIm S 231 sn231) (hS244 : zIm S 244 sn244) (hS247 : zIm S 247 sn247) (hS248 : zIm S 248 sn248) {a : List Int} {g : rHp} : ∀ (ρ : Nat → Int) (γ : Nat → rHp), zO 31 S a g q249_16 ρ γ → zGl (fun _ _ _ => True) (sn249 a g) q249_16 ρ γ := by
  intro ρ γ h
  obtain ⟨ha, hg, hr, hf, hm, hc, hl⟩ := h
  have ha : a = [ρ 0, ρ 1, ρ 2, ρ 3, ρ 4, ρ 5, ρ 6, ρ 7, ρ 8, ρ 9, ρ 10, ρ 11, ρ 12, ρ 13, ρ 14, ρ 15, ρ 16, ρ 17, ρ 18, ρ 19, ρ 20, ρ 21, ρ 22, ρ 23, ρ 24, ρ 25, ρ 26, ρ 27, ρ 28, ρ 29, ρ 30] := ha
  subst ha
  subst hg
  have r13 : (7 : Int) ≤ ρ 13 ∧ ρ 13 ≤ 8 := zRnA hr 13
  have r19 : (6 : Int) ≤ ρ 19 ∧ ρ 19 ≤ 8 := zRnA hr 19
  obtain ⟨w_0, w_1, w_2, w_3⟩ : (¬ (6 ≥ ρ 13)) ∧ (ρ 19 ≠ 1) ∧ (¬ (0 ≤ -ρ 19 + 3)) ∧ (¬ (0 ≤ -ρ 19 + 5)) := ⟨by omega, by omega, by omega, by omega⟩
  have m4 : γ 0 6 0 7 = ρ 4 := zAllA hm 4
  have m13 : γ 0 9 (ρ 4) 2 = ρ 13 := zAllA hm 13
  have m19 : γ 0 10 (9 * ρ 4 + 7) 4 = ρ 19 := zAllA hm 19
  have l0 : sn132 [ρ 4, 6] (γ 0) 0 (9 * ρ 4 + 7) (γ 1) := hS132 _ _ _ _ _ (zAllA hl 0)
  have l1 : sn231 [9 * ρ 4 + 7, ρ 19, ρ 24] (γ 1) 0 1 (γ 2) := hS231 _ _ _ _ _ (zAllA hl 1)
  have l2 : sn247 [ρ 0, ρ 1, ρ 2, ρ 3, ρ 4, ρ 5, ρ 6, ρ 7, ρ 8, ρ 9, ρ 10, ρ 11, ρ 12, ρ 13, ρ 14, ρ 15, ρ 16, ρ 17, ρ 18, ρ 25, ρ 26, ρ 27, ρ 28, ρ 29, ρ 30] (γ 2) 1 0 (γ 3) := hS247 _ _ _ _ _ (zAllA hl 2)
  show sn249 [ρ 0, ρ 1, ρ 2, ρ 3, ρ 4, ρ 5, ρ 6, ρ 7, ρ 8, ρ 9, ρ 10, ρ 11, ρ 12, ρ 13, ρ 14, ρ 15, ρ 16, ρ 17, ρ 18, ρ 19, ρ 20, ρ 21, ρ 22, ρ 23, ρ 24, ρ 25, ρ 26, ρ 27, ρ 28, ρ 29, ρ 30] (γ 0) 1 0 (γ 3)
  refine Eq.symm ?_
  show fn249 [] (γ 0) = _
  unfold fn249
  refine zLE m4 (zLE m13 (zLE m19 (zIN w_0 (zLE (show fn132 [ρ 4, 6] (γ 0) = (0, 9 * ρ 4 + 7, γ 1) from l0.symm) (zLV (γ 1) rfl (zIP w_1 (zIN w_2 ?_)))))))
  refine zIN w_3 (zLE (show fn231 [9 * ρ 4 + 7] (γ 1) = (0, 1, γ 2) from l1.symm) (zLV (γ 2) rfl (zIP zQ1_ (zLE (show fn247 [] (γ 2) = (1, 0, γ 3) from l2.symm) (zLV (γ 3) rfl (zIN (show ¬ (1 : Nat) = 0 by decide) (zIP (show (1 : Nat) = 1 by decide) ?_)))))))
  rfl
theorem vn249_17 {S : Nat → zSpc} (hS132 : zIm S 132 sn132) (hS228 : zIm S 228 sn228) (hS229 : zIm S 229 sn229) (hS230 : zIm S 230 sn230) (hS231 : zIm S 231 sn231) (hS244 : zIm S 244 sn244) (hS247 : zIm S 247 sn247) (hS248 : zIm S 248 sn248) {a : List Int} {g : rHp} : ∀ (ρ : Nat → Int) (γ : Nat → rHp), zO 31 S a g q249_17 ρ γ → zGl (fun _ _ _ => True) (sn249 a g) q249_17 ρ γ := by
  intro ρ γ h
  obtain ⟨ha, hg, hr, hf, hm, hc, hl⟩ := h
  have ha : a = [ρ 0, ρ 1, ρ 2, ρ 3, ρ 4, ρ 5, ρ 6, ρ 7, ρ 8, ρ 9, ρ 10, ρ 11, ρ 12, ρ 13, ρ 14, ρ 15, ρ 16, ρ 17, ρ 18, ρ 19, ρ 20, ρ 21, ρ 22, ρ 23, ρ 24, ρ 25, ρ 26, ρ 27, ρ 28, ρ 29, ρ 30] := ha
  subst ha
  subst hg
  have r13 : (8 : Int) ≤ ρ 13 ∧ ρ 13 ≤ 8 := zRnA hr 13
  have r19 : (6 : Int) ≤ ρ 19 ∧ ρ 19 ≤ 8 := zRnA hr 19
  obtain ⟨w_0, w_1, w_2, w_3⟩ : (¬ (6 ≥ ρ 13)) ∧ (ρ 19 ≠ 1) ∧ (¬ (0 ≤ -ρ 19 + 3)) ∧ (¬ (0 ≤ -ρ 19 + 5)) := ⟨by omega, by omega, by omega, by omega⟩
  have m4 : γ 0 6 0 7 = ρ 4 := zAllA hm 4
  have m13 : γ 0 9 (ρ 4) 2 = ρ 13 := zAllA hm 13
  have m19 : γ 0 10 (9 * ρ 4 + 7) 4 = ρ 19 := zAllA hm 19
  have l0 : sn132 [ρ 4, 6] (γ 0) 0 (9 * ρ 4 + 7) (γ 1) := hS132 _ _ _ _ _ (zAllA hl 0)
  have l1 : sn231 [9 * ρ 4 + 7, ρ 19, ρ 24] (γ 1) 0 1 (γ 2) := hS231 _ _ _ _ _ (zAllA hl 1)
  have l2 : sn247 [ρ 0, ρ 1, ρ 2, ρ 3, ρ 4, ρ 5, ρ 6, ρ 7, ρ 8, ρ 9, ρ 10, ρ 11, ρ 12, ρ 13, ρ 14, ρ 15, ρ 16, ρ 17, ρ 18, ρ 25, ρ 26, ρ 27, ρ 28, ρ 29, ρ 30] (γ 2) 4 0 (γ 3) := hS247 _ _ _ _ _ (zAllA hl 2)
  show sn249 [ρ 0, ρ 1, ρ 2, ρ 3, ρ 4, ρ 5, ρ 6, ρ 7, ρ 8, ρ 9, ρ 10, ρ 11, ρ 12, ρ 13, ρ 14, ρ 15, ρ 16, ρ 17, ρ 18, ρ 19, ρ 20, ρ 21, ρ 22, ρ 23, ρ 24, ρ 25, ρ 26, ρ 27, ρ 28, ρ 29, ρ 30] (γ 0) 4 0 (γ 3)
  refine Eq.symm ?_
  show fn249 [] (γ 0) = _
  unfold fn249
  refine zLE m4 (zLE m13 (zLE m19 (zIN w_0 (zLE (show fn132 [ρ 4, 6] (γ 0) = (0, 9 * ρ 4 + 7, γ 1) from l0.symm) (zLV (γ 1) rfl (zIP w_1 (zIN w_2 ?_)))))))
  refine zIN w_3 (zLE (show fn231 [9 * ρ 4 + 7] (γ 1) = (0, 1, γ 2) from l1.symm) (zLV (γ 2) rfl (zIP zQ1_ (zLE (show fn247 [] (γ 2) = (4, 0, γ 3) from l2.symm) (zLV (γ 3) rfl (zIN (show ¬ (4 : Nat) = 0 by decide) (zIN (show ¬ (4 : Nat) = 1 by decide) ?_)))))))
  rfl
theorem vn249_18 {S : Nat → zSpc} (hS132 : zIm S 132 sn132) (hS228 : zIm S 228 sn228) (hS229 : zIm S 229 sn229) (hS230 : zIm S 230 sn230) (hS231 : zIm S 231 sn231) (hS244 : zIm S 244 sn244) (hS247 : zIm S 247 sn247) (hS248 : zIm S 248 sn248) {a : List Int} {g : rHp} : ∀ (ρ : Nat → Int) (γ : Nat → rHp), zO 31 S a g q249_18 ρ γ → zGl (fun _ _ _ => True) (sn249 a g) q249_18 ρ γ := by
  intro ρ γ h
  obtain ⟨ha, hg, hr, hf, hm, hc, hl⟩ := h
  have ha : a = [ρ 0, ρ 1, ρ 2, ρ 3, ρ 4, ρ 5, ρ 6, ρ 7, ρ 8, ρ 9, ρ 10, ρ 11, ρ 12, ρ 13, ρ 14, ρ 15, ρ 16, ρ 17, ρ 18, ρ 19, ρ 20, ρ 21, ρ 22, ρ 23, ρ 24, ρ 25, ρ 26, ρ 27, ρ 28, ρ 29, ρ 30] := ha
  subst ha
  subst hg
  have r13 : (7 : Int) ≤ ρ 13 ∧ ρ 13 ≤ 8 := zRnA hr 13
  have r19 : (1 : Int) ≤ ρ 19 ∧ ρ 19 ≤ 1 := zRnA hr 19
  obtain ⟨w_0, w_1⟩ : (¬ (6 ≥ ρ 13)) ∧ (¬ (ρ 19 ≠ 1)) := ⟨by omega, by omega⟩
  have m4 : γ 0 6 0 7 = ρ 4 := zAllA hm 4
  have m13 : γ 0 9 (ρ 4) 2 = ρ 13 := zAllA hm 13
  have m19 : γ 0 10 (9 * ρ 4 + 7) 4 = ρ 19 := zAllA hm 19
  have l0 : sn132 [ρ 4, 6] (γ 0) 0 (9 * ρ 4 + 7) (γ 1) := hS132 _ _ _ _ _ (zAllA hl 0)
  have l1 : sn248 [ρ 0, ρ 1, ρ 2, ρ 3, ρ 4, ρ 5, ρ 6, ρ 7, ρ 8, ρ 9, ρ 10, ρ 11, ρ 12, ρ 13, ρ 14, ρ 15, ρ 16, ρ 17, ρ 18, ρ 20, ρ 21, ρ 22, ρ 23, ρ 25, ρ 26, ρ 27, ρ 28, ρ 29, ρ 30] (γ 1) 0 0 (γ 2) := hS248 _ _ _ _ _ (zAllA hl 1)
  show sn249 [ρ 0, ρ 1, ρ 2, ρ 3, ρ 4, ρ 5, ρ 6, ρ 7, ρ 8, ρ 9, ρ 10, ρ 11, ρ 12, ρ 13, ρ 14, ρ 15, ρ 16, ρ 17, ρ 18, ρ 19, ρ 20, ρ 21, ρ 22, ρ 23, ρ 24, ρ 25, ρ 26, ρ 27, ρ 28, ρ 29, ρ 30] (γ 0) 0 0 (γ 2)
  refine Eq.symm ?_
  show fn249 [] (γ 0) = _
  unfold fn249
  refine zLE m4 (zLE m13 (zLE m19 (zIN w_0 (zLE (show fn132 [ρ 4, 6] (γ 0) = (0, 9 * ρ 4 + 7, γ 1) from l0.symm) (zLV (γ 1) rfl (zIN w_1 (zLE (show fn248 [] (γ 1) = (0, 0, γ 2) from l1.symm) ?_)))))))
  refine zLV (γ 2) rfl (zIP (show (0 : Nat) = 0 by decide) ?_)
  rfl
theorem vn249_19 {S : Nat → zSpc} (hS132 : zIm S 132 sn132) (hS228 : zIm S 228 sn228) (hS229 : zIm S 229 sn229) (hS230 : zIm S 230 sn230) (hS231 : zIm S 231 sn231) (hS244 : zIm S 244 sn244) (hS247 : zIm S 247 sn247) (hS248 : zIm S 248 sn248) {a : List Int} {g : rHp} : ∀ (ρ : Nat → Int) (γ : Nat → rHp), zO 31 S a g q249_19 ρ γ → zGl (fun _ _ _ => True) (sn249 a g) q249_19 ρ γ := by
  intro ρ γ h
  obtain ⟨ha, hg, hr, hf, hm, hc, hl⟩ := h
  have ha : a = [ρ 0, ρ 1, ρ 2, ρ 3, ρ 4, ρ 5, ρ 6, ρ 7, ρ 8, ρ 9, ρ 10, ρ 11, ρ 12, ρ 13, ρ 14, ρ 15, ρ 16, ρ 17, ρ 18, ρ 19, ρ 20, ρ 21, ρ 22, ρ 23, ρ 24, ρ 25, ρ 26, ρ 27, ρ 28, ρ 29, ρ 30] := ha
  subst ha
  subst hg
  have r13 : (7 : Int) ≤ ρ 13 ∧ ρ 13 ≤ 8 := zRnA hr 13
  have r19 : (1 : Int) ≤ ρ 19 ∧ ρ 19 ≤ 1 := zRnA hr 19
  obtain ⟨w_0, w_1⟩ : (¬ (6 ≥ ρ 13)) ∧ (¬ (ρ 19 ≠ 1)) := ⟨by omega, by omega⟩
  have m4 : γ 0 6 0 7 = ρ 4 := zAllA hm 4
  have m13 : γ 0 9 (ρ 4) 2 = ρ 13 := zAllA hm 13
  have m19 : γ 0 10 (9 * ρ 4 + 7) 4 = ρ 19 := zAllA hm 19
  have l0 : sn132 [ρ 4, 6] (γ 0) 0 (9 * ρ 4 + 7) (γ 1) := hS132 _ _ _ _ _ (zAllA hl 0)
  have l1 : sn248 [ρ 0, ρ 1, ρ 2, ρ 3, ρ 4, ρ 5, ρ 6, ρ 7, ρ 8, ρ 9, ρ 10, ρ 11, ρ 12, ρ 13, ρ 14, ρ 15, ρ 16, ρ 17, ρ 18, ρ 20, ρ 21, ρ 22, ρ 23, ρ 25, ρ 26, ρ 27, ρ 28, ρ 29, ρ 30] (γ 1) 1 0 (γ 2) := hS248 _ _ _ _ _ (zAllA hl 1)
  show sn249 [ρ 0, ρ 1, ρ 2, ρ 3, ρ 4, ρ 5, ρ 6, ρ 7, ρ 8, ρ 9, ρ 10, ρ 11, ρ 12, ρ 13, ρ 14, ρ 15, ρ 16, ρ 17, ρ 18, ρ 19, ρ 20, ρ 21, ρ 22, ρ 23, ρ 24, ρ 25, ρ 26, ρ 27, ρ 28, ρ 29, ρ 30] (γ 0) 1 0 (γ 2)
  refine Eq.symm ?_
  show fn249 [] (γ 0) = _
  unfold fn249
  refine zLE m4 (zLE m13 (zLE m19 (zIN w_0 (zLE (show fn132 [ρ 4, 6] (γ 0) = (0, 9 * ρ 4 + 7, γ 1) from l0.symm) (zLV (γ 1) rfl (zIN w_1 (zLE (show fn248 [] (γ 1) = (1, 0, γ 2) from l1.symm) ?_)))))))
  refine zLV (γ 2) rfl (zIN (show ¬ (1 : Nat) = 0 by decide) (zIP (show (1 : Nat) = 1 by decide) ?_))
  rfl
theorem vn249_20 {S : Nat → zSpc} (hS132 : zIm S 132 sn132) (hS228 : zIm S 228 sn228) (hS229 : zIm S 229 sn229) (hS230 : zIm S 230 sn230) (hS231 : zIm S 231 sn231) (hS244 : zIm S 244 sn244) (hS247 : zIm S 247 sn247) (hS248 : zIm S 248 sn248) {a : List Int} {g : rHp} : ∀ (ρ : Nat → Int) (γ : Nat → rHp), zO 31 S a g q249_20 ρ γ → zGl (fun _ _ _ => True) (sn249 a g) q249_20 ρ γ := by
  intro ρ γ h
  obtain ⟨ha, hg, hr, hf, hm, hc, hl⟩ := h
  have ha : a = [ρ 0, ρ 1, ρ 2, ρ 3, ρ 4, ρ 5, ρ 6, ρ 7, ρ 8, ρ 9, ρ 10, ρ 11, ρ 12, ρ 13, ρ 14, ρ 15, ρ 16, ρ 17, ρ 18, ρ 19, ρ 20, ρ 21, ρ 22, ρ 23, ρ 24, ρ 25, ρ 26, ρ 27, ρ 28, ρ 29, ρ 30] := ha
  subst ha
  subst hg
  have r13 : (7 : Int) ≤ ρ 13 ∧ ρ 13 ≤ 8 := zRnA hr 13
  have r19 : (1 : Int) ≤ ρ 19 ∧ ρ 19 ≤ 1 := zRnA hr 19
  obtain ⟨w_0, w_1⟩ : (¬ (6 ≥ ρ 13)) ∧ (¬ (ρ 19 ≠ 1)) := ⟨by omega, by omega⟩
  have m4 : γ 0 6 0 7 = ρ 4 := zAllA hm 4
  have m13 : γ 0 9 (ρ 4) 2 = ρ 13 := zAllA hm 13
  have m19 : γ 0 10 (9 * ρ 4 + 7) 4 = ρ 19 := zAllA hm 19
  have l0 : sn132 [ρ 4, 6] (γ 0) 0 (9 * ρ 4 + 7) (γ 1) := hS132 _ _ _ _ _ (zAllA hl 0)
  have l1 : sn248 [ρ 0, ρ 1, ρ 2, ρ 3, ρ 4, ρ 5, ρ 6, ρ 7, ρ 8, ρ 9, ρ 10, ρ 11, ρ 12, ρ 13, ρ 14, ρ 15, ρ 16, ρ 17, ρ 18, ρ 20, ρ 21, ρ 22, ρ 23, ρ 25, ρ 26, ρ 27, ρ 28, ρ 29, ρ 30] (γ 1) 4 0 (γ 2) := hS248 _ _ _ _ _ (zAllA hl 1)
  show sn249 [ρ 0, ρ 1, ρ 2, ρ 3, ρ 4, ρ 5, ρ 6, ρ 7, ρ 8, ρ 9, ρ 10, ρ 11, ρ 12, ρ 13, ρ 14, ρ 15, ρ 16, ρ 17, ρ 18, ρ 19, ρ 20, ρ 21, ρ 22, ρ 23, ρ 24, ρ 25, ρ 26, ρ 27, ρ 28, ρ 29, ρ 30] (γ 0) 4 0 (γ 2)
  refine Eq.symm ?_
  show fn249 [] (γ 0) = _
  unfold fn249
  refine zLE m4 (zLE m13 (zLE m19 (zIN w_0 (zLE (show fn132 [ρ 4, 6] (γ 0) = (0, 9 * ρ 4 + 7, γ 1) from l0.symm) (zLV (γ 1) rfl (zIN w_1 (zLE (show fn248 [] (γ 1) = (4, 0, γ 2) from l1.symm) ?_)))))))
  refine zLV (γ 2) rfl (zIN (show ¬ (4 : Nat) = 0 by decide) (zIN (show ¬ (4 : Nat) = 1 by decide) ?_))
  rfl
theorem yn249 {S : Nat → zSpc} (hS132 : zIm S 132 sn132) (hS228 : zIm S 228 sn228) (hS229 : zIm S 229 sn229) (hS230 : zIm S 230 sn230) (hS231 : zIm S 231 sn231) (hS244 : zIm S 244 sn244) (hS247 : zIm S 247 sn247) (hS248 : zIm S 248 sn248) : ∀ x g o v gz, zSem uW uT w249_.2.2.2.1 w249_.2.2.1.1.length S q249 (fun i => q249a.getD i []) (zNA a249_) x g o v gz → sn249 x g o v gz := by
  intro a g o v gz h
  exact zSem_all (l0 := q249) (las := q249a) (S := S) (J := (fun _ _ _ => True)) (P := sn249 a g) (fun _ => (show zAll _ [q249_0, q249_1, q249_2, q249_3, q249_4, q249_5, q249_6, q249_7, q249_8, q249_9, q249_10, q249_11, q249_12, q249_13, q249_14, q249_15, q249_16, q249_17, q249_18, q249_19, q249_20] from (zAll_c (vn249_0 hS132 hS228 hS229 hS230 hS231 hS244 hS247 hS248) (zAll_c (vn249_1 hS132 hS228 hS229 hS230 hS231 hS244 hS247 hS248) (zAll_c (vn249_2 hS132 hS228 hS229 hS230 hS231 hS244 hS247 hS248) (zAll_c (vn249_3 hS132 hS228 hS229 hS230 hS231 hS244 hS247 hS248) (zAll_c (vn249_4 hS132 hS228 hS229 hS230 hS231 hS244 hS247 hS248) (zAll_c (vn249_5 hS132 hS228 hS229 hS230 hS231 hS244 hS247 hS248) (zAll_c (vn249_6 hS132 hS228 hS229 hS230 hS231 hS244 hS247 hS248) (zAll_c (vn249_7 hS132 hS228 hS229 hS230 hS231 hS244 hS247 hS248) (zAll_c (vn249_8 hS132 hS228 hS229 hS230 hS231 hS244 hS247 hS248) (zAll_c (vn249_9 hS132 hS228 hS229 hS230 hS231 hS244 hS247 hS248) (zAll_c (vn249_10 hS132 hS228 hS229 hS230 hS231 hS244 hS247 hS248) (zAll_c (vn249_11 hS132 hS228 hS229 hS230 hS231 hS244 hS247 hS248) (zAll_c (vn249_12 hS132 hS228 hS229 hS230 hS231 hS244 hS247 hS248) (zAll_c (vn249_13 hS132 hS228 hS229 hS230 hS231 hS244 hS247 hS248) (zAll_c (vn249_14 hS132 hS228 hS229 hS230 hS231 hS244 hS247 hS248) (zAll_c (vn249_15 hS132 hS228 hS229 hS230 hS231 hS244 hS247 hS248) (zAll_c (vn249_16 hS132 hS228 hS229 hS230 hS231 hS244 hS247 hS248) (zAll_c (vn249_17 hS132 hS228 hS229 hS230 hS231 hS244 hS247 hS248) (zAll_c (vn249_18 hS132 hS228 hS229 hS230 hS231 hS244 hS247 hS248) (zAll_c (vn249_19 hS132 hS228 hS229 hS230 hS231 hS244 hS247 hS248) (zAll_c (vn249_20 hS132 hS228 hS229 hS230 hS231 hS244 hS247 hS248) zAll_n))))))))))))))))))))))) (fun _ => (show zAllI _ 0 [] from trivial)) h
