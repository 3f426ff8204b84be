/-! ===== the runs are the functions ===== -/
theorem vn261_0 {S : Nat → zSpc} (hS132 : ∀ x g o v gz, S 132 x g o v gz → sn132 x g o v gz) (hS228 : ∀ x g o v gz, S 228 x g o v gz → sn228 x g o v gz) (hS229 : ∀ x g o v gz, S 229 x g o v gz → sn229 x g o v gz) (hS230 : ∀ x g o v gz, S 230 x g o v gz → sn230 x g o v gz) (hS231 : ∀ x g o v gz, S 231 x g o v gz → sn231 x g o v gz) (hS244 : ∀ x g o v gz, S 244 x g o v gz → sn244 x g o v gz) (hS259 : ∀ x g o v gz, S 259 x g o v gz → sn259 x g o v gz) (hS260 : ∀ x g o v gz, S 260 x g o v gz → sn260 x g o v gz) {a : List Int} {g : rHp} : ∀ (ρ : Nat → Int) (γ : Nat → rHp), zO 67 S a g q261_0 ρ γ → zGl (fun _ _ _ => True) (sn261 a g) q261_0 ρ γ := by
  intro ρ γ h
  obtain ⟨ha, hg, hr, hf, hm, hc, hl⟩ := h
  have ha : a = [ρ 0, ρ 1, ρ 2, ρ 3, ρ 4, ρ 5, ρ 6, ρ 7, ρ 8, ρ 9, ρ 10, ρ 11, ρ 12, ρ 13, ρ 14, ρ 15, ρ 16, ρ 17, ρ 18, ρ 19, ρ 20, ρ 21, ρ 22, ρ 23, ρ 24, ρ 25, ρ 26, ρ 27, ρ 28, ρ 29, ρ 30, ρ 31, ρ 32, ρ 33, ρ 34, ρ 35, ρ 36, ρ 37, ρ 38, ρ 39, ρ 40, ρ 41, ρ 42, ρ 43, ρ 44, ρ 45, ρ 46, ρ 47, ρ 48, ρ 49, ρ 50, ρ 51, ρ 52, ρ 53, ρ 54, ρ 55, ρ 56, ρ 57, ρ 58, ρ 59, ρ 60, ρ 61, ρ 62, ρ 63, ρ 64, ρ 65, ρ 66] := ha
  subst ha
  subst hg
  obtain ⟨-, -, -, -, -, -, -, -, -, -, -, -, -, r13, -⟩ := hr
  have r13 : (0 : Int) ≤ ρ 13 ∧ ρ 13 ≤ 0 := r13
  have w_0 : 0 ≥ ρ 13 := by omega
  obtain ⟨-, -, -, -, m4, -, -, -, -, -, -, -, -, m13, -, -, -, -, -, m19, -⟩ := hm
  have m4 : γ 0 6 0 7 = ρ 4 := m4
  have m13 : γ 0 9 (ρ 4) 2 = ρ 13 := m13
  have m19 : γ 0 10 (9 * ρ 4 + 1) 4 = ρ 19 := m19
  obtain ⟨l0, -⟩ := hl
  have l0 : sn244 [ρ 0, ρ 1, ρ 2, ρ 3, ρ 4, ρ 6, ρ 7, ρ 8, ρ 9, ρ 14, ρ 15, ρ 16, ρ 17, ρ 18] (γ 0) 0 0 (γ 1) := hS244 _ _ _ _ _ l0
  show sn261 [ρ 0, ρ 1, ρ 2, ρ 3, ρ 4, ρ 5, ρ 6, ρ 7, ρ 8, ρ 9, ρ 10, ρ 11, ρ 12, ρ 13, ρ 14, ρ 15, ρ 16, ρ 17, ρ 18, ρ 19, ρ 20, ρ 21, ρ 22, ρ 23, ρ 24, ρ 25, ρ 26, ρ 27, ρ 28, ρ 29, ρ 30, ρ 31, ρ 32, ρ 33, ρ 34, ρ 35, ρ 36, ρ 37, ρ 38, ρ 39, ρ 40, ρ 41, ρ 42, ρ 43, ρ 44, ρ 45, ρ 46, ρ 47, ρ 48, ρ 49, ρ 50, ρ 51, ρ 52, ρ 53, ρ 54, ρ 55, ρ 56, ρ 57, ρ 58, ρ 59, ρ 60, ρ 61, ρ 62, ρ 63, ρ 64, ρ 65, ρ 66] (γ 0) 0 0 (γ 1)
  refine Eq.symm ?_
  show fn261 [] (γ 0) = _
  unfold fn261
  refine (zLet_eq m4).trans ?_
  refine (zLet_eq m13).trans ?_
  refine (zLet_eq m19).trans ?_
  refine (if_pos w_0).trans ?_
  refine (zLet_eq (show fn244 [] (γ 0) = (0, 0, γ 1) from l0.symm)).trans ?_
  refine (zLet_eq (show _ = γ 1 from rfl)).trans ?_
  refine (if_pos (show (0 : Nat) = 0 by decide)).trans ?_
  rfl
theorem vn261_1 {S : Nat → zSpc} (hS132 : ∀ x g o v gz, S 132 x g o v gz → sn132 x g o v gz) (hS228 : ∀ x g o v gz, S 228 x g o v gz → sn228 x g o v gz) (hS229 : ∀ x g o v gz, S 229 x g o v gz → sn229 x g o v gz) (hS230 : ∀ x g o v gz, S 230 x g o v gz → sn230 x g o v gz) (hS231 : ∀ x g o v gz, S 231 x g o v gz → sn231 x g o v gz) (hS244 : ∀ x g o v gz, S 244 x g o v gz → sn244 x g o v gz) (hS259 : ∀ x g o v gz, S 259 x g o v gz → sn259 x g o v gz) (hS260 : ∀ x g o v gz, S 260 x g o v gz → sn260 x g o v gz) {a : List Int} {g : rHp} : ∀ (ρ : Nat → Int) (γ : Nat → rHp), zO 67 S a g q261_1 ρ γ → zGl (fun _ _ _ => True) (sn261 a g) q261_1 ρ γ := by
  intro ρ γ h
  obtain ⟨ha, hg, hr, hf, hm, hc, hl⟩ := h
  have ha : a = [ρ 0, ρ 1, ρ 2, ρ 3, ρ 4, ρ 5, ρ 6, ρ 7, ρ 8, ρ 9, ρ 10, ρ 11, ρ 12, ρ 13, ρ 14, ρ 15, ρ 16, ρ 17, ρ 18, ρ 19, ρ 20, ρ 21, ρ 22, ρ 23, ρ 24, ρ 25, ρ 26, ρ 27, ρ 28, ρ 29, ρ 30, ρ 31, ρ 32, ρ 33, ρ 34, ρ 35, ρ 36, ρ 37, ρ 38, ρ 39, ρ 40, ρ 41, ρ 42, ρ 43, ρ 44, ρ 45, ρ 46, ρ 47, ρ 48, ρ 49, ρ 50, ρ 51, ρ 52, ρ 53, ρ 54, ρ 55, ρ 56, ρ 57, ρ 58, ρ 59, ρ 60, ρ 61, ρ 62, ρ 63, ρ 64, ρ 65, ρ 66] := ha
  subst ha
  subst hg
  obtain ⟨-, -, -, -, -, -, -, -, -, -, -, -, -, r13, -⟩ := hr
  have r13 : (0 : Int) ≤ ρ 13 ∧ ρ 13 ≤ 0 := r13
  have w_0 : 0 ≥ ρ 13 := by omega
  obtain ⟨-, -, -, -, m4, -, -, -, -, -, -, -, -, m13, -, -, -, -, -, m19, -⟩ := hm
  have m4 : γ 0 6 0 7 = ρ 4 := m4
  have m13 : γ 0 9 (ρ 4) 2 = ρ 13 := m13
  have m19 : γ 0 10 (9 * ρ 4 + 1) 4 = ρ 19 := m19
  obtain ⟨l0, -⟩ := hl
  have l0 : sn244 [ρ 0, ρ 1, ρ 2, ρ 3, ρ 4, ρ 6, ρ 7, ρ 8, ρ 9, ρ 14, ρ 15, ρ 16, ρ 17, ρ 18] (γ 0) 1 0 (γ 1) := hS244 _ _ _ _ _ l0
  show sn261 [ρ 0, ρ 1, ρ 2, ρ 3, ρ 4, ρ 5, ρ 6, ρ 7, ρ 8, ρ 9, ρ 10, ρ 11, ρ 12, ρ 13, ρ 14, ρ 15, ρ 16, ρ 17, ρ 18, ρ 19, ρ 20, ρ 21, ρ 22, ρ 23, ρ 24, ρ 25, ρ 26, ρ 27, ρ 28, ρ 29, ρ 30, ρ 31, ρ 32, ρ 33, ρ 34, ρ 35, ρ 36, ρ 37, ρ 38, ρ 39, ρ 40, ρ 41, ρ 42, ρ 43, ρ 44, ρ 45, ρ 46, ρ 47, ρ 48, ρ 49, ρ 50, ρ 51, ρ 52, ρ 53, ρ 54, ρ 55, ρ 56, ρ 57, ρ 58, ρ 59, ρ 60, ρ 61, ρ 62, ρ 63, ρ 64, ρ 65, ρ 66] (γ 0) 1 0 (γ 1)
  refine Eq.symm ?_
  show fn261 [] (γ 0) = _
  unfold fn261
  refine (zLet_eq m4).trans ?_
  refine (zLet_eq m13).trans ?_
  refine (zLet_eq m19).trans ?_
  refine (if_pos w_0).trans ?_
  refine (zLet_eq (show fn244 [] (γ 0) = (1, 0, γ 1) from l0.symm)).trans ?_
  refine (zLet_eq (show _ = γ 1 from rfl)).trans ?_
  refine (if_neg (show ¬ (1 : Nat) = 0 by decide)).trans ?_
  rfl
theorem vn261_2 {S : Nat → zSpc} (hS132 : ∀ x g o v gz, S 132 x g o v gz → sn132 x g o v gz) (hS228 : ∀ x g o v gz, S 228 x g o v gz → sn228 x g o v gz) (hS229 : ∀ x g o v gz, S 229 x g o v gz → sn229 x g o v gz) (hS230 : ∀ x g o v gz, S 230 x g o v gz → sn230 x g o v gz) (hS231 : ∀ x g o v gz, S 231 x g o v gz → sn231 x g o v gz) (hS244 : ∀ x g o v gz, S 244 x g o v gz → sn244 x g o v gz) (hS259 : ∀ x g o v gz, S 259 x g o v gz → sn259 x g o v gz) (hS260 : ∀ x g o v gz, S 260 x g o v gz → sn260 x g o v gz) {a : List Int} {g : rHp} : ∀ (ρ : Nat → Int) (γ : Nat → rHp), zO 67 S a g q261_2 ρ γ → zGl (fun _ _ _ => True) (sn261 a g) q261_2 ρ γ := by
  intro ρ γ h
  obtain ⟨ha, hg, hr, hf, hm, hc, hl⟩ := h
  have ha : a = [ρ 0, ρ 1, ρ 2, ρ 3, ρ 4, ρ 5, ρ 6, ρ 7, ρ 8, ρ 9, ρ 10, ρ 11, ρ 12, ρ 13, ρ 14, ρ 15, ρ 16, ρ 17, ρ 18, ρ 19, ρ 20, ρ 21, ρ 22, ρ 23, ρ 24, ρ 25, ρ 26, ρ 27, ρ 28, ρ 29, ρ 30, ρ 31, ρ 32, ρ 33, ρ 34, ρ 35, ρ 36, ρ 37, ρ 38, ρ 39, ρ 40, ρ 41, ρ 42, ρ 43, ρ 44, ρ 45, ρ 46, ρ 47, ρ 48, ρ 49, ρ 50, ρ 51, ρ 52, ρ 53, ρ 54, ρ 55, ρ 56, ρ 57, ρ 58, ρ 59, ρ 60, ρ 61, ρ 62, ρ 63, ρ 64, ρ 65, ρ 66] := ha
  subst ha
  subst hg
  obtain ⟨-, -, -, -, -, -, -, -, -, -, -, -, -, r13, -, -, -, -, -, r19, -⟩ := hr
  have r13 : (1 : Int) ≤ ρ 13 ∧ ρ 13 ≤ 8 := r13
  have r19 : (3 : Int) ≤ ρ 19 ∧ ρ 19 ≤ 3 := r19
  obtain ⟨w_0, w_1, w_2, w_3⟩ : (¬ (0 ≥ ρ 13)) ∧ (ρ 19 ≠ 1) ∧ (0 ≤ -ρ 19 + 3) ∧ (ρ 19 ≠ 2) := ⟨by omega, by omega, by omega, by omega⟩
  obtain ⟨-, -, -, -, m4, -, -, -, -, -, -, -, -, m13, -, -, -, -, -, m19, -⟩ := hm
  have m4 : γ 0 6 0 7 = ρ 4 := m4
  have m13 : γ 0 9 (ρ 4) 2 = ρ 13 := m13
  have m19 : γ 0 10 (9 * ρ 4 + 1) 4 = ρ 19 := m19
  obtain ⟨l0, l1, -⟩ := hl
  have l0 : sn132 [ρ 4, 0] (γ 0) 0 (9 * ρ 4 + 1) (γ 1) := hS132 _ _ _ _ _ l0
  have l1 : sn230 [9 * ρ 4 + 1, ρ 19] (γ 1) 0 0 (γ 2) := hS230 _ _ _ _ _ l1
  show sn261 [ρ 0, ρ 1, ρ 2, ρ 3, ρ 4, ρ 5, ρ 6, ρ 7, ρ 8, ρ 9, ρ 10, ρ 11, ρ 12, ρ 13, ρ 14, ρ 15, ρ 16, ρ 17, ρ 18, ρ 19, ρ 20, ρ 21, ρ 22, ρ 23, ρ 24, ρ 25, ρ 26, ρ 27, ρ 28, ρ 29, ρ 30, ρ 31, ρ 32, ρ 33, ρ 34, ρ 35, ρ 36, ρ 37, ρ 38, ρ 39, ρ 40, ρ 41, ρ 42, ρ 43, ρ 44, ρ 45, ρ 46, ρ 47, ρ 48, ρ 49, ρ 50, ρ 51, ρ 52, ρ 53, ρ 54, ρ 55, ρ 56, ρ 57, ρ 58, ρ 59, ρ 60, ρ 61, ρ 62, ρ 63, ρ 64, ρ 65, ρ 66] (γ 0) 0 0 (γ 2)
  refine Eq.symm ?_
  show fn261 [] (γ 0) = _
  unfold fn261
  refine (zLet_eq m4).trans ?_
  refine (zLet_eq m13).trans ?_
  refine (zLet_eq m19).trans ?_
  refine (if_neg w_0).trans ?_
  refine (zLet_eq (show fn132 [ρ 4, 0] (γ 0) = (0, 9 * ρ 4 + 1, γ 1) from l0.symm)).trans ?_
  refine (zLet_eq (show _ = γ 1 from rfl)).trans ?_
  refine (if_pos w_1).trans ?_
  refine (if_pos w_2).trans ?_
  refine (if_pos w_3).trans ?_
  refine (zLet_eq (show fn230 [9 * ρ 4 + 1] (γ 1) = (0, 0, γ 2) from l1.symm)).trans ?_
  refine (zLet_eq (show _ = γ 2 from rfl)).trans ?_
  refine (if_neg zQ0_).trans ?_
  rfl
theorem vn261_3 {S : Nat → zSpc} (hS132 : ∀ x g o v gz, S 132 x g o v gz → sn132 x g o v gz) (hS228 : ∀ x g o v gz, S 228 x g o v gz → sn228 x g o v gz) (hS229 : ∀ x g o v gz, S 229 x g o v gz → sn229 x g o v gz) (hS230 : ∀ x g o v gz, S 230 x g o v gz → sn230 x g o v gz) (hS231 : ∀ x g o v gz, S 231 x g o v gz → sn231 x g o v gz) (hS244 : ∀ x g o v gz, S 244 x g o v gz → sn244 x g o v gz) (hS259 : ∀ x g o v gz, S 259 x g o v gz → sn259 x g o v gz) (hS260 : ∀ x g o v gz, S 260 x g o v gz → sn260 x g o v gz) {a : List Int} {g : rHp} : ∀ (ρ : Nat → Int) (γ : Nat → rHp), zO 67 S a g q261_3 ρ γ → zGl (fun _ _ _ => True) (sn261 a g) q261_3 ρ γ := by
  intro ρ γ h
  obtain ⟨ha, hg, hr, hf, hm, hc, hl⟩ := h
  have ha : a = [ρ 0, ρ 1, ρ 2, ρ 3, ρ 4, ρ 5, ρ 6, ρ 7, ρ 8, ρ 9, ρ 10, ρ 11, ρ 12, ρ 13, ρ 14, ρ 15, ρ 16, ρ 17, ρ 18, ρ 19, ρ 20, ρ 21, ρ 22, ρ 23, ρ 24, ρ 25, ρ 26, ρ 27, ρ 28, ρ 29, ρ 30, ρ 31, ρ 32, ρ 33, ρ 34, ρ 35, ρ 36, ρ 37, ρ 38, ρ 39, ρ 40, ρ 41, ρ 42, ρ 43, ρ 44, ρ 45, ρ 46, ρ 47, ρ 48, ρ 49, ρ 50, ρ 51, ρ 52, ρ 53, ρ 54, ρ 55, ρ 56, ρ 57, ρ 58, ρ 59, ρ 60, ρ 61, ρ 62, ρ 63, ρ 64, ρ 65, ρ 66] := ha
  subst ha
  subst hg
  obtain ⟨-, -, -, -, -, -, -, -, -, -, -, -, -, r13, -, -, -, -, -, r19, -⟩ := hr
  have r13 : (1 : Int) ≤ ρ 13 ∧ ρ 13 ≤ 8 := r13
  have r19 : (3 : Int) ≤ ρ 19 ∧ ρ 19 ≤ 3 := r19
  obtain ⟨w_0, w_1, w_2, w_3⟩ : (¬ (0 ≥ ρ 13)) ∧ (ρ 19 ≠ 1) ∧ (0 ≤ -ρ 19 + 3) ∧ (ρ 19 ≠ 2) := ⟨by omega, by omega, by omega, by omega⟩
  obtain ⟨-, -, -, -, m4, -, -, -, -, -, -, -, -, m13, -, -, -, -, -, m19, -⟩ := hm
  have m4 : γ 0 6 0 7 = ρ 4 := m4
  have m13 : γ 0 9 (ρ 4) 2 = ρ 13 := m13
  have m19 : γ 0 10 (9 * ρ 4 + 1) 4 = ρ 19 := m19
  obtain ⟨l0, l1, l2, -⟩ := hl
  have l0 : sn132 [ρ 4, 0] (γ 0) 0 (9 * ρ 4 + 1) (γ 1) := hS132 _ _ _ _ _ l0
  have l1 : sn230 [9 * ρ 4 + 1, ρ 19] (γ 1) 0 1 (γ 2) := hS230 _ _ _ _ _ l1
  have l2 : sn259 [ρ 0, ρ 1, ρ 2, ρ 3, ρ 4, ρ 5, ρ 6, ρ 7, ρ 8, ρ 9, ρ 10, ρ 11, ρ 12, ρ 13, ρ 14, ρ 15, ρ 16, ρ 17, ρ 18, ρ 25, ρ 26, ρ 27, ρ 28, ρ 29, ρ 30, ρ 31, ρ 32, ρ 33, ρ 34, ρ 35, ρ 36, ρ 37, ρ 38, ρ 39, ρ 40, ρ 41, ρ 42, ρ 43, ρ 44, ρ 45, ρ 46, ρ 47, ρ 48, ρ 49, ρ 50, ρ 51, ρ 52, ρ 53, ρ 54, ρ 55, ρ 56, ρ 57, ρ 58, ρ 59, ρ 60, ρ 61, ρ 62, ρ 63, ρ 64, ρ 65, ρ 66] (γ 2) 0 0 (γ 3) := hS259 _ _ _ _ _ l2
  show sn261 [ρ 0, ρ 1, ρ 2, ρ 3, ρ 4, ρ 5, ρ 6, ρ 7, ρ 8, ρ 9, ρ 10, ρ 11, ρ 12, ρ 13, ρ 14, ρ 15, ρ 16, ρ 17, ρ 18, ρ 19, ρ 20, ρ 21, ρ 22, ρ 23, ρ 24, ρ 25, ρ 26, ρ 27, ρ 28, ρ 29, ρ 30, ρ 31, ρ 32, ρ 33, ρ 34, ρ 35, ρ 36, ρ 37, ρ 38, ρ 39, ρ 40, ρ 41, ρ 42, ρ 43, ρ 44, ρ 45, ρ 46, ρ 47, ρ 48, ρ 49, ρ 50, ρ 51, ρ 52, ρ 53, ρ 54, ρ 55, ρ 56, ρ 57, ρ 58, ρ 59, ρ 60, ρ 61, ρ 62, ρ 63, ρ 64, ρ 65, ρ 66] (γ 0) 0 0 (γ 3)
  refine Eq.symm ?_
  show fn261 [] (γ 0) = _
  unfold fn261
  refine (zLet_eq m4).trans ?_
  refine (zLet_eq m13).trans ?_
  refine (zLet_eq m19).trans ?_
  refine (if_neg w_0).trans ?_
  refine (zLet_eq (show fn132 [ρ 4, 0] (γ 0) = (0, 9 * ρ 4 + 1, γ 1) from l0.symm)).trans ?_
  refine (zLet_eq (show _ = γ 1 from rfl)).trans ?_
  refine (if_pos w_1).trans ?_
  refine (if_pos w_2).trans ?_
  refine (if_pos w_3).trans ?_
  refine (zLet_eq (show fn230 [9 * ρ 4 + 1] (γ 1) = (0, 1, γ 2) from l1.symm)).trans ?_
  refine (zLet_eq (show _ = γ 2 from rfl)).trans ?_
  refine (if_pos zQ1_).trans ?_
  refine (zLet_eq (show fn259 [] (γ 2) = (0, 0, γ 3) from l2.symm)).trans ?_
  refine (zLet_eq (show _ = γ 3 from rfl)).trans ?_
  refine (if_pos (show (0 : Nat) = 0 by decide)).trans ?_
  rfl
theorem vn261_4 {S : Nat → zSpc} (hS132 : ∀ x g o v gz, S 132 x g o v gz → sn132 x g o v gz) (hS228 : ∀ x g o v gz, S 228 x g o v gz → sn228 x g o v gz) (hS229 : ∀ x g o v gz, S 229 x g o v gz → sn229 x g o v gz) (hS230 : ∀ x g o v gz, S 230 x g o v gz → sn230 x g o v gz) (hS231 : ∀ x g o v gz, S 231 x g o v gz → sn231 x g o v gz) (hS244 : ∀ x g o v gz, S 244 x g o v gz → sn244 x g o v gz) (hS259 : ∀ x g o v gz, S 259 x g o v gz → sn259 x g o v gz) (hS260 : ∀ x g o v gz, S 260 x g o v gz → sn260 x g o v gz) {a : List Int} {g : rHp} : ∀ (ρ : Nat → Int) (γ : Nat → rHp), zO 67 S a g q261_4 ρ γ → zGl (fun _ _ _ => True) (sn261 a g) q261_4 ρ γ := by
  intro ρ γ h
  obtain ⟨ha, hg, hr, hf, hm, hc, hl⟩ := h
  have ha : a = [ρ 0, ρ 1, ρ 2, ρ 3, ρ 4, ρ 5, ρ 6, ρ 7, ρ 8, ρ 9, ρ 10, ρ 11, ρ 12, ρ 13, ρ 14, ρ 15, ρ 16, ρ 17, ρ 18, ρ 19, ρ 20, ρ 21, ρ 22, ρ 23, ρ 24, ρ 25, ρ 26, ρ 27, ρ 28, ρ 29, ρ 30, ρ 31, ρ 32, ρ 33, ρ 34, ρ 35, ρ 36, ρ 37, ρ 38, ρ 39, ρ 40, ρ 41, ρ 42, ρ 43, ρ 44, ρ 45, ρ 46, ρ 47, ρ 48, ρ 49, ρ 50, ρ 51, ρ 52, ρ 53, ρ 54, ρ 55, ρ 56, ρ 57, ρ 58, ρ 59, ρ 60, ρ 61, ρ 62, ρ 63, ρ 64, ρ 65, ρ 66] := ha
  subst ha
  subst hg
  obtain ⟨-, -, -, -, -, -, -, -, -, -, -, -, -, r13, -, -, -, -, -, r19, -⟩ := hr
  have r13 : (1 : Int) ≤ ρ 13 ∧ ρ 13 ≤ 8 := r13
  have r19 : (3 : Int) ≤ ρ 19 ∧ ρ 19 ≤ 3 := r19
  obtain ⟨w_0, w_1, w_2, w_3⟩ : (¬ (0 ≥ ρ 13)) ∧ (ρ 19 ≠ 1) ∧ (0 ≤ -ρ 19 + 3) ∧ (ρ 19 ≠ 2) := ⟨by omega, by omega, by omega, by omega⟩
  obtain ⟨-, -, -, -, m4, -, -, -, -, -, -, -, -, m13, -, -, -, -, -, m19, -⟩ := hm
  have m4 : γ 0 6 0 7 = ρ 4 := m4
  have m13 : γ 0 9 (ρ 4) 2 = ρ 13 := m13
  have m19 : γ 0 10 (9 * ρ 4 + 1) 4 = ρ 19 := m19
  obtain ⟨l0, l1, l2, -⟩ := hl
  have l0 : sn132 [ρ 4, 0] (γ 0) 0 (9 * ρ 4 + 1) (γ 1) := hS132 _ _ _ _ _ l0
  have l1 : sn230 [9 * ρ 4 + 1, ρ 19] (γ 1) 0 1 (γ 2) := hS230 _ _ _ _ _ l1
  have l2 : sn259 [ρ 0, ρ 1, ρ 2, ρ 3, ρ 4, ρ 5, ρ 6, ρ 7, ρ 8, ρ 9, ρ 10, ρ 11, ρ 12, ρ 13, ρ 14, ρ 15, ρ 16, ρ 17, ρ 18, ρ 25, ρ 26, ρ 27, ρ 28, ρ 29, ρ 30, ρ 31, ρ 32, ρ 33, ρ 34, ρ 35, ρ 36, ρ 37, ρ 38, ρ 39, ρ 40, ρ 41, ρ 42, ρ 43, ρ 44, ρ 45, ρ 46, ρ 47, ρ 48, ρ 49, ρ 50, ρ 51, ρ 52, ρ 53, ρ 54, ρ 55, ρ 56, ρ 57, ρ 58, ρ 59, ρ 60, ρ 61, ρ 62, ρ 63, ρ 64, ρ 65, ρ 66] (γ 2) 1 0 (γ 3) := hS259 _ _ _ _ _ l2
  show sn261 [ρ 0, ρ 1, ρ 2, ρ 3, ρ 4, ρ 5, ρ 6, ρ 7, ρ 8, ρ 9, ρ 10, ρ 11, ρ 12, ρ 13, ρ 14, ρ 15, ρ 16, ρ 17, ρ 18, ρ 19, ρ 20, ρ 21, ρ 22, ρ 23, ρ 24, ρ 25, ρ 26, ρ 27, ρ 28, ρ 29, ρ 30, ρ 31, ρ 32, ρ 33, ρ 34, ρ 35, ρ 36, ρ 37, ρ 38, ρ 39, ρ 40, ρ 41, ρ 42, ρ 43, ρ 44, ρ 45, ρ 46, ρ 47, ρ 48, ρ 49, ρ 50, ρ 51, ρ 52, ρ 53, ρ 54, ρ 55, ρ 56, ρ 57, ρ 58, ρ 59, ρ 60, ρ 61, ρ 62, ρ 63, ρ 64, ρ 65, ρ 66] (γ 0) 1 0 (γ 3)
  refine Eq.symm ?_
  show fn261 [] (γ 0) = _
  unfold fn261
  refine (zLet_eq m4).trans ?_
  refine (zLet_eq m13).trans ?_
  refine (zLet_eq m19).trans ?_
  refine (if_neg w_0).trans ?_
  refine (zLet_eq (show fn132 [ρ 4, 0] (γ 0) = (0, 9 * ρ 4 + 1, γ 1) from l0.symm)).trans ?_
  refine (zLet_eq (show _ = γ 1 from rfl)).trans ?_
  refine (if_pos w_1).trans ?_
  refine (if_pos w_2).trans ?_
  refine (if_pos w_3).trans ?_
  refine (zLet_eq (show fn230 [9 * ρ 4 + 1] (γ 1) = (0, 1, γ 2) from l1.symm)).trans ?_
  refine (zLet_eq (show _ = γ 2 from rfl)).trans ?_
  refine (if_pos zQ1_).trans ?_
  refine (zLet_eq (show fn259 [] (γ 2) = (1, 0, γ 3) from l2.symm)).trans ?_
  refine (zLet_eq (show _ = γ 3 from rfl)).trans ?_
  refine (if_neg (show ¬ (1 : Nat) = 0 by decide)).trans ?_
  refine (if_pos (show (1 : Nat) = 1 by decide)).trans ?_
  rfl
theorem vn261_5 {S : Nat → zSpc} (hS132 : ∀ x g o v gz, S 132 x g o v gz → sn132 x g o v gz) (hS228 : ∀ x g o v gz, S 228 x g o v gz → sn228 x g o v gz) (hS229 : ∀ x g o v gz, S 229 x g o v gz → sn229 x g o v gz) (hS230 : ∀ x g o v gz, S 230 x g o v gz → sn230 x g o v gz) (hS231 : ∀ x g o v gz, S 231 x g o v gz → sn231 x g o v gz) (hS244 : ∀ x g o v gz, S 244 x g o v gz → sn244 x g o v gz) (hS259 : ∀ x g o v gz, S 259 x g o v gz → sn259 x g o v gz) (hS260 : ∀ x g o v gz, S 260 x g o v gz → sn260 x g o v gz) {a : List Int} {g : rHp} : ∀ (ρ : Nat → Int) (γ : Nat → rHp), zO 67 S a g q261_5 ρ γ → zGl (fun _ _ _ => True) (sn261 a g) q261_5 ρ γ := by
  intro ρ γ h
  obtain ⟨ha, hg, hr, hf, hm, hc, hl⟩ := h
  have ha : a = [ρ 0, ρ 1, ρ 2, ρ 3, ρ 4, ρ 5, ρ 6, ρ 7, ρ 8, ρ 9, ρ 10, ρ 11, ρ 12, ρ 13, ρ 14, ρ 15, ρ 16, ρ 17, ρ 18, ρ 19, ρ 20, ρ 21, ρ 22, ρ 23, ρ 24, ρ 25, ρ 26, ρ 27, ρ 28, ρ 29, ρ 30, ρ 31, ρ 32, ρ 33, ρ 34, ρ 35, ρ 36, ρ 37, ρ 38, ρ 39, ρ 40, ρ 41, ρ 42, ρ 43, ρ 44, ρ 45, ρ 46, ρ 47, ρ 48, ρ 49, ρ 50, ρ 51, ρ 52, ρ 53, ρ 54, ρ 55, ρ 56, ρ 57, ρ 58, ρ 59, ρ 60, ρ 61, ρ 62, ρ 63, ρ 64, ρ 65, ρ 66] := ha
  subst ha
  subst hg
  obtain ⟨-, -, -, -, -, -, -, -, -, -, -, -, -, r13, -, -, -, -, -, r19, -⟩ := hr
  have r13 : (2 : Int) ≤ ρ 13 ∧ ρ 13 ≤ 8 := r13
  have r19 : (3 : Int) ≤ ρ 19 ∧ ρ 19 ≤ 3 := r19
  obtain ⟨w_0, w_1, w_2, w_3⟩ : (¬ (0 ≥ ρ 13)) ∧ (ρ 19 ≠ 1) ∧ (0 ≤ -ρ 19 + 3) ∧ (ρ 19 ≠ 2) := ⟨by omega, by omega, by omega, by omega⟩
  obtain ⟨-, -, -, -, m4, -, -, -, -, -, -, -, -, m13, -, -, -, -, -, m19, -⟩ := hm
  have m4 : γ 0 6 0 7 = ρ 4 := m4
  have m13 : γ 0 9 (ρ 4) 2 = ρ 13 := m13
  have m19 : γ 0 10 (9 * ρ 4 + 1) 4 = ρ 19 := m19
  obtain ⟨l0, l1, l2, -⟩ := hl
  have l0 : sn132 [ρ 4, 0] (γ 0) 0 (9 * ρ 4 + 1) (γ 1) := hS132 _ _ _ _ _ l0
  have l1 : sn230 [9 * ρ 4 + 1, ρ 19] (γ 1) 0 1 (γ 2) := hS230 _ _ _ _ _ l1
  have l2 : sn259 [ρ 0, ρ 1, ρ 2, ρ 3, ρ 4, ρ 5, ρ 6, ρ 7, ρ 8, ρ 9, ρ 10, ρ 11, ρ 12, ρ 13, ρ 14, ρ 15, ρ 16, ρ 17, ρ 18, ρ 25, ρ 26, ρ 27, ρ 28, ρ 29, ρ 30, ρ 31, ρ 32, ρ 33, ρ 34, ρ 35, ρ 36, ρ 37, ρ 38, ρ 39, ρ 40, ρ 41, ρ 42, ρ 43, ρ 44, ρ 45, ρ 46, ρ 47, ρ 48, ρ 49, ρ 50, ρ 51, ρ 52, ρ 53, ρ 54, ρ 55, ρ 56, ρ 57, ρ 58, ρ 59, ρ 60, ρ 61, ρ 62, ρ 63, ρ 64, ρ 65, ρ 66] (γ 2) 4 0 (γ 3) := hS259 _ _ _ _ _ l2
  show sn261 [ρ 0, ρ 1, ρ 2, ρ 3, ρ 4, ρ 5, ρ 6, ρ 7, ρ 8, ρ 9, ρ 10, ρ 11, ρ 12, ρ 13, ρ 14, ρ 15, ρ 16, ρ 17, ρ 18, ρ 19, ρ 20, ρ 21, ρ 22, ρ 23, ρ 24, ρ 25, ρ 26, ρ 27, ρ 28, ρ 29, ρ 30, ρ 31, ρ 32, ρ 33, ρ 34, ρ 35, ρ 36, ρ 37, ρ 38, ρ 39, ρ 40, ρ 41, ρ 42, ρ 43, ρ 44, ρ 45, ρ 46, ρ 47, ρ 48, ρ 49, ρ 50, ρ 51, ρ 52, ρ 53, ρ 54, ρ 55, ρ 56, ρ 57, ρ 58, ρ 59, ρ 60, ρ 61, ρ 62, ρ 63, ρ 64, ρ 65, ρ 66] (γ 0) 4 0 (γ 3)
  refine Eq.symm ?_
  show fn261 [] (γ 0) = _
  unfold fn261
  refine (zLet_eq m4).trans ?_
  refine (zLet_eq m13).trans ?_
  refine (zLet_eq m19).trans ?_
  refine (if_neg w_0).trans ?_
  refine (zLet_eq (show fn132 [ρ 4, 0] (γ 0) = (0, 9 * ρ 4 + 1, γ 1) from l0.symm)).trans ?_
  refine (zLet_eq (show _ = γ 1 from rfl)).trans ?_
  refine (if_pos w_1).trans ?_
  refine (if_pos w_2).trans ?_
  refine (if_pos w_3).trans ?_
  refine (zLet_eq (show fn230 [9 * ρ 4 + 1] (γ 1) = (0, 1, γ 2) from l1.symm)).trans ?_
  refine (zLet_eq (show _ = γ 2 from rfl)).trans ?_
  refine (if_pos zQ1_).trans ?_
  refine (zLet_eq (show fn259 [] (γ 2) = (4, 0, γ 3) from l2.symm)).trans ?_
  refine (zLet_eq (show _ = γ 3 from rfl)).trans ?_
  refine (if_neg (show ¬ (4 : Nat) = 0 by decide)).trans ?_
  refine (if_neg (show ¬ (4 : Nat) = 1 by decide)).trans ?_
  rfl
theorem vn261_6 {S : Nat → zSpc} (hS132 : ∀ x g o v gz, S 132 x g o v gz → sn132 x g o v gz) (hS228 : ∀ x g o v gz, S 228 x g o v gz → sn228 x g o v gz) (hS229 : ∀ x g o v gz, S 229 x g o v gz → sn229 x g o v gz) (hS230 : ∀ x g o v gz, S 230 x g o v gz → sn230 x g o v gz) (hS231 : ∀ x g o v gz, S 231 x g o v gz → sn231 x g o v gz) (hS244 : ∀ x g o v gz, S 244 x g o v gz → sn244 x g o v gz) (hS259 : ∀ x g o v gz, S 259 x g o v gz → sn259 x g o v gz) (hS260 : ∀ x g o v gz, S 260 x g o v gz → sn260 x g o v gz) {a : List Int} {g : rHp} : ∀ (ρ : Nat → Int) (γ : Nat → rHp), zO 67 S a g q261_6 ρ γ → zGl (fun _ _ _ => True) (sn261 a g) q261_6 ρ γ := by
  intro ρ γ h
  obtain ⟨ha, hg, hr, hf, hm, hc, hl⟩ := h
  have ha : a = [ρ 0, ρ 1, ρ 2, ρ 3, ρ 4, ρ 5, ρ 6, ρ 7, ρ 8, ρ 9, ρ 10, ρ 11, ρ 12, ρ 13, ρ 14, ρ 15, ρ 16, ρ 17, ρ 18, ρ 19, ρ 20, ρ 21, ρ 22, ρ 23, ρ 24, ρ 25, ρ 26, ρ 27, ρ 28, ρ 29, ρ 30, ρ 31, ρ 32, ρ 33, ρ 34, ρ 35, ρ 36, ρ 37, ρ 38, ρ 39, ρ 40, ρ 41, ρ 42, ρ 43, ρ 44, ρ 45, ρ 46, ρ 47, ρ 48, ρ 49, ρ 50, ρ 51, ρ 52, ρ 53, ρ 54, ρ 55, ρ 56, ρ 57, ρ 58, ρ 59, ρ 60, ρ 61, ρ 62, ρ 63, ρ 64, ρ 65, ρ 66] := ha
  subst ha
  subst hg
  obtain ⟨-, -, -, -, -, -, -, -, -, -, -, -, -, r13, -, -, -, -, -, r19, -⟩ := hr
  have r13 : (1 : Int) ≤ ρ 13 ∧ ρ 13 ≤ 8 := r13
  have r19 : (2 : Int) ≤ ρ 19 ∧ ρ 19 ≤ 2 := r19
  obtain ⟨w_0, w_1, w_2, w_3⟩ : (¬ (0 ≥ ρ 13)) ∧ (ρ 19 ≠ 1) ∧ (0 ≤ -ρ 19 + 3) ∧ (¬ (ρ 19 ≠ 2)) := ⟨by omega, by omega, by omega, by omega⟩
  obtain ⟨-, -, -, -, m4, -, -, -, -, -, -, -, -, m13, -, -, -, -, -, m19, -⟩ := hm
  have m4 : γ 0 6 0 7 = ρ 4 := m4
  have m13 : γ 0 9 (ρ 4) 2 = ρ 13 := m13
  have m19 : γ 0 10 (9 * ρ 4 + 1) 4 = ρ 19 := m19
  obtain ⟨l0, l1, l2, -⟩ := hl
  have l0 : sn132 [ρ 4, 0] (γ 0) 0 (9 * ρ 4 + 1) (γ 1) := hS132 _ _ _ _ _ l0
  have l1 : sn228 [9 * ρ 4 + 1, ρ 6, ρ 10, ρ 20, ρ 21, ρ 22] (γ 1) 0 0 (γ 2) := hS228 _ _ _ _ _ l1
  have l2 : sn259 [ρ 0, ρ 1, ρ 2, ρ 3, ρ 4, ρ 5, ρ 6, ρ 7, ρ 8, ρ 9, ρ 10, ρ 11, ρ 12, ρ 13, ρ 14, ρ 15, ρ 16, ρ 17, ρ 18, ρ 25, ρ 26, ρ 27, ρ 28, ρ 29, ρ 30, ρ 31, ρ 32, ρ 33, ρ 34, ρ 35, ρ 36, ρ 37, ρ 38, ρ 39, ρ 40, ρ 41, ρ 42, ρ 43, ρ 44, ρ 45, ρ 46, ρ 47, ρ 48, ρ 49, ρ 50, ρ 51, ρ 52, ρ 53, ρ 54, ρ 55, ρ 56, ρ 57, ρ 58, ρ 59, ρ 60, ρ 61, ρ 62, ρ 63, ρ 64, ρ 65, ρ 66] (γ 2) 0 0 (γ 3) := hS259 _ _ _ _ _ l2
  show sn261 [ρ 0, ρ 1, ρ 2, ρ 3, ρ 4, ρ 5, ρ 6, ρ 7, ρ 8, ρ 9, ρ 10, ρ 11, ρ 12, ρ 13, ρ 14, ρ 15, ρ 16, ρ 17, ρ 18, ρ 19, ρ 20, ρ 21, ρ 22, ρ 23, ρ 24, ρ 25, ρ 26, ρ 27, ρ 28, ρ 29, ρ 30, ρ 31, ρ 32, ρ 33, ρ 34, ρ 35, ρ 36, ρ 37, ρ 38, ρ 39, ρ 40, ρ 41, ρ 42, ρ 43, ρ 44, ρ 45, ρ 46, ρ 47, ρ 48, ρ 49, ρ 50, ρ 51, ρ 52, ρ 53, ρ 54, ρ 55, ρ 56, ρ 57, ρ 58, ρ 59, ρ 60, ρ 61, ρ 62, ρ 63, ρ 64, ρ 65, ρ 66] (γ 0) 0 0 (γ 3)
  refine Eq.symm ?_
  show fn261 [] (γ 0) = _
  unfold fn261
  refine (zLet_eq m4).trans ?_
  refine (zLet_eq m13).trans ?_
  refine (zLet_eq m19).trans ?_
  refine (if_neg w_0).trans ?_
  refine (zLet_eq (show fn132 [ρ 4, 0] (γ 0) = (0, 9 * ρ 4 + 1, γ 1) from l0.symm)).trans ?_
  refine (zLet_eq (show _ = γ 1 from rfl)).trans ?_
  refine (if_pos w_1).trans ?_
  refine (if_pos w_2).trans ?_
  refine (if_neg w_3).trans ?_
  refine (zLet_eq (show fn228 [9 * ρ 4 + 1] (γ 1) = (0, 0, γ 2) from l1.symm)).trans ?_
  refine (zLet_eq (show _ = γ 2 from rfl)).trans ?_
  refine (if_neg zQ0_).trans ?_
  refine (zLet_eq (show fn259 [] (γ 2) = (0, 0, γ 3) from l2.symm)).trans ?_
  refine (zLet_eq (show _ = γ 3 from rfl)).trans ?_
  refine (if_pos (show (0 : Nat) = 0 by decide)).trans ?_
  rfl
theorem vn261_7 {S : Nat → zSpc} (hS132 : ∀ x g o v gz, S 132 x g o v gz → sn132 x g o v gz) (hS228 : ∀ x g o v gz, S 228 x g o v gz → sn228 x g o v gz) (hS229 : ∀ x g o v gz, S 229 x g o v gz → sn229 x g o v gz) (hS230 : ∀ x g o v gz, S 230 x g o v gz → sn230 x g o v gz) (hS231 : ∀ x g o v gz, S 231 x g o v gz → sn231 x g o v gz) (hS244 : ∀ x g o v gz, S 244 x g o v gz → sn244 x g o v gz) (hS259 : ∀ x g o v gz, S 259 x g o v gz → sn259 x g o v gz) (hS260 : ∀ x g o v gz, S 260 x g o v gz → sn260 x g o v gz) {a : List Int} {g : rHp} : ∀ (ρ : Nat → Int) (γ : Nat → rHp), zO 67 S a g q261_7 ρ γ → zGl (fun _ _ _ => True) (sn261 a g) q261_7 ρ γ := by
  intro ρ γ h
  obtain ⟨ha, hg, hr, hf, hm, hc, hl⟩ := h
  have ha : a = [ρ 0, ρ 1, ρ 2, ρ 3, ρ 4, ρ 5, ρ 6, ρ 7, ρ 8, ρ 9, ρ 10, ρ 11, ρ 12, ρ 13, ρ 14, ρ 15, ρ 16, ρ 17, ρ 18, ρ 19, ρ 20, ρ 21, ρ 22, ρ 23, ρ 24, ρ 25, ρ 26, ρ 27, ρ 28, ρ 29, ρ 30, ρ 31, ρ 32, ρ 33, ρ 34, ρ 35, ρ 36, ρ 37, ρ 38, ρ 39, ρ 40, ρ 41, ρ 42, ρ 43, ρ 44, ρ 45, ρ 46, ρ 47, ρ 48, ρ 49, ρ 50, ρ 51, ρ 52, ρ 53, ρ 54, ρ 55, ρ 56, ρ 57, ρ 58, ρ 59, ρ 60, ρ 61, ρ 62, ρ 63, ρ 64, ρ 65, ρ 66] := ha
  subst ha
  subst hg
  obtain ⟨-, -, -, -, -, -, -, -, -, -, -, -, -, r13, -, -, -, -, -, r19, -⟩ := hr
  have r13 : (1 : Int) ≤ ρ 13 ∧ ρ 13 ≤ 8 := r13
  have r19 : (2 : Int) ≤ ρ 19 ∧ ρ 19 ≤ 2 := r19
  obtain ⟨w_0, w_1, w_2, w_3⟩ : (¬ (0 ≥ ρ 13)) ∧ (ρ 19 ≠ 1) ∧ (0 ≤ -ρ 19 + 3) ∧ (¬ (ρ 19 ≠ 2)) := ⟨by omega, by omega, by omega, by omega⟩
  obtain ⟨-, -, -, -, m4, -, -, -, -, -, -, -, -, m13, -, -, -, -, -, m19, -⟩ := hm
  have m4 : γ 0 6 0 7 = ρ 4 := m4
  have m13 : γ 0 9 (ρ 4) 2 = ρ 13 := m13
  have m19 : γ 0 10 (9 * ρ 4 + 1) 4 = ρ 19 := m19
  obtain ⟨l0, l1, l2, -⟩ := hl
  have l0 : sn132 [ρ 4, 0] (γ 0) 0 (9 * ρ 4 + 1) (γ 1) := hS132 _ _ _ _ _ l0
  have l1 : sn228 [9 * ρ 4 + 1, ρ 6, ρ 10, ρ 20, ρ 21, ρ 22] (γ 1) 0 0 (γ 2) := hS228 _ _ _ _ _ l1
  have l2 : sn259 [ρ 0, ρ 1, ρ 2, ρ 3, ρ 4, ρ 5, ρ 6, ρ 7, ρ 8, ρ 9, ρ 10, ρ 11, ρ 12, ρ 13, ρ 14, ρ 15, ρ 16, ρ 17, ρ 18, ρ 25, ρ 26, ρ 27, ρ 28, ρ 29, ρ 30, ρ 31, ρ 32, ρ 33, ρ 34, ρ 35, ρ 36, ρ 37, ρ 38, ρ 39, ρ 40, ρ 41, ρ 42, ρ 43, ρ 44, ρ 45, ρ 46, ρ 47, ρ 48, ρ 49, ρ 50, ρ 51, ρ 52, ρ 53, ρ 54, ρ 55, ρ 56, ρ 57, ρ 58, ρ 59, ρ 60, ρ 61, ρ 62, ρ 63, ρ 64, ρ 65, ρ 66] (γ 2) 1 0 (γ 3) := hS259 _ _ _ _ _ l2
  show sn261 [ρ 0, ρ 1, ρ 2, ρ 3, ρ 4, ρ 5, ρ 6, ρ 7, ρ 8, ρ 9, ρ 10, ρ 11, ρ 12, ρ 13, ρ 14, ρ 15, ρ 16, ρ 17, ρ 18, ρ 19, ρ 20, ρ 21, ρ 22, ρ 23, ρ 24, ρ 25, ρ 26, ρ 27, ρ 28, ρ 29, ρ 30, ρ 31, ρ 32, ρ 33, ρ 34, ρ 35, ρ 36, ρ 37, ρ 38, ρ 39, ρ 40, ρ 41, ρ 42, ρ 43, ρ 44, ρ 45, ρ 46, ρ 47, ρ 48, ρ 49, ρ 50, ρ 51, ρ 52, ρ 53, ρ 54, ρ 55, ρ 56, ρ 57, ρ 58, ρ 59, ρ 60, ρ 61, ρ 62, ρ 63, ρ 64, ρ 65, ρ 66] (γ 0) 1 0 (γ 3)
  refine Eq.symm ?_
  show fn261 [] (γ 0) = _
  unfold fn261
  refine (zLet_eq m4).trans ?_
  refine (zLet_eq m13).trans ?_
  refine (zLet_eq m19).trans ?_
  refine (if_neg w_0).trans ?_
  refine (zLet_eq (show fn132 [ρ 4, 0] (γ 0) = (0, 9 * ρ 4 + 1, γ 1) from l0.symm)).trans ?_
  refine (zLet_eq (show _ = γ 1 from rfl)).trans ?_
  refine (if_pos w_1).trans ?_
  refine (if_pos w_2).trans ?_
  refine (if_neg w_3).trans ?_
  refine (zLet_eq (show fn228 [9 * ρ 4 + 1] (γ 1) = (0, 0, γ 2) from l1.symm)).trans ?_
  refine (zLet_eq (show _ = γ 2 from rfl)).trans ?_
  refine (if_neg zQ0_).trans ?_
  refine (zLet_eq (show fn259 [] (γ 2) = (1, 0, γ 3) from l2.symm)).trans ?_
  refine (zLet_eq (show _ = γ 3 from rfl)).trans ?_
  refine (if_neg (show ¬ (1 : Nat) = 0 by decide)).trans ?_
  refine (if_pos (show (1 : Nat) = 1 by decide)).trans ?_
  rfl
theorem vn261_8 {S : Nat → zSpc} (hS132 : ∀ x g o v gz, S 132 x g o v gz → sn132 x g o v gz) (hS228 : ∀ x g o v gz, S 228 x g o v gz → sn228 x g o v gz) (hS229 : ∀ x g o v gz, S 229 x g o v gz → sn229 x g o v gz) (hS230 : ∀ x g o v gz, S 230 x g o v gz → sn230 x g o v gz) (hS231 : ∀ x g o v gz, S 231 x g o v gz → sn231 x g o v gz) (hS244 : ∀ x g o v gz, S 244 x g o v gz → sn244 x g o v gz) (hS259 : ∀ x g o v gz, S 259 x g o v gz → sn259 x g o v gz) (hS260 : ∀ x g o v gz, S 260 x g o v gz → sn260 x g o v gz) {a : List Int} {g : rHp} : ∀ (ρ : Nat → Int) (γ : Nat → rHp), zO 67 S a g q261_8 ρ γ → zGl (fun _ _ _ => True) (sn261 a g) q261_8 ρ γ := by
  intro ρ γ h
  obtain ⟨ha, hg, hr, hf, hm, hc, hl⟩ := h
  have ha : a = [ρ 0, ρ 1, ρ 2, ρ 3, ρ 4, ρ 5, ρ 6, ρ 7, ρ 8, ρ 9, ρ 10, ρ 11, ρ 12, ρ 13, ρ 14, ρ 15, ρ 16, ρ 17, ρ 18, ρ 19, ρ 20, ρ 21, ρ 22, ρ 23, ρ 24, ρ 25, ρ 26, ρ 27, ρ 28, ρ 29, ρ 30, ρ 31, ρ 32, ρ 33, ρ 34, ρ 35, ρ 36, ρ 37, ρ 38, ρ 39, ρ 40, ρ 41, ρ 42, ρ 43, ρ 44, ρ 45, ρ 46, ρ 47, ρ 48, ρ 49, ρ 50, ρ 51, ρ 52, ρ 53, ρ 54, ρ 55, ρ 56, ρ 57, ρ 58, ρ 59, ρ 60, ρ 61, ρ 62, ρ 63, ρ 64, ρ 65, ρ 66] := ha
  subst ha
  subst hg
  obtain ⟨-, -, -, -, -, -, -, -, -, -, -, -, -, r13, -, -, -, -, -, r19, -⟩ := hr
  have r13 : (2 : Int) ≤ ρ 13 ∧ ρ 13 ≤ 8 := r13
  have r19 : (2 : Int) ≤ ρ 19 ∧ ρ 19 ≤ 2 := r19
  obtain ⟨w_0, w_1, w_2, w_3⟩ : (¬ (0 ≥ ρ 13)) ∧ (ρ 19 ≠ 1) ∧ (0 ≤ -ρ 19 + 3) ∧ (¬ (ρ 19 ≠ 2)) := ⟨by omega, by omega, by omega, by omega⟩
  obtain ⟨-, -, -, -, m4, -, -, -, -, -, -, -, -, m13, -, -, -, -, -, m19, -⟩ := hm
  have m4 : γ 0 6 0 7 = ρ 4 := m4
  have m13 : γ 0 9 (ρ 4) 2 = ρ 13 := m13
  have m19 : γ 0 10 (9 * ρ 4 + 1) 4 = ρ 19 := m19
  obtain ⟨l0, l1, l2, -⟩ := hl
  have l0 : sn132 [ρ 4, 0] (γ 0) 0 (9 * ρ 4 + 1) (γ 1) := hS132 _ _ _ _ _ l0
  have l1 : sn228 [9 * ρ 4 + 1, ρ 6, ρ 10, ρ 20, ρ 21, ρ 22] (γ 1) 0 0 (γ 2) := hS228 _ _ _ _ _ l1
  have l2 : sn259 [ρ 0, ρ 1, ρ 2, ρ 3, ρ 4, ρ 5, ρ 6, ρ 7, ρ 8, ρ 9, ρ 10, ρ 11, ρ 12, ρ 13, ρ 14, ρ 15, ρ 16, ρ 17, ρ 18, ρ 25, ρ 26, ρ 27, ρ 28, ρ 29, ρ 30, ρ 31, ρ 32, ρ 33, ρ 34, ρ 35, ρ 36, ρ 37, ρ 38, ρ 39, ρ 40, ρ 41, ρ 42, ρ 43, ρ 44, ρ 45, ρ 46, ρ 47, ρ 48, ρ 49, ρ 50, ρ 51, ρ 52, ρ 53, ρ 54, ρ 55, ρ 56, ρ 57, ρ 58, ρ 59, ρ 60, ρ 61, ρ 62, ρ 63, ρ 64, ρ 65, ρ 66] (γ 2) 4 0 (γ 3) := hS259 _ _ _ _ _ l2
  show sn261 [ρ 0, ρ 1, ρ 2, ρ 3, ρ 4, ρ 5, ρ 6, ρ 7, ρ 8, ρ 9, ρ 10, ρ 11, ρ 12, ρ 13, ρ 14, ρ 15, ρ 16, ρ 17, ρ 18, ρ 19, ρ 20, ρ 21, ρ 22, ρ 23, ρ 24, ρ 25, ρ 26, ρ 27, ρ 28, ρ 29, ρ 30, ρ 31, ρ 32, ρ 33, ρ 34, ρ 35, ρ 36, ρ 37, ρ 38, ρ 39, ρ 40, ρ 41, ρ 42, ρ 43, ρ 44, ρ 45, ρ 46, ρ 47, ρ 48, ρ 49, ρ 50, ρ 51, ρ 52, ρ 53, ρ 54, ρ 55, ρ 56, ρ 57, ρ 58, ρ 59, ρ 60, ρ 61, ρ 62, ρ 63, ρ 64, ρ 65, ρ 66] (γ 0) 4 0 (γ 3)
  refine Eq.symm ?_
  show fn261 [] (γ 0) = _
  unfold fn261
  refine (zLet_eq m4).trans ?_
  refine (zLet_eq m13).trans ?_
  refine (zLet_eq m19).trans ?_
  refine (if_neg w_0).trans ?_
  refine (zLet_eq (show fn132 [ρ 4, 0] (γ 0) = (0, 9 * ρ 4 + 1, γ 1) from l0.symm)).trans ?_
  refine (zLet_eq (show _ = γ 1 from rfl)).trans ?_
  refine (if_pos w_1).trans ?_
  refine (if_pos w_2).trans ?_
  refine (if_neg w_3).trans ?_
  refine (zLet_eq (show fn228 [9 * ρ 4 + 1] (γ 1) = (0, 0, γ 2) from l1.symm)).trans ?_
  refine (zLet_eq (show _ = γ 2 from rfl)).trans ?_
  refine (if_neg zQ0_).trans ?_
  refine (zLet_eq (show fn259 [] (γ 2) = (4, 0, γ 3) from l2.symm)).trans ?_
  refine (zLet_eq (show _ = γ 3 from rfl)).trans ?_
  refine (if_neg (show ¬ (4 : Nat) = 0 by decide)).trans ?_
  refine (if_neg (show ¬ (4 : Nat) = 1 by decide)).trans ?_
  rfl
theorem vn261_9 {S : Nat → zSpc} (hS132 : ∀ x g o v gz, S 132 x g o v gz → sn132 x g o v gz) (hS228 : ∀ x g o v gz, S 228 x g o v gz → sn228 x g o v gz) (hS229 : ∀ x g o v gz, S 229 x g o v gz → sn229 x g o v gz) (hS230 : ∀ x g o v gz, S 230 x g o v gz → sn230 x g o v gz) (hS231 : ∀ x g o v gz, S 231 x g o v gz → sn231 x g o v gz) (hS244 : ∀ x g o v gz, S 244 x g o v gz → sn244 x g o v gz) (hS259 : ∀ x g o v gz, S 259 x g o v gz → sn259 x g o v gz) (hS260 : ∀ x g o v gz, S 260 x g o v gz → sn260 x g o v gz) {a : List Int} {g : rHp} : ∀ (ρ : Nat → Int) (γ : Nat → rHp), zO 67 S a g q261_9 ρ γ → zGl (fun _ _ _ => True) (sn261 a g) q261_9 ρ γ := by
  intro ρ γ h
  obtain ⟨ha, hg, hr, hf, hm, hc, hl⟩ := h
  have ha : a = [ρ 0, ρ 1, ρ 2, ρ 3, ρ 4, ρ 5, ρ 6, ρ 7, ρ 8, ρ 9, ρ 10, ρ 11, ρ 12, ρ 13, ρ 14, ρ 15, ρ 16, ρ 17, ρ 18, ρ 19, ρ 20, ρ 21, ρ 22, ρ 23, ρ 24, ρ 25, ρ 26, ρ 27, ρ 28, ρ 29, ρ 30, ρ 31, ρ 32, ρ 33, ρ 34, ρ 35, ρ 36, ρ 37, ρ 38, ρ 39, ρ 40, ρ 41, ρ 42, ρ 43, ρ 44, ρ 45, ρ 46, ρ 47, ρ 48, ρ 49, ρ 50, ρ 51, ρ 52, ρ 53, ρ 54, ρ 55, ρ 56, ρ 57, ρ 58, ρ 59, ρ 60, ρ 61, ρ 62, ρ 63, ρ 64, ρ 65, ρ 66] := ha
  subst ha
  subst hg
  obtain ⟨-, -, -, -, -, -, -, -, -, -, -, -, -, r13, -, -, -, -, -, r19, -⟩ := hr
  have r13 : (1 : Int) ≤ ρ 13 ∧ ρ 13 ≤ 8 := r13
  have r19 : (2 : Int) ≤ ρ 19 ∧ ρ 19 ≤ 2 := r19
  obtain ⟨w_0, w_1, w_2, w_3⟩ : (¬ (0 ≥ ρ 13)) ∧ (ρ 19 ≠ 1) ∧ (0 ≤ -ρ 19 + 3) ∧ (¬ (ρ 19 ≠ 2)) := ⟨by omega, by omega, by omega, by omega⟩
  obtain ⟨-, -, -, -, m4, -, -, -, -, -, -, -, -, m13, -, -, -, -, -, m19, -⟩ := hm
  have m4 : γ 0 6 0 7 = ρ 4 := m4
  have m13 : γ 0 9 (ρ 4) 2 = ρ 13 := m13
  have m19 : γ 0 10 (9 * ρ 4 + 1) 4 = ρ 19 := m19
  obtain ⟨l0, l1, -⟩ := hl
  have l0 : sn132 [ρ 4, 0] (γ 0) 0 (9 * ρ 4 + 1) (γ 1) := hS132 _ _ _ _ _ l0
  have l1 : sn228 [9 * ρ 4 + 1, ρ 6, ρ 10, ρ 20, ρ 21, ρ 22] (γ 1) 0 1 (γ 2) := hS228 _ _ _ _ _ l1
  show sn261 [ρ 0, ρ 1, ρ 2, ρ 3, ρ 4, ρ 5, ρ 6, ρ 7, ρ 8, ρ 9, ρ 10, ρ 11, ρ 12, ρ 13, ρ 14, ρ 15, ρ 16, ρ 17, ρ 18, ρ 19, ρ 20, ρ 21, ρ 22, ρ 23, ρ 24, ρ 25, ρ 26, ρ 27, ρ 28, ρ 29, ρ 30, ρ 31, ρ 32, ρ 33, ρ 34, ρ 35, ρ 36, ρ 37, ρ 38, ρ 39, ρ 40, ρ 41, ρ 42, ρ 43, ρ 44, ρ 45, ρ 46, ρ 47, ρ 48, ρ 49, ρ 50, ρ 51, ρ 52, ρ 53, ρ 54, ρ 55, ρ 56, ρ 57, ρ 58, ρ 59, ρ 60, ρ 61, ρ 62, ρ 63, ρ 64, ρ 65, ρ 66] (γ 0) 0 0 (γ 2)
  refine Eq.symm ?_
  show fn261 [] (γ 0) = _
  unfold fn261
  refine (zLet_eq m4).trans ?_
  refine (zLet_eq m13).trans ?_
  refine (zLet_eq m19).trans ?_
  refine (if_neg w_0).trans ?_
  refine (zLet_eq (show fn132 [ρ 4, 0] (γ 0) = (0, 9 * ρ 4 + 1, γ 1) from l0.symm)).trans ?_
  refine (zLet_eq (show _ = γ 1 from rfl)).trans ?_
  refine (if_pos w_1).trans ?_
  refine (if_pos w_2).trans ?_
  refine (if_neg w_3).trans ?_
  refine (zLet_eq (show fn228 [9 * ρ 4 + 1] (γ 1) = (0, 1, γ 2) from l1.symm)).trans ?_
  refine (zLet_eq (show _ = γ 2 from rfl)).trans ?_
  refine (if_pos zQ1_).trans ?_
  rfl
theorem vn261_10 {S : Nat → zSpc} (hS132 : ∀ x g o v gz, S 132 x g o v gz → sn132 x g o v gz) (hS228 : ∀ x g o v gz, S 228 x g o v gz → sn228 x g o v gz) (hS229 : ∀ x g o v gz, S 229 x g o v gz → sn229 x g o v gz) (hS230 : ∀ x g o v gz, S 230 x g o v gz → sn230 x g o v gz) (hS231 : ∀ x g o v gz, S 231 x g o v gz → sn231 x g o v gz) (hS244 : ∀ x g o v gz, S 244 x g o v gz → sn244 x g o v gz) (hS259 : ∀ x g o v gz, S 259 x g o v gz → sn259 x g o v gz) (hS260 : ∀ x g o v gz, S 260 x g o v gz → sn260 x g o v gz) {a : List Int} {g : rHp} : ∀ (ρ : Nat → Int) (γ : Nat → rHp), zO 67 S a g q261_10 ρ γ → zGl (fun _ _ _ => True) (sn261 a g) q261_10 ρ γ := by
  intro ρ γ h
  obtain ⟨ha, hg, hr, hf, hm, hc, hl⟩ := h
  have ha : a = [ρ 0, ρ 1, ρ 2, ρ 3, ρ 4, ρ 5, ρ 6, ρ 7, ρ 8, ρ 9, ρ 10, ρ 11, ρ 12, ρ 13, ρ 14, ρ 15, ρ 16, ρ 17, ρ 18, ρ 19, ρ 20, ρ 21, ρ 22, ρ 23, ρ 24, ρ 25, ρ 26, ρ 27, ρ 28, ρ 29, ρ 30, ρ 31, ρ 32, ρ 33, ρ 34, ρ 35, ρ 36, ρ 37, ρ 38, ρ 39, ρ 40, ρ 41, ρ 42, ρ 43, ρ 44, ρ 45, ρ 46, ρ 47, ρ 48, ρ 49, ρ 50, ρ 51, ρ 52, ρ 53, ρ 54, ρ 55, ρ 56, ρ 57, ρ 58, ρ 59, ρ 60, ρ 61, ρ 62, ρ 63, ρ 64, ρ 65, ρ 66] := ha
  subst ha
  subst hg
  obtain ⟨-, -, -, -, -, -, -, -, -, -, -, -, -, r13, -, -, -, -, -, r19, -⟩ := hr
  have r13 : (1 : Int) ≤ ρ 13 ∧ ρ 13 ≤ 8 := r13
  have r19 : (4 : Int) ≤ ρ 19 ∧ ρ 19 ≤ 5 := r19
  obtain ⟨w_0, w_1, w_2, w_3⟩ : (¬ (0 ≥ ρ 13)) ∧ (ρ 19 ≠ 1) ∧ (¬ (0 ≤ -ρ 19 + 3)) ∧ (0 ≤ -ρ 19 + 5) := ⟨by omega, by omega, by omega, by omega⟩
  obtain ⟨-, -, -, -, m4, -, -, -, -, -, -, -, -, m13, -, -, -, -, -, m19, -⟩ := hm
  have m4 : γ 0 6 0 7 = ρ 4 := m4
  have m13 : γ 0 9 (ρ 4) 2 = ρ 13 := m13
  have m19 : γ 0 10 (9 * ρ 4 + 1) 4 = ρ 19 := m19
  obtain ⟨l0, l1, -⟩ := hl
  have l0 : sn132 [ρ 4, 0] (γ 0) 0 (9 * ρ 4 + 1) (γ 1) := hS132 _ _ _ _ _ l0
  have l1 : sn229 [9 * ρ 4 + 1, ρ 19] (γ 1) 0 0 (γ 2) := hS229 _ _ _ _ _ l1
  show sn261 [ρ 0, ρ 1, ρ 2, ρ 3, ρ 4, ρ 5, ρ 6, ρ 7, ρ 8, ρ 9, ρ 10, ρ 11, ρ 12, ρ 13, ρ 14, ρ 15, ρ 16, ρ 17, ρ 18, ρ 19, ρ 20, ρ 21, ρ 22, ρ 23, ρ 24, ρ 25, ρ 26, ρ 27, ρ 28, ρ 29, ρ 30, ρ 31, ρ 32, ρ 33, ρ 34, ρ 35, ρ 36, ρ 37, ρ 38, ρ 39, ρ 40, ρ 41, ρ 42, ρ 43, ρ 44, ρ 45, ρ 46, ρ 47, ρ 48, ρ 49, ρ 50, ρ 51, ρ 52, ρ 53, ρ 54, ρ 55, ρ 56, ρ 57, ρ 58, ρ 59, ρ 60, ρ 61, ρ 62, ρ 63, ρ 64, ρ 65, ρ 66] (γ 0) 0 0 (γ 2)
  refine Eq.symm ?_
  show fn261 [] (γ 0) = _
  unfold fn261
  refine (zLet_eq m4).trans ?_
  refine (zLet_eq m13).trans ?_
  refine (zLet_eq m19).trans ?_
  refine (if_neg w_0).trans ?_
  refine (zLet_eq (show fn132 [ρ 4, 0] (γ 0) = (0, 9 * ρ 4 + 1, γ 1) from l0.symm)).trans ?_
  refine (zLet_eq (show _ = γ 1 from rfl)).trans ?_
  refine (if_pos w_1).trans ?_
  refine (if_neg w_2).trans ?_
  refine (if_pos w_3).trans ?_
  refine (zLet_eq (show fn229 [9 * ρ 4 + 1] (γ 1) = (0, 0, γ 2) from l1.symm)).trans ?_
  refine (zLet_eq (show _ = γ 2 from rfl)).trans ?_
  refine (if_neg zQ0_).trans ?_
  rfl
theorem vn261_11 {S : Nat → zSpc} (hS132 : ∀ x g o v gz, S 132 x g o v gz → sn132 x g o v gz) (hS228 : ∀ x g o v gz, S 228 x g o v gz → sn228 x g o v gz) (hS229 : ∀ x g o v gz, S 229 x g o v gz → sn229 x g o v gz) (hS230 : ∀ x g o v gz, S 230 x g o v gz → sn230 x g o v gz) (hS231 : ∀ x g o v gz, S 231 x g o v gz → sn231 x g o v gz) (hS244 : ∀ x g o v gz, S 244 x g o v gz → sn244 x g o v gz) (hS259 : ∀ x g o v gz, S 259 x g o v gz → sn259 x g o v gz) (hS260 : ∀ x g o v gz, S 260 x g o v gz → sn260 x g o v gz) {a : List Int} {g : rHp} : ∀ (ρ : Nat → Int) (γ : Nat → rHp), zO 67 S a g q261_11 ρ γ → zGl (fun _ _ _ => True) (sn261 a g) q261_11 ρ γ := by
  intro ρ γ h
  obtain ⟨ha, hg, hr, hf, hm, hc, hl⟩ := h
  have ha : a = [ρ 0, ρ 1, ρ 2, ρ 3, ρ 4, ρ 5, ρ 6, ρ 7, ρ 8, ρ 9, ρ 10, ρ 11, ρ 12, ρ 13, ρ 14, ρ 15, ρ 16, ρ 17, ρ 18, ρ 19, ρ 20, ρ 21, ρ 22, ρ 23, ρ 24, ρ 25, ρ 26, ρ 27, ρ 28, ρ 29, ρ 30, ρ 31, ρ 32, ρ 33, ρ 34, ρ 35, ρ 36, ρ 37, ρ 38, ρ 39, ρ 40, ρ 41, ρ 42, ρ 43, ρ 44, ρ 45, ρ 46, ρ 47, ρ 48, ρ 49, ρ 50, ρ 51, ρ 52, ρ 53, ρ 54, ρ 55, ρ 56, ρ 57, ρ 58, ρ 59, ρ 60, ρ 61, ρ 62, ρ 63, ρ 64, ρ 65, ρ 66] := ha
  subst ha
  subst hg
  obtain ⟨-, -, -, -, -, -, -, -, -, -, -, -, -, r13, -, -, -, -, -, r19, -⟩ := hr
  have r13 : (1 : Int) ≤ ρ 13 ∧ ρ 13 ≤ 8 := r13
  have r19 : (4 : Int) ≤ ρ 19 ∧ ρ 19 ≤ 5 := r19
  obtain ⟨w_0, w_1, w_2, w_3⟩ : (¬ (0 ≥ ρ 13)) ∧ (ρ 19 ≠ 1) ∧ (¬ (0 ≤ -ρ 19 + 3)) ∧ (0 ≤ -ρ 19 + 5) := ⟨by omega, by omega, by omega, by omega⟩
  obtain ⟨-, -, -, -, m4, -, -, -, -, -, -, -, -, m13, -, -, -, -, -, m19, -⟩ := hm
  have m4 : γ 0 6 0 7 = ρ 4 := m4
  have m13 : γ 0 9 (ρ 4) 2 = ρ 13 := m13
  have m19 : γ 0 10 (9 * ρ 4 + 1) 4 = ρ 19 := m19
  obtain ⟨l0, l1, l2, -⟩ := hl
  have l0 : sn132 [ρ 4, 0] (γ 0) 0 (9 * ρ 4 + 1) (γ 1) := hS132 _ _ _ _ _ l0
  have l1 : sn229 [9 * ρ 4 + 1, ρ 19] (γ 1) 0 1 (γ 2) := hS229 _ _ _ _ _ l1
  have l2 : sn259 [ρ 0, ρ 1, ρ 2, ρ 3, ρ 4, ρ 5, ρ 6, ρ 7, ρ 8, ρ 9, ρ 10, ρ 11, ρ 12, ρ 13, ρ 14, ρ 15, ρ 16, ρ 17, ρ 18, ρ 25, ρ 26, ρ 27, ρ 28, ρ 29, ρ 30, ρ 31, ρ 32, ρ 33, ρ 34, ρ 35, ρ 36, ρ 37, ρ 38, ρ 39, ρ 40, ρ 41, ρ 42, ρ 43, ρ 44, ρ 45, ρ 46, ρ 47, ρ 48, ρ 49, ρ 50, ρ 51, ρ 52, ρ 53, ρ 54, ρ 55, ρ 56, ρ 57, ρ 58, ρ 59, ρ 60, ρ 61, ρ 62, ρ 63, ρ 64, ρ 65, ρ 66] (γ 2) 0 0 (γ 3) := hS259 _ _ _ _ _ l2
  show sn261 [ρ 0, ρ 1, ρ 2, ρ 3, ρ 4, ρ 5, ρ 6, ρ 7, ρ 8, ρ 9, ρ 10, ρ 11, ρ 12, ρ 13, ρ 14, ρ 15, ρ 16, ρ 17, ρ 18, ρ 19, ρ 20, ρ 21, ρ 22, ρ 23, ρ 24, ρ 25, ρ 26, ρ 27, ρ 28, ρ 29, ρ 30, ρ 31, ρ 32, ρ 33, ρ 34, ρ 35, ρ 36, ρ 37, ρ 38, ρ 39, ρ 40, ρ 41, ρ 42, ρ 43, ρ 44, ρ 45, ρ 46, ρ 47, ρ 48, ρ 49, ρ 50, ρ 51, ρ 52, ρ 53, ρ 54, ρ 55, ρ 56, ρ 57, ρ 58, ρ 59, ρ 60, ρ 61, ρ 62, ρ 63, ρ 64, ρ 65, ρ 66] (γ 0) 0 0 (γ 3)
  refine Eq.symm ?_
  show fn261 [] (γ 0) = _
  unfold fn261
  refine (zLet_eq m4).trans ?_
  refine (zLet_eq m13).trans ?_
  refine (zLet_eq m19).trans ?_
  refine (if_neg w_0).trans ?_
  refine (zLet_eq (show fn132 [ρ 4, 0] (γ 0) = (0, 9 * ρ 4 + 1, γ 1) from l0.symm)).trans ?_
  refine (zLet_eq (show _ = γ 1 from rfl)).trans ?_
  refine (if_pos w_1).trans ?_
  refine (if_neg w_2).trans ?_
  refine (if_pos w_3).trans ?_
  refine (zLet_eq (show fn229 [9 * ρ 4 + 1] (γ 1) = (0, 1, γ 2) from l1.symm)).trans ?_
  refine (zLet_eq (show _ = γ 2 from rfl)).trans ?_
  refine (if_pos zQ1_).trans ?_
  refine (zLet_eq (show fn259 [] (γ 2) = (0, 0, γ 3) from l2.symm)).trans ?_
  refine (zLet_eq (show _ = γ 3 from rfl)).trans ?_
  refine (if_pos (show (0 : Nat) = 0 by decide)).trans ?_
  rfl
theorem vn261_12 {S : Nat → zSpc} (hS132 : ∀ x g o v gz, S 132 x g o v gz → sn132 x g o v gz) (hS228 : ∀ x g o v gz, S 228 x g o v gz → sn228 x g o v gz) (hS229 : ∀ x g o v gz, S 229 x g o v gz → sn229 x g o v gz) (hS230 : ∀ x g o v gz, S 230 x g o v gz → sn230 x g o v gz) (hS231 : ∀ x g o v gz, S 231 x g o v gz → sn231 x g o v gz) (hS244 : ∀ x g o v gz, S 244 x g o v gz → sn244 x g o v gz) (hS259 : ∀ x g o v gz, S 259 x g o v gz → sn259 x g o v gz) (hS260 : ∀ x g o v gz, S 260 x g o v gz → sn260 x g o v gz) {a : List Int} {g : rHp} : ∀ (ρ : Nat → Int) (γ : Nat → rHp), zO 67 S a g q261_12 ρ γ → zGl (fun _ _ _ => True) (sn261 a g) q261_12 ρ γ := by
  intro ρ γ h
  obtain ⟨ha, hg, hr, hf, hm, hc, hl⟩ := h
  have ha : a = [ρ 0, ρ 1, ρ 2, ρ 3, ρ 4, ρ 5, ρ 6, ρ 7, ρ 8, ρ 9, ρ 10, ρ 11, ρ 12, ρ 13, ρ 14, ρ 15, ρ 16, ρ 17, ρ 18, ρ 19, ρ 20, ρ 21, ρ 22, ρ 23, ρ 24, ρ 25, ρ 26, ρ 27, ρ 28, ρ 29, ρ 30, ρ 31, ρ 32, ρ 33, ρ 34, ρ 35, ρ 36, ρ 37, ρ 38, ρ 39, ρ 40, ρ 41, ρ 42, ρ 43, ρ 44, ρ 45, ρ 46, ρ 47, ρ 48, ρ 49, ρ 50, ρ 51, ρ 52, ρ 53, ρ 54, ρ 55, ρ 56, ρ 57, ρ 58, ρ 59, ρ 60, ρ 61, ρ 62, ρ 63, ρ 64, ρ 65, ρ 66] := ha
  subst ha
  subst hg
  obtain ⟨-, -, -, -, -, -, -, -, -, -, -, -, -, r13, -, -, -, -, -, r19, -⟩ := hr
  have r13 : (1 : Int) ≤ ρ 13 ∧ ρ 13 ≤ 8 := r13
  have r19 : (4 : Int) ≤ ρ 19 ∧ ρ 19 ≤ 5 := r19
  obtain ⟨w_0, w_1, w_2, w_3⟩ : (¬ (0 ≥ ρ 13)) ∧ (ρ 19 ≠ 1) ∧ (¬ (0 ≤ -ρ 19 + 3)) ∧ (0 ≤ -ρ 19 + 5) := ⟨by omega, by omega, by omega, by omega⟩
  obtain ⟨-, -, -, -, m4, -, -, -, -, -, -, -, -, m13, -, -, -, -, -, m19, -⟩ := hm
  have m4 : γ 0 6 0 7 = ρ 4 := m4
  have m13 : γ 0 9 (ρ 4) 2 = ρ 13 := m13
  have m19 : γ 0 10 (9 * ρ 4 + 1) 4 = ρ 19 := m19
  obtain ⟨l0, l1, l2, -⟩ := hl
  have l0 : sn132 [ρ 4, 0] (γ 0) 0 (9 * ρ 4 + 1) (γ 1) := hS132 _ _ _ _ _ l0
  have l1 : sn229 [9 * ρ 4 + 1, ρ 19] (γ 1) 0 1 (γ 2) := hS229 _ _ _ _ _ l1
  have l2 : sn259 [ρ 0, ρ 1, ρ 2, ρ 3, ρ 4, ρ 5, ρ 6, ρ 7, ρ 8, ρ 9, ρ 10, ρ 11, ρ 12, ρ 13, ρ 14, ρ 15, ρ 16, ρ 17, ρ 18, ρ 25, ρ 26, ρ 27, ρ 28, ρ 29, ρ 30, ρ 31, ρ 32, ρ 33, ρ 34, ρ 35, ρ 36, ρ 37, ρ 38, ρ 39, ρ 40, ρ 41, ρ 42, ρ 43, ρ 44, ρ 45, ρ 46, ρ 47, ρ 48, ρ 49, ρ 50, ρ 51, ρ 52, ρ 53, ρ 54, ρ 55, ρ 56, ρ 57, ρ 58, ρ 59, ρ 60, ρ 61, ρ 62, ρ 63, ρ 64, ρ 65, ρ 66] (γ 2) 1 0 (γ 3) := hS259 _ _ _ _ _ l2
  show sn261 [ρ 0, ρ 1, ρ 2, ρ 3, ρ 4, ρ 5, ρ 6, ρ 7, ρ 8, ρ 9, ρ 10, ρ 11, ρ 12, ρ 13, ρ 14, ρ 15, ρ 16, ρ 17, ρ 18, ρ 19, ρ 20, ρ 21, ρ 22, ρ 23, ρ 24, ρ 25, ρ 26, ρ 27, ρ 28, ρ 29, ρ 30, ρ 31, ρ 32, ρ 33, ρ 34, ρ 35, ρ 36, ρ 37, ρ 38, ρ 39, ρ 40, ρ 41, ρ 42, ρ 43, ρ 44, ρ 45, ρ 46, ρ 47, ρ 48, ρ 49, ρ 50, ρ 51, ρ 52, ρ 53, ρ 54, ρ 55, ρ 56, ρ 57, ρ 58, ρ 59, ρ 60, ρ 61, ρ 62, ρ 63, ρ 64, ρ 65, ρ 66] (γ 0) 1 0 (γ 3)
  refine Eq.symm ?_
  show fn261 [] (γ 0) = _
  unfold fn261
  refine (zLet_eq m4).trans ?_
  refine (zLet_eq m13).trans ?_
  refine (zLet_eq m19).trans ?_
  refine (if_neg w_0).trans ?_
  refine (zLet_eq (show fn132 [ρ 4, 0] (γ 0) = (0, 9 * ρ 4 + 1, γ 1) from l0.symm)).trans ?_
  refine (zLet_eq (show _ = γ 1 from rfl)).trans ?_
  refine (if_pos w_1).trans ?_
  refine (if_neg w_2).trans ?_
  refine (if_pos w_3).trans ?_
  refine (zLet_eq (show fn229 [9 * ρ 4 + 1] (γ 1) = (0, 1, γ 2) from l1.symm)).trans ?_
  refine (zLet_eq (show _ = γ 2 from rfl)).trans ?_
  refine (if_pos zQ1_).trans ?_
  refine (zLet_eq (show fn259 [] (γ 2) = (1, 0, γ 3) from l2.symm)).trans ?_
  refine (zLet_eq (show _ = γ 3 from rfl)).trans ?_
  refine (if_neg (show ¬ (1 : Nat) = 0 by decide)).trans ?_
  refine (if_pos (show (1 : Nat) = 1 by decide)).trans ?_
  rfl
theorem vn261_13 {S : Nat → zSpc} (hS132 : ∀ x g o v gz, S 132 x g o v gz → sn132 x g o v gz) (hS228 : ∀ x g o v gz, S 228 x g o v gz → sn228 x g o v gz) (hS229 : ∀ x g o v gz, S 229 x g o v gz → sn229 x g o v gz) (hS230 : ∀ x g o v gz, S 230 x g o v gz → sn230 x g o v gz) (hS231 : ∀ x g o v gz, S 231 x g o v gz → sn231 x g o v gz) (hS244 : ∀ x g o v gz, S 244 x g o v gz → sn244 x g o v gz) (hS259 : ∀ x g o v gz, S 259 x g o v gz → sn259 x g o v gz) (hS260 : ∀ x g o v gz, S 260 x g o v gz → sn260 x g o v gz) {a : List Int} {g : rHp} : ∀ (ρ : Nat → Int) (γ : Nat → rHp), zO 67 S a g q261_13 ρ γ → zGl (fun _ _ _ => True) (sn261 a g) q261_13 ρ γ := by
  intro ρ γ h
  obtain ⟨ha, hg, hr, hf, hm, hc, hl⟩ := h
  have ha : a = [ρ 0, ρ 1, ρ 2, ρ 3, ρ 4, ρ 5, ρ 6, ρ 7, ρ 8, ρ 9, ρ 10, ρ 11, ρ 12, ρ 13, ρ 14, ρ 15, ρ 16, ρ 17, ρ 18, ρ 19, ρ 20, ρ 21, ρ 22, ρ 23, ρ 24, ρ 25, ρ 26, ρ 27, ρ 28, ρ 29, ρ 30, ρ 31, ρ 32, ρ 33, ρ 34, ρ 35, ρ 36, ρ 37, ρ 38, ρ 39, ρ 40, ρ 41, ρ 42, ρ 43, ρ 44, ρ 45, ρ 46, ρ 47, ρ 48, ρ 49, ρ 50, ρ 51, ρ 52, ρ 53, ρ 54, ρ 55, ρ 56, ρ 57, ρ 58, ρ 59, ρ 60, ρ 61, ρ 62, ρ 63, ρ 64, ρ 65, ρ 66] := ha
  subst ha
  subst hg
  obtain ⟨-, -, -, -, -, -, -, -, -, -, -, -, -, r13, -, -, -, -, -, r19, -⟩ := hr
  have r13 : (2 : Int) ≤ ρ 13 ∧ ρ 13 ≤ 8 := r13
  have r19 : (4 : Int) ≤ ρ 19 ∧ ρ 19 ≤ 5 := r19
  obtain ⟨w_0, w_1, w_2, w_3⟩ : (¬ (0 ≥ ρ 13)) ∧ (ρ 19 ≠ 1) ∧ (¬ (0 ≤ -ρ 19 + 3)) ∧ (0 ≤ -ρ 19 + 5) := ⟨by omega, by omega, by omega, by omega⟩
  obtain ⟨-, -, -, -, m4, -, -, -, -, -, -, -, -, m13, -, -, -, -, -, m19, -⟩ := hm
  have m4 : γ 0 6 0 7 = ρ 4 := m4
  have m13 : γ 0 9 (ρ 4) 2 = ρ 13 := m13
  have m19 : γ 0 10 (9 * ρ 4 + 1) 4 = ρ 19 := m19
  obtain ⟨l0, l1, l2, -⟩ := hl
  have l0 : sn132 [ρ 4, 0] (γ 0) 0 (9 * ρ 4 + 1) (γ 1) := hS132 _ _ _ _ _ l0
  have l1 : sn229 [9 * ρ 4 + 1, ρ 19] (γ 1) 0 1 (γ 2) := hS229 _ _ _ _ _ l1
  have l2 : sn259 [ρ 0, ρ 1, ρ 2, ρ 3, ρ 4, ρ 5, ρ 6, ρ 7, ρ 8, ρ 9, ρ 10, ρ 11, ρ 12, ρ 13, ρ 14, ρ 15, ρ 16, ρ 17, ρ 18, ρ 25, ρ 26, ρ 27, ρ 28, ρ 29, ρ 30, ρ 31, ρ 32, ρ 33, ρ 34, ρ 35, ρ 36, ρ 37, ρ 38, ρ 39, ρ 40, ρ 41, ρ 42, ρ 43, ρ 44, ρ 45, ρ 46, ρ 47, ρ 48, ρ 49, ρ 50, ρ 51, ρ 52, ρ 53, ρ 54, ρ 55, ρ 56, ρ 57, ρ 58, ρ 59, ρ 60, ρ 61, ρ 62, ρ 63, ρ 64, ρ 65, ρ 66] (γ 2) 4 0 (γ 3) := hS259 _ _ _ _ _ l2
  show sn261 [ρ 0, ρ 1, ρ 2, ρ 3, ρ 4, ρ 5, ρ 6, ρ 7, ρ 8, ρ 9, ρ 10, ρ 11, ρ 12, ρ 13, ρ 14, ρ 15, ρ 16, ρ 17, ρ 18, ρ 19, ρ 20, ρ 21, ρ 22, ρ 23, ρ 24, ρ 25, ρ 26, ρ 27, ρ 28, ρ 29, ρ 30, ρ 31, ρ 32, ρ 33, ρ 34, ρ 35, ρ 36, ρ 37, ρ 38, ρ 39, ρ 40, ρ 41, ρ 42, ρ 43, ρ 44, ρ 45, ρ 46, ρ 47, ρ 48, ρ 49, ρ 50, ρ 51, ρ 52, ρ 53, ρ 54, ρ 55, ρ 56, ρ 57, ρ 58, ρ 59, ρ 60, ρ 61, ρ 62, ρ 63, ρ 64, ρ 65, ρ 66] (γ 0) 4 0 (γ 3)
  refine Eq.symm ?_
  show fn261 [] (γ 0) = _
  unfold fn261
  refine (zLet_eq m4).trans ?_
  refine (zLet_eq m13).trans ?_
  refine (zLet_eq m19).trans ?_
  refine (if_neg w_0).trans ?_
  refine (zLet_eq (show fn132 [ρ 4, 0] (γ 0) = (0, 9 * ρ 4 + 1, γ 1) from l0.symm)).trans ?_
  refine (zLet_eq (show _ = γ 1 from rfl)).trans ?_
  refine (if_pos w_1).trans ?_
  refine (if_neg w_2).trans ?_
  refine (if_pos w_3).trans ?_
  refine (zLet_eq (show fn229 [9 * ρ 4 + 1] (γ 1) = (0, 1, γ 2) from l1.symm)).trans ?_
  refine (zLet_eq (show _ = γ 2 from rfl)).trans ?_
  refine (if_pos zQ1_).trans ?_
  refine (zLet_eq (show fn259 [] (γ 2) = (4, 0, γ 3) from l2.symm)).trans ?_
  refine (zLet_eq (show _ = γ 3 from rfl)).trans ?_
  refine (if_neg (show ¬ (4 : Nat) = 0 by decide)).trans ?_
  refine (if_neg (show ¬ (4 : Nat) = 1 by decide)).trans ?_
  rfl
theorem vn261_14 {S : Nat → zSpc} (hS132 : ∀ x g o v gz, S 132 x g o v gz → sn132 x g o v gz) (hS228 : ∀ x g o v gz, S 228 x g o v gz → sn228 x g o v gz) (hS229 : ∀ x g o v gz, S 229 x g o v gz → sn229 x g o v gz) (hS230 : ∀ x g o v gz, S 230 x g o v gz → sn230 x g o v gz) (hS231 : ∀ x g o v gz, S 231 x g o v gz → sn231 x g o v gz) (hS244 : ∀ x g o v gz, S 244 x g o v gz → sn244 x g o v gz) (hS259 : ∀ x g o v gz, S 259 x g o v gz → sn259 x g o v gz) (hS260 : ∀ x g o v gz, S 260 x g o v gz → sn260 x g o v gz) {a : List Int} {g : rHp} : ∀ (ρ : Nat → Int) (γ : Nat → rHp), zO 67 S a g q261_14 ρ γ → zGl (fun _ _ _ => True) (sn261 a g) q261_14 ρ γ := by
  intro ρ γ h
  obtain ⟨ha, hg, hr, hf, hm, hc, hl⟩ := h
  have ha : a = [ρ 0, ρ 1, ρ 2, ρ 3, ρ 4, ρ 5, ρ 6, ρ 7, ρ 8, ρ 9, ρ 10, ρ 11, ρ 12, ρ 13, ρ 14, ρ 15, ρ 16, ρ 17, ρ 18, ρ 19, ρ 20, ρ 21, ρ 22, ρ 23, ρ 24, ρ 25, ρ 26, ρ 27, ρ 28, ρ 29, ρ 30, ρ 31, ρ 32, ρ 33, ρ 34, ρ 35, ρ 36, ρ 37, ρ 38, ρ 39, ρ 40, ρ 41, ρ 42, ρ 43, ρ 44, ρ 45, ρ 46, ρ 47, ρ 48, ρ 49, ρ 50, ρ 51, ρ 52, ρ 53, ρ 54, ρ 55, ρ 56, ρ 57, ρ 58, ρ 59, ρ 60, ρ 61, ρ 62, ρ 63, ρ 64, ρ 65, ρ 66] := ha
  subst ha
  subst hg
  obtain ⟨-, -, -, -, -, -, -, -, -, -, -, -, -, r13, -, -, -, -, -, r19, -⟩ := hr
  have r13 : (1 : Int) ≤ ρ 13 ∧ ρ 13 ≤ 8 := r13
  have r19 : (6 : Int) ≤ ρ 19 ∧ ρ 19 ≤ 8 := r19
  obtain ⟨w_0, w_1, w_2, w_3⟩ : (¬ (0 ≥ ρ 13)) ∧ (ρ 19 ≠ 1) ∧ (¬ (0 ≤ -ρ 19 + 3)) ∧ (¬ (0 ≤ -ρ 19 + 5)) := ⟨by omega, by omega, by omega, by omega⟩
  obtain ⟨-, -, -, -, m4, -, -, -, -, -, -, -, -, m13, -, -, -, -, -, m19, -⟩ := hm
  have m4 : γ 0 6 0 7 = ρ 4 := m4
  have m13 : γ 0 9 (ρ 4) 2 = ρ 13 := m13
  have m19 : γ 0 10 (9 * ρ 4 + 1) 4 = ρ 19 := m19
  obtain ⟨l0, l1, -⟩ := hl
  have l0 : sn132 [ρ 4, 0] (γ 0) 0 (9 * ρ 4 + 1) (γ 1) := hS132 _ _ _ _ _ l0
  have l1 : sn231 [9 * ρ 4 + 1, ρ 19, ρ 24] (γ 1) 0 0 (γ 2) := hS231 _ _ _ _ _ l1
  show sn261 [ρ 0, ρ 1, ρ 2, ρ 3, ρ 4, ρ 5, ρ 6, ρ 7, ρ 8, ρ 9, ρ 10, ρ 11, ρ 12, ρ 13, ρ 14, ρ 15, ρ 16, ρ 17, ρ 18, ρ 19, ρ 20, ρ 21, ρ 22, ρ 23, ρ 24, ρ 25, ρ 26, ρ 27, ρ 28, ρ 29, ρ 30, ρ 31, ρ 32, ρ 33, ρ 34, ρ 35, ρ 36, ρ 37, ρ 38, ρ 39, ρ 40, ρ 41, ρ 42, ρ 43, ρ 44, ρ 45, ρ 46, ρ 47, ρ 48, ρ 49, ρ 50, ρ 51, ρ 52, ρ 53, ρ 54, ρ 55, ρ 56, ρ 57, ρ 58, ρ 59, ρ 60, ρ 61, ρ 62, ρ 63, ρ 64, ρ 65, ρ 66] (γ 0) 0 0 (γ 2)
  refine Eq.symm ?_
  show fn261 [] (γ 0) = _
  unfold fn261
  refine (zLet_eq m4).trans ?_
  refine (zLet_eq m13).trans ?_
  refine (zLet_eq m19).trans ?_
  refine (if_neg w_0).trans ?_
  refine (zLet_eq (show fn132 [ρ 4, 0] (γ 0) = (0, 9 * ρ 4 + 1, γ 1) from l0.symm)).trans ?_
  refine (zLet_eq (show _ = γ 1 from rfl)).trans ?_
  refine (if_pos w_1).trans ?_
  refine (if_neg w_2).trans ?_
  refine (if_neg w_3).trans ?_
  refine (zLet_eq (show fn231 [9 * ρ 4 + 1] (γ 1) = (0, 0, γ 2) from l1.symm)).trans ?_
  refine (zLet_eq (show _ = γ 2 from rfl)).trans ?_
  refine (if_neg zQ0_).trans ?_
  rfl
theorem vn261_15 {S : Nat → zSpc} (hS132 : ∀ x g o v gz, S 132 x g o v gz → sn132 x g o v gz) (hS228 : ∀ x g o v gz, S 228 x g o v gz → sn228 x g o v gz) (hS229 : ∀ x g o v gz, S 229 x g o v gz → sn229 x g o v gz) (hS230 : ∀ x g o v gz, S 230 x g o v gz → sn230 x g o v gz) (hS231 : ∀ x g o v gz, S 231 x g o v gz → sn231 x g o v gz) (hS244 : ∀ x g o v gz, S 244 x g o v gz → sn244 x g o v gz) (hS259 : ∀ x g o v gz, S 259 x g o v gz → sn259 x g o v gz) (hS260 : ∀ x g o v gz, S 260 x g o v gz → sn260 x g o v gz) {a : List Int} {g : rHp} : ∀ (ρ : Nat → Int) (γ : Nat → rHp), zO 67 S a g q261_15 ρ γ → zGl (fun _ _ _ => True) (sn261 a g) q261_15 ρ γ := by
  intro ρ γ h
  obtain ⟨ha, hg, hr, hf, hm, hc, hl⟩ := h
  have ha : a = [ρ 0, ρ 1, ρ 2, ρ 3, ρ 4, ρ 5, ρ 6, ρ 7, ρ 8, ρ 9, ρ 10, ρ 11, ρ 12, ρ 13, ρ 14, ρ 15, ρ 16, ρ 17, ρ 18, ρ 19, ρ 20, ρ 21, ρ 22, ρ 23, ρ 24, ρ 25, ρ 26, ρ 27, ρ 28, ρ 29, ρ 30, ρ 31, ρ 32, ρ 33, ρ 34, ρ 35, ρ 36, ρ 37, ρ 38, ρ 39, ρ 40, ρ 41, ρ 42, ρ 43, ρ 44, ρ 45, ρ 46, ρ 47, ρ 48, ρ 49, ρ 50, ρ 51, ρ 52, ρ 53, ρ 54, ρ 55, ρ 56, ρ 57, ρ 58, ρ 59, ρ 60, ρ 61, ρ 62, ρ 63, ρ 64, ρ 65, ρ 66] := ha
  subst ha
  subst hg
  obtain ⟨-, -, -, -, -, -, -, -, -, -, -, -, -, r13, -, -, -, -, -, r19, -⟩ := hr
  have r13 : (1 : Int) ≤ ρ 13 ∧ ρ 13 ≤ 8 := r13
  have r19 : (6 : Int) ≤ ρ 19 ∧ ρ 19 ≤ 8 := r19
  obtain ⟨w_0, w_1, w_2, w_3⟩ : (¬ (0 ≥ ρ 13)) ∧ (ρ 19 ≠ 1) ∧ (¬ (0 ≤ -ρ 19 + 3)) ∧ (¬ (0 ≤ -ρ 19 + 5)) := ⟨by omega, by omega, by omega, by omega⟩
  obtain ⟨-, -, -, -, m4, -, -, -, -, -, -, -, -, m13, -, -, -, -, -, m19, -⟩ := hm
  have m4 : γ 0 6 0 7 = ρ 4 := m4
  have m13 : γ 0 9 (ρ 4) 2 = ρ 13 := m13
  have m19 : γ 0 10 (9 * ρ 4 + 1) 4 = ρ 19 := m19
  obtain ⟨l0, l1, l2, -⟩ := hl
  have l0 : sn132 [ρ 4, 0] (γ 0) 0 (9 * ρ 4 + 1) (γ 1) := hS132 _ _ _ _ _ l0
  have l1 : sn231 [9 * ρ 4 + 1, ρ 19, ρ 24] (γ 1) 0 1 (γ 2) := hS231 _ _ _ _ _ l1
  have l2 : sn259 [ρ 0, ρ 1, ρ 2, ρ 3, ρ 4, ρ 5, ρ 6, ρ 7, ρ 8, ρ 9, ρ 10, ρ 11, ρ 12, ρ 13, ρ 14, ρ 15, ρ 16, ρ 17, ρ 18, ρ 25, ρ 26, ρ 27, ρ 28, ρ 29, ρ 30, ρ 31, ρ 32, ρ 33, ρ 34, ρ 35, ρ 36, ρ 37, ρ 38, ρ 39, ρ 40, ρ 41, ρ 42, ρ 43, ρ 44, ρ 45, ρ 46, ρ 47, ρ 48, ρ 49, ρ 50, ρ 51, ρ 52, ρ 53, ρ 54, ρ 55, ρ 56, ρ 57, ρ 58, ρ 59, ρ 60, ρ 61, ρ 62, ρ 63, ρ 64, ρ 65, ρ 66] (γ 2) 0 0 (γ 3) := hS259 _ _ _ _ _ l2
  show sn261 [ρ 0, ρ 1, ρ 2, ρ 3, ρ 4, ρ 5, ρ 6, ρ 7, ρ 8, ρ 9, ρ 10, ρ 11, ρ 12, ρ 13, ρ 14, ρ 15, ρ 16, ρ 17, ρ 18, ρ 19, ρ 20, ρ 21, ρ 22, ρ 23, ρ 24, ρ 25, ρ 26, ρ 27, ρ 28, ρ 29, ρ 30, ρ 31, ρ 32, ρ 33, ρ 34, ρ 35, ρ 36, ρ 37, ρ 38, ρ 39, ρ 40, ρ 41, ρ 42, ρ 43, ρ 44, ρ 45, ρ 46, ρ 47, ρ 48, ρ 49, ρ 50, ρ 51, ρ 52, ρ 53, ρ 54, ρ 55, ρ 56, ρ 57, ρ 58, ρ 59, ρ 60, ρ 61, ρ 62, ρ 63, ρ 64, ρ 65, ρ 66] (γ 0) 0 0 (γ 3)
  refine Eq.symm ?_
  show fn261 [] (γ 0) = _
  unfold fn261
  refine (zLet_eq m4).trans ?_
  refine (zLet_eq m13).trans ?_
  refine (zLet_eq m19).trans ?_
  refine (if_neg w_0).trans ?_
  refine (zLet_eq (show fn132 [ρ 4, 0] (γ 0) = (0, 9 * ρ 4 + 1, γ 1) from l0.symm)).trans ?_
  refine (zLet_eq (show _ = γ 1 from rfl)).trans ?_
  refine (if_pos w_1).trans ?_
  refine (if_neg w_2).trans ?_
  refine (if_neg w_3).trans ?_
  refine (zLet_eq (show fn231 [9 * ρ 4 + 1] (γ 1) = (0, 1, γ 2) from l1.symm)).trans ?_
  refine (zLet_eq (show _ = γ 2 from rfl)).trans ?_
  refine (if_pos zQ1_).trans ?_
  refine (zLet_eq (show fn259 [] (γ 2) = (0, 0, γ 3) from l2.symm)).trans ?_
  refine (zLet_eq (show _ = γ 3 from rfl)).trans ?_
  refine (if_pos (show (0 : Nat) = 0 by decide)).trans ?_
  rfl
theorem vn261_16 {S : Nat → zSpc} (hS132 : ∀ x g o v gz, S 132 x g o v gz → sn132 x g o v gz) (hS228 : ∀ x g o v gz, S 228 x g o v gz → sn228 x g o v gz) (hS229 : ∀ x g o v gz, S 229 x g o v gz → sn229 x g o v gz) (hS230 : ∀ x g o v gz, S 230 x g o v gz → sn230 x g o v gz) (hS231 : ∀ x g o v gz, S 231 x g o v gz → sn231 x g o v gz) (hS244 : ∀ x g o v gz, S 244 x g o v gz → sn244 x g o v gz) (hS259 : ∀ x g o v gz, S 259 x g o v gz → sn259 x g o v gz) (hS260 : ∀ x g o v gz, S 260 x g o v gz → sn260 x g o v gz) {a : List Int} {g : rHp} : ∀ (ρ : Nat → Int) (γ : Nat → rHp), zO 67 S a g q261_16 ρ γ → zGl (fun _ _ _ => True) (sn261 a g) q261_16 ρ γ := by
  intro ρ γ h
  obtain ⟨ha, hg, hr, hf, hm, hc, hl⟩ := h
  have ha : a = [ρ 0, ρ 1, ρ 2, ρ 3, ρ 4, ρ 5, ρ 6, ρ 7, ρ 8, ρ 9, ρ 10, ρ 11, ρ 12, ρ 13, ρ 14, ρ 15, ρ 16, ρ 17, ρ 18, ρ 19, ρ 20, ρ 21, ρ 22, ρ 23, ρ 24, ρ 25, ρ 26, ρ 27, ρ 28, ρ 29, ρ 30, ρ 31, ρ 32, ρ 33, ρ 34, ρ 35, ρ 36, ρ 37, ρ 38, ρ 39, ρ 40, ρ 41, ρ 42, ρ 43, ρ 44, ρ 45, ρ 46, ρ 47, ρ 48, ρ 49, ρ 50, ρ 51, ρ 52, ρ 53, ρ 54, ρ 55, ρ 56, ρ 57, ρ 58, ρ 59, ρ 60, ρ 61, ρ 62, ρ 63, ρ 64, ρ 65, ρ 66] := ha
  subst ha
  subst hg
  obtain ⟨-, -, -, -, -, -, -, -, -, -, -, -, -, r13, -, -, -, -, -, r19, -⟩ := hr
  have r13 : (1 : Int) ≤ ρ 13 ∧ ρ 13 ≤ 8 := r13
  have r19 : (6 : Int) ≤ ρ 19 ∧ ρ 19 ≤ 8 := r19
  obtain ⟨w_0, w_1, w_2, w_3⟩ : (¬ (0 ≥ ρ 13)) ∧ (ρ 19 ≠ 1) ∧ (¬ (0 ≤ -ρ 19 + 3)) ∧ (¬ (0 ≤ -ρ 19 + 5)) := ⟨by omega, by omega, by omega, by omega⟩
  obtain ⟨-, -, -, -, m4, -, -, -, -, -, -, -, -, m13, -, -, -, -, -, m19, -⟩ := hm
  have m4 : γ 0 6 0 7 = ρ 4 := m4
  have m13 : γ 0 9 (ρ 4) 2 = ρ 13 := m13
  have m19 : γ 0 10 (9 * ρ 4 + 1) 4 = ρ 19 := m19
  obtain ⟨l0, l1, l2, -⟩ := hl
  have l0 : sn132 [ρ 4, 0] (γ 0) 0 (9 * ρ 4 + 1) (γ 1) := hS132 _ _ _ _ _ l0
  have l1 : sn231 [9 * ρ 4 + 1, ρ 19, ρ 24] (γ 1) 0 1 (γ 2) := hS231 _ _ _ _ _ l1
  have l2 : sn259 [ρ 0, ρ 1, ρ 2, ρ 3, ρ 4, ρ 5, ρ 6, ρ 7, ρ 8, ρ 9, ρ 10, ρ 11, ρ 12, ρ 13, ρ 14, ρ 15, ρ 16, ρ 17, ρ 18, ρ 25, ρ 26, ρ 27, ρ 28, ρ 29, ρ 30, ρ 31, ρ 32, ρ 33, ρ 34, ρ 35, ρ 36, ρ 37, ρ 38, ρ 39, ρ 40, ρ 41, ρ 42, ρ 43, ρ 44, ρ 45, ρ 46, ρ 47, ρ 48, ρ 49, ρ 50, ρ 51, ρ 52, ρ 53, ρ 54, ρ 55, ρ 56, ρ 57, ρ 58, ρ 59, ρ 60, ρ 61, ρ 62, ρ 63, ρ 64, ρ 65, ρ 66] (γ 2) 1 0 (γ 3) := hS259 _ _ _ _ _ l2
  show sn261 [ρ 0, ρ 1, ρ 2, ρ 3, ρ 4, ρ 5, ρ 6, ρ 7, ρ 8, ρ 9, ρ 10, ρ 11, ρ 12, ρ 13, ρ 14, ρ 15, ρ 16, ρ 17, ρ 18, ρ 19, ρ 20, ρ 21, ρ 22, ρ 23, ρ 24, ρ 25, ρ 26, ρ 27, ρ 28, ρ 29, ρ 30, ρ 31, ρ 32, ρ 33, ρ 34, ρ 35, ρ 36, ρ 37, ρ 38, ρ 39, ρ 40, ρ 41, ρ 42, ρ 43, ρ 44, ρ 45, ρ 46, ρ 47, ρ 48, ρ 49, ρ 50, ρ 51, ρ 52, ρ 53, ρ 54, ρ 55, ρ 56, ρ 57, ρ 58, ρ 59, ρ 60, ρ 61, ρ 62, ρ 63, ρ 64, ρ 65, ρ 66] (γ 0) 1 0 (γ 3)
  refine Eq.symm ?_
  show fn261 [] (γ 0) = _
  unfold fn261
  refine (zLet_eq m4).trans ?_
  refine (zLet_eq m13).trans ?_
  refine (zLet_eq m19).trans ?_
  refine (if_neg w_0).trans ?_
  refine (zLet_eq (show fn132 [ρ 4, 0] (γ 0) = (0, 9 * ρ 4 + 1, γ 1) from l0.symm)).trans ?_
  refine (zLet_eq (show _ = γ 1 from rfl)).trans ?_
  refine (if_pos w_1).trans ?_
  refine (if_neg w_2).trans ?_
  refine (if_neg w_3).trans ?_
  refine (zLet_eq (show fn231 [9 * ρ 4 + 1] (γ 1) = (0, 1, γ 2) from l1.symm)).trans ?_
  refine (zLet_eq (show _ = γ 2 from rfl)).trans ?_
  refine (if_pos zQ1_).trans ?_
  refine (zLet_eq (show fn259 [] (γ 2) = (1, 0, γ 3) from l2.symm)).trans ?_
  refine (zLet_eq (show _ = γ 3 from rfl)).trans ?_
  refine (if_neg (show ¬ (1 : Nat) = 0 by decide)).trans ?_
  refine (if_pos (show (1 : Nat) = 1 by decide)).trans ?_
  rfl
theorem vn261_17 {S : Nat → zSpc} (hS132 : ∀ x g o v gz, S 132 x g o v gz → sn132 x g o v gz) (hS228 : ∀ x g o v gz, S 228 x g o v gz → sn228 x g o v gz) (hS229 : ∀ x g o v gz, S 229 x g o v gz → sn229 x g o v gz) (hS230 : ∀ x g o v gz, S 230 x g o v gz → sn230 x g o v gz) (hS231 : ∀ x g o v gz, S 231 x g o v gz → sn231 x g o v gz) (hS244 : ∀ x g o v gz, S 244 x g o v gz → sn244 x g o v gz) (hS259 : ∀ x g o v gz, S 259 x g o v gz → sn259 x g o v gz) (hS260 : ∀ x g o v gz, S 260 x g o v gz → sn260 x g o v gz) {a : List Int} {g : rHp} : ∀ (ρ : Nat → Int) (γ : Nat → rHp), zO 67 S a g q261_17 ρ γ → zGl (fun _ _ _ => True) (sn261 a g) q261_17 ρ γ := by
  intro ρ γ h
  obtain ⟨ha, hg, hr, hf, hm, hc, hl⟩ := h
  have ha : a = [ρ 0, ρ 1, ρ 2, ρ 3, ρ 4, ρ 5, ρ 6, ρ 7, ρ 8, ρ 9, ρ 10, ρ 11, ρ 12, ρ 13, ρ 14, ρ 15, ρ 16, ρ 17, ρ 18, ρ 19, ρ 20, ρ 21, ρ 22, ρ 23, ρ 24, ρ 25, ρ 26, ρ 27, ρ 28, ρ 29, ρ 30, ρ 31, ρ 32, ρ 33, ρ 34, ρ 35, ρ 36, ρ 37, ρ 38, ρ 39, ρ 40, ρ 41, ρ 42, ρ 43, ρ 44, ρ 45, ρ 46, ρ 47, ρ 48, ρ 49, ρ 50, ρ 51, ρ 52, ρ 53, ρ 54, ρ 55, ρ 56, ρ 57, ρ 58, ρ 59, ρ 60, ρ 61, ρ 62, ρ 63, ρ 64, ρ 65, ρ 66] := ha
  subst ha
  subst hg
  obtain ⟨-, -, -, -, -, -, -, -, -, -, -, -, -, r13, -, -, -, -, -, r19, -⟩ := hr
  have r13 : (2 : Int) ≤ ρ 13 ∧ ρ 13 ≤ 8 := r13
  have r19 : (6 : Int) ≤ ρ 19 ∧ ρ 19 ≤ 8 := r19
  obtain ⟨w_0, w_1, w_2, w_3⟩ : (¬ (0 ≥ ρ 13)) ∧ (ρ 19 ≠ 1) ∧ (¬ (0 ≤ -ρ 19 + 3)) ∧ (¬ (0 ≤ -ρ 19 + 5)) := ⟨by omega, by omega, by omega, by omega⟩
  obtain ⟨-, -, -, -, m4, -, -, -, -, -, -, -, -, m13, -, -, -, -, -, m19, -⟩ := hm
  have m4 : γ 0 6 0 7 = ρ 4 := m4
  have m13 : γ 0 9 (ρ 4) 2 = ρ 13 := m13
  have m19 : γ 0 10 (9 * ρ 4 + 1) 4 = ρ 19 := m19
  obtain ⟨l0, l1, l2, -⟩ := hl
  have l0 : sn132 [ρ 4, 0] (γ 0) 0 (9 * ρ 4 + 1) (γ 1) := hS132 _ _ _ _ _ l0
  have l1 : sn231 [9 * ρ 4 + 1, ρ 19, ρ 24] (γ 1) 0 1 (γ 2) := hS231 _ _ _ _ _ l1
  have l2 : sn259 [ρ 0, ρ 1, ρ 2, ρ 3, ρ 4, ρ 5, ρ 6, ρ 7, ρ 8, ρ 9, ρ 10, ρ 11, ρ 12, ρ 13, ρ 14, ρ 15, ρ 16, ρ 17, ρ 18, ρ 25, ρ 26, ρ 27, ρ 28, ρ 29, ρ 30, ρ 31, ρ 32, ρ 33, ρ 34, ρ 35, ρ 36, ρ 37, ρ 38, ρ 39, ρ 40, ρ 41, ρ 42, ρ 43, ρ 44, ρ 45, ρ 46, ρ 47, ρ 48, ρ 49, ρ 50, ρ 51, ρ 52, ρ 53, ρ 54, ρ 55, ρ 56, ρ 57, ρ 58, ρ 59, ρ 60, ρ 61, ρ 62, ρ 63, ρ 64, ρ 65, ρ 66] (γ 2) 4 0 (γ 3) := hS259 _ _ _ _ _ l2
  show sn261 [ρ 0, ρ 1, ρ 2, ρ 3, ρ 4, ρ 5, ρ 6, ρ 7, ρ 8, ρ 9, ρ 10, ρ 11, ρ 12, ρ 13, ρ 14, ρ 15, ρ 16, ρ 17, ρ 18, ρ 19, ρ 20, ρ 21, ρ 22, ρ 23, ρ 24, ρ 25, ρ 26, ρ 27, ρ 28, ρ 29, ρ 30, ρ 31, ρ 32, ρ 33, ρ 34, ρ 35, ρ 36, ρ 37, ρ 38, ρ 39, ρ 40, ρ 41, ρ 42, ρ 43, ρ 44, ρ 45, ρ 46, ρ 47, ρ 48, ρ 49, ρ 50, ρ 51, ρ 52, ρ 53, ρ 54, ρ 55, ρ 56, ρ 57, ρ 58, ρ 59, ρ 60, ρ 61, ρ 62, ρ 63, ρ 64, ρ 65, ρ 66] (γ 0) 4 0 (γ 3)
  refine Eq.symm ?_
  show fn261 [] (γ 0) = _
  unfold fn261
  refine (zLet_eq m4).trans ?_
  refine (zLet_eq m13).trans ?_
  refine (zLet_eq m19).trans ?_
  refine (if_neg w_0).trans ?_
  refine (zLet_eq (show fn132 [ρ 4, 0] (γ 0) = (0, 9 * ρ 4 + 1, γ 1) from l0.symm)).trans ?_
  refine (zLet_eq (show _ = γ 1 from rfl)).trans ?_
  refine (if_pos w_1).trans ?_
  refine (if_neg w_2).trans ?_
  refine (if_neg w_3).trans ?_
  refine (zLet_eq (show fn231 [9 * ρ 4 + 1] (γ 1) = (0, 1, γ 2) from l1.symm)).trans ?_
  refine (zLet_eq (show _ = γ 2 from rfl)).trans ?_
  refine (if_pos zQ1_).trans ?_
  refine (zLet_eq (show fn259 [] (γ 2) = (4, 0, γ 3) from l2.symm)).trans ?_
  refine (zLet_eq (show _ = γ 3 from rfl)).trans ?_
  refine (if_neg (show ¬ (4 : Nat) = 0 by decide)).trans ?_
  refine (if_neg (show ¬ (4 : Nat) = 1 by decide)).trans ?_
  rfl
theorem vn261_18 {S : Nat → zSpc} (hS132 : ∀ x g o v gz, S 132 x g o v gz → sn132 x g o v gz) (hS228 : ∀ x g o v gz, S 228 x g o v gz → sn228 x g o v gz) (hS229 : ∀ x g o v gz, S 229 x g o v gz → sn229 x g o v gz) (hS230 : ∀ x g o v gz, S 230 x g o v gz → sn230 x g o v gz) (hS231 : ∀ x g o v gz, S 231 x g o v gz → sn231 x g o v gz) (hS244 : ∀ x g o v gz, S 244 x g o v gz → sn244 x g o v gz) (hS259 : ∀ x g o v gz, S 259 x g o v gz → sn259 x g o v gz) (hS260 : ∀ x g o v gz, S 260 x g o v gz → sn260 x g o v gz) {a : List Int} {g : rHp} : ∀ (ρ : Nat → Int) (γ : Nat → rHp), zO 67 S a g q261_18 ρ γ → zGl (fun _ _ _ => True) (sn261 a g) q261_18 ρ γ := by
  intro ρ γ h
  obtain ⟨ha, hg, hr, hf, hm, hc, hl⟩ := h
  have ha : a = [ρ 0, ρ 1, ρ 2, ρ 3, ρ 4, ρ 5, ρ 6, ρ 7, ρ 8, ρ 9, ρ 10, ρ 11, ρ 12, ρ 13, ρ 14, ρ 15, ρ 16, ρ 17, ρ 18, ρ 19, ρ 20, ρ 21, ρ 22, ρ 23, ρ 24, ρ 25, ρ 26, ρ 27, ρ 28, ρ 29, ρ 30, ρ 31, ρ 32, ρ 33, ρ 34, ρ 35, ρ 36, ρ 37, ρ 38, ρ 39, ρ 40, ρ 41, ρ 42, ρ 43, ρ 44, ρ 45, ρ 46, ρ 47, ρ 48, ρ 49, ρ 50, ρ 51, ρ 52, ρ 53, ρ 54, ρ 55, ρ 56, ρ 57, ρ 58, ρ 59, ρ 60, ρ 61, ρ 62, ρ 63, ρ 64, ρ 65, ρ 66] := ha
  subst ha
  subst hg
  obtain ⟨-, -, -, -, -, -, -, -, -, -, -, -, -, r13, -, -, -, -, -, r19, -⟩ := hr
  have r13 : (1 : Int) ≤ ρ 13 ∧ ρ 13 ≤ 8 := r13
  have r19 : (1 : Int) ≤ ρ 19 ∧ ρ 19 ≤ 1 := r19
  obtain ⟨w_0, w_1⟩ : (¬ (0 ≥ ρ 13)) ∧ (¬ (ρ 19 ≠ 1)) := ⟨by omega, by omega⟩
  obtain ⟨-, -, -, -, m4, -, -, -, -, -, -, -, -, m13, -, -, -, -, -, m19, -⟩ := hm
  have m4 : γ 0 6 0 7 = ρ 4 := m4
  have m13 : γ 0 9 (ρ 4) 2 = ρ 13 := m13
  have m19 : γ 0 10 (9 * ρ 4 + 1) 4 = ρ 19 := m19
  obtain ⟨l0, l1, -⟩ := hl
  have l0 : sn132 [ρ 4, 0] (γ 0) 0 (9 * ρ 4 + 1) (γ 1) := hS132 _ _ _ _ _ l0
  have l1 : sn260 [ρ 0, ρ 1, ρ 2, ρ 3, ρ 4, ρ 5, ρ 6, ρ 7, ρ 8, ρ 9, ρ 10, ρ 11, ρ 12, ρ 13, ρ 14, ρ 15, ρ 16, ρ 17, ρ 18, ρ 20, ρ 21, ρ 22, ρ 23, ρ 25, ρ 26, ρ 27, ρ 28, ρ 29, ρ 30, ρ 31, ρ 32, ρ 33, ρ 34, ρ 35, ρ 36, ρ 37, ρ 38, ρ 39, ρ 40, ρ 41, ρ 42, ρ 43, ρ 44, ρ 45, ρ 46, ρ 47, ρ 48, ρ 49, ρ 50, ρ 51, ρ 52, ρ 53, ρ 54, ρ 55, ρ 56, ρ 57, ρ 58, ρ 59, ρ 60, ρ 61, ρ 62, ρ 63, ρ 64, ρ 65, ρ 66] (γ 1) 0 0 (γ 2) := hS260 _ _ _ _ _ l1
  show sn261 [ρ 0, ρ 1, ρ 2, ρ 3, ρ 4, ρ 5, ρ 6, ρ 7, ρ 8, ρ 9, ρ 10, ρ 11, ρ 12, ρ 13, ρ 14, ρ 15, ρ 16, ρ 17, ρ 18, ρ 19, ρ 20, ρ 21, ρ 22, ρ 23, ρ 24, ρ 25, ρ 26, ρ 27, ρ 28, ρ 29, ρ 30, ρ 31, ρ 32, ρ 33, ρ 34, ρ 35, ρ 36, ρ 37, ρ 38, ρ 39, ρ 40, ρ 41, ρ 42, ρ 43, ρ 44, ρ 45, ρ 46, ρ 47, ρ 48, ρ 49, ρ 50, ρ 51, ρ 52, ρ 53, ρ 54, ρ 55, ρ 56, ρ 57, ρ 58, ρ 59, ρ 60, ρ 61, ρ 62, ρ 63, ρ 64, ρ 65, ρ 66] (γ 0) 0 0 (γ 2)
  refine Eq.symm ?_
  show fn261 [] (γ 0) = _
  unfold fn261
  refine (zLet_eq m4).trans ?_
  refine (zLet_eq m13).trans ?_
  refine (zLet_eq m19).trans ?_
  refine (if_neg w_0).trans ?_
  refine (zLet_eq (show fn132 [ρ 4, 0] (γ 0) = (0, 9 * ρ 4 + 1, γ 1) from l0.symm)).trans ?_
  refine (zLet_eq (show _ = γ 1 from rfl)).trans ?_
  refine (if_neg w_1).trans ?_
  refine (zLet_eq (show fn260 [] (γ 1) = (0, 0, γ 2) from l1.symm)).trans ?_
  refine (zLet_eq (show _ = γ 2 from rfl)).trans ?_
  refine (if_pos (show (0 : Nat) = 0 by decide)).trans ?_
  rfl
theorem vn261_19 {S : Nat → zSpc} (hS132 : ∀ x g o v gz, S 132 x g o v gz → sn132 x g o v gz) (hS228 : ∀ x g o v gz, S 228 x g o v gz → sn228 x g o v gz) (hS229 : ∀ x g o v gz, S 229 x g o v gz → sn229 x g o v gz) (hS230 : ∀ x g o v gz, S 230 x g o v gz → sn230 x g o v gz) (hS231 : ∀ x g o v gz, S 231 x g o v gz → sn231 x g o v gz) (hS244 : ∀ x g o v gz, S 244 x g o v gz → sn244 x g o v gz) (hS259 : ∀ x g o v gz, S 259 x g o v gz → sn259 x g o v gz) (hS260 : ∀ x g o v gz, S 260 x g o v gz → sn260 x g o v gz) {a : List Int} {g : rHp} : ∀ (ρ : Nat → Int) (γ : Nat → rHp), zO 67 S a g q261_19 ρ γ → zGl (fun _ _ _ => True) (sn261 a g) q261_19 ρ γ := by
  intro ρ γ h
  obtain ⟨ha, hg, hr, hf, hm, hc, hl⟩ := h
  have ha : a = [ρ 0, ρ 1, ρ 2, ρ 3, ρ 4, ρ 5, ρ 6, ρ 7, ρ 8, ρ 9, ρ 10, ρ 11, ρ 12, ρ 13, ρ 14, ρ 15, ρ 16, ρ 17, ρ 18, ρ 19, ρ 20, ρ 21, ρ 22, ρ 23, ρ 24, ρ 25, ρ 26, ρ 27, ρ 28, ρ 29, ρ 30, ρ 31, ρ 32, ρ 33, ρ 34, ρ 35, ρ 36, ρ 37, ρ 38, ρ 39, ρ 40, ρ 41, ρ 42, ρ 43, ρ 44, ρ 45, ρ 46, ρ 47, ρ 48, ρ 49, ρ 50, ρ 51, ρ 52, ρ 53, ρ 54, ρ 55, ρ 56, ρ 57, ρ 58, ρ 59, ρ 60, ρ 61, ρ 62, ρ 63, ρ 64, ρ 65, ρ 66] := ha
  subst ha
  subst hg
  obtain ⟨-, -, -, -, -, -, -, -, -, -, -, -, -, r13, -, -, -, -, -, r19, -⟩ := hr
  have r13 : (1 : Int) ≤ ρ 13 ∧ ρ 13 ≤ 8 := r13
  have r19 : (1 : Int) ≤ ρ 19 ∧ ρ 19 ≤ 1 := r19
  obtain ⟨w_0, w_1⟩ : (¬ (0 ≥ ρ 13)) ∧ (¬ (ρ 19 ≠ 1)) := ⟨by omega, by omega⟩
  obtain ⟨-, -, -, -, m4, -, -, -, -, -, -, -, -, m13, -, -, -, -, -, m19, -⟩ := hm
  have m4 : γ 0 6 0 7 = ρ 4 := m4
  have m13 : γ 0 9 (ρ 4) 2 = ρ 13 := m13
  have m19 : γ 0 10 (9 * ρ 4 + 1) 4 = ρ 19 := m19
  obtain ⟨l0, l1, -⟩ := hl
  have l0 : sn132 [ρ 4, 0] (γ 0) 0 (9 * ρ 4 + 1) (γ 1) := hS132 _ _ _ _ _ l0
  have l1 : sn260 [ρ 0, ρ 1, ρ 2, ρ 3, ρ 4, ρ 5, ρ 6, ρ 7, ρ 8, ρ 9, ρ 10, ρ 11, ρ 12, ρ 13, ρ 14, ρ 15, ρ 16, ρ 17, ρ 18, ρ 20, ρ 21, ρ 22, ρ 23, ρ 25, ρ 26, ρ 27, ρ 28, ρ 29, ρ 30, ρ 31, ρ 32, ρ 33, ρ 34, ρ 35, ρ 36, ρ 37, ρ 38, ρ 39, ρ 40, ρ 41, ρ 42, ρ 43, ρ 44, ρ 45, ρ 46, ρ 47, ρ 48, ρ 49, ρ 50, ρ 51, ρ 52, ρ 53, ρ 54, ρ 55, ρ 56, ρ 57, ρ 58, ρ 59, ρ 60, ρ 61, ρ 62, ρ 63, ρ 64, ρ 65, ρ 66] (γ 1) 1 0 (γ 2) := hS260 _ _ _ _ _ l1
  show sn261 [ρ 0, ρ 1, ρ 2, ρ 3, ρ 4, ρ 5, ρ 6, ρ 7, ρ 8, ρ 9, ρ 10, ρ 11, ρ 12, ρ 13, ρ 14, ρ 15, ρ 16, ρ 17, ρ 18, ρ 19, ρ 20, ρ 21, ρ 22, ρ 23, ρ 24, ρ 25, ρ 26, ρ 27, ρ 28, ρ 29, ρ 30, ρ 31, ρ 32, ρ 33, ρ 34, ρ 35, ρ 36, ρ 37, ρ 38, ρ 39, ρ 40, ρ 41, ρ 42, ρ 43, ρ 44, ρ 45, ρ 46, ρ 47, ρ 48, ρ 49, ρ 50, ρ 51, ρ 52, ρ 53, ρ 54, ρ 55, ρ 56, ρ 57, ρ 58, ρ 59, ρ 60, ρ 61, ρ 62, ρ 63, ρ 64, ρ 65, ρ 66] (γ 0) 1 0 (γ 2)
  refine Eq.symm ?_
  show fn261 [] (γ 0) = _
  unfold fn261
  refine (zLet_eq m4).trans ?_
  refine (zLet_eq m13).trans ?_
  refine (zLet_eq m19).trans ?_
  refine (if_neg w_0).trans ?_
  refine (zLet_eq (show fn132 [ρ 4, 0] (γ 0) = (0, 9 * ρ 4 + 1, γ 1) from l0.symm)).trans ?_
  refine (zLet_eq (show _ = γ 1 from rfl)).trans ?_
  refine (if_neg w_1).trans ?_
  refine (zLet_eq (show fn260 [] (γ 1) = (1, 0, γ 2) from l1.symm)).trans ?_
  refine (zLet_eq (show _ = γ 2 from rfl)).trans ?_
  refine (if_neg (show ¬ (1 : Nat) = 0 by decide)).trans ?_
  refine (if_pos (show (1 : Nat) = 1 by decide)).trans ?_
  rfl
theorem vn261_20 {S : Nat → zSpc} (hS132 : ∀ x g o v gz, S 132 x g o v gz → sn132 x g o v gz) (hS228 : ∀ x g o v gz, S 228 x g o v gz → sn228 x g o v gz) (hS229 : ∀ x g o v gz, S 229 x g o v gz → sn229 x g o v gz) (hS230 : ∀ x g o v gz, S 230 x g o v gz → sn230 x g o v gz) (hS231 : ∀ x g o v gz, S 231 x g o v gz → sn231 x g o v gz) (hS244 : ∀ x g o v gz, S 244 x g o v gz → sn244 x g o v gz) (hS259 : ∀ x g o v gz, S 259 x g o v gz → sn259 x g o v gz) (hS260 : ∀ x g o v gz, S 260 x g o v gz → sn260 x g o v gz) {a : List Int} {g : rHp} : ∀ (ρ : Nat → Int) (γ : Nat → rHp), zO 67 S a g q261_20 ρ γ → zGl (fun _ _ _ => True) (sn261 a g) q261_20 ρ γ := by
  intro ρ γ h
  obtain ⟨ha, hg, hr, hf, hm, hc, hl⟩ := h
  have ha : a = [ρ 0, ρ 1, ρ 2, ρ 3, ρ 4, ρ 5, ρ 6, ρ 7, ρ 8, ρ 9, ρ 10, ρ 11, ρ 12, ρ 13, ρ 14, ρ 15, ρ 16, ρ 17, ρ 18, ρ 19, ρ 20, ρ 21, ρ 22, ρ 23, ρ 24, ρ 25, ρ 26, ρ 27, ρ 28, ρ 29, ρ 30, ρ 31, ρ 32, ρ 33, ρ 34, ρ 35, ρ 36, ρ 37, ρ 38, ρ 39, ρ 40, ρ 41, ρ 42, ρ 43, ρ 44, ρ 45, ρ 46, ρ 47, ρ 48, ρ 49, ρ 50, ρ 51, ρ 52, ρ 53, ρ 54, ρ 55, ρ 56, ρ 57, ρ 58, ρ 59, ρ 60, ρ 61, ρ 62, ρ 63, ρ 64, ρ 65, ρ 66] := ha
  subst ha
  subst hg
  obtain ⟨-, -, -, -, -, -, -, -, -, -, -, -, -, r13, -, -, -, -, -, r19, -⟩ := hr
  have r13 : (1 : Int) ≤ ρ 13 ∧ ρ 13 ≤ 8 := r13
  have r19 : (1 : Int) ≤ ρ 19 ∧ ρ 19 ≤ 1 := r19
  obtain ⟨w_0, w_1⟩ : (¬ (0 ≥ ρ 13)) ∧ (¬ (ρ 19 ≠ 1)) := ⟨by omega, by omega⟩
  obtain ⟨-, -, -, -, m4, -, -, -, -, -, -, -, -, m13, -, -, -, -, -, m19, -⟩ := hm
  have m4 : γ 0 6 0 7 = ρ 4 := m4
  have m13 : γ 0 9 (ρ 4) 2 = ρ 13 := m13
  have m19 : γ 0 10 (9 * ρ 4 + 1) 4 = ρ 19 := m19
  obtain ⟨l0, l1, -⟩ := hl
  have l0 : sn132 [ρ 4, 0] (γ 0) 0 (9 * ρ 4 + 1) (γ 1) := hS132 _ _ _ _ _ l0
  have l1 : sn260 [ρ 0, ρ 1, ρ 2, ρ 3, ρ 4, ρ 5, ρ 6, ρ 7, ρ 8, ρ 9, ρ 10, ρ 11, ρ 12, ρ 13, ρ 14, ρ 15, ρ 16, ρ 17, ρ 18, ρ 20, ρ 21, ρ 22, ρ 23, ρ 25, ρ 26, ρ 27, ρ 28, ρ 29, ρ 30, ρ 31, ρ 32, ρ 33, ρ 34, ρ 35, ρ 36, ρ 37, ρ 38, ρ 39, ρ 40, ρ 41, ρ 42, ρ 43, ρ 44, ρ 45, ρ 46, ρ 47, ρ 48, ρ 49, ρ 50, ρ 51, ρ 52, ρ 53, ρ 54, ρ 55, ρ 56, ρ 57, ρ 58, ρ 59, ρ 60, ρ 61, ρ 62, ρ 63, ρ 64, ρ 65, ρ 66] (γ 1) 4 0 (γ 2) := hS260 _ _ _ _ _ l1
  show sn261 [ρ 0, ρ 1, ρ 2, ρ 3, ρ 4, ρ 5, ρ 6, ρ 7, ρ 8, ρ 9, ρ 10, ρ 11, ρ 12, ρ 13, ρ 14, ρ 15, ρ 16, ρ 17, ρ 18, ρ 19, ρ 20, ρ 21, ρ 22, ρ 23, ρ 24, ρ 25, ρ 26, ρ 27, ρ 28, ρ 29, ρ 30, ρ 31, ρ 32, ρ 33, ρ 34, ρ 35, ρ 36, ρ 37, ρ 38, ρ 39, ρ 40, ρ 41, ρ 42, ρ 43, ρ 44, ρ 45, ρ 46, ρ 47, ρ 48, ρ 49, ρ 50, ρ 51, ρ 52, ρ 53, ρ 54, ρ 55, ρ 56, ρ 57, ρ 58, ρ 59, ρ 60, ρ 61, ρ 62, ρ 63, ρ 64, ρ 65, ρ 66] (γ 0) 4 0 (γ 2)
  refine Eq.symm ?_
  show fn261 [] (γ 0) = _
  unfold fn261
  refine (zLet_eq m4).trans ?_
  refine (zLet_eq m13).trans ?_
  refine (zLet_eq m19).trans ?_
  refine (if_neg w_0).trans ?_
  refine (zLet_eq (show fn132 [ρ 4, 0] (γ 0) = (0, 9 * ρ 4 + 1, γ 1) from l0.symm)).trans ?_
  refine (zLet_eq (show _ = γ 1 from rfl)).trans ?_
  refine (if_neg w_1).trans ?_
  refine (zLet_eq (show fn260 [] (γ 1) = (4, 0, γ 2) from l1.symm)).trans ?_
  refine (zLet_eq (show _ = γ 2 from rfl)).trans ?_
  refine (if_neg (show ¬ (4 : Nat) = 0 by decide)).trans ?_
  refine (if_neg (show ¬ (4 : Nat) = 1 by decide)).trans ?_
  rfl
theorem yn261 {S : Nat → zSpc} (hS132 : ∀ x g o v gz, S 132 x g o v gz → sn132 x g o v gz) (hS228 : ∀ x g o v gz, S 228 x g o v gz → sn228 x g o v gz) (hS229 : ∀ x g o v gz, S 229 x g o v gz → sn229 x g o v gz) (hS230 : ∀ x g o v gz, S 230 x g o v gz → sn230 x g o v gz) (hS231 : ∀ x g o v gz, S 231 x g o v gz → sn231 x g o v gz) (hS244 : ∀ x g o v gz, S 244 x g o v gz → sn244 x g o v gz) (hS259 : ∀ x g o v gz, S 259 x g o v gz → sn259 x g o v gz) (hS260 : ∀ x g o v gz, S 260 x g o v gz → sn260 x g o v gz) : ∀ x g o v gz, zSem uW uT w261_.2.2.2.1 w261_.2.2.1.1.length S q261 (fun i => q261a.getD i []) (zNA a261_) x g o v gz → sn261 x g o v gz := by
  intro a g o v gz h
  exact zSem_all (l0 := q261) (las := q261a) (S := S) (J := (fun _ _ _ => True)) (P := sn261 a g) (fun _ => (show zAll _ [q261_0, q261_1, q261_2, q261_3, q261_4, q261_5, q261_6, q261_7, q261_8, q261_9, q261_10, q261_11, q261_12, q261_13, q261_14, q261_15, q261_16, q261_17, q261_18, q261_19, q261_20] from (zAll_c (vn261_0 hS132 hS228 hS229 hS230 hS231 hS244 hS259 hS260) (zAll_c (vn261_1 hS132 hS228 hS229 hS230 hS231 hS244 hS259 hS260) (zAll_c (vn261_2 hS132 hS228 hS229 hS230 hS231 hS244 hS259 hS260) (zAll_c (vn261_3 hS132 hS228 hS229 hS230 hS231 hS244 hS259 hS260) (zAll_c (vn261_4 hS132 hS228 hS229 hS230 hS231 hS244 hS259 hS260) (zAll_c (vn261_5 hS132 hS228 hS229 hS230 hS231 hS244 hS259 hS260) (zAll_c (vn261_6 hS132 hS228 hS229 hS230 hS231 hS244 hS259 hS260) (zAll_c (vn261_7 hS132 hS228 hS229 hS230 hS231 hS244 hS259 hS260) (zAll_c (vn261_8 hS132 hS228 hS229 hS230 hS231 hS244 hS259 hS260) (zAll_c (vn261_9 hS132 hS228 hS229 hS230 hS231 hS244 hS259 hS260) (zAll_c (vn261_10 hS132 hS228 hS229 hS230 hS231 hS244 hS259 hS260) (zAll_c (vn261_11 hS132 hS228 hS229 hS230 hS231 hS244 hS259 hS260) (zAll_c (vn261_12 hS132 hS228 hS229 hS230 hS231 hS244 hS259 hS260) (zAll_c (vn261_13 hS132 hS228 hS229 hS230 hS231 hS244 hS259 hS260) (zAll_c (vn261_14 hS132 hS228 hS229 hS230 hS231 hS244 hS259 hS260) (zAll_c (vn261_15 hS132 hS228 hS229 hS230 hS231 hS244 hS259 hS260) (zAll_c (vn261_16 hS132 hS228 hS229 hS230 hS231 hS244 hS259 hS260) (zAll_c (vn261_17 hS132 hS228 hS229 hS230 hS231 hS244 hS259 hS260) (zAll_c (vn261_18 hS132 hS228 hS229 hS230 hS231 hS244 hS259 hS260) (zAll_c (vn261_19 hS132 hS228 hS229 hS230 hS231 hS244 hS259 hS260) (zAll_c (vn261_20 hS132 hS228 hS229 hS230 hS231 hS244 hS259 hS260) zAll_n))))))))))))))))))))))) (fun _ => (show zAllI _ 0 [] from trivial)) h
theorem vn263_0 {S : Nat → zSpc} (hS131 : ∀ x g o v gz, S 131 x g o v gz → sn131 x g o v gz) (hS213 : ∀ x g o v gz, S 213 x g o v gz → sn213 x g o v gz) (hS234 : ∀ x g o v gz, S 234 x g o v gz → sn234 x g o v gz) (hS237 : ∀ x g o v gz, S 237 x g o v gz → sn237 x g o v gz) (hS239 : ∀ x g o v gz, S 239 x g o v gz → sn239 x g o v gz) (hS240 : ∀ x g o v gz, S 240 x g o v gz → sn240 x g o v gz) (hS261 : ∀ x g o v gz, S 261 x g o v gz → sn261 x g o v gz) {a : List Int} {g : rHp} : ∀ (ρ : Nat → Int) (γ : Nat → rHp), zO 11 S a g q263_0 ρ γ → zGl (fun i vs g1 => jn263 a g i vs g1) (sn263 a g) q263_0 ρ γ := by
  intro ρ γ h
  obtain ⟨ha, hg, hr, hf, hm, hc, hl⟩ := h
  have ha : a = [ρ 0, ρ 1, ρ 2, ρ 3, ρ 4, ρ 5, ρ 6, ρ 7, ρ 8, ρ 9, ρ 10] := ha
  subst ha
  subst hg
  show jn263 [ρ 0, ρ 1, ρ 2, ρ 3, ρ 4, ρ 5, ρ 6, ρ 7, ρ 8, ρ 9, ρ 10] (γ 0) 0 [ρ 0, ρ 1, ρ 2, ρ 3, ρ 4, ρ 5, ρ 6, ρ 7, ρ 8, ρ 9, ρ 10, 0, ρ 1, ρ 3, ρ 4, ρ 5, ρ 6, ρ 7, ρ 8, ρ 10] (γ 0)
  have hD : dn263 [ρ 0] (γ 0) = .inl (0, [ρ 0, 0], γ 0) := by
    unfold dn263
    refine (zLet_eq (show _ = ρ 0 from rfl)).trans ?_
    rfl
  exact zGoo_to hD
theorem vn263a0_0 {S : Nat → zSpc} (hS131 : ∀ x g o v gz, S 131 x g o v gz → sn131 x g o v gz) (hS213 : ∀ x g o v gz, S 213 x g o v gz → sn213 x g o v gz) (hS234 : ∀ x g o v gz, S 234 x g o v gz → sn234 x g o v gz) (hS237 : ∀ x g o v gz, S 237 x g o v gz → sn237 x g o v gz) (hS239 : ∀ x g o v gz, S 239 x g o v gz → sn239 x g o v gz) (hS240 : ∀ x g o v gz, S 240 x g o v gz → sn240 x g o v gz) (hS261 : ∀ x g o v gz, S 261 x g o v gz → sn261 x g o v gz) {a : List Int} {g : rHp} : ∀ (ρ : Nat → Int) (γ : Nat → rHp), jn263 a g 0 (zAg (zNA a263_ 0) ρ) (γ 1) → zO 11 S a g q263a0_0 ρ γ → zGl (fun i vs g1 => jn263 a g i vs g1) (sn263 a g) q263a0_0 ρ γ := by
  intro ρ γ hJ h
  obtain ⟨ha, hg, hr, hf, hm, hc, hl⟩ := h
  have ha : a = [ρ 0, ρ 1, ρ 2, ρ 3, ρ 4, ρ 5, ρ 6, ρ 7, ρ 8, ρ 9, ρ 10] := ha
  subst ha
  subst hg
  have hJ : jn263 [ρ 0, ρ 1, ρ 2, ρ 3, ρ 4, ρ 5, ρ 6, ρ 7, ρ 8, ρ 9, ρ 10] (γ 0) 0 [ρ 0, ρ 1, ρ 2, ρ 3, ρ 4, ρ 5, ρ 6, ρ 7, ρ 8, ρ 9, ρ 10, ρ 11, ρ 12, ρ 13, ρ 14, ρ 15, ρ 16, ρ 17, ρ 18, ρ 19] (γ 1) := hJ
  obtain ⟨f0, -⟩ := hf
  have f0 : (0 : Int) ≤ ρ 11 + -ρ 2 := f0
  have w_0 : ρ 11 ≥ ρ 2 := by omega
  obtain ⟨-, m1, -, -, -, -, -, -, -, -, -, m11, -⟩ := hm
  have m1 : γ 0 1 0 10 = ρ 2 := m1
  have m11 : γ 1 4 0 7 = ρ 13 := m11
  show sn263 [ρ 0, ρ 1, ρ 2, ρ 3, ρ 4, ρ 5, ρ 6, ρ 7, ρ 8, ρ 9, ρ 10] (γ 0) 0 0 (γ 1)
  have hD : en263 (γ 0) (0, [ρ 0, ρ 11], γ 1) = .inr (0, 0, γ 1) := by
    unfold en263
    refine (if_pos (show (0 : Nat) = 0 by decide)).trans ?_
    refine (zLet_eq (show _ = γ 1 from rfl)).trans ?_
    refine (zLet_eq (show _ = ρ 0 from rfl)).trans ?_
    refine (zLet_eq (show _ = ρ 11 from rfl)).trans ?_
    refine (zLet_eq m1).trans ?_
    refine (zLet_eq m11).trans ?_
    refine (if_pos w_0).trans ?_
    rfl
  exact zGoo_aend hJ hD
theorem vn263a0_1 {S : Nat → zSpc} (hS131 : ∀ x g o v gz, S 131 x g o v gz → sn131 x g o v gz) (hS213 : ∀ x g o v gz, S 213 x g o v gz → sn213 x g o v gz) (hS234 : ∀ x g o v gz, S 234 x g o v gz → sn234 x g o v gz) (hS237 : ∀ x g o v gz, S 237 x g o v gz → sn237 x g o v gz) (hS239 : ∀ x g o v gz, S 239 x g o v gz → sn239 x g o v gz) (hS240 : ∀ x g o v gz, S 240 x g o v gz → sn240 x g o v gz) (hS261 : ∀ x g o v gz, S 261 x g o v gz → sn261 x g o v gz) {a : List Int} {g : rHp} : ∀ (ρ : Nat → Int) (γ : Nat → rHp), jn263 a g 0 (zAg (zNA a263_ 0) ρ) (γ 1) → zO 11 S a g q263a0_1 ρ γ → zGl (fun i vs g1 => jn263 a g i vs g1) (sn263 a g) q263a0_1 ρ γ := by
  intro ρ γ hJ h
  obtain ⟨ha, hg, hr, hf, hm, hc, hl⟩ := h
  have ha : a = [ρ 0, ρ 1, ρ 2, ρ 3, ρ 4, ρ 5, ρ 6, ρ 7, ρ 8, ρ 9, ρ 10] := ha
  subst ha
  subst hg
  have hJ : jn263 [ρ 0, ρ 1, ρ 2, ρ 3, ρ 4, ρ 5, ρ 6, ρ 7, ρ 8, ρ 9, ρ 10] (γ 0) 0 [ρ 0, ρ 1, ρ 2, ρ 3, ρ 4, ρ 5, ρ 6, ρ 7, ρ 8, ρ 9, ρ 10, ρ 11, ρ 12, ρ 13, ρ 14, ρ 15, ρ 16, ρ 17, ρ 18, ρ 19] (γ 1) := hJ
  obtain ⟨-, -, -, -, -, -, -, -, -, -, -, -, -, -, -, -, -, -, -, -, -, r21, -⟩ := hr
  have r21 : (0 : Int) ≤ ρ 21 ∧ ρ 21 ≤ 0 := r21
  obtain ⟨f0, -⟩ := hf
  have f0 : (0 : Int) ≤ -ρ 11 + ρ 2 + (-1) := f0
  obtain ⟨w_0, w_1, w_2⟩ : (¬ (ρ 11 ≥ ρ 2)) ∧ (0 ≤ -ρ 21 + 1) ∧ (ρ 21 = 0) := ⟨by omega, by omega, by omega⟩
  obtain ⟨-, m1, -, -, -, -, -, -, -, -, -, m11, -, -, -, -, -, -, m18, m19, -⟩ := hm
  have m1 : γ 0 1 0 10 = ρ 2 := m1
  have m11 : γ 1 4 0 7 = ρ 13 := m11
  have m18 : γ 0 40 0 (ρ 11) = ρ 20 := m18
  have m19 : γ 0 10 (9 * ρ 20) 12 = ρ 21 := m19
  obtain ⟨l0, -⟩ := hl
  have l0 : sn131 [ρ 11, ρ 20] (γ 1) 0 (ρ 20) (γ 2) := hS131 _ _ _ _ _ l0
  show jn263 [ρ 0, ρ 1, ρ 2, ρ 3, ρ 4, ρ 5, ρ 6, ρ 7, ρ 8, ρ 9, ρ 10] (γ 0) 0 [ρ 0, ρ 1, ρ 2, ρ 3, ρ 4, ρ 5, ρ 6, ρ 7, ρ 8, ρ 9, ρ 10, ρ 11 + 1, ρ 12, ρ 13, ρ 14, ρ 15, ρ 16, ρ 17, ρ 18, ρ 19] (γ 2)
  have hD : en263 (γ 0) (0, [ρ 0, ρ 11], γ 1) = .inl (0, [ρ 0, ρ 11 + 1], γ 2) := by
    unfold en263
    refine (if_pos (show (0 : Nat) = 0 by decide)).trans ?_
    refine (zLet_eq (show _ = γ 1 from rfl)).trans ?_
    refine (zLet_eq (show _ = ρ 0 from rfl)).trans ?_
    refine (zLet_eq (show _ = ρ 11 from rfl)).trans ?_
    refine (zLet_eq m1).trans ?_
    refine (zLet_eq m11).trans ?_
    refine (if_neg w_0).trans ?_
    refine (zLet_eq m18).trans ?_
    refine (zLet_eq (show fn131 [ρ 11] (γ 1) = (0, ρ 20, γ 2) from l0.symm)).trans ?_
    refine (zLet_eq (show _ = γ 2 from rfl)).trans ?_
    refine (zLet_eq m19).trans ?_
    refine (if_pos w_1).trans ?_
    refine (if_pos w_2).trans ?_
    rfl
  exact zGoo_ato hJ hD
theorem vn263a0_2 {S : Nat → zSpc} (hS131 : ∀ x g o v gz, S 131 x g o v gz → sn131 x g o v gz) (hS213 : ∀ x g o v gz, S 213 x g o v gz → sn213 x g o v gz) (hS234 : ∀ x g o v gz, S 234 x g o v gz → sn234 x g o v gz) (hS237 : ∀ x g o v gz, S 237 x g o v gz → sn237 x g o v gz) (hS239 : ∀ x g o v gz, S 239 x g o v gz → sn239 x g o v gz) (hS240 : ∀ x g o v gz, S 240 x g o v gz → sn240 x g o v gz) (hS261 : ∀ x g o v gz, S 261 x g o v gz → sn261 x g o v gz) {a : List Int} {g : rHp} : ∀ (ρ : Nat → Int) (γ : Nat → rHp), jn263 a g 0 (zAg (zNA a263_ 0) ρ) (γ 1) → zO 11 S a g q263a0_2 ρ γ → zGl (fun i vs g1 => jn263 a g i vs g1) (sn263 a g) q263a0_2 ρ γ := by
  intro ρ γ hJ h
  obtain ⟨ha, hg, hr, hf, hm, hc, hl⟩ := h
  have ha : a = [ρ 0, ρ 1, ρ 2, ρ 3, ρ 4, ρ 5, ρ 6, ρ 7, ρ 8, ρ 9, ρ 10] := ha
  subst ha
  subst hg
  have hJ : jn263 [ρ 0, ρ 1, ρ 2, ρ 3, ρ 4, ρ 5, ρ 6, ρ 7, ρ 8, ρ 9, ρ 10] (γ 0) 0 [ρ 0, ρ 1, ρ 2, ρ 3, ρ 4, ρ 5, ρ 6, ρ 7, ρ 8, ρ 9, ρ 10, ρ 11, ρ 12, ρ 13, ρ 14, ρ 15, ρ 16, ρ 17, ρ 18, ρ 19] (γ 1) := hJ
  obtain ⟨-, -, -, -, -, -, -, -, -, -, -, -, -, -, -, -, -, -, -, -, -, r21, -⟩ := hr
  have r21 : (1 : Int) ≤ ρ 21 ∧ ρ 21 ≤ 1 := r21
  obtain ⟨f0, -⟩ := hf
  have f0 : (0 : Int) ≤ -ρ 11 + ρ 2 + (-1) := f0
  obtain ⟨w_0, w_1, w_2⟩ : (¬ (ρ 11 ≥ ρ 2)) ∧ (0 ≤ -ρ 21 + 1) ∧ (¬ (ρ 21 = 0)) := ⟨by omega, by omega, by omega⟩
  obtain ⟨-, m1, -, -, -, -, -, -, -, -, -, m11, -, -, -, -, -, -, m18, m19, -⟩ := hm
  have m1 : γ 0 1 0 10 = ρ 2 := m1
  have m11 : γ 1 4 0 7 = ρ 13 := m11
  have m18 : γ 0 40 0 (ρ 11) = ρ 20 := m18
  have m19 : γ 0 10 (9 * ρ 20) 12 = ρ 21 := m19
  obtain ⟨l0, l1, -⟩ := hl
  have l0 : sn131 [ρ 11, ρ 20] (γ 1) 0 (ρ 20) (γ 2) := hS131 _ _ _ _ _ l0
  have l1 : sn234 [ρ 20, ρ 0, ρ 22] (γ 2) 0 0 (γ 3) := hS234 _ _ _ _ _ l1
  show jn263 [ρ 0, ρ 1, ρ 2, ρ 3, ρ 4, ρ 5, ρ 6, ρ 7, ρ 8, ρ 9, ρ 10] (γ 0) 0 [ρ 0, ρ 1, ρ 2, ρ 3, ρ 4, ρ 5, ρ 6, ρ 7, ρ 8, ρ 9, ρ 10, ρ 11 + 1, ρ 12, ρ 13, ρ 14, ρ 15, ρ 16, ρ 17, ρ 18, ρ 19] (γ 3)
  have hD : en263 (γ 0) (0, [ρ 0, ρ 11], γ 1) = .inl (0, [ρ 0, ρ 11 + 1], γ 3) := by
    unfold en263
    refine (if_pos (show (0 : Nat) = 0 by decide)).trans ?_
    refine (zLet_eq (show _ = γ 1 from rfl)).trans ?_
    refine (zLet_eq (show _ = ρ 0 from rfl)).trans ?_
    refine (zLet_eq (show _ = ρ 11 from rfl)).trans ?_
    refine (zLet_eq m1).trans ?_
    refine (zLet_eq m11).trans ?_
    refine (if_neg w_0).trans ?_
    refine (zLet_eq m18).trans ?_
    refine (zLet_eq (show fn131 [ρ 11] (γ 1) = (0, ρ 20, γ 2) from l0.symm)).trans ?_
    refine (zLet_eq (show _ = γ 2 from rfl)).trans ?_
    refine (zLet_eq m19).trans ?_
    refine (if_pos w_1).trans ?_
    refine (if_neg w_2).trans ?_
    refine (zLet_eq (show fn234 [ρ 20, ρ 0] (γ 2) = (0, 0, γ 3) from l1.symm)).trans ?_
    refine (zLet_eq (show _ = γ 3 from rfl)).trans ?_
    refine (if_neg zQ0_).trans ?_
    rfl
  exact zGoo_ato hJ hD
theorem vn263a0_3 {S : Nat → zSpc} (hS131 : ∀ x g o v gz, S 131 x g o v gz → sn131 x g o v gz) (hS213 : ∀ x g o v gz, S 213 x g o v gz → sn213 x g o v gz) (hS234 : ∀ x g o v gz, S 234 x g o v gz → sn234 x g o v gz) (hS237 : ∀ x g o v gz, S 237 x g o v gz → sn237 x g o v gz) (hS239 : ∀ x g o v gz, S 239 x g o v gz → sn239 x g o v gz) (hS240 : ∀ x g o v gz, S 240 x g o v gz → sn240 x g o v gz) (hS261 : ∀ x g o v gz, S 261 x g o v gz → sn261 x g o v gz) {a : List Int} {g : rHp} : ∀ (ρ : Nat → Int) (γ : Nat → rHp), jn263 a g 0 (zAg (zNA a263_ 0) ρ) (γ 1) → zO 11 S a g q263a0_3 ρ γ → zGl (fun i vs g1 => jn263 a g i vs g1) (sn263 a g) q263a0_3 ρ γ := by
  intro ρ γ hJ h
  obtain ⟨ha, hg, hr, hf, hm, hc, hl⟩ := h
  have ha : a = [ρ 0, ρ 1, ρ 2, ρ 3, ρ 4, ρ 5, ρ 6, ρ 7, ρ 8, ρ 9, ρ 10] := ha
  subst ha
  subst hg
  have hJ : jn263 [ρ 0, ρ 1, ρ 2, ρ 3, ρ 4, ρ 5, ρ 6, ρ 7, ρ 8, ρ 9, ρ 10] (γ 0) 0 [ρ 0, ρ 1, ρ 2, ρ 3, ρ 4, ρ 5, ρ 6, ρ 7, ρ 8, ρ 9, ρ 10, ρ 11, ρ 12, ρ 13, ρ 14, ρ 15, ρ 16, ρ 17, ρ 18, ρ 19] (γ 1) := hJ
  obtain ⟨-, -, -, -, -, -, -, -, -, -, -, -, -, -, -, -, -, -, -, -, -, r21, -⟩ := hr
  have r21 : (1 : Int) ≤ ρ 21 ∧ ρ 21 ≤ 1 := r21
  obtain ⟨-, -, -, -, -, f5, -⟩ := hf
  have f5 : (0 : Int) ≤ -ρ 11 + ρ 2 + (-1) := f5
  obtain ⟨w_0, w_1, w_2⟩ : (¬ (ρ 11 ≥ ρ 2)) ∧ (0 ≤ -ρ 21 + 1) ∧ (¬ (ρ 21 = 0)) := ⟨by omega, by omega, by omega⟩
  obtain ⟨-, m1, -, -, -, -, -, -, -, -, -, m11, -, -, -, -, -, -, m18, m19, -⟩ := hm
  have m1 : γ 0 1 0 10 = ρ 2 := m1
  have m11 : γ 1 4 0 7 = ρ 13 := m11
  have m18 : γ 0 40 0 (ρ 11) = ρ 20 := m18
  have m19 : γ 0 10 (9 * ρ 20) 12 = ρ 21 := m19
  obtain ⟨⟨⟨⟨-, c5⟩, -⟩, -⟩, -⟩ := hc
  have c5 : γ 5 = rUp (γ 4) 6 0 11 (ρ 13) := c5
  obtain ⟨l0, l1, l2, l3, l4, l5, -⟩ := hl
  have l0 : sn131 [ρ 11, ρ 20] (γ 1) 0 (ρ 20) (γ 2) := hS131 _ _ _ _ _ l0
  have l1 : sn234 [ρ 20, ρ 0, ρ 22] (γ 2) 0 1 (γ 3) := hS234 _ _ _ _ _ l1
  have l2 : sn239 [0, ρ 20, ρ 11, ρ 22, ρ 21, ρ 23, ρ 15, ρ 16, ρ 17, ρ 19] (γ 3) 0 0 (γ 4) := hS239 _ _ _ _ _ l2
  have l3 : sn213 [ρ 14] (γ 5) 0 0 (γ 6) := hS213 _ _ _ _ _ l3
  have l4 : sn261 [ρ 12, 1, ρ 24, ρ 25, ρ 26, ρ 2, ρ 13, 0, ρ 11, 0, ρ 13, ρ 9, 0, ρ 27, ρ 28, ρ 29, ρ 30, ρ 31, ρ 32, ρ 33, ρ 34, ρ 35, ρ 36, ρ 37, ρ 38, ρ 39, ρ 40, ρ 41, ρ 42, ρ 43, ρ 44, ρ 45, ρ 46, ρ 47, ρ 48, ρ 49, ρ 50, ρ 51, ρ 52, ρ 53, ρ 54, ρ 55, ρ 56, ρ 57, ρ 58, ρ 59, ρ 60, ρ 61, ρ 62, ρ 63, ρ 64, ρ 65, ρ 66, ρ 67, ρ 68, ρ 69, ρ 70, ρ 71, ρ 72, ρ 73, ρ 74, ρ 75, ρ 76, ρ 77, ρ 78, ρ 79, ρ 80] (γ 6) 0 0 (γ 7) := hS261 _ _ _ _ _ l4
  have l5 : sn237 [9 * ρ 20, ρ 11, ρ 22, ρ 83, ρ 84, ρ 86] (γ 7) 0 0 (γ 8) := hS237 _ _ _ _ _ l5
  show jn263 [ρ 0, ρ 1, ρ 2, ρ 3, ρ 4, ρ 5, ρ 6, ρ 7, ρ 8, ρ 9, ρ 10] (γ 0) 0 [ρ 0, ρ 1, ρ 2, ρ 3, ρ 4, ρ 5, ρ 6, ρ 7, ρ 8, ρ 9, ρ 10, ρ 11 + 1, ρ 81, ρ 87, ρ 84, ρ 11, 1, 0, ρ 13, ρ 85] (γ 8)
  have hD : en263 (γ 0) (0, [ρ 0, ρ 11], γ 1) = .inl (0, [ρ 0, ρ 11 + 1], γ 8) := by
    unfold en263
    refine (if_pos (show (0 : Nat) = 0 by decide)).trans ?_
    refine (zLet_eq (show _ = γ 1 from rfl)).trans ?_
    refine (zLet_eq (show _ = ρ 0 from rfl)).trans ?_
    refine (zLet_eq (show _ = ρ 11 from rfl)).trans ?_
    refine (zLet_eq m1).trans ?_
    refine (zLet_eq m11).trans ?_
    refine (if_neg w_0).trans ?_
    refine (zLet_eq m18).trans ?_
    refine (zLet_eq (show fn131 [ρ 11] (γ 1) = (0, ρ 20, γ 2) from l0.symm)).trans ?_
    refine (zLet_eq (show _ = γ 2 from rfl)).trans ?_
    refine (zLet_eq m19).trans ?_
    refine (if_pos w_1).trans ?_
    refine (if_neg w_2).trans ?_
    refine (zLet_eq (show fn234 [ρ 20, ρ 0] (γ 2) = (0, 1, γ 3) from l1.symm)).trans ?_
    refine (zLet_eq (show _ = γ 3 from rfl)).trans ?_
    refine (if_pos zQ1_).trans ?_
    refine (zLet_eq (show fn239 [0, ρ 20, ρ 11] (γ 3) = (0, 0, γ 4) from l2.symm)).trans ?_
    refine (zLet_eq (show _ = γ 4 from rfl)).trans ?_
    refine (zLet_eq c5.symm).trans ?_
    refine (zLet_eq (show fn213 [] (γ 5) = (0, 0, γ 6) from l3.symm)).trans ?_
    refine (zLet_eq (show _ = γ 6 from rfl)).trans ?_
    refine (zLet_eq (show fn261 [] (γ 6) = (0, 0, γ 7) from l4.symm)).trans ?_
    refine (zLet_eq (show _ = γ 7 from rfl)).trans ?_
    refine (if_pos (show (0 : Nat) = 0 by decide)).trans ?_
    refine (zLet_eq (show fn237 [9 * ρ 20, ρ 11] (γ 7) = (0, 0, γ 8) from l5.symm)).trans ?_
    refine (zLet_eq (show _ = γ 8 from rfl)).trans ?_
    refine (if_pos (show (0 : Nat) = 0 by decide)).trans ?_
    rfl
  exact zGoo_ato hJ hD
theorem vn263a0_4 {S : Nat → zSpc} (hS131 : ∀ x g o v gz, S 131 x g o v gz → sn131 x g o v gz) (hS213 : ∀ x g o v gz, S 213 x g o v gz → sn213 x g o v gz) (hS234 : ∀ x g o v gz, S 234 x g o v gz → sn234 x g o v gz) (hS237 : ∀ x g o v gz, S 237 x g o v gz → sn237 x g o v gz) (hS239 : ∀ x g o v gz, S 239 x g o v gz → sn239 x g o v gz) (hS240 : ∀ x g o v gz, S 240 x g o v gz → sn240 x g o v gz) (hS261 : ∀ x g o v gz, S 261 x g o v gz → sn261 x g o v gz) {a : List Int} {g : rHp} : ∀ (ρ : Nat → Int) (γ : Nat → rHp), jn263 a g 0 (zAg (zNA a263_ 0) ρ) (γ 1) → zO 11 S a g q263a0_4 ρ γ → zGl (fun i vs g1 => jn263 a g i vs g1) (sn263 a g) q263a0_4 ρ γ := by
  intro ρ γ hJ h
  obtain ⟨ha, hg, hr, hf, hm, hc, hl⟩ := h
  have ha : a = [ρ 0, ρ 1, ρ 2, ρ 3, ρ 4, ρ 5, ρ 6, ρ 7, ρ 8, ρ 9, ρ 10] := ha
  subst ha
  subst hg
  have hJ : jn263 [ρ 0, ρ 1, ρ 2, ρ 3, ρ 4, ρ 5, ρ 6, ρ 7, ρ 8, ρ 9, ρ 10] (γ 0) 0 [ρ 0, ρ 1, ρ 2, ρ 3, ρ 4, ρ 5, ρ 6, ρ 7, ρ 8, ρ 9, ρ 10, ρ 11, ρ 12, ρ 13, ρ 14, ρ 15, ρ 16, ρ 17, ρ 18, ρ 19] (γ 1) := hJ
  obtain ⟨-, -, -, -, -, -, -, -, -, -, -, -, -, -, -, -, -, -, -, -, -, r21, -⟩ := hr
  have r21 : (1 : Int) ≤ ρ 21 ∧ ρ 21 ≤ 1 := r21
  obtain ⟨-, -, -, -, f4, -⟩ := hf
  have f4 : (0 : Int) ≤ -ρ 11 + ρ 2 + (-1) := f4
  obtain ⟨w_0, w_1, w_2⟩ : (¬ (ρ 11 ≥ ρ 2)) ∧ (0 ≤ -ρ 21 + 1) ∧ (¬ (ρ 21 = 0)) := ⟨by omega, by omega, by omega⟩
  obtain ⟨-, m1, -, -, -, -, -, -, -, -, -, m11, -, -, -, -, -, -, m18, m19, -⟩ := hm
  have m1 : γ 0 1 0 10 = ρ 2 := m1
  have m11 : γ 1 4 0 7 = ρ 13 := m11
  have m18 : γ 0 40 0 (ρ 11) = ρ 20 := m18
  have m19 : γ 0 10 (9 * ρ 20) 12 = ρ 21 := m19
  obtain ⟨⟨⟨⟨-, c5⟩, -⟩, -⟩, -⟩ := hc
  have c5 : γ 5 = rUp (γ 4) 6 0 11 (ρ 13) := c5
  obtain ⟨l0, l1, l2, l3, l4, l5, -⟩ := hl
  have l0 : sn131 [ρ 11, ρ 20] (γ 1) 0 (ρ 20) (γ 2) := hS131 _ _ _ _ _ l0
  have l1 : sn234 [ρ 20, ρ 0, ρ 22] (γ 2) 0 1 (γ 3) := hS234 _ _ _ _ _ l1
  have l2 : sn239 [0, ρ 20, ρ 11, ρ 22, ρ 21, ρ 23, ρ 15, ρ 16, ρ 17, ρ 19] (γ 3) 0 0 (γ 4) := hS239 _ _ _ _ _ l2
  have l3 : sn213 [ρ 14] (γ 5) 0 0 (γ 6) := hS213 _ _ _ _ _ l3
  have l4 : sn261 [ρ 12, 1, ρ 24, ρ 25, ρ 26, ρ 2, ρ 13, 0, ρ 11, 0, ρ 13, ρ 9, 0, ρ 27, ρ 28, ρ 29, ρ 30, ρ 31, ρ 32, ρ 33, ρ 34, ρ 35, ρ 36, ρ 37, ρ 38, ρ 39, ρ 40, ρ 41, ρ 42, ρ 43, ρ 44, ρ 45, ρ 46, ρ 47, ρ 48, ρ 49, ρ 50, ρ 51, ρ 52, ρ 53, ρ 54, ρ 55, ρ 56, ρ 57, ρ 58, ρ 59, ρ 60, ρ 61, ρ 62, ρ 63, ρ 64, ρ 65, ρ 66, ρ 67, ρ 68, ρ 69, ρ 70, ρ 71, ρ 72, ρ 73, ρ 74, ρ 75, ρ 76, ρ 77, ρ 78, ρ 79, ρ 80] (γ 6) 0 0 (γ 7) := hS261 _ _ _ _ _ l4
  have l5 : sn237 [9 * ρ 20, ρ 11, ρ 22, ρ 83, ρ 84, ρ 86] (γ 7) 1 0 (γ 8) := hS237 _ _ _ _ _ l5
  show sn263 [ρ 0, ρ 1, ρ 2, ρ 3, ρ 4, ρ 5, ρ 6, ρ 7, ρ 8, ρ 9, ρ 10] (γ 0) 1 0 (γ 8)
  have hD : en263 (γ 0) (0, [ρ 0, ρ 11], γ 1) = .inr (1, 0, γ 8) := by
    unfold en263
    refine (if_pos (show (0 : Nat) = 0 by decide)).trans ?_
    refine (zLet_eq (show _ = γ 1 from rfl)).trans ?_
    refine (zLet_eq (show _ = ρ 0 from rfl)).trans ?_
    refine (zLet_eq (show _ = ρ 11 from rfl)).trans ?_
    refine (zLet_eq m1).trans ?_
    refine (zLet_eq m11).trans ?_
    refine (if_neg w_0).trans ?_
    refine (zLet_eq m18).trans ?_
    refine (zLet_eq (show fn131 [ρ 11] (γ 1) = (0, ρ 20, γ 2) from l0.symm)).trans ?_
    refine (zLet_eq (show _ = γ 2 from rfl)).trans ?_
    refine (zLet_eq m19).trans ?_
    refine (if_pos w_1).trans ?_
    refine (if_neg w_2).trans ?_
    refine (zLet_eq (show fn234 [ρ 20, ρ 0] (γ 2) = (0, 1, γ 3) from l1.symm)).trans ?_
    refine (zLet_eq (show _ = γ 3 from rfl)).trans ?_
    refine (if_pos zQ1_).trans ?_
    refine (zLet_eq (show fn239 [0, ρ 20, ρ 11] (γ 3) = (0, 0, γ 4) from l2.symm)).trans ?_
    refine (zLet_eq (show _ = γ 4 from rfl)).trans ?_
    refine (zLet_eq c5.symm).trans ?_
    refine (zLet_eq (show fn213 [] (γ 5) = (0, 0, γ 6) from l3.symm)).trans ?_
    refine (zLet_eq (show _ = γ 6 from rfl)).trans ?_
    refine (zLet_eq (show fn261 [] (γ 6) = (0, 0, γ 7) from l4.symm)).trans ?_
    refine (zLet_eq (show _ = γ 7 from rfl)).trans ?_
    refine (if_pos (show (0 : Nat) = 0 by decide)).trans ?_
    refine (zLet_eq (show fn237 [9 * ρ 20, ρ 11] (γ 7) = (1, 0, γ 8) from l5.symm)).trans ?_
    refine (zLet_eq (show _ = γ 8 from rfl)).trans ?_
    refine (if_neg (show ¬ (1 : Nat) = 0 by decide)).trans ?_
    rfl
  exact zGoo_aend hJ hD
theorem vn263a0_5 {S : Nat → zSpc} (hS131 : ∀ x g o v gz, S 131 x g o v gz → sn131 x g o v gz) (hS213 : ∀ x g o v gz, S 213 x g o v gz → sn213 x g o v gz) (hS234 : ∀ x g o v gz, S 234 x g o v gz → sn234 x g o v gz) (hS237 : ∀ x g o v gz, S 237 x g o v gz → sn237 x g o v gz) (hS239 : ∀ x g o v gz, S 239 x g o v gz → sn239 x g o v gz) (hS240 : ∀ x g o v gz, S 240 x g o v gz → sn240 x g o v gz) (hS261 : ∀ x g o v gz, S 261 x g o v gz → sn261 x g o v gz) {a : List Int} {g : rHp} : ∀ (ρ : Nat → Int) (γ : Nat → rHp), jn263 a g 0 (zAg (zNA a263_ 0) ρ) (γ 1) → zO 11 S a g q263a0_5 ρ γ → zGl (fun i vs g1 => jn263 a g i vs g1) (sn263 a g) q263a0_5 ρ γ := by
  intro ρ γ hJ h
  obtain ⟨ha, hg, hr, hf, hm, hc, hl⟩ := h
  have ha : a = [ρ 0, ρ 1, ρ 2, ρ 3, ρ 4, ρ 5, ρ 6, ρ 7, ρ 8, ρ 9, ρ 10] := ha
  subst ha
  subst hg
  have hJ : jn263 [ρ 0, ρ 1, ρ 2, ρ 3, ρ 4, ρ 5, ρ 6, ρ 7, ρ 8, ρ 9, ρ 10] (γ 0) 0 [ρ 0, ρ 1, ρ 2, ρ 3, ρ 4, ρ 5, ρ 6, ρ 7, ρ 8, ρ 9, ρ 10, ρ 11, ρ 12, ρ 13, ρ 14, ρ 15, ρ 16, ρ 17, ρ 18, ρ 19] (γ 1) := hJ
  obtain ⟨-, -, -, -, -, -, -, -, -, -, -, -, -, -, -, -, -, -, -, -, -, r21, -⟩ := hr
  have r21 : (1 : Int) ≤ ρ 21 ∧ ρ 21 ≤ 1 := r21
  obtain ⟨-, -, -, -, f4, -⟩ := hf
  have f4 : (0 : Int) ≤ -ρ 11 + ρ 2 + (-1) := f4
  obtain ⟨w_0, w_1, w_2⟩ : (¬ (ρ 11 ≥ ρ 2)) ∧ (0 ≤ -ρ 21 + 1) ∧ (¬ (ρ 21 = 0)) := ⟨by omega, by omega, by omega⟩
  obtain ⟨-, m1, -, -, -, -, -, -, -, -, -, m11, -, -, -, -, -, -, m18, m19, -⟩ := hm
  have m1 : γ 0 1 0 10 = ρ 2 := m1
  have m11 : γ 1 4 0 7 = ρ 13 := m11
  have m18 : γ 0 40 0 (ρ 11) = ρ 20 := m18
  have m19 : γ 0 10 (9 * ρ 20) 12 = ρ 21 := m19
  obtain ⟨⟨⟨-, c5⟩, -⟩, -⟩ := hc
  have c5 : γ 5 = rUp (γ 4) 6 0 11 (ρ 13) := c5
  obtain ⟨l0, l1, l2, l3, l4, -⟩ := hl
  have l0 : sn131 [ρ 11, ρ 20] (γ 1) 0 (ρ 20) (γ 2) := hS131 _ _ _ _ _ l0
  have l1 : sn234 [ρ 20, ρ 0, ρ 22] (γ 2) 0 1 (γ 3) := hS234 _ _ _ _ _ l1
  have l2 : sn239 [0, ρ 20, ρ 11, ρ 22, ρ 21, ρ 23, ρ 15, ρ 16, ρ 17, ρ 19] (γ 3) 0 0 (γ 4) := hS239 _ _ _ _ _ l2
  have l3 : sn213 [ρ 14] (γ 5) 0 0 (γ 6) := hS213 _ _ _ _ _ l3
  have l4 : sn261 [ρ 12, 1, ρ 24, ρ 25, ρ 26, ρ 2, ρ 13, 0, ρ 11, 0, ρ 13, ρ 9, 0, ρ 27, ρ 28, ρ 29, ρ 30, ρ 31, ρ 32, ρ 33, ρ 34, ρ 35, ρ 36, ρ 37, ρ 38, ρ 39, ρ 40, ρ 41, ρ 42, ρ 43, ρ 44, ρ 45, ρ 46, ρ 47, ρ 48, ρ 49, ρ 50, ρ 51, ρ 52, ρ 53, ρ 54, ρ 55, ρ 56, ρ 57, ρ 58, ρ 59, ρ 60, ρ 61, ρ 62, ρ 63, ρ 64, ρ 65, ρ 66, ρ 67, ρ 68, ρ 69, ρ 70, ρ 71, ρ 72, ρ 73, ρ 74, ρ 75, ρ 76, ρ 77, ρ 78, ρ 79, ρ 80] (γ 6) 1 0 (γ 7) := hS261 _ _ _ _ _ l4
  show sn263 [ρ 0, ρ 1, ρ 2, ρ 3, ρ 4, ρ 5, ρ 6, ρ 7, ρ 8, ρ 9, ρ 10] (γ 0) 1 0 (γ 7)
  have hD : en263 (γ 0) (0, [ρ 0, ρ 11], γ 1) = .inr (1, 0, γ 7) := by
    unfold en263
    refine (if_pos (show (0 : Nat) = 0 by decide)).trans ?_
    refine (zLet_eq (show _ = γ 1 from rfl)).trans ?_
    refine (zLet_eq (show _ = ρ 0 from rfl)).trans ?_
    refine (zLet_eq (show _ = ρ 11 from rfl)).trans ?_
    refine (zLet_eq m1).trans ?_
    refine (zLet_eq m11).trans ?_
    refine (if_neg w_0).trans ?_
    refine (zLet_eq m18).trans ?_
    refine (zLet_eq (show fn131 [ρ 11] (γ 1) = (0, ρ 20, γ 2) from l0.symm)).trans ?_
    refine (zLet_eq (show _ = γ 2 from rfl)).trans ?_
    refine (zLet_eq m19).trans ?_
    refine (if_pos w_1).trans ?_
    refine (if_neg w_2).trans ?_
    refine (zLet_eq (show fn234 [ρ 20, ρ 0] (γ 2) = (0, 1, γ 3) from l1.symm)).trans ?_
    refine (zLet_eq (show _ = γ 3 from rfl)).trans ?_
    refine (if_pos zQ1_).trans ?_
    refine (zLet_eq (show fn239 [0, ρ 20, ρ 11] (γ 3) = (0, 0, γ 4) from l2.symm)).trans ?_
    refine (zLet_eq (show _ = γ 4 from rfl)).trans ?_
    refine (zLet_eq c5.symm).trans ?_
    refine (zLet_eq (show fn213 [] (γ 5) = (0, 0, γ 6) from l3.symm)).trans ?_
    refine (zLet_eq (show _ = γ 6 from rfl)).trans ?_
    refine (zLet_eq (show fn261 [] (γ 6) = (1, 0, γ 7) from l4.symm)).trans ?_
    refine (zLet_eq (show _ = γ 7 from rfl)).trans ?_
    refine (if_neg (show ¬ (1 : Nat) = 0 by decide)).trans ?_
    refine (if_pos (show (1 : Nat) = 1 by decide)).trans ?_
    rfl
  exact zGoo_aend hJ hD
theorem vn263a0_6 {S : Nat → zSpc} (hS131 : ∀ x g o v gz, S 131 x g o v gz → sn131 x g o v gz) (hS213 : ∀ x g o v gz, S 213 x g o v gz → sn213 x g o v gz) (hS234 : ∀ x g o v gz, S 234 x g o v gz → sn234 x g o v gz) (hS237 : ∀ x g o v gz, S 237 x g o v gz → sn237 x g o v gz) (hS239 : ∀ x g o v gz, S 239 x g o v gz → sn239 x g o v gz) (hS240 : ∀ x g o v gz, S 240 x g o v gz → sn240 x g o v gz) (hS261 : ∀ x g o v gz, S 261 x g o v gz → sn261 x g o v gz) {a : List Int} {g : rHp} : ∀ (ρ : Nat → Int) (γ : Nat → rHp), jn263 a g 0 (zAg (zNA a263_ 0) ρ) (γ 1) → zO 11 S a g q263a0_6 ρ γ → zGl (fun i vs g1 => jn263 a g i vs g1) (sn263 a g) q263a0_6 ρ γ := by
  intro ρ γ hJ h
  obtain ⟨ha, hg, hr, hf, hm, hc, hl⟩ := h
  have ha : a = [ρ 0, ρ 1, ρ 2, ρ 3, ρ 4, ρ 5, ρ 6, ρ 7, ρ 8, ρ 9, ρ 10] := ha
  subst ha
  subst hg
  have hJ : jn263 [ρ 0, ρ 1, ρ 2, ρ 3, ρ 4, ρ 5, ρ 6, ρ 7, ρ 8, ρ 9, ρ 10] (γ 0) 0 [ρ 0, ρ 1, ρ 2, ρ 3, ρ 4, ρ 5, ρ 6, ρ 7, ρ 8, ρ 9, ρ 10, ρ 11, ρ 12, ρ 13, ρ 14, ρ 15, ρ 16, ρ 17, ρ 18, ρ 19] (γ 1) := hJ
  obtain ⟨-, -, -, -, -, -, -, -, -, -, -, -, -, -, -, -, -, -, -, -, -, r21, -⟩ := hr
  have r21 : (1 : Int) ≤ ρ 21 ∧ ρ 21 ≤ 1 := r21
  obtain ⟨-, -, -, f3, -⟩ := hf
  have f3 : (0 : Int) ≤ -ρ 11 + ρ 2 + (-1) := f3
  obtain ⟨w_0, w_1, w_2⟩ : (¬ (ρ 11 ≥ ρ 2)) ∧ (0 ≤ -ρ 21 + 1) ∧ (¬ (ρ 21 = 0)) := ⟨by omega, by omega, by omega⟩
  obtain ⟨-, m1, -, -, -, -, -, -, -, -, -, m11, -, -, -, -, -, -, m18, m19, -⟩ := hm
  have m1 : γ 0 1 0 10 = ρ 2 := m1
  have m11 : γ 1 4 0 7 = ρ 13 := m11
  have m18 : γ 0 40 0 (ρ 11) = ρ 20 := m18
  have m19 : γ 0 10 (9 * ρ 20) 12 = ρ 21 := m19
  obtain ⟨⟨⟨-, c5⟩, -⟩, -⟩ := hc
  have c5 : γ 5 = rUp (γ 4) 6 0 11 (ρ 13) := c5
  obtain ⟨l0, l1, l2, l3, l4, -⟩ := hl
  have l0 : sn131 [ρ 11, ρ 20] (γ 1) 0 (ρ 20) (γ 2) := hS131 _ _ _ _ _ l0
  have l1 : sn234 [ρ 20, ρ 0, ρ 22] (γ 2) 0 1 (γ 3) := hS234 _ _ _ _ _ l1
  have l2 : sn239 [0, ρ 20, ρ 11, ρ 22, ρ 21, ρ 23, ρ 15, ρ 16, ρ 17, ρ 19] (γ 3) 0 0 (γ 4) := hS239 _ _ _ _ _ l2
  have l3 : sn213 [ρ 14] (γ 5) 0 0 (γ 6) := hS213 _ _ _ _ _ l3
  have l4 : sn261 [ρ 12, 1, ρ 24, ρ 25, ρ 26, ρ 2, ρ 13, 0, ρ 11, 0, ρ 13, ρ 9, 0, ρ 27, ρ 28, ρ 29, ρ 30, ρ 31, ρ 32, ρ 33, ρ 34, ρ 35, ρ 36, ρ 37, ρ 38, ρ 39, ρ 40, ρ 41, ρ 42, ρ 43, ρ 44, ρ 45, ρ 46, ρ 47, ρ 48, ρ 49, ρ 50, ρ 51, ρ 52, ρ 53, ρ 54, ρ 55, ρ 56, ρ 57, ρ 58, ρ 59, ρ 60, ρ 61, ρ 62, ρ 63, ρ 64, ρ 65, ρ 66, ρ 67, ρ 68, ρ 69, ρ 70, ρ 71, ρ 72, ρ 73, ρ 74, ρ 75, ρ 76, ρ 77, ρ 78, ρ 79, ρ 80] (γ 6) 4 0 (γ 7) := hS261 _ _ _ _ _ l4
  show sn263 [ρ 0, ρ 1, ρ 2, ρ 3, ρ 4, ρ 5, ρ 6, ρ 7, ρ 8, ρ 9, ρ 10] (γ 0) 4 0 (γ 7)
  have hD : en263 (γ 0) (0, [ρ 0, ρ 11], γ 1) = .inr (4, 0, γ 7) := by
    unfold en263
    refine (if_pos (show (0 : Nat) = 0 by decide)).trans ?_
    refine (zLet_eq (show _ = γ 1 from rfl)).trans ?_
    refine (zLet_eq (show _ = ρ 0 from rfl)).trans ?_
    refine (zLet_eq (show _ = ρ 11 from rfl)).trans ?_
    refine (zLet_eq m1).trans ?_
    refine (zLet_eq m11).trans ?_
    refine (if_neg w_0).trans ?_
    refine (zLet_eq m18).trans ?_
    refine (zLet_eq (show fn131 [ρ 11] (γ 1) = (0, ρ 20, γ 2) from l0.symm)).trans ?_
    refine (zLet_eq (show _ = γ 2 from rfl)).trans ?_
    refine (zLet_eq m19).trans ?_
    refine (if_pos w_1).trans ?_
    refine (if_neg w_2).trans ?_
    refine (zLet_eq (show fn234 [ρ 20, ρ 0] (γ 2) = (0, 1, γ 3) from l1.symm)).trans ?_
    refine (zLet_eq (show _ = γ 3 from rfl)).trans ?_
    refine (if_pos zQ1_).trans ?_
    refine (zLet_eq (show fn239 [0, ρ 20, ρ 11] (γ 3) = (0, 0, γ 4) from l2.symm)).trans ?_
    refine (zLet_eq (show _ = γ 4 from rfl)).trans ?_
    refine (zLet_eq c5.symm).trans ?_
    refine (zLet_eq (show fn213 [] (γ 5) = (0, 0, γ 6) from l3.symm)).trans ?_
    refine (zLet_eq (show _ = γ 6 from rfl)).trans ?_
    refine (zLet_eq (show fn261 [] (γ 6) = (4, 0, γ 7) from l4.symm)).trans ?_
    refine (zLet_eq (show _ = γ 7 from rfl)).trans ?_
    refine (if_neg (show ¬ (4 : Nat) = 0 by decide)).trans ?_
    refine (if_neg (show ¬ (4 : Nat) = 1 by decide)).trans ?_
    rfl
  exact zGoo_aend hJ hD
theorem vn263a0_7 {S : Nat → zSpc} (hS131 : ∀ x g o v gz, S 131 x g o v gz → sn131 x g o v gz) (hS213 : ∀ x g o v gz, S 213 x g o v gz → sn213 x g o v gz) (hS234 : ∀ x g o v gz, S 234 x g o v gz → sn234 x g o v gz) (hS237 : ∀ x g o v gz, S 237 x g o v gz → sn237 x g o v gz) (hS239 : ∀ x g o v gz, S 239 x g o v gz → sn239 x g o v gz) (hS240 : ∀ x g o v gz, S 240 x g o v gz → sn240 x g o v gz) (hS261 : ∀ x g o v gz, S 261 x g o v gz → sn261 x g o v gz) {a : List Int} {g : rHp} : ∀ (ρ : Nat → Int) (γ : Nat → rHp), jn263 a g 0 (zAg (zNA a263_ 0) ρ) (γ 1) → zO 11 S a g q263a0_7 ρ γ → zGl (fun i vs g1 => jn263 a g i vs g1) (sn263 a g) q263a0_7 ρ γ := by
  intro ρ γ hJ h
  obtain ⟨ha, hg, hr, hf, hm, hc, hl⟩ := h
  have ha : a = [ρ 0, ρ 1, ρ 2, ρ 3, ρ 4, ρ 5, ρ 6, ρ 7, ρ 8, ρ 9, ρ 10] := ha
  subst ha
  subst hg
  have hJ : jn263 [ρ 0, ρ 1, ρ 2, ρ 3, ρ 4, ρ 5, ρ 6, ρ 7, ρ 8, ρ 9, ρ 10] (γ 0) 0 [ρ 0, ρ 1, ρ 2, ρ 3, ρ 4, ρ 5, ρ 6, ρ 7, ρ 8, ρ 9, ρ 10, ρ 11, ρ 12, ρ 13, ρ 14, ρ 15, ρ 16, ρ 17, ρ 18, ρ 19] (γ 1) := hJ
  obtain ⟨-, -, -, -, -, -, -, -, -, -, -, -, -, -, -, -, -, -, -, -, -, r21, -⟩ := hr
  have r21 : (2 : Int) ≤ ρ 21 ∧ ρ 21 ≤ 4 := r21
  obtain ⟨f0, -⟩ := hf
  have f0 : (0 : Int) ≤ -ρ 11 + ρ 2 + (-1) := f0
  obtain ⟨w_0, w_1⟩ : (¬ (ρ 11 ≥ ρ 2)) ∧ (¬ (0 ≤ -ρ 21 + 1)) := ⟨by omega, by omega⟩
  obtain ⟨-, m1, -, -, -, -, -, -, -, -, -, m11, -, -, -, -, -, -, m18, m19, -⟩ := hm
  have m1 : γ 0 1 0 10 = ρ 2 := m1
  have m11 : γ 1 4 0 7 = ρ 13 := m11
  have m18 : γ 0 40 0 (ρ 11) = ρ 20 := m18
  have m19 : γ 0 10 (9 * ρ 20) 12 = ρ 21 := m19
  obtain ⟨l0, l1, -⟩ := hl
  have l0 : sn131 [ρ 11, ρ 20] (γ 1) 0 (ρ 20) (γ 2) := hS131 _ _ _ _ _ l0
  have l1 : sn234 [ρ 20, ρ 0, ρ 22] (γ 2) 0 0 (γ 3) := hS234 _ _ _ _ _ l1
  show jn263 [ρ 0, ρ 1, ρ 2, ρ 3, ρ 4, ρ 5, ρ 6, ρ 7, ρ 8, ρ 9, ρ 10] (γ 0) 0 [ρ 0, ρ 1, ρ 2, ρ 3, ρ 4, ρ 5, ρ 6, ρ 7, ρ 8, ρ 9, ρ 10, ρ 11 + 1, ρ 12, ρ 13, ρ 14, ρ 15, ρ 16, ρ 17, ρ 18, ρ 19] (γ 3)
  have hD : en263 (γ 0) (0, [ρ 0, ρ 11], γ 1) = .inl (0, [ρ 0, ρ 11 + 1], γ 3) := by
    unfold en263
    refine (if_pos (show (0 : Nat) = 0 by decide)).trans ?_
    refine (zLet_eq (show _ = γ 1 from rfl)).trans ?_
    refine (zLet_eq (show _ = ρ 0 from rfl)).trans ?_
    refine (zLet_eq (show _ = ρ 11 from rfl)).trans ?_
    refine (zLet_eq m1).trans ?_
    refine (zLet_eq m11).trans ?_
    refine (if_neg w_0).trans ?_
    refine (zLet_eq m18).trans ?_
    refine (zLet_eq (show fn131 [ρ 11] (γ 1) = (0, ρ 20, γ 2) from l0.symm)).trans ?_
    refine (zLet_eq (show _ = γ 2 from rfl)).trans ?_
    refine (zLet_eq m19).trans ?_
    refine (if_neg w_1).trans ?_
    refine (zLet_eq (show fn234 [ρ 20, ρ 0] (γ 2) = (0, 0, γ 3) from l1.symm)).trans ?_
    refine (zLet_eq (show _ = γ 3 from rfl)).trans ?_
    refine (if_neg zQ0_).trans ?_
    rfl
  exact zGoo_ato hJ hD
theorem vn263a0_8 {S : Nat → zSpc} (hS131 : ∀ x g o v gz, S 131 x g o v gz → sn131 x g o v gz) (hS213 : ∀ x g o v gz, S 213 x g o v gz → sn213 x g o v gz) (hS234 : ∀ x g o v gz, S 234 x g o v gz → sn234 x g o v gz) (hS237 : ∀ x g o v gz, S 237 x g o v gz → sn237 x g o v gz) (hS239 : ∀ x g o v gz, S 239 x g o v gz → sn239 x g o v gz) (hS240 : ∀ x g o v gz, S 240 x g o v gz → sn240 x g o v gz) (hS261 : ∀ x g o v gz, S 261 x g o v gz → sn261 x g o v gz) {a : List Int} {g : rHp} : ∀ (ρ : Nat → Int) (γ : Nat → rHp), jn263 a g 0 (zAg (zNA a263_ 0) ρ) (γ 1) → zO 11 S a g q263a0_8 ρ γ → zGl (fun i vs g1 => jn263 a g i vs g1) (sn263 a g) q263a0_8 ρ γ := by
  intro ρ γ hJ h
  obtain ⟨ha, hg, hr, hf, hm, hc, hl⟩ := h
  have ha : a = [ρ 0, ρ 1, ρ 2, ρ 3, ρ 4, ρ 5, ρ 6, ρ 7, ρ 8, ρ 9, ρ 10] := ha
  subst ha
  subst hg
  have hJ : jn263 [ρ 0, ρ 1, ρ 2, ρ 3, ρ 4, ρ 5, ρ 6, ρ 7, ρ 8, ρ 9, ρ 10] (γ 0) 0 [ρ 0, ρ 1, ρ 2, ρ 3, ρ 4, ρ 5, ρ 6, ρ 7, ρ 8, ρ 9, ρ 10, ρ 11, ρ 12, ρ 13, ρ 14, ρ 15, ρ 16, ρ 17, ρ 18, ρ 19] (γ 1) := hJ
  obtain ⟨-, -, -, -, -, -, -, -, -, -, -, -, -, -, -, -, -, -, -, -, -, r21, -⟩ := hr
  have r21 : (2 : Int) ≤ ρ 21 ∧ ρ 21 ≤ 4 := r21
  obtain ⟨-, -, -, -, -, f5, -⟩ := hf
  have f5 : (0 : Int) ≤ -ρ 11 + ρ 2 + (-1) := f5
  obtain ⟨w_0, w_1⟩ : (¬ (ρ 11 ≥ ρ 2)) ∧ (¬ (0 ≤ -ρ 21 + 1)) := ⟨by omega, by omega⟩
  obtain ⟨-, m1, -, -, -, -, -, -, -, -, -, m11, -, -, -, -, -, -, m18, m19, -⟩ := hm
  have m1 : γ 0 1 0 10 = ρ 2 := m1
  have m11 : γ 1 4 0 7 = ρ 13 := m11
  have m18 : γ 0 40 0 (ρ 11) = ρ 20 := m18
  have m19 : γ 0 10 (9 * ρ 20) 12 = ρ 21 := m19
  obtain ⟨⟨⟨⟨-, c5⟩, -⟩, -⟩, -⟩ := hc
  have c5 : γ 5 = rUp (γ 4) 6 0 11 (ρ 13) := c5
  obtain ⟨l0, l1, l2, l3, l4, l5, -⟩ := hl
  have l0 : sn131 [ρ 11, ρ 20] (γ 1) 0 (ρ 20) (γ 2) := hS131 _ _ _ _ _ l0
  have l1 : sn234 [ρ 20, ρ 0, ρ 22] (γ 2) 0 1 (γ 3) := hS234 _ _ _ _ _ l1
  have l2 : sn240 [0, ρ 20, ρ 11, ρ 22, ρ 21, ρ 23, ρ 15, ρ 16, ρ 17, ρ 19] (γ 3) 0 0 (γ 4) := hS240 _ _ _ _ _ l2
  have l3 : sn213 [ρ 14] (γ 5) 0 0 (γ 6) := hS213 _ _ _ _ _ l3
  have l4 : sn261 [ρ 12, 1, ρ 24, ρ 25, ρ 26, ρ 2, ρ 13, 0, ρ 11, 0, ρ 13, ρ 9, 0, ρ 27, ρ 28, ρ 29, ρ 30, ρ 31, ρ 32, ρ 33, ρ 34, ρ 35, ρ 36, ρ 37, ρ 38, ρ 39, ρ 40, ρ 41, ρ 42, ρ 43, ρ 44, ρ 45, ρ 46, ρ 47, ρ 48, ρ 49, ρ 50, ρ 51, ρ 52, ρ 53, ρ 54, ρ 55, ρ 56, ρ 57, ρ 58, ρ 59, ρ 60, ρ 61, ρ 62, ρ 63, ρ 64, ρ 65, ρ 66, ρ 67, ρ 68, ρ 69, ρ 70, ρ 71, ρ 72, ρ 73, ρ 74, ρ 75, ρ 76, ρ 77, ρ 78, ρ 79, ρ 80] (γ 6) 0 0 (γ 7) := hS261 _ _ _ _ _ l4
  have l5 : sn237 [9 * ρ 20, ρ 11, ρ 22, ρ 83, ρ 84, ρ 86] (γ 7) 0 0 (γ 8) := hS237 _ _ _ _ _ l5
  show jn263 [ρ 0, ρ 1, ρ 2, ρ 3, ρ 4, ρ 5, ρ 6, ρ 7, ρ 8, ρ 9, ρ 10] (γ 0) 0 [ρ 0, ρ 1, ρ 2, ρ 3, ρ 4, ρ 5, ρ 6, ρ 7, ρ 8, ρ 9, ρ 10, ρ 11 + 1, ρ 81, ρ 87, ρ 84, ρ 11, 1, 0, ρ 13, ρ 85] (γ 8)
  have hD : en263 (γ 0) (0, [ρ 0, ρ 11], γ 1) = .inl (0, [ρ 0, ρ 11 + 1], γ 8) := by
    unfold en263
    refine (if_pos (show (0 : Nat) = 0 by decide)).trans ?_
    refine (zLet_eq (show _ = γ 1 from rfl)).trans ?_
    refine (zLet_eq (show _ = ρ 0 from rfl)).trans ?_
    refine (zLet_eq (show _ = ρ 11 from rfl)).trans ?_
    refine (zLet_eq m1).trans ?_
    refine (zLet_eq m11).trans ?_
    refine (if_neg w_0).trans ?_
    refine (zLet_eq m18).trans ?_
    refine (zLet_eq (show fn131 [ρ 11] (γ 1) = (0, ρ 20, γ 2) from l0.symm)).trans ?_
    refine (zLet_eq (show _ = γ 2 from rfl)).trans ?_
    refine (zLet_eq m19).trans ?_
    refine (if_neg w_1).trans ?_
    refine (zLet_eq (show fn234 [ρ 20, ρ 0] (γ 2) = (0, 1, γ 3) from l1.symm)).trans ?_
    refine (zLet_eq (show _ = γ 3 from rfl)).trans ?_
    refine (if_pos zQ1_).trans ?_
    refine (zLet_eq (show fn240 [0, ρ 20, ρ 11] (γ 3) = (0, 0, γ 4) from l2.symm)).trans ?_
    refine (zLet_eq (show _ = γ 4 from rfl)).trans ?_
    refine (zLet_eq c5.symm).trans ?_
    refine (zLet_eq (show fn213 [] (γ 5) = (0, 0, γ 6) from l3.symm)).trans ?_
    refine (zLet_eq (show _ = γ 6 from rfl)).trans ?_
    refine (zLet_eq (show fn261 [] (γ 6) = (0, 0, γ 7) from l4.symm)).trans ?_
    refine (zLet_eq (show _ = γ 7 from rfl)).trans ?_
    refine (if_pos (show (0 : Nat) = 0 by decide)).trans ?_
    refine (zLet_eq (show fn237 [9 * ρ 20, ρ 11] (γ 7) = (0, 0, γ 8) from l5.symm)).trans ?_
    refine (zLet_eq (show _ = γ 8 from rfl)).trans ?_
    refine (if_pos (show (0 : Nat) = 0 by decide)).trans ?_
    rfl
  exact zGoo_ato hJ hD
theorem vn263a0_9 {S : Nat → zSpc} (hS131 : ∀ x g o v gz, S 131 x g o v gz → sn131 x g o v gz) (hS213 : ∀ x g o v gz, S 213 x g o v gz → sn213 x g o v gz) (hS234 : ∀ x g o v gz, S 234 x g o v gz → sn234 x g o v gz) (hS237 : ∀ x g o v gz, S 237 x g o v gz → sn237 x g o v gz) (hS239 : ∀ x g o v gz, S 239 x g o v gz → sn239 x g o v gz) (hS240 : ∀ x g o v gz, S 240 x g o v gz → sn240 x g o v gz) (hS261 : ∀ x g o v gz, S 261 x g o v gz → sn261 x g o v gz) {a : List Int} {g : rHp} : ∀ (ρ : Nat → Int) (γ : Nat → rHp), jn263 a g 0 (zAg (zNA a263_ 0) ρ) (γ 1) → zO 11 S a g q263a0_9 ρ γ → zGl (fun i vs g1 => jn263 a g i vs g1) (sn263 a g) q263a0_9 ρ γ := by
  intro ρ γ hJ h
  obtain ⟨ha, hg, hr, hf, hm, hc, hl⟩ := h
  have ha : a = [ρ 0, ρ 1, ρ 2, ρ 3, ρ 4, ρ 5, ρ 6, ρ 7, ρ 8, ρ 9, ρ 10] := ha
  subst ha
  subst hg
  have hJ : jn263 [ρ 0, ρ 1, ρ 2, ρ 3, ρ 4, ρ 5, ρ 6, ρ 7, ρ 8, ρ 9, ρ 10] (γ 0) 0 [ρ 0, ρ 1, ρ 2, ρ 3, ρ 4, ρ 5, ρ 6, ρ 7, ρ 8, ρ 9, ρ 10, ρ 11, ρ 12, ρ 13, ρ 14, ρ 15, ρ 16, ρ 17, ρ 18, ρ 19] (γ 1) := hJ
  obtain ⟨-, -, -, -, -, -, -, -, -, -, -, -, -, -, -, -, -, -, -, -, -, r21, -⟩ := hr
  have r21 : (2 : Int) ≤ ρ 21 ∧ ρ 21 ≤ 4 := r21
  obtain ⟨-, -, -, -, f4, -⟩ := hf
  have f4 : (0 : Int) ≤ -ρ 11 + ρ 2 + (-1) := f4
  obtain ⟨w_0, w_1⟩ : (¬ (ρ 11 ≥ ρ 2)) ∧ (¬ (0 ≤ -ρ 21 + 1)) := ⟨by omega, by omega⟩
  obtain ⟨-, m1, -, -, -, -, -, -, -, -, -, m11, -, -, -, -, -, -, m18, m19, -⟩ := hm
  have m1 : γ 0 1 0 10 = ρ 2 := m1
  have m11 : γ 1 4 0 7 = ρ 13 := m11
  have m18 : γ 0 40 0 (ρ 11) = ρ 20 := m18
  have m19 : γ 0 10 (9 * ρ 20) 12 = ρ 21 := m19
  obtain ⟨⟨⟨⟨-, c5⟩, -⟩, -⟩, -⟩ := hc
  have c5 : γ 5 = rUp (γ 4) 6 0 11 (ρ 13) := c5
  obtain ⟨l0, l1, l2, l3, l4, l5, -⟩ := hl
  have l0 : sn131 [ρ 11, ρ 20] (γ 1) 0 (ρ 20) (γ 2) := hS131 _ _ _ _ _ l0
  have l1 : sn234 [ρ 20, ρ 0, ρ 22] (γ 2) 0 1 (γ 3) := hS234 _ _ _ _ _ l1
  have l2 : sn240 [0, ρ 20, ρ 11, ρ 22, ρ 21, ρ 23, ρ 15, ρ 16, ρ 17, ρ 19] (γ 3) 0 0 (γ 4) := hS240 _ _ _ _ _ l2
  have l3 : sn213 [ρ 14] (γ 5) 0 0 (γ 6) := hS213 _ _ _ _ _ l3
  have l4 : sn261 [ρ 12, 1, ρ 24, ρ 25, ρ 26, ρ 2, ρ 13, 0, ρ 11, 0, ρ 13, ρ 9, 0, ρ 27, ρ 28, ρ 29, ρ 30, ρ 31, ρ 32, ρ 33, ρ 34, ρ 35, ρ 36, ρ 37, ρ 38, ρ 39, ρ 40, ρ 41, ρ 42, ρ 43, ρ 44, ρ 45, ρ 46, ρ 47, ρ 48, ρ 49, ρ 50, ρ 51, ρ 52, ρ 53, ρ 54, ρ 55, ρ 56, ρ 57, ρ 58, ρ 59, ρ 60, ρ 61, ρ 62, ρ 63, ρ 64, ρ 65, ρ 66, ρ 67, ρ 68, ρ 69, ρ 70, ρ 71, ρ 72, ρ 73, ρ 74, ρ 75, ρ 76, ρ 77, ρ 78, ρ 79, ρ 80] (γ 6) 0 0 (γ 7) := hS261 _ _ _ _ _ l4
  have l5 : sn237 [9 * ρ 20, ρ 11, ρ 22, ρ 83, ρ 84, ρ 86] (γ 7) 1 0 (γ 8) := hS237 _ _ _ _ _ l5
  show sn263 [ρ 0, ρ 1, ρ 2, ρ 3, ρ 4, ρ 5, ρ 6, ρ 7, ρ 8, ρ 9, ρ 10] (γ 0) 1 0 (γ 8)
  have hD : en263 (γ 0) (0, [ρ 0, ρ 11], γ 1) = .inr (1, 0, γ 8) := by
    unfold en263
    refine (if_pos (show (0 : Nat) = 0 by decide)).trans ?_
    refine (zLet_eq (show _ = γ 1 from rfl)).trans ?_
    refine (zLet_eq (show _ = ρ 0 from rfl)).trans ?_
    refine (zLet_eq (show _ = ρ 11 from rfl)).trans ?_
    refine (zLet_eq m1).trans ?_
    refine (zLet_eq m11).trans ?_
    refine (if_neg w_0).trans ?_
    refine (zLet_eq m18).trans ?_
    refine (zLet_eq (show fn131 [ρ 11] (γ 1) = (0, ρ 20, γ 2) from l0.symm)).trans ?_
    refine (zLet_eq (show _ = γ 2 from rfl)).trans ?_
    refine (zLet_eq m19).trans ?_
    refine (if_neg w_1).trans ?_
    refine (zLet_eq (show fn234 [ρ 20, ρ 0] (γ 2) = (0, 1, γ 3) from l1.symm)).trans ?_
    refine (zLet_eq (show _ = γ 3 from rfl)).trans ?_
    refine (if_pos zQ1_).trans ?_
    refine (zLet_eq (show fn240 [0, ρ 20, ρ 11] (γ 3) = (0, 0, γ 4) from l2.symm)).trans ?_
    refine (zLet_eq (show _ = γ 4 from rfl)).trans ?_
    refine (zLet_eq c5.symm).trans ?_
    refine (zLet_eq (show fn213 [] (γ 5) = (0, 0, γ 6) from l3.symm)).trans ?_
    refine (zLet_eq (show _ = γ 6 from rfl)).trans ?_
    refine (zLet_eq (show fn261 [] (γ 6) = (0, 0, γ 7) from l4.symm)).trans ?_
    refine (zLet_eq (show _ = γ 7 from rfl)).trans ?_
    refine (if_pos (show (0 : Nat) = 0 by decide)).trans ?_
    refine (zLet_eq (show fn237 [9 * ρ 20, ρ 11] (γ 7) = (1, 0, γ 8) from l5.symm)).trans ?_
    refine (zLet_eq (show _ = γ 8 from rfl)).trans ?_
    refine (if_neg (show ¬ (1 : Nat) = 0 by decide)).trans ?_
    rfl
  exact zGoo_aend hJ hD
theorem vn263a0_10 {S : Nat → zSpc} (hS131 : ∀ x g o v gz, S 131 x g o v gz → sn131 x g o v gz) (hS213 : ∀ x g o v gz, S 213 x g o v gz → sn213 x g o v gz) (hS234 : ∀ x g o v gz, S 234 x g o v gz → sn234 x g o v gz) (hS237 : ∀ x g o v gz, S 237 x g o v gz → sn237 x g o v gz) (hS239 : ∀ x g o v gz, S 239 x g o v gz → sn239 x g o v gz) (hS240 : ∀ x g o v gz, S 240 x g o v gz → sn240 x g o v gz) (hS261 : ∀ x g o v gz, S 261 x g o v gz → sn261 x g o v gz) {a : List Int} {g : rHp} : ∀ (ρ : Nat → Int) (γ : Nat → rHp), jn263 a g 0 (zAg (zNA a263_ 0) ρ) (γ 1) → zO 11 S a g q263a0_10 ρ γ → zGl (fun i vs g1 => jn263 a g i vs g1) (sn263 a g) q263a0_10 ρ γ := by
  intro ρ γ hJ h
  obtain ⟨ha, hg, hr, hf, hm, hc, hl⟩ := h
  have ha : a = [ρ 0, ρ 1, ρ 2, ρ 3, ρ 4, ρ 5, ρ 6, ρ 7, ρ 8, ρ 9, ρ 10] := ha
  subst ha
  subst hg
  have hJ : jn263 [ρ 0, ρ 1, ρ 2, ρ 3, ρ 4, ρ 5, ρ 6, ρ 7, ρ 8, ρ 9, ρ 10] (γ 0) 0 [ρ 0, ρ 1, ρ 2, ρ 3, ρ 4, ρ 5, ρ 6, ρ 7, ρ 8, ρ 9, ρ 10, ρ 11, ρ 12, ρ 13, ρ 14, ρ 15, ρ 16, ρ 17, ρ 18, ρ 19] (γ 1) := hJ
  obtain ⟨-, -, -, -, -, -, -, -, -, -, -, -, -, -, -, -, -, -, -, -, -, r21, -⟩ := hr
  have r21 : (2 : Int) ≤ ρ 21 ∧ ρ 21 ≤ 4 := r21
  obtain ⟨-, -, -, -, f4, -⟩ := hf
  have f4 : (0 : Int) ≤ -ρ 11 + ρ 2 + (-1) := f4
  obtain ⟨w_0, w_1⟩ : (¬ (ρ 11 ≥ ρ 2)) ∧ (¬ (0 ≤ -ρ 21 + 1)) := ⟨by omega, by omega⟩
  obtain ⟨-, m1, -, -, -, -, -, -, -, -, -, m11, -, -, -, -, -, -, m18, m19, -⟩ := hm
  have m1 : γ 0 1 0 10 = ρ 2 := m1
  have m11 : γ 1 4 0 7 = ρ 13 := m11
  have m18 : γ 0 40 0 (ρ 11) = ρ 20 := m18
  have m19 : γ 0 10 (9 * ρ 20) 12 = ρ 21 := m19
  obtain ⟨⟨⟨-, c5⟩, -⟩, -⟩ := hc
  have c5 : γ 5 = rUp (γ 4) 6 0 11 (ρ 13) := c5
  obtain ⟨l0, l1, l2, l3, l4, -⟩ := hl
  have l0 : sn131 [ρ 11, ρ 20] (γ 1) 0 (ρ 20) (γ 2) := hS131 _ _ _ _ _ l0
  have l1 : sn234 [ρ 20, ρ 0, ρ 22] (γ 2) 0 1 (γ 3) := hS234 _ _ _ _ _ l1
  have l2 : sn240 [0, ρ 20, ρ 11, ρ 22, ρ 21, ρ 23, ρ 15, ρ 16, ρ 17, ρ 19] (γ 3) 0 0 (γ 4) := hS240 _ _ _ _ _ l2
  have l3 : sn213 [ρ 14] (γ 5) 0 0 (γ 6) := hS213 _ _ _ _ _ l3
  have l4 : sn261 [ρ 12, 1, ρ 24, ρ 25, ρ 26, ρ 2, ρ 13, 0, ρ 11, 0, ρ 13, ρ 9, 0, ρ 27, ρ 28, ρ 29, ρ 30, ρ 31, ρ 32, ρ 33, ρ 34, ρ 35, ρ 36, ρ 37, ρ 38, ρ 39, ρ 40, ρ 41, ρ 42, ρ 43, ρ 44, ρ 45, ρ 46, ρ 47, ρ 48, ρ 49, ρ 50, ρ 51, ρ 52, ρ 53, ρ 54, ρ 55, ρ 56, ρ 57, ρ 58, ρ 59, ρ 60, ρ 61, ρ 62, ρ 63, ρ 64, ρ 65, ρ 66, ρ 67, ρ 68, ρ 69, ρ 70, ρ 71, ρ 72, ρ 73, ρ 74, ρ 75, ρ 76, ρ 77, ρ 78, ρ 79, ρ 80] (γ 6) 1 0 (γ 7) := hS261 _ _ _ _ _ l4
  show sn263 [ρ 0, ρ 1, ρ 2, ρ 3, ρ 4, ρ 5, ρ 6, ρ 7, ρ 8, ρ 9, ρ 10] (γ 0) 1 0 (γ 7)
  have hD : en263 (γ 0) (0, [ρ 0, ρ 11], γ 1) = .inr (1, 0, γ 7) := by
    unfold en263
    refine (if_pos (show (0 : Nat) = 0 by decide)).trans ?_
    refine (zLet_eq (show _ = γ 1 from rfl)).trans ?_
    refine (zLet_eq (show _ = ρ 0 from rfl)).trans ?_
    refine (zLet_eq (show _ = ρ 11 from rfl)).trans ?_
    refine (zLet_eq m1).trans ?_
    refine (zLet_eq m11).trans ?_
    refine (if_neg w_0).trans ?_
    refine (zLet_eq m18).trans ?_
    refine (zLet_eq (show fn131 [ρ 11] (γ 1) = (0, ρ 20, γ 2) from l0.symm)).trans ?_
    refine (zLet_eq (show _ = γ 2 from rfl)).trans ?_
    refine (zLet_eq m19).trans ?_
    refine (if_neg w_1).trans ?_
    refine (zLet_eq (show fn234 [ρ 20, ρ 0] (γ 2) = (0, 1, γ 3) from l1.symm)).trans ?_
    refine (zLet_eq (show _ = γ 3 from rfl)).trans ?_
    refine (if_pos zQ1_).trans ?_
    refine (zLet_eq (show fn240 [0, ρ 20, ρ 11] (γ 3) = (0, 0, γ 4) from l2.symm)).trans ?_
    refine (zLet_eq (show _ = γ 4 from rfl)).trans ?_
    refine (zLet_eq c5.symm).trans ?_
    refine (zLet_eq (show fn213 [] (γ 5) = (0, 0, γ 6) from l3.symm)).trans ?_
    refine (zLet_eq (show _ = γ 6 from rfl)).trans ?_
    refine (zLet_eq (show fn261 [] (γ 6) = (1, 0, γ 7) from l4.symm)).trans ?_
    refine (zLet_eq (show _ = γ 7 from rfl)).trans ?_
    refine (if_neg (show ¬ (1 : Nat) = 0 by decide)).trans ?_
    refine (if_pos (show (1 : Nat) = 1 by decide)).trans ?_
    rfl
  exact zGoo_aend hJ hD
theorem vn263a0_11 {S : Nat → zSpc} (hS131 : ∀ x g o v gz, S 131 x g o v gz → sn131 x g o v gz) (hS213 : ∀ x g o v gz, S 213 x g o v gz → sn213 x g o v gz) (hS234 : ∀ x g o v gz, S 234 x g o v gz → sn234 x g o v gz) (hS237 : ∀ x g o v gz, S 237 x g o v gz → sn237 x g o v gz) (hS239 : ∀ x g o v gz, S 239 x g o v gz → sn239 x g o v gz) (hS240 : ∀ x g o v gz, S 240 x g o v gz → sn240 x g o v gz) (hS261 : ∀ x g o v gz, S 261 x g o v gz → sn261 x g o v gz) {a : List Int} {g : rHp} : ∀ (ρ : Nat → Int) (γ : Nat → rHp), jn263 a g 0 (zAg (zNA a263_ 0) ρ) (γ 1) → zO 11 S a g q263a0_11 ρ γ → zGl (fun i vs g1 => jn263 a g i vs g1) (sn263 a g) q263a0_11 ρ γ := by
  intro ρ γ hJ h
  obtain ⟨ha, hg, hr, hf, hm, hc, hl⟩ := h
  have ha : a = [ρ 0, ρ 1, ρ 2, ρ 3, ρ 4, ρ 5, ρ 6, ρ 7, ρ 8, ρ 9, ρ 10] := ha
  subst ha
  subst hg
  have hJ : jn263 [ρ 0, ρ 1, ρ 2, ρ 3, ρ 4, ρ 5, ρ 6, ρ 7, ρ 8, ρ 9, ρ 10] (γ 0) 0 [ρ 0, ρ 1, ρ 2, ρ 3, ρ 4, ρ 5, ρ 6, ρ 7, ρ 8, ρ 9, ρ 10, ρ 11, ρ 12, ρ 13, ρ 14, ρ 15, ρ 16, ρ 17, ρ 18, ρ 19] (γ 1) := hJ
  obtain ⟨-, -, -, -, -, -, -, -, -, -, -, -, -, -, -, -, -, -, -, -, -, r21, -⟩ := hr
  have r21 : (2 : Int) ≤ ρ 21 ∧ ρ 21 ≤ 4 := r21
  obtain ⟨-, -, -, f3, -⟩ := hf
  have f3 : (0 : Int) ≤ -ρ 11 + ρ 2 + (-1) := f3
  obtain ⟨w_0, w_1⟩ : (¬ (ρ 11 ≥ ρ 2)) ∧ (¬ (0 ≤ -ρ 21 + 1)) := ⟨by omega, by omega⟩
  obtain ⟨-, m1, -, -, -, -, -, -, -, -, -, m11, -, -, -, -, -, -, m18, m19, -⟩ := hm
  have m1 : γ 0 1 0 10 = ρ 2 := m1
  have m11 : γ 1 4 0 7 = ρ 13 := m11
  have m18 : γ 0 40 0 (ρ 11) = ρ 20 := m18
  have m19 : γ 0 10 (9 * ρ 20) 12 = ρ 21 := m19
  obtain ⟨⟨⟨-, c5⟩, -⟩, -⟩ := hc
  have c5 : γ 5 = rUp (γ 4) 6 0 11 (ρ 13) := c5
  obtain ⟨l0, l1, l2, l3, l4, -⟩ := hl
  have l0 : sn131 [ρ 11, ρ 20] (γ 1) 0 (ρ 20) (γ 2) := hS131 _ _ _ _ _ l0
  have l1 : sn234 [ρ 20, ρ 0, ρ 22] (γ 2) 0 1 (γ 3) := hS234 _ _ _ _ _ l1
  have l2 : sn240 [0, ρ 20, ρ 11, ρ 22, ρ 21, ρ 23, ρ 15, ρ 16, ρ 17, ρ 19] (γ 3) 0 0 (γ 4) := hS240 _ _ _ _ _ l2
  have l3 : sn213 [ρ 14] (γ 5) 0 0 (γ 6) := hS213 _ _ _ _ _ l3
  have l4 : sn261 [ρ 12, 1, ρ 24, ρ 25, ρ 26, ρ 2, ρ 13, 0, ρ 11, 0, ρ 13, ρ 9, 0, ρ 27, ρ 28, ρ 29, ρ 30, ρ 31, ρ 32, ρ 33, ρ 34, ρ 35, ρ 36, ρ 37, ρ 38, ρ 39, ρ 40, ρ 41, ρ 42, ρ 43, ρ 44, ρ 45, ρ 46, ρ 47, ρ 48, ρ 49, ρ 50, ρ 51, ρ 52, ρ 53, ρ 54, ρ 55, ρ 56, ρ 57, ρ 58, ρ 59, ρ 60, ρ 61, ρ 62, ρ 63, ρ 64, ρ 65, ρ 66, ρ 67, ρ 68, ρ 69, ρ 70, ρ 71, ρ 72, ρ 73, ρ 74, ρ 75, ρ 76, ρ 77, ρ 78, ρ 79, ρ 80] (γ 6) 4 0 (γ 7) := hS261 _ _ _ _ _ l4
  show sn263 [ρ 0, ρ 1, ρ 2, ρ 3, ρ 4, ρ 5, ρ 6, ρ 7, ρ 8, ρ 9, ρ 10] (γ 0) 4 0 (γ 7)
  have hD : en263 (γ 0) (0, [ρ 0, ρ 11], γ 1) = .inr (4, 0, γ 7) := by
    unfold en263
    refine (if_pos (show (0 : Nat) = 0 by decide)).trans ?_
    refine (zLet_eq (show _ = γ 1 from rfl)).trans ?_
    refine (zLet_eq (show _ = ρ 0 from rfl)).trans ?_
    refine (zLet_eq (show _ = ρ 11 from rfl)).trans ?_
    refine (zLet_eq m1).trans ?_
    refine (zLet_eq m11).trans ?_
    refine (if_neg w_0).trans ?_
    refine (zLet_eq m18).trans ?_
    refine (zLet_eq (show fn131 [ρ 11] (γ 1) = (0, ρ 20, γ 2) from l0.symm)).trans ?_
    refine (zLet_eq (show _ = γ 2 from rfl)).trans ?_
    refine (zLet_eq m19).trans ?_
    refine (if_neg w_1).trans ?_
    refine (zLet_eq (show fn234 [ρ 20, ρ 0] (γ 2) = (0, 1, γ 3) from l1.symm)).trans ?_
    refine (zLet_eq (show _ = γ 3 from rfl)).trans ?_
    refine (if_pos zQ1_).trans ?_
    refine (zLet_eq (show fn240 [0, ρ 20, ρ 11] (γ 3) = (0, 0, γ 4) from l2.symm)).trans ?_
    refine (zLet_eq (show _ = γ 4 from rfl)).trans ?_
    refine (zLet_eq c5.symm).trans ?_
    refine (zLet_eq (show fn213 [] (γ 5) = (0, 0, γ 6) from l3.symm)).trans ?_
    refine (zLet_eq (show _ = γ 6 from rfl)).trans ?_
    refine (zLet_eq (show fn261 [] (γ 6) = (4, 0, γ 7) from l4.symm)).trans ?_
    refine (zLet_eq (show _ = γ 7 from rfl)).trans ?_
    refine (if_neg (show ¬ (4 : Nat) = 0 by decide)).trans ?_
    refine (if_neg (show ¬ (4 : Nat) = 1 by decide)).trans ?_
    rfl
  exact zGoo_aend hJ hD
theorem yn263 {S : Nat → zSpc} (hS131 : ∀ x g o v gz, S 131 x g o v gz → sn131 x g o v gz) (hS213 : ∀ x g o v gz, S 213 x g o v gz → sn213 x g o v gz) (hS234 : ∀ x g o v gz, S 234 x g o v gz → sn234 x g o v gz) (hS237 : ∀ x g o v gz, S 237 x g o v gz → sn237 x g o v gz) (hS239 : ∀ x g o v gz, S 239 x g o v gz → sn239 x g o v gz) (hS240 : ∀ x g o v gz, S 240 x g o v gz → sn240 x g o v gz) (hS261 : ∀ x g o v gz, S 261 x g o v gz → sn261 x g o v gz) : ∀ x g o v gz, zSem uW uT w263_.2.2.2.1 w263_.2.2.1.1.length S q263 (fun i => q263a.getD i []) (zNA a263_) x g o v gz → sn263 x g o v gz := by
  intro a g o v gz h
  exact zSem_all (l0 := q263) (las := q263a) (S := S) (J := (fun i vs g1 => jn263 a g i vs g1)) (P := sn263 a g) (fun _ => (show zAll _ [q263_0] from (zAll_c (vn263_0 hS131 hS213 hS234 hS237 hS239 hS240 hS261) zAll_n))) (fun _ => (show zAllI _ 0 [q263a0] from ⟨(show zAll _ [q263a0_0, q263a0_1, q263a0_2, q263a0_3, q263a0_4, q263a0_5, q263a0_6, q263a0_7, q263a0_8, q263a0_9, q263a0_10, q263a0_11] from (zAll_c (vn263a0_0 hS131 hS213 hS234 hS237 hS239 hS240 hS261) (zAll_c (vn263a0_1 hS131 hS213 hS234 hS237 hS239 hS240 hS261) (zAll_c (vn263a0_2 hS131 hS213 hS234 hS237 hS239 hS240 hS261) (zAll_c (vn263a0_3 hS131 hS213 hS234 hS237 hS239 hS240 hS261) (zAll_c (vn263a0_4 hS131 hS213 hS234 hS237 hS239 hS240 hS261) (zAll_c (vn263a0_5 hS131 hS213 hS234 hS237 hS239 hS240 hS261) (zAll_c (vn263a0_6 hS131 hS213 hS234 hS237 hS239 hS240 hS261) (zAll_c (vn263a0_7 hS131 hS213 hS234 hS237 hS239 hS240 hS261) (zAll_c (vn263a0_8 hS131 hS213 hS234 hS237 hS239 hS240 hS261) (zAll_c (vn263a0_9 hS131 hS213 hS234 hS237 hS239 hS240 hS261) (zAll_c (vn263a0_10 hS131 hS213 hS234 hS237 hS239 hS240 hS261) (zAll_c (vn263a0_11 hS131 hS213 hS234 hS237 hS239 hS240 hS261) zAll_n))))))))))))), trivial⟩)) h
