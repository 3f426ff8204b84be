/-! ===== the runs are the functions ===== -/
theorem vn252_0 {S : Nat → zSpc} (hS225 : ∀ x g o v gz, S 225 x g o v gz → sn225 x g o v gz) (hS226 : ∀ x g o v gz, S 226 x g o v gz → sn226 x g o v gz) (hS227 : ∀ x g o v gz, S 227 x g o v gz → sn227 x g o v gz) (hS232 : ∀ x g o v gz, S 232 x g o v gz → sn232 x g o v gz) (hS251 : ∀ x g o v gz, S 251 x g o v gz → sn251 x g o v gz) {a : List Int} {g : rHp} : ∀ (ρ : Nat → Int) (γ : Nat → rHp), zO 41 S a g q252_0 ρ γ → zGl (fun i vs g1 => jn252 a g i vs g1) (sn252 a g) q252_0 ρ γ := by
  intro ρ γ h
  obtain ⟨ha, hg, hr, hf, hm, hc, hl⟩ := h
  have ha : a = [ρ 0, ρ 1, ρ 2, ρ 3, ρ 4, ρ 5, ρ 6, ρ 7, ρ 8, ρ 9, ρ 10, ρ 11, ρ 12, ρ 13, ρ 14, ρ 15, ρ 16, ρ 17, ρ 18, ρ 19, ρ 20, ρ 21, ρ 22, ρ 23, ρ 24, ρ 25, ρ 26, ρ 27, ρ 28, ρ 29, ρ 30, ρ 31, ρ 32, ρ 33, ρ 34, ρ 35, ρ 36, ρ 37, ρ 38, ρ 39, ρ 40] := ha
  subst ha
  subst hg
  obtain ⟨-, -, -, -, -, -, -, -, -, r9, -⟩ := hr
  have r9 : ((-2147483648) : Int) ≤ ρ 9 ∧ ρ 9 ≤ 1 := r9
  have w_0 : ρ 9 ≤ 1 := by omega
  obtain ⟨-, -, -, -, m4, -, -, -, -, m9, -, m11, m12, -, m14, -, -, -, -, -, -, -, m22, -⟩ := hm
  have m4 : γ 0 6 0 7 = ρ 4 := m4
  have m9 : γ 0 6 0 10 = ρ 9 := m9
  have m11 : γ 0 6 0 12 = ρ 11 := m11
  have m12 : γ 0 6 0 13 = ρ 12 := m12
  have m14 : γ 0 9 (ρ 4) 3 = ρ 14 := m14
  have m22 : γ 0 10 (9 * ρ 4 + 5) 10 = ρ 22 := m22
  obtain ⟨l0, -⟩ := hl
  have l0 : sn226 [9 * ρ 4 + 5, 0, ρ 6, ρ 20, ρ 21] (γ 0) 0 (ρ 41) (γ 1) := hS226 _ _ _ _ _ l0
  show jn252 [ρ 0, ρ 1, ρ 2, ρ 3, ρ 4, ρ 5, ρ 6, ρ 7, ρ 8, ρ 9, ρ 10, ρ 11, ρ 12, ρ 13, ρ 14, ρ 15, ρ 16, ρ 17, ρ 18, ρ 19, ρ 20, ρ 21, ρ 22, ρ 23, ρ 24, ρ 25, ρ 26, ρ 27, ρ 28, ρ 29, ρ 30, ρ 31, ρ 32, ρ 33, ρ 34, ρ 35, ρ 36, ρ 37, ρ 38, ρ 39, ρ 40] (γ 0) 0 [ρ 0, ρ 1, ρ 2, ρ 3, ρ 4, ρ 5, ρ 6, ρ 7, ρ 8, ρ 9, ρ 10, ρ 11, ρ 12, ρ 13, ρ 14, ρ 15, ρ 16, ρ 17, ρ 18, ρ 19, ρ 20, ρ 21, ρ 22, ρ 23, ρ 24, ρ 25, ρ 26, ρ 27, ρ 28, ρ 29, ρ 30, ρ 31, ρ 32, ρ 33, ρ 34, ρ 35, ρ 36, ρ 37, ρ 38, ρ 39, ρ 40, 0, ρ 41, 0, 0, ρ 0, ρ 3, ρ 6, ρ 7, ρ 12] (γ 1)
  have hD : dn252 [] (γ 0) = .inl (0, [0, ρ 41, 0, 0], γ 1) := by
    unfold dn252
    refine (zLet_eq m4).trans ?_
    refine (zLet_eq m9).trans ?_
    refine (zLet_eq m11).trans ?_
    refine (zLet_eq m12).trans ?_
    refine (zLet_eq m14).trans ?_
    refine (zLet_eq m22).trans ?_
    refine (if_pos w_0).trans ?_
    refine (zLet_eq (show fn226 [9 * ρ 4 + 5, 0] (γ 0) = (0, ρ 41, γ 1) from l0.symm)).trans ?_
    refine (zLet_eq (show _ = γ 1 from rfl)).trans ?_
    refine (zLet_eq (show _ = ρ 41 from rfl)).trans ?_
    rfl
  exact zGoo_to hD
theorem vn252_1 {S : Nat → zSpc} (hS225 : ∀ x g o v gz, S 225 x g o v gz → sn225 x g o v gz) (hS226 : ∀ x g o v gz, S 226 x g o v gz → sn226 x g o v gz) (hS227 : ∀ x g o v gz, S 227 x g o v gz → sn227 x g o v gz) (hS232 : ∀ x g o v gz, S 232 x g o v gz → sn232 x g o v gz) (hS251 : ∀ x g o v gz, S 251 x g o v gz → sn251 x g o v gz) {a : List Int} {g : rHp} : ∀ (ρ : Nat → Int) (γ : Nat → rHp), zO 41 S a g q252_1 ρ γ → zGl (fun i vs g1 => jn252 a g i vs g1) (sn252 a g) q252_1 ρ γ := by
  intro ρ γ h
  obtain ⟨ha, hg, hr, hf, hm, hc, hl⟩ := h
  have ha : a = [ρ 0, ρ 1, ρ 2, ρ 3, ρ 4, ρ 5, ρ 6, ρ 7, ρ 8, ρ 9, ρ 10, ρ 11, ρ 12, ρ 13, ρ 14, ρ 15, ρ 16, ρ 17, ρ 18, ρ 19, ρ 20, ρ 21, ρ 22, ρ 23, ρ 24, ρ 25, ρ 26, ρ 27, ρ 28, ρ 29, ρ 30, ρ 31, ρ 32, ρ 33, ρ 34, ρ 35, ρ 36, ρ 37, ρ 38, ρ 39, ρ 40] := ha
  subst ha
  subst hg
  obtain ⟨-, -, -, -, -, -, -, -, -, r9, -, -, r12, -⟩ := hr
  have r9 : (2 : Int) ≤ ρ 9 ∧ ρ 9 ≤ 2147483647 := r9
  have r12 : ((-2147483648) : Int) ≤ ρ 12 ∧ ρ 12 ≤ 2147483647 := r12
  have w_0 : ¬ (ρ 9 ≤ 1) := by omega
  obtain ⟨-, -, -, -, m4, -, -, -, -, m9, -, m11, m12, -, m14, -, -, -, -, -, -, -, m22, -⟩ := hm
  have m4 : γ 0 6 0 7 = ρ 4 := m4
  have m9 : γ 0 6 0 10 = ρ 9 := m9
  have m11 : γ 0 6 0 12 = ρ 11 := m11
  have m12 : γ 0 6 0 13 = ρ 12 := m12
  have m14 : γ 0 9 (ρ 4) 3 = ρ 14 := m14
  have m22 : γ 0 10 (9 * ρ 4 + 5) 10 = ρ 22 := m22
  obtain ⟨l0, l1, -⟩ := hl
  have l0 : ρ 12 ≠ 0 := l0
  have l1 : sn226 [9 * ρ 4 + 5, 0, ρ 6, ρ 20, ρ 21] (γ 0) 0 (ρ 41) (γ 1) := hS226 _ _ _ _ _ l1
  have wl_0 : ρ 12 ≠ 0 := by omega
  show jn252 [ρ 0, ρ 1, ρ 2, ρ 3, ρ 4, ρ 5, ρ 6, ρ 7, ρ 8, ρ 9, ρ 10, ρ 11, ρ 12, ρ 13, ρ 14, ρ 15, ρ 16, ρ 17, ρ 18, ρ 19, ρ 20, ρ 21, ρ 22, ρ 23, ρ 24, ρ 25, ρ 26, ρ 27, ρ 28, ρ 29, ρ 30, ρ 31, ρ 32, ρ 33, ρ 34, ρ 35, ρ 36, ρ 37, ρ 38, ρ 39, ρ 40] (γ 0) 0 [ρ 0, ρ 1, ρ 2, ρ 3, ρ 4, ρ 5, ρ 6, ρ 7, ρ 8, ρ 9, ρ 10, ρ 11, ρ 12, ρ 13, ρ 14, ρ 15, ρ 16, ρ 17, ρ 18, ρ 19, ρ 20, ρ 21, ρ 22, ρ 23, ρ 24, ρ 25, ρ 26, ρ 27, ρ 28, ρ 29, ρ 30, ρ 31, ρ 32, ρ 33, ρ 34, ρ 35, ρ 36, ρ 37, ρ 38, ρ 39, ρ 40, 0, ρ 41, 0, 0, ρ 0, ρ 3, ρ 6, ρ 7, ρ 12] (γ 1)
  have hD : dn252 [] (γ 0) = .inl (0, [0, ρ 41, 0, 0], γ 1) := by
    unfold dn252
    refine (zLet_eq m4).trans ?_
    refine (zLet_eq m9).trans ?_
    refine (zLet_eq m11).trans ?_
    refine (zLet_eq m12).trans ?_
    refine (zLet_eq m14).trans ?_
    refine (zLet_eq m22).trans ?_
    refine (if_neg w_0).trans ?_
    refine (if_pos wl_0).trans ?_
    refine (zLet_eq (show fn226 [9 * ρ 4 + 5, 0] (γ 0) = (0, ρ 41, γ 1) from l1.symm)).trans ?_
    refine (zLet_eq (show _ = γ 1 from rfl)).trans ?_
    refine (zLet_eq (show _ = ρ 41 from rfl)).trans ?_
    rfl
  exact zGoo_to hD
theorem vn252_2 {S : Nat → zSpc} (hS225 : ∀ x g o v gz, S 225 x g o v gz → sn225 x g o v gz) (hS226 : ∀ x g o v gz, S 226 x g o v gz → sn226 x g o v gz) (hS227 : ∀ x g o v gz, S 227 x g o v gz → sn227 x g o v gz) (hS232 : ∀ x g o v gz, S 232 x g o v gz → sn232 x g o v gz) (hS251 : ∀ x g o v gz, S 251 x g o v gz → sn251 x g o v gz) {a : List Int} {g : rHp} : ∀ (ρ : Nat → Int) (γ : Nat → rHp), zO 41 S a g q252_2 ρ γ → zGl (fun i vs g1 => jn252 a g i vs g1) (sn252 a g) q252_2 ρ γ := by
  intro ρ γ h
  obtain ⟨ha, hg, hr, hf, hm, hc, hl⟩ := h
  have ha : a = [ρ 0, ρ 1, ρ 2, ρ 3, ρ 4, ρ 5, ρ 6, ρ 7, ρ 8, ρ 9, ρ 10, ρ 11, ρ 12, ρ 13, ρ 14, ρ 15, ρ 16, ρ 17, ρ 18, ρ 19, ρ 20, ρ 21, ρ 22, ρ 23, ρ 24, ρ 25, ρ 26, ρ 27, ρ 28, ρ 29, ρ 30, ρ 31, ρ 32, ρ 33, ρ 34, ρ 35, ρ 36, ρ 37, ρ 38, ρ 39, ρ 40] := ha
  subst ha
  subst hg
  obtain ⟨-, -, -, -, -, -, -, -, -, r9, -, -, r12, -, r14, -, -, -, -, -, -, -, r22, -⟩ := hr
  have r9 : (2 : Int) ≤ ρ 9 ∧ ρ 9 ≤ 2147483647 := r9
  have r12 : (0 : Int) ≤ ρ 12 ∧ ρ 12 ≤ 0 := r12
  have r14 : (0 : Int) ≤ ρ 14 ∧ ρ 14 ≤ 8 := r14
  have r22 : (0 : Int) ≤ ρ 22 ∧ ρ 22 ≤ 7 := r22
  obtain ⟨w_0, w_1⟩ : (¬ (ρ 9 ≤ 1)) ∧ (¬ (ρ 12 ≠ 0)) := ⟨by omega, by omega⟩
  obtain ⟨-, -, -, -, m4, -, -, -, -, m9, -, m11, m12, -, m14, -, -, -, -, -, -, -, m22, -⟩ := hm
  have m4 : γ 0 6 0 7 = ρ 4 := m4
  have m9 : γ 0 6 0 10 = ρ 9 := m9
  have m11 : γ 0 6 0 12 = ρ 11 := m11
  have m12 : γ 0 6 0 13 = ρ 12 := m12
  have m14 : γ 0 9 (ρ 4) 3 = ρ 14 := m14
  have m22 : γ 0 10 (9 * ρ 4 + 5) 10 = ρ 22 := m22
  obtain ⟨l0, l1, -⟩ := hl
  have l0 : ρ 22 ≠ ρ 14 + (-1) := l0
  have l1 : sn226 [9 * ρ 4 + 5, 0, ρ 6, ρ 20, ρ 21] (γ 0) 0 (ρ 41) (γ 1) := hS226 _ _ _ _ _ l1
  have wl_0 : ρ 22 ≠ ρ 14 + (-1) := by omega
  show jn252 [ρ 0, ρ 1, ρ 2, ρ 3, ρ 4, ρ 5, ρ 6, ρ 7, ρ 8, ρ 9, ρ 10, ρ 11, ρ 12, ρ 13, ρ 14, ρ 15, ρ 16, ρ 17, ρ 18, ρ 19, ρ 20, ρ 21, ρ 22, ρ 23, ρ 24, ρ 25, ρ 26, ρ 27, ρ 28, ρ 29, ρ 30, ρ 31, ρ 32, ρ 33, ρ 34, ρ 35, ρ 36, ρ 37, ρ 38, ρ 39, ρ 40] (γ 0) 0 [ρ 0, ρ 1, ρ 2, ρ 3, ρ 4, ρ 5, ρ 6, ρ 7, ρ 8, ρ 9, ρ 10, ρ 11, ρ 12, ρ 13, ρ 14, ρ 15, ρ 16, ρ 17, ρ 18, ρ 19, ρ 20, ρ 21, ρ 22, ρ 23, ρ 24, ρ 25, ρ 26, ρ 27, ρ 28, ρ 29, ρ 30, ρ 31, ρ 32, ρ 33, ρ 34, ρ 35, ρ 36, ρ 37, ρ 38, ρ 39, ρ 40, 0, ρ 41, 0, 0, ρ 0, ρ 3, ρ 6, ρ 7, ρ 12] (γ 1)
  have hD : dn252 [] (γ 0) = .inl (0, [0, ρ 41, 0, 0], γ 1) := by
    unfold dn252
    refine (zLet_eq m4).trans ?_
    refine (zLet_eq m9).trans ?_
    refine (zLet_eq m11).trans ?_
    refine (zLet_eq m12).trans ?_
    refine (zLet_eq m14).trans ?_
    refine (zLet_eq m22).trans ?_
    refine (if_neg w_0).trans ?_
    refine (if_neg w_1).trans ?_
    refine (if_pos wl_0).trans ?_
    refine (zLet_eq (show fn226 [9 * ρ 4 + 5, 0] (γ 0) = (0, ρ 41, γ 1) from l1.symm)).trans ?_
    refine (zLet_eq (show _ = γ 1 from rfl)).trans ?_
    refine (zLet_eq (show _ = ρ 41 from rfl)).trans ?_
    rfl
  exact zGoo_to hD
theorem vn252_3 {S : Nat → zSpc} (hS225 : ∀ x g o v gz, S 225 x g o v gz → sn225 x g o v gz) (hS226 : ∀ x g o v gz, S 226 x g o v gz → sn226 x g o v gz) (hS227 : ∀ x g o v gz, S 227 x g o v gz → sn227 x g o v gz) (hS232 : ∀ x g o v gz, S 232 x g o v gz → sn232 x g o v gz) (hS251 : ∀ x g o v gz, S 251 x g o v gz → sn251 x g o v gz) {a : List Int} {g : rHp} : ∀ (ρ : Nat → Int) (γ : Nat → rHp), zO 41 S a g q252_3 ρ γ → zGl (fun i vs g1 => jn252 a g i vs g1) (sn252 a g) q252_3 ρ γ := by
  intro ρ γ h
  obtain ⟨ha, hg, hr, hf, hm, hc, hl⟩ := h
  have ha : a = [ρ 0, ρ 1, ρ 2, ρ 3, ρ 4, ρ 5, ρ 6, ρ 7, ρ 8, ρ 9, ρ 10, ρ 11, ρ 12, ρ 13, ρ 14, ρ 15, ρ 16, ρ 17, ρ 18, ρ 19, ρ 20, ρ 21, ρ 22, ρ 23, ρ 24, ρ 25, ρ 26, ρ 27, ρ 28, ρ 29, ρ 30, ρ 31, ρ 32, ρ 33, ρ 34, ρ 35, ρ 36, ρ 37, ρ 38, ρ 39, ρ 40] := ha
  subst ha
  subst hg
  obtain ⟨-, -, -, -, -, -, -, -, -, r9, -, -, r12, -⟩ := hr
  have r9 : (2 : Int) ≤ ρ 9 ∧ ρ 9 ≤ 2147483647 := r9
  have r12 : (0 : Int) ≤ ρ 12 ∧ ρ 12 ≤ 0 := r12
  obtain ⟨f0, f1, -⟩ := hf
  have f0 : (0 : Int) ≤ -ρ 22 + ρ 14 + (-1) := f0
  have f1 : (0 : Int) ≤ ρ 22 + -ρ 14 + 1 := f1
  obtain ⟨w_0, w_1, w_2⟩ : (¬ (ρ 9 ≤ 1)) ∧ (¬ (ρ 12 ≠ 0)) ∧ (¬ (ρ 22 ≠ ρ 14 + (-1))) := ⟨by omega, by omega, by omega⟩
  obtain ⟨-, -, -, -, m4, -, -, -, -, m9, -, m11, m12, -, m14, -, -, -, -, -, -, -, m22, -⟩ := hm
  have m4 : γ 0 6 0 7 = ρ 4 := m4
  have m9 : γ 0 6 0 10 = ρ 9 := m9
  have m11 : γ 0 6 0 12 = ρ 11 := m11
  have m12 : γ 0 6 0 13 = ρ 12 := m12
  have m14 : γ 0 9 (ρ 4) 3 = ρ 14 := m14
  have m22 : γ 0 10 (9 * ρ 4 + 5) 10 = ρ 22 := m22
  obtain ⟨l0, -⟩ := hl
  have l0 : sn226 [9 * ρ 4 + 5, ρ 11, ρ 6, ρ 20, ρ 21] (γ 0) 0 (ρ 41) (γ 1) := hS226 _ _ _ _ _ l0
  show jn252 [ρ 0, ρ 1, ρ 2, ρ 3, ρ 4, ρ 5, ρ 6, ρ 7, ρ 8, ρ 9, ρ 10, ρ 11, ρ 12, ρ 13, ρ 14, ρ 15, ρ 16, ρ 17, ρ 18, ρ 19, ρ 20, ρ 21, ρ 22, ρ 23, ρ 24, ρ 25, ρ 26, ρ 27, ρ 28, ρ 29, ρ 30, ρ 31, ρ 32, ρ 33, ρ 34, ρ 35, ρ 36, ρ 37, ρ 38, ρ 39, ρ 40] (γ 0) 0 [ρ 0, ρ 1, ρ 2, ρ 3, ρ 4, ρ 5, ρ 6, ρ 7, ρ 8, ρ 9, ρ 10, ρ 11, ρ 12, ρ 13, ρ 14, ρ 15, ρ 16, ρ 17, ρ 18, ρ 19, ρ 20, ρ 21, ρ 22, ρ 23, ρ 24, ρ 25, ρ 26, ρ 27, ρ 28, ρ 29, ρ 30, ρ 31, ρ 32, ρ 33, ρ 34, ρ 35, ρ 36, ρ 37, ρ 38, ρ 39, ρ 40, 0, ρ 41, ρ 11, 1, ρ 0, ρ 3, ρ 6, ρ 7, ρ 12] (γ 1)
  have hD : dn252 [] (γ 0) = .inl (0, [0, ρ 41, ρ 11, 1], γ 1) := by
    unfold dn252
    refine (zLet_eq m4).trans ?_
    refine (zLet_eq m9).trans ?_
    refine (zLet_eq m11).trans ?_
    refine (zLet_eq m12).trans ?_
    refine (zLet_eq m14).trans ?_
    refine (zLet_eq m22).trans ?_
    refine (if_neg w_0).trans ?_
    refine (if_neg w_1).trans ?_
    refine (if_neg w_2).trans ?_
    refine (zLet_eq (show fn226 [9 * ρ 4 + 5, ρ 11] (γ 0) = (0, ρ 41, γ 1) from l0.symm)).trans ?_
    refine (zLet_eq (show _ = γ 1 from rfl)).trans ?_
    refine (zLet_eq (show _ = ρ 41 from rfl)).trans ?_
    rfl
  exact zGoo_to hD
theorem vn252a0_0 {S : Nat → zSpc} (hS225 : ∀ x g o v gz, S 225 x g o v gz → sn225 x g o v gz) (hS226 : ∀ x g o v gz, S 226 x g o v gz → sn226 x g o v gz) (hS227 : ∀ x g o v gz, S 227 x g o v gz → sn227 x g o v gz) (hS232 : ∀ x g o v gz, S 232 x g o v gz → sn232 x g o v gz) (hS251 : ∀ x g o v gz, S 251 x g o v gz → sn251 x g o v gz) {a : List Int} {g : rHp} : ∀ (ρ : Nat → Int) (γ : Nat → rHp), jn252 a g 0 (zAg (zNA a252_ 0) ρ) (γ 1) → zO 41 S a g q252a0_0 ρ γ → zGl (fun i vs g1 => jn252 a g i vs g1) (sn252 a g) q252a0_0 ρ γ := by
  intro ρ γ hJ h
  obtain ⟨ha, hg, hr, hf, hm, hc, hl⟩ := h
  have ha : a = [ρ 0, ρ 1, ρ 2, ρ 3, ρ 4, ρ 5, ρ 6, ρ 7, ρ 8, ρ 9, ρ 10, ρ 11, ρ 12, ρ 13, ρ 14, ρ 15, ρ 16, ρ 17, ρ 18, ρ 19, ρ 20, ρ 21, ρ 22, ρ 23, ρ 24, ρ 25, ρ 26, ρ 27, ρ 28, ρ 29, ρ 30, ρ 31, ρ 32, ρ 33, ρ 34, ρ 35, ρ 36, ρ 37, ρ 38, ρ 39, ρ 40] := ha
  subst ha
  subst hg
  have hJ : jn252 [ρ 0, ρ 1, ρ 2, ρ 3, ρ 4, ρ 5, ρ 6, ρ 7, ρ 8, ρ 9, ρ 10, ρ 11, ρ 12, ρ 13, ρ 14, ρ 15, ρ 16, ρ 17, ρ 18, ρ 19, ρ 20, ρ 21, ρ 22, ρ 23, ρ 24, ρ 25, ρ 26, ρ 27, ρ 28, ρ 29, ρ 30, ρ 31, ρ 32, ρ 33, ρ 34, ρ 35, ρ 36, ρ 37, ρ 38, ρ 39, ρ 40] (γ 0) 0 [ρ 0, ρ 1, ρ 2, ρ 3, ρ 4, ρ 5, ρ 6, ρ 7, ρ 8, ρ 9, ρ 10, ρ 11, ρ 12, ρ 13, ρ 14, ρ 15, ρ 16, ρ 17, ρ 18, ρ 19, ρ 20, ρ 21, ρ 22, ρ 23, ρ 24, ρ 25, ρ 26, ρ 27, ρ 28, ρ 29, ρ 30, ρ 31, ρ 32, ρ 33, ρ 34, ρ 35, ρ 36, ρ 37, ρ 38, ρ 39, ρ 40, ρ 41, ρ 42, ρ 43, ρ 44, ρ 45, ρ 46, ρ 47, ρ 48, ρ 49] (γ 1) := hJ
  obtain ⟨-, -, -, -, -, -, -, -, -, -, -, -, -, -, -, -, -, -, -, -, -, -, -, -, -, -, -, -, -, -, -, -, -, -, -, -, -, -, -, -, -, -, r42, -⟩ := hr
  have r42 : ((-1) : Int) ≤ ρ 42 ∧ ρ 42 ≤ (-1) := r42
  have w_0 : ρ 42 < 0 := by omega
  obtain ⟨-, -, -, -, m4, -, -, -, -, -, m10, m11, -, -, -, -, -, -, -, -, -, -, -, -, -, -, -, -, -, -, -, -, -, -, -, -, -, -, -, -, -, -, -, -, -, m45, -⟩ := hm
  have m4 : γ 0 6 0 7 = ρ 4 := m4
  have m10 : γ 0 6 0 11 = ρ 10 := m10
  have m11 : γ 0 6 0 12 = ρ 11 := m11
  have m45 : γ 1 6 0 13 = ρ 49 := m45
  show sn252 [ρ 0, ρ 1, ρ 2, ρ 3, ρ 4, ρ 5, ρ 6, ρ 7, ρ 8, ρ 9, ρ 10, ρ 11, ρ 12, ρ 13, ρ 14, ρ 15, ρ 16, ρ 17, ρ 18, ρ 19, ρ 20, ρ 21, ρ 22, ρ 23, ρ 24, ρ 25, ρ 26, ρ 27, ρ 28, ρ 29, ρ 30, ρ 31, ρ 32, ρ 33, ρ 34, ρ 35, ρ 36, ρ 37, ρ 38, ρ 39, ρ 40] (γ 0) 0 0 (γ 1)
  have hD : en252 (γ 0) (0, [ρ 41, ρ 42, ρ 43, ρ 44], γ 1) = .inr (0, 0, γ 1) := by
    unfold en252
    refine (if_pos (show (0 : Nat) = 0 by decide)).trans ?_
    refine (zLet_eq (show _ = γ 1 from rfl)).trans ?_
    refine (zLet_eq (show _ = ρ 41 from rfl)).trans ?_
    refine (zLet_eq (show _ = ρ 42 from rfl)).trans ?_
    refine (zLet_eq (show _ = ρ 43 from rfl)).trans ?_
    refine (zLet_eq (show _ = ρ 44 from rfl)).trans ?_
    refine (zLet_eq m4).trans ?_
    refine (zLet_eq m10).trans ?_
    refine (zLet_eq m11).trans ?_
    refine (zLet_eq m45).trans ?_
    refine (if_pos w_0).trans ?_
    rfl
  exact zGoo_aend hJ hD
theorem vn252a0_1 {S : Nat → zSpc} (hS225 : ∀ x g o v gz, S 225 x g o v gz → sn225 x g o v gz) (hS226 : ∀ x g o v gz, S 226 x g o v gz → sn226 x g o v gz) (hS227 : ∀ x g o v gz, S 227 x g o v gz → sn227 x g o v gz) (hS232 : ∀ x g o v gz, S 232 x g o v gz → sn232 x g o v gz) (hS251 : ∀ x g o v gz, S 251 x g o v gz → sn251 x g o v gz) {a : List Int} {g : rHp} : ∀ (ρ : Nat → Int) (γ : Nat → rHp), jn252 a g 0 (zAg (zNA a252_ 0) ρ) (γ 1) → zO 41 S a g q252a0_1 ρ γ → zGl (fun i vs g1 => jn252 a g i vs g1) (sn252 a g) q252a0_1 ρ γ := by
  intro ρ γ hJ h
  obtain ⟨ha, hg, hr, hf, hm, hc, hl⟩ := h
  have ha : a = [ρ 0, ρ 1, ρ 2, ρ 3, ρ 4, ρ 5, ρ 6, ρ 7, ρ 8, ρ 9, ρ 10, ρ 11, ρ 12, ρ 13, ρ 14, ρ 15, ρ 16, ρ 17, ρ 18, ρ 19, ρ 20, ρ 21, ρ 22, ρ 23, ρ 24, ρ 25, ρ 26, ρ 27, ρ 28, ρ 29, ρ 30, ρ 31, ρ 32, ρ 33, ρ 34, ρ 35, ρ 36, ρ 37, ρ 38, ρ 39, ρ 40] := ha
  subst ha
  subst hg
  have hJ : jn252 [ρ 0, ρ 1, ρ 2, ρ 3, ρ 4, ρ 5, ρ 6, ρ 7, ρ 8, ρ 9, ρ 10, ρ 11, ρ 12, ρ 13, ρ 14, ρ 15, ρ 16, ρ 17, ρ 18, ρ 19, ρ 20, ρ 21, ρ 22, ρ 23, ρ 24, ρ 25, ρ 26, ρ 27, ρ 28, ρ 29, ρ 30, ρ 31, ρ 32, ρ 33, ρ 34, ρ 35, ρ 36, ρ 37, ρ 38, ρ 39, ρ 40] (γ 0) 0 [ρ 0, ρ 1, ρ 2, ρ 3, ρ 4, ρ 5, ρ 6, ρ 7, ρ 8, ρ 9, ρ 10, ρ 11, ρ 12, ρ 13, ρ 14, ρ 15, ρ 16, ρ 17, ρ 18, ρ 19, ρ 20, ρ 21, ρ 22, ρ 23, ρ 24, ρ 25, ρ 26, ρ 27, ρ 28, ρ 29, ρ 30, ρ 31, ρ 32, ρ 33, ρ 34, ρ 35, ρ 36, ρ 37, ρ 38, ρ 39, ρ 40, ρ 41, ρ 42, ρ 43, ρ 44, ρ 45, ρ 46, ρ 47, ρ 48, ρ 49] (γ 1) := hJ
  obtain ⟨-, -, -, -, -, -, -, -, -, -, -, -, -, -, -, -, -, -, -, -, -, -, -, -, -, -, -, -, -, -, -, -, -, -, -, -, -, -, -, -, -, -, r42, -⟩ := hr
  have r42 : (0 : Int) ≤ ρ 42 ∧ ρ 42 ≤ 2000 := r42
  obtain ⟨f0, -⟩ := hf
  have f0 : (0 : Int) ≤ ρ 42 + -ρ 10 := f0
  obtain ⟨w_0, w_1⟩ : (¬ (ρ 42 < 0)) ∧ (ρ 42 ≥ ρ 10) := ⟨by omega, by omega⟩
  obtain ⟨-, -, -, -, m4, -, -, -, -, -, m10, m11, -, -, -, -, -, -, -, -, -, -, -, -, -, -, -, -, -, -, -, -, -, -, -, -, -, -, -, -, -, -, -, -, -, m45, -⟩ := hm
  have m4 : γ 0 6 0 7 = ρ 4 := m4
  have m10 : γ 0 6 0 11 = ρ 10 := m10
  have m11 : γ 0 6 0 12 = ρ 11 := m11
  have m45 : γ 1 6 0 13 = ρ 49 := m45
  show sn252 [ρ 0, ρ 1, ρ 2, ρ 3, ρ 4, ρ 5, ρ 6, ρ 7, ρ 8, ρ 9, ρ 10, ρ 11, ρ 12, ρ 13, ρ 14, ρ 15, ρ 16, ρ 17, ρ 18, ρ 19, ρ 20, ρ 21, ρ 22, ρ 23, ρ 24, ρ 25, ρ 26, ρ 27, ρ 28, ρ 29, ρ 30, ρ 31, ρ 32, ρ 33, ρ 34, ρ 35, ρ 36, ρ 37, ρ 38, ρ 39, ρ 40] (γ 0) 0 0 (γ 1)
  have hD : en252 (γ 0) (0, [ρ 41, ρ 42, ρ 43, ρ 44], γ 1) = .inr (0, 0, γ 1) := by
    unfold en252
    refine (if_pos (show (0 : Nat) = 0 by decide)).trans ?_
    refine (zLet_eq (show _ = γ 1 from rfl)).trans ?_
    refine (zLet_eq (show _ = ρ 41 from rfl)).trans ?_
    refine (zLet_eq (show _ = ρ 42 from rfl)).trans ?_
    refine (zLet_eq (show _ = ρ 43 from rfl)).trans ?_
    refine (zLet_eq (show _ = ρ 44 from rfl)).trans ?_
    refine (zLet_eq m4).trans ?_
    refine (zLet_eq m10).trans ?_
    refine (zLet_eq m11).trans ?_
    refine (zLet_eq m45).trans ?_
    refine (if_neg w_0).trans ?_
    refine (if_pos w_1).trans ?_
    rfl
  exact zGoo_aend hJ hD
theorem vn252a0_2 {S : Nat → zSpc} (hS225 : ∀ x g o v gz, S 225 x g o v gz → sn225 x g o v gz) (hS226 : ∀ x g o v gz, S 226 x g o v gz → sn226 x g o v gz) (hS227 : ∀ x g o v gz, S 227 x g o v gz → sn227 x g o v gz) (hS232 : ∀ x g o v gz, S 232 x g o v gz → sn232 x g o v gz) (hS251 : ∀ x g o v gz, S 251 x g o v gz → sn251 x g o v gz) {a : List Int} {g : rHp} : ∀ (ρ : Nat → Int) (γ : Nat → rHp), jn252 a g 0 (zAg (zNA a252_ 0) ρ) (γ 1) → zO 41 S a g q252a0_2 ρ γ → zGl (fun i vs g1 => jn252 a g i vs g1) (sn252 a g) q252a0_2 ρ γ := by
  intro ρ γ hJ h
  obtain ⟨ha, hg, hr, hf, hm, hc, hl⟩ := h
  have ha : a = [ρ 0, ρ 1, ρ 2, ρ 3, ρ 4, ρ 5, ρ 6, ρ 7, ρ 8, ρ 9, ρ 10, ρ 11, ρ 12, ρ 13, ρ 14, ρ 15, ρ 16, ρ 17, ρ 18, ρ 19, ρ 20, ρ 21, ρ 22, ρ 23, ρ 24, ρ 25, ρ 26, ρ 27, ρ 28, ρ 29, ρ 30, ρ 31, ρ 32, ρ 33, ρ 34, ρ 35, ρ 36, ρ 37, ρ 38, ρ 39, ρ 40] := ha
  subst ha
  subst hg
  have hJ : jn252 [ρ 0, ρ 1, ρ 2, ρ 3, ρ 4, ρ 5, ρ 6, ρ 7, ρ 8, ρ 9, ρ 10, ρ 11, ρ 12, ρ 13, ρ 14, ρ 15, ρ 16, ρ 17, ρ 18, ρ 19, ρ 20, ρ 21, ρ 22, ρ 23, ρ 24, ρ 25, ρ 26, ρ 27, ρ 28, ρ 29, ρ 30, ρ 31, ρ 32, ρ 33, ρ 34, ρ 35, ρ 36, ρ 37, ρ 38, ρ 39, ρ 40] (γ 0) 0 [ρ 0, ρ 1, ρ 2, ρ 3, ρ 4, ρ 5, ρ 6, ρ 7, ρ 8, ρ 9, ρ 10, ρ 11, ρ 12, ρ 13, ρ 14, ρ 15, ρ 16, ρ 17, ρ 18, ρ 19, ρ 20, ρ 21, ρ 22, ρ 23, ρ 24, ρ 25, ρ 26, ρ 27, ρ 28, ρ 29, ρ 30, ρ 31, ρ 32, ρ 33, ρ 34, ρ 35, ρ 36, ρ 37, ρ 38, ρ 39, ρ 40, ρ 41, ρ 42, ρ 43, ρ 44, ρ 45, ρ 46, ρ 47, ρ 48, ρ 49] (γ 1) := hJ
  obtain ⟨-, -, -, -, -, -, -, -, -, -, -, -, -, -, -, -, -, -, -, -, -, -, -, -, -, -, -, -, -, -, -, -, -, -, -, -, -, -, -, -, -, r41, r42, -⟩ := hr
  have r41 : (2000 : Int) ≤ ρ 41 ∧ ρ 41 ≤ 2000 := r41
  have r42 : (0 : Int) ≤ ρ 42 ∧ ρ 42 ≤ 2000 := r42
  obtain ⟨f0, -⟩ := hf
  have f0 : (0 : Int) ≤ -ρ 42 + ρ 10 + (-1) := f0
  obtain ⟨w_0, w_1, w_2⟩ : (¬ (ρ 42 < 0)) ∧ (¬ (ρ 42 ≥ ρ 10)) ∧ (ρ 41 ≥ 2000) := ⟨by omega, by omega, by omega⟩
  obtain ⟨-, -, -, -, m4, -, -, -, -, -, m10, m11, -, -, -, -, -, -, -, -, -, -, -, -, -, -, -, -, -, -, -, -, -, -, -, -, -, -, -, -, -, -, -, -, -, m45, -⟩ := hm
  have m4 : γ 0 6 0 7 = ρ 4 := m4
  have m10 : γ 0 6 0 11 = ρ 10 := m10
  have m11 : γ 0 6 0 12 = ρ 11 := m11
  have m45 : γ 1 6 0 13 = ρ 49 := m45
  show sn252 [ρ 0, ρ 1, ρ 2, ρ 3, ρ 4, ρ 5, ρ 6, ρ 7, ρ 8, ρ 9, ρ 10, ρ 11, ρ 12, ρ 13, ρ 14, ρ 15, ρ 16, ρ 17, ρ 18, ρ 19, ρ 20, ρ 21, ρ 22, ρ 23, ρ 24, ρ 25, ρ 26, ρ 27, ρ 28, ρ 29, ρ 30, ρ 31, ρ 32, ρ 33, ρ 34, ρ 35, ρ 36, ρ 37, ρ 38, ρ 39, ρ 40] (γ 0) 0 0 (γ 1)
  have hD : en252 (γ 0) (0, [ρ 41, ρ 42, ρ 43, ρ 44], γ 1) = .inr (0, 0, γ 1) := by
    unfold en252
    refine (if_pos (show (0 : Nat) = 0 by decide)).trans ?_
    refine (zLet_eq (show _ = γ 1 from rfl)).trans ?_
    refine (zLet_eq (show _ = ρ 41 from rfl)).trans ?_
    refine (zLet_eq (show _ = ρ 42 from rfl)).trans ?_
    refine (zLet_eq (show _ = ρ 43 from rfl)).trans ?_
    refine (zLet_eq (show _ = ρ 44 from rfl)).trans ?_
    refine (zLet_eq m4).trans ?_
    refine (zLet_eq m10).trans ?_
    refine (zLet_eq m11).trans ?_
    refine (zLet_eq m45).trans ?_
    refine (if_neg w_0).trans ?_
    refine (if_neg w_1).trans ?_
    refine (if_pos w_2).trans ?_
    rfl
  exact zGoo_aend hJ hD
theorem vn252a0_3 {S : Nat → zSpc} (hS225 : ∀ x g o v gz, S 225 x g o v gz → sn225 x g o v gz) (hS226 : ∀ x g o v gz, S 226 x g o v gz → sn226 x g o v gz) (hS227 : ∀ x g o v gz, S 227 x g o v gz → sn227 x g o v gz) (hS232 : ∀ x g o v gz, S 232 x g o v gz → sn232 x g o v gz) (hS251 : ∀ x g o v gz, S 251 x g o v gz → sn251 x g o v gz) {a : List Int} {g : rHp} : ∀ (ρ : Nat → Int) (γ : Nat → rHp), jn252 a g 0 (zAg (zNA a252_ 0) ρ) (γ 1) → zO 41 S a g q252a0_3 ρ γ → zGl (fun i vs g1 => jn252 a g i vs g1) (sn252 a g) q252a0_3 ρ γ := by
  intro ρ γ hJ h
  obtain ⟨ha, hg, hr, hf, hm, hc, hl⟩ := h
  have ha : a = [ρ 0, ρ 1, ρ 2, ρ 3, ρ 4, ρ 5, ρ 6, ρ 7, ρ 8, ρ 9, ρ 10, ρ 11, ρ 12, ρ 13, ρ 14, ρ 15, ρ 16, ρ 17, ρ 18, ρ 19, ρ 20, ρ 21, ρ 22, ρ 23, ρ 24, ρ 25, ρ 26, ρ 27, ρ 28, ρ 29, ρ 30, ρ 31, ρ 32, ρ 33, ρ 34, ρ 35, ρ 36, ρ 37, ρ 38, ρ 39, ρ 40] := ha
  subst ha
  subst hg
  have hJ : jn252 [ρ 0, ρ 1, ρ 2, ρ 3, ρ 4, ρ 5, ρ 6, ρ 7, ρ 8, ρ 9, ρ 10, ρ 11, ρ 12, ρ 13, ρ 14, ρ 15, ρ 16, ρ 17, ρ 18, ρ 19, ρ 20, ρ 21, ρ 22, ρ 23, ρ 24, ρ 25, ρ 26, ρ 27, ρ 28, ρ 29, ρ 30, ρ 31, ρ 32, ρ 33, ρ 34, ρ 35, ρ 36, ρ 37, ρ 38, ρ 39, ρ 40] (γ 0) 0 [ρ 0, ρ 1, ρ 2, ρ 3, ρ 4, ρ 5, ρ 6, ρ 7, ρ 8, ρ 9, ρ 10, ρ 11, ρ 12, ρ 13, ρ 14, ρ 15, ρ 16, ρ 17, ρ 18, ρ 19, ρ 20, ρ 21, ρ 22, ρ 23, ρ 24, ρ 25, ρ 26, ρ 27, ρ 28, ρ 29, ρ 30, ρ 31, ρ 32, ρ 33, ρ 34, ρ 35, ρ 36, ρ 37, ρ 38, ρ 39, ρ 40, ρ 41, ρ 42, ρ 43, ρ 44, ρ 45, ρ 46, ρ 47, ρ 48, ρ 49] (γ 1) := hJ
  obtain ⟨-, -, -, -, -, -, -, -, -, -, -, -, -, -, -, -, -, -, -, -, -, -, -, -, -, -, -, -, -, -, -, -, -, -, -, -, -, -, -, -, -, r41, r42, -⟩ := hr
  have r41 : (0 : Int) ≤ ρ 41 ∧ ρ 41 ≤ 1999 := r41
  have r42 : (0 : Int) ≤ ρ 42 ∧ ρ 42 ≤ 2000 := r42
  obtain ⟨f0, f1, -⟩ := hf
  have f0 : (0 : Int) ≤ ρ 43 + -ρ 42 + (-1) := f0
  have f1 : (0 : Int) ≤ -ρ 42 + ρ 10 + (-1) := f1
  obtain ⟨w_0, w_1, w_2, w_3⟩ : (¬ (ρ 42 < 0)) ∧ (¬ (ρ 42 ≥ ρ 10)) ∧ (¬ (ρ 41 ≥ 2000)) ∧ (ρ 42 < ρ 43) := ⟨by omega, by omega, by omega, by omega⟩
  obtain ⟨-, -, -, -, m4, -, -, -, -, -, m10, m11, -, -, -, -, -, -, -, -, -, -, -, -, -, -, -, -, -, -, -, -, -, -, -, -, -, -, -, -, -, -, -, -, -, m45, -⟩ := hm
  have m4 : γ 0 6 0 7 = ρ 4 := m4
  have m10 : γ 0 6 0 11 = ρ 10 := m10
  have m11 : γ 0 6 0 12 = ρ 11 := m11
  have m45 : γ 1 6 0 13 = ρ 49 := m45
  obtain ⟨l0, -⟩ := hl
  have l0 : sn227 [9 * ρ 4 + 5, ρ 42, ρ 21] (γ 1) 0 (ρ 50) (γ 2) := hS227 _ _ _ _ _ l0
  show jn252 [ρ 0, ρ 1, ρ 2, ρ 3, ρ 4, ρ 5, ρ 6, ρ 7, ρ 8, ρ 9, ρ 10, ρ 11, ρ 12, ρ 13, ρ 14, ρ 15, ρ 16, ρ 17, ρ 18, ρ 19, ρ 20, ρ 21, ρ 22, ρ 23, ρ 24, ρ 25, ρ 26, ρ 27, ρ 28, ρ 29, ρ 30, ρ 31, ρ 32, ρ 33, ρ 34, ρ 35, ρ 36, ρ 37, ρ 38, ρ 39, ρ 40] (γ 0) 0 [ρ 0, ρ 1, ρ 2, ρ 3, ρ 4, ρ 5, ρ 6, ρ 7, ρ 8, ρ 9, ρ 10, ρ 11, ρ 12, ρ 13, ρ 14, ρ 15, ρ 16, ρ 17, ρ 18, ρ 19, ρ 20, ρ 21, ρ 22, ρ 23, ρ 24, ρ 25, ρ 26, ρ 27, ρ 28, ρ 29, ρ 30, ρ 31, ρ 32, ρ 33, ρ 34, ρ 35, ρ 36, ρ 37, ρ 38, ρ 39, ρ 40, ρ 41 + 1, ρ 50, ρ 43, ρ 44, ρ 45, ρ 46, ρ 47, ρ 48, ρ 49] (γ 2)
  have hD : en252 (γ 0) (0, [ρ 41, ρ 42, ρ 43, ρ 44], γ 1) = .inl (0, [ρ 41 + 1, ρ 50, ρ 43, ρ 44], γ 2) := by
    unfold en252
    refine (if_pos (show (0 : Nat) = 0 by decide)).trans ?_
    refine (zLet_eq (show _ = γ 1 from rfl)).trans ?_
    refine (zLet_eq (show _ = ρ 41 from rfl)).trans ?_
    refine (zLet_eq (show _ = ρ 42 from rfl)).trans ?_
    refine (zLet_eq (show _ = ρ 43 from rfl)).trans ?_
    refine (zLet_eq (show _ = ρ 44 from rfl)).trans ?_
    refine (zLet_eq m4).trans ?_
    refine (zLet_eq m10).trans ?_
    refine (zLet_eq m11).trans ?_
    refine (zLet_eq m45).trans ?_
    refine (if_neg w_0).trans ?_
    refine (if_neg w_1).trans ?_
    refine (if_neg w_2).trans ?_
    refine (if_pos w_3).trans ?_
    refine (zLet_eq (show fn227 [9 * ρ 4 + 5, ρ 42] (γ 1) = (0, ρ 50, γ 2) from l0.symm)).trans ?_
    refine (zLet_eq (show _ = γ 2 from rfl)).trans ?_
    refine (zLet_eq (show _ = ρ 50 from rfl)).trans ?_
    rfl
  exact zGoo_ato hJ hD
theorem vn252a0_4 {S : Nat → zSpc} (hS225 : ∀ x g o v gz, S 225 x g o v gz → sn225 x g o v gz) (hS226 : ∀ x g o v gz, S 226 x g o v gz → sn226 x g o v gz) (hS227 : ∀ x g o v gz, S 227 x g o v gz → sn227 x g o v gz) (hS232 : ∀ x g o v gz, S 232 x g o v gz → sn232 x g o v gz) (hS251 : ∀ x g o v gz, S 251 x g o v gz → sn251 x g o v gz) {a : List Int} {g : rHp} : ∀ (ρ : Nat → Int) (γ : Nat → rHp), jn252 a g 0 (zAg (zNA a252_ 0) ρ) (γ 1) → zO 41 S a g q252a0_4 ρ γ → zGl (fun i vs g1 => jn252 a g i vs g1) (sn252 a g) q252a0_4 ρ γ := by
  intro ρ γ hJ h
  obtain ⟨ha, hg, hr, hf, hm, hc, hl⟩ := h
  have ha : a = [ρ 0, ρ 1, ρ 2, ρ 3, ρ 4, ρ 5, ρ 6, ρ 7, ρ 8, ρ 9, ρ 10, ρ 11, ρ 12, ρ 13, ρ 14, ρ 15, ρ 16, ρ 17, ρ 18, ρ 19, ρ 20, ρ 21, ρ 22, ρ 23, ρ 24, ρ 25, ρ 26, ρ 27, ρ 28, ρ 29, ρ 30, ρ 31, ρ 32, ρ 33, ρ 34, ρ 35, ρ 36, ρ 37, ρ 38, ρ 39, ρ 40] := ha
  subst ha
  subst hg
  have hJ : jn252 [ρ 0, ρ 1, ρ 2, ρ 3, ρ 4, ρ 5, ρ 6, ρ 7, ρ 8, ρ 9, ρ 10, ρ 11, ρ 12, ρ 13, ρ 14, ρ 15, ρ 16, ρ 17, ρ 18, ρ 19, ρ 20, ρ 21, ρ 22, ρ 23, ρ 24, ρ 25, ρ 26, ρ 27, ρ 28, ρ 29, ρ 30, ρ 31, ρ 32, ρ 33, ρ 34, ρ 35, ρ 36, ρ 37, ρ 38, ρ 39, ρ 40] (γ 0) 0 [ρ 0, ρ 1, ρ 2, ρ 3, ρ 4, ρ 5, ρ 6, ρ 7, ρ 8, ρ 9, ρ 10, ρ 11, ρ 12, ρ 13, ρ 14, ρ 15, ρ 16, ρ 17, ρ 18, ρ 19, ρ 20, ρ 21, ρ 22, ρ 23, ρ 24, ρ 25, ρ 26, ρ 27, ρ 28, ρ 29, ρ 30, ρ 31, ρ 32, ρ 33, ρ 34, ρ 35, ρ 36, ρ 37, ρ 38, ρ 39, ρ 40, ρ 41, ρ 42, ρ 43, ρ 44, ρ 45, ρ 46, ρ 47, ρ 48, ρ 49] (γ 1) := hJ
  obtain ⟨-, -, -, -, -, -, -, -, -, -, -, -, -, -, -, -, -, -, -, -, -, -, -, -, -, -, -, -, -, -, -, -, -, -, -, -, -, -, -, -, -, r41, r42, -⟩ := hr
  have r41 : (0 : Int) ≤ ρ 41 ∧ ρ 41 ≤ 1999 := r41
  have r42 : (0 : Int) ≤ ρ 42 ∧ ρ 42 ≤ 2000 := r42
  obtain ⟨f0, f1, -⟩ := hf
  have f0 : (0 : Int) ≤ -ρ 43 + ρ 42 := f0
  have f1 : (0 : Int) ≤ -ρ 42 + ρ 10 + (-1) := f1
  obtain ⟨w_0, w_1, w_2, w_3⟩ : (¬ (ρ 42 < 0)) ∧ (¬ (ρ 42 ≥ ρ 10)) ∧ (¬ (ρ 41 ≥ 2000)) ∧ (¬ (ρ 42 < ρ 43)) := ⟨by omega, by omega, by omega, by omega⟩
  obtain ⟨-, -, -, -, m4, -, -, -, -, -, m10, m11, -, -, -, -, -, -, -, -, -, -, -, -, -, -, -, -, -, -, -, -, -, -, -, -, -, -, -, -, -, -, -, -, -, m45, -⟩ := hm
  have m4 : γ 0 6 0 7 = ρ 4 := m4
  have m10 : γ 0 6 0 11 = ρ 10 := m10
  have m11 : γ 0 6 0 12 = ρ 11 := m11
  have m45 : γ 1 6 0 13 = ρ 49 := m45
  obtain ⟨l0, l1, -⟩ := hl
  have l0 : sn225 [9 * ρ 4 + 5, ρ 42, ρ 19, ρ 20] (γ 1) 0 0 (γ 2) := hS225 _ _ _ _ _ l0
  have l1 : sn227 [9 * ρ 4 + 5, ρ 42, ρ 21] (γ 2) 0 (ρ 50) (γ 3) := hS227 _ _ _ _ _ l1
  show jn252 [ρ 0, ρ 1, ρ 2, ρ 3, ρ 4, ρ 5, ρ 6, ρ 7, ρ 8, ρ 9, ρ 10, ρ 11, ρ 12, ρ 13, ρ 14, ρ 15, ρ 16, ρ 17, ρ 18, ρ 19, ρ 20, ρ 21, ρ 22, ρ 23, ρ 24, ρ 25, ρ 26, ρ 27, ρ 28, ρ 29, ρ 30, ρ 31, ρ 32, ρ 33, ρ 34, ρ 35, ρ 36, ρ 37, ρ 38, ρ 39, ρ 40] (γ 0) 0 [ρ 0, ρ 1, ρ 2, ρ 3, ρ 4, ρ 5, ρ 6, ρ 7, ρ 8, ρ 9, ρ 10, ρ 11, ρ 12, ρ 13, ρ 14, ρ 15, ρ 16, ρ 17, ρ 18, ρ 19, ρ 20, ρ 21, ρ 22, ρ 23, ρ 24, ρ 25, ρ 26, ρ 27, ρ 28, ρ 29, ρ 30, ρ 31, ρ 32, ρ 33, ρ 34, ρ 35, ρ 36, ρ 37, ρ 38, ρ 39, ρ 40, ρ 41 + 1, ρ 50, ρ 43, ρ 44, ρ 45, ρ 46, ρ 47, ρ 48, ρ 49] (γ 3)
  have hD : en252 (γ 0) (0, [ρ 41, ρ 42, ρ 43, ρ 44], γ 1) = .inl (0, [ρ 41 + 1, ρ 50, ρ 43, ρ 44], γ 3) := by
    unfold en252
    refine (if_pos (show (0 : Nat) = 0 by decide)).trans ?_
    refine (zLet_eq (show _ = γ 1 from rfl)).trans ?_
    refine (zLet_eq (show _ = ρ 41 from rfl)).trans ?_
    refine (zLet_eq (show _ = ρ 42 from rfl)).trans ?_
    refine (zLet_eq (show _ = ρ 43 from rfl)).trans ?_
    refine (zLet_eq (show _ = ρ 44 from rfl)).trans ?_
    refine (zLet_eq m4).trans ?_
    refine (zLet_eq m10).trans ?_
    refine (zLet_eq m11).trans ?_
    refine (zLet_eq m45).trans ?_
    refine (if_neg w_0).trans ?_
    refine (if_neg w_1).trans ?_
    refine (if_neg w_2).trans ?_
    refine (if_neg w_3).trans ?_
    refine (zLet_eq (show fn225 [9 * ρ 4 + 5, ρ 42] (γ 1) = (0, 0, γ 2) from l0.symm)).trans ?_
    refine (zLet_eq (show _ = γ 2 from rfl)).trans ?_
    refine (if_neg zQ0_).trans ?_
    refine (zLet_eq (show fn227 [9 * ρ 4 + 5, ρ 42] (γ 2) = (0, ρ 50, γ 3) from l1.symm)).trans ?_
    refine (zLet_eq (show _ = γ 3 from rfl)).trans ?_
    refine (zLet_eq (show _ = ρ 50 from rfl)).trans ?_
    rfl
  exact zGoo_ato hJ hD
theorem vn252a0_5 {S : Nat → zSpc} (hS225 : ∀ x g o v gz, S 225 x g o v gz → sn225 x g o v gz) (hS226 : ∀ x g o v gz, S 226 x g o v gz → sn226 x g o v gz) (hS227 : ∀ x g o v gz, S 227 x g o v gz → sn227 x g o v gz) (hS232 : ∀ x g o v gz, S 232 x g o v gz → sn232 x g o v gz) (hS251 : ∀ x g o v gz, S 251 x g o v gz → sn251 x g o v gz) {a : List Int} {g : rHp} : ∀ (ρ : Nat → Int) (γ : Nat → rHp), jn252 a g 0 (zAg (zNA a252_ 0) ρ) (γ 1) → zO 41 S a g q252a0_5 ρ γ → zGl (fun i vs g1 => jn252 a g i vs g1) (sn252 a g) q252a0_5 ρ γ := by
  intro ρ γ hJ h
  obtain ⟨ha, hg, hr, hf, hm, hc, hl⟩ := h
  have ha : a = [ρ 0, ρ 1, ρ 2, ρ 3, ρ 4, ρ 5, ρ 6, ρ 7, ρ 8, ρ 9, ρ 10, ρ 11, ρ 12, ρ 13, ρ 14, ρ 15, ρ 16, ρ 17, ρ 18, ρ 19, ρ 20, ρ 21, ρ 22, ρ 23, ρ 24, ρ 25, ρ 26, ρ 27, ρ 28, ρ 29, ρ 30, ρ 31, ρ 32, ρ 33, ρ 34, ρ 35, ρ 36, ρ 37, ρ 38, ρ 39, ρ 40] := ha
  subst ha
  subst hg
  have hJ : jn252 [ρ 0, ρ 1, ρ 2, ρ 3, ρ 4, ρ 5, ρ 6, ρ 7, ρ 8, ρ 9, ρ 10, ρ 11, ρ 12, ρ 13, ρ 14, ρ 15, ρ 16, ρ 17, ρ 18, ρ 19, ρ 20, ρ 21, ρ 22, ρ 23, ρ 24, ρ 25, ρ 26, ρ 27, ρ 28, ρ 29, ρ 30, ρ 31, ρ 32, ρ 33, ρ 34, ρ 35, ρ 36, ρ 37, ρ 38, ρ 39, ρ 40] (γ 0) 0 [ρ 0, ρ 1, ρ 2, ρ 3, ρ 4, ρ 5, ρ 6, ρ 7, ρ 8, ρ 9, ρ 10, ρ 11, ρ 12, ρ 13, ρ 14, ρ 15, ρ 16, ρ 17, ρ 18, ρ 19, ρ 20, ρ 21, ρ 22, ρ 23, ρ 24, ρ 25, ρ 26, ρ 27, ρ 28, ρ 29, ρ 30, ρ 31, ρ 32, ρ 33, ρ 34, ρ 35, ρ 36, ρ 37, ρ 38, ρ 39, ρ 40, ρ 41, ρ 42, ρ 43, ρ 44, ρ 45, ρ 46, ρ 47, ρ 48, ρ 49] (γ 1) := hJ
  obtain ⟨-, -, -, -, -, -, -, -, -, -, -, -, -, -, -, -, -, -, -, -, -, -, -, -, -, -, -, -, -, -, -, -, -, -, -, -, -, -, -, -, -, r41, r42, -⟩ := hr
  have r41 : (0 : Int) ≤ ρ 41 ∧ ρ 41 ≤ 1999 := r41
  have r42 : (0 : Int) ≤ ρ 42 ∧ ρ 42 ≤ 2000 := r42
  obtain ⟨-, -, -, -, -, -, f6, f7, f8, -⟩ := hf
  have f6 : (0 : Int) ≤ -ρ 42 + ρ 11 + (-1) := f6
  have f7 : (0 : Int) ≤ -ρ 43 + ρ 42 := f7
  have f8 : (0 : Int) ≤ -ρ 42 + ρ 10 + (-1) := f8
  obtain ⟨w_0, w_1, w_2, w_3, w_4⟩ : (¬ (ρ 42 < 0)) ∧ (¬ (ρ 42 ≥ ρ 10)) ∧ (¬ (ρ 41 ≥ 2000)) ∧ (¬ (ρ 42 < ρ 43)) ∧ (ρ 42 < ρ 11) := ⟨by omega, by omega, by omega, by omega, by omega⟩
  obtain ⟨-, -, -, -, m4, -, -, -, -, -, m10, m11, -, -, -, -, -, -, -, -, -, -, -, -, -, -, -, -, -, -, -, -, -, -, -, -, -, -, -, -, -, -, -, -, -, m45, -, -, -, -, -, m51, -⟩ := hm
  have m4 : γ 0 6 0 7 = ρ 4 := m4
  have m10 : γ 0 6 0 11 = ρ 10 := m10
  have m11 : γ 0 6 0 12 = ρ 11 := m11
  have m45 : γ 1 6 0 13 = ρ 49 := m45
  have m51 : γ 5 6 0 13 = ρ 54 := m51
  obtain ⟨⟨⟨⟨-, c4⟩, -⟩, c6⟩, -⟩ := hc
  have c4 : γ 4 = rUp (γ 3) 6 0 13 (ρ 49) := c4
  have c6 : γ 6 = rUp (γ 5) 6 0 13 (ρ 54) := c6
  obtain ⟨l0, l1, l2, l3, -⟩ := hl
  have l0 : sn225 [9 * ρ 4 + 5, ρ 42, ρ 19, ρ 20] (γ 1) 0 1 (γ 2) := hS225 _ _ _ _ _ l0
  have l1 : sn232 [9 * ρ 4 + 5, ρ 42, ρ 45, ρ 22] (γ 2) 0 0 (γ 3) := hS232 _ _ _ _ _ l1
  have l2 : sn251 [ρ 45 + 1, ρ 1, ρ 2, ρ 46, ρ 4, ρ 5, ρ 47, ρ 48, ρ 8, ρ 9, ρ 10, ρ 11, ρ 49, ρ 13, ρ 14, ρ 15, ρ 16, ρ 17, ρ 18, ρ 23, ρ 24, ρ 25, ρ 26, ρ 27, ρ 28, ρ 29, ρ 30, ρ 31, ρ 32, ρ 33, ρ 34, ρ 35, ρ 36, ρ 37, ρ 38, ρ 39, ρ 40] (γ 4) 0 0 (γ 5) := hS251 _ _ _ _ _ l2
  have l3 : sn227 [9 * ρ 4 + 5, ρ 42, ρ 21] (γ 6) 0 (ρ 55) (γ 7) := hS227 _ _ _ _ _ l3
  show jn252 [ρ 0, ρ 1, ρ 2, ρ 3, ρ 4, ρ 5, ρ 6, ρ 7, ρ 8, ρ 9, ρ 10, ρ 11, ρ 12, ρ 13, ρ 14, ρ 15, ρ 16, ρ 17, ρ 18, ρ 19, ρ 20, ρ 21, ρ 22, ρ 23, ρ 24, ρ 25, ρ 26, ρ 27, ρ 28, ρ 29, ρ 30, ρ 31, ρ 32, ρ 33, ρ 34, ρ 35, ρ 36, ρ 37, ρ 38, ρ 39, ρ 40] (γ 0) 0 [ρ 0, ρ 1, ρ 2, ρ 3, ρ 4, ρ 5, ρ 6, ρ 7, ρ 8, ρ 9, ρ 10, ρ 11, ρ 12, ρ 13, ρ 14, ρ 15, ρ 16, ρ 17, ρ 18, ρ 19, ρ 20, ρ 21, ρ 22, ρ 23, ρ 24, ρ 25, ρ 26, ρ 27, ρ 28, ρ 29, ρ 30, ρ 31, ρ 32, ρ 33, ρ 34, ρ 35, ρ 36, ρ 37, ρ 38, ρ 39, ρ 40, ρ 41 + 1, ρ 55, ρ 43, ρ 44, ρ 50, ρ 51, ρ 52, ρ 53, ρ 54] (γ 7)
  have hD : en252 (γ 0) (0, [ρ 41, ρ 42, ρ 43, ρ 44], γ 1) = .inl (0, [ρ 41 + 1, ρ 55, ρ 43, ρ 44], γ 7) := by
    unfold en252
    refine (if_pos (show (0 : Nat) = 0 by decide)).trans ?_
    refine (zLet_eq (show _ = γ 1 from rfl)).trans ?_
    refine (zLet_eq (show _ = ρ 41 from rfl)).trans ?_
    refine (zLet_eq (show _ = ρ 42 from rfl)).trans ?_
    refine (zLet_eq (show _ = ρ 43 from rfl)).trans ?_
    refine (zLet_eq (show _ = ρ 44 from rfl)).trans ?_
    refine (zLet_eq m4).trans ?_
    refine (zLet_eq m10).trans ?_
    refine (zLet_eq m11).trans ?_
    refine (zLet_eq m45).trans ?_
    refine (if_neg w_0).trans ?_
    refine (if_neg w_1).trans ?_
    refine (if_neg w_2).trans ?_
    refine (if_neg w_3).trans ?_
    refine (zLet_eq (show fn225 [9 * ρ 4 + 5, ρ 42] (γ 1) = (0, 1, γ 2) from l0.symm)).trans ?_
    refine (zLet_eq (show _ = γ 2 from rfl)).trans ?_
    refine (if_pos zQ1_).trans ?_
    refine (zLet_eq (show fn232 [9 * ρ 4 + 5, ρ 42] (γ 2) = (0, 0, γ 3) from l1.symm)).trans ?_
    refine (zLet_eq (show _ = γ 3 from rfl)).trans ?_
    refine (if_pos (show (0 : Nat) = 0 by decide)).trans ?_
    refine (if_pos w_4).trans ?_
    refine (zLet_eq c4.symm).trans ?_
    refine (zLet_eq (show fn251 [] (γ 4) = (0, 0, γ 5) from l2.symm)).trans ?_
    refine (zLet_eq (show _ = γ 5 from rfl)).trans ?_
    refine (if_pos (show (0 : Nat) = 0 by decide)).trans ?_
    refine (zLet_eq m51).trans ?_
    refine (zLet_eq c6.symm).trans ?_
    refine (zLet_eq (show fn227 [9 * ρ 4 + 5, ρ 42] (γ 6) = (0, ρ 55, γ 7) from l3.symm)).trans ?_
    refine (zLet_eq (show _ = γ 7 from rfl)).trans ?_
    refine (zLet_eq (show _ = ρ 55 from rfl)).trans ?_
    rfl
  exact zGoo_ato hJ hD
theorem vn252a0_6 {S : Nat → zSpc} (hS225 : ∀ x g o v gz, S 225 x g o v gz → sn225 x g o v gz) (hS226 : ∀ x g o v gz, S 226 x g o v gz → sn226 x g o v gz) (hS227 : ∀ x g o v gz, S 227 x g o v gz → sn227 x g o v gz) (hS232 : ∀ x g o v gz, S 232 x g o v gz → sn232 x g o v gz) (hS251 : ∀ x g o v gz, S 251 x g o v gz → sn251 x g o v gz) {a : List Int} {g : rHp} : ∀ (ρ : Nat → Int) (γ : Nat → rHp), jn252 a g 0 (zAg (zNA a252_ 0) ρ) (γ 1) → zO 41 S a g q252a0_6 ρ γ → zGl (fun i vs g1 => jn252 a g i vs g1) (sn252 a g) q252a0_6 ρ γ := by
  intro ρ γ hJ h
  obtain ⟨ha, hg, hr, hf, hm, hc, hl⟩ := h
  have ha : a = [ρ 0, ρ 1, ρ 2, ρ 3, ρ 4, ρ 5, ρ 6, ρ 7, ρ 8, ρ 9, ρ 10, ρ 11, ρ 12, ρ 13, ρ 14, ρ 15, ρ 16, ρ 17, ρ 18, ρ 19, ρ 20, ρ 21, ρ 22, ρ 23, ρ 24, ρ 25, ρ 26, ρ 27, ρ 28, ρ 29, ρ 30, ρ 31, ρ 32, ρ 33, ρ 34, ρ 35, ρ 36, ρ 37, ρ 38, ρ 39, ρ 40] := ha
  subst ha
  subst hg
  have hJ : jn252 [ρ 0, ρ 1, ρ 2, ρ 3, ρ 4, ρ 5, ρ 6, ρ 7, ρ 8, ρ 9, ρ 10, ρ 11, ρ 12, ρ 13, ρ 14, ρ 15, ρ 16, ρ 17, ρ 18, ρ 19, ρ 20, ρ 21, ρ 22, ρ 23, ρ 24, ρ 25, ρ 26, ρ 27, ρ 28, ρ 29, ρ 30, ρ 31, ρ 32, ρ 33, ρ 34, ρ 35, ρ 36, ρ 37, ρ 38, ρ 39, ρ 40] (γ 0) 0 [ρ 0, ρ 1, ρ 2, ρ 3, ρ 4, ρ 5, ρ 6, ρ 7, ρ 8, ρ 9, ρ 10, ρ 11, ρ 12, ρ 13, ρ 14, ρ 15, ρ 16, ρ 17, ρ 18, ρ 19, ρ 20, ρ 21, ρ 22, ρ 23, ρ 24, ρ 25, ρ 26, ρ 27, ρ 28, ρ 29, ρ 30, ρ 31, ρ 32, ρ 33, ρ 34, ρ 35, ρ 36, ρ 37, ρ 38, ρ 39, ρ 40, ρ 41, ρ 42, ρ 43, ρ 44, ρ 45, ρ 46, ρ 47, ρ 48, ρ 49] (γ 1) := hJ
  obtain ⟨-, -, -, -, -, -, -, -, -, -, -, -, -, -, -, -, -, -, -, -, -, -, -, -, -, -, -, -, -, -, -, -, -, -, -, -, -, -, -, -, -, r41, r42, -⟩ := hr
  have r41 : (0 : Int) ≤ ρ 41 ∧ ρ 41 ≤ 1999 := r41
  have r42 : (0 : Int) ≤ ρ 42 ∧ ρ 42 ≤ 2000 := r42
  obtain ⟨-, -, -, -, -, f5, f6, f7, -⟩ := hf
  have f5 : (0 : Int) ≤ -ρ 42 + ρ 11 + (-1) := f5
  have f6 : (0 : Int) ≤ -ρ 43 + ρ 42 := f6
  have f7 : (0 : Int) ≤ -ρ 42 + ρ 10 + (-1) := f7
  obtain ⟨w_0, w_1, w_2, w_3, w_4⟩ : (¬ (ρ 42 < 0)) ∧ (¬ (ρ 42 ≥ ρ 10)) ∧ (¬ (ρ 41 ≥ 2000)) ∧ (¬ (ρ 42 < ρ 43)) ∧ (ρ 42 < ρ 11) := ⟨by omega, by omega, by omega, by omega, by omega⟩
  obtain ⟨-, -, -, -, m4, -, -, -, -, -, m10, m11, -, -, -, -, -, -, -, -, -, -, -, -, -, -, -, -, -, -, -, -, -, -, -, -, -, -, -, -, -, -, -, -, -, m45, -⟩ := hm
  have m4 : γ 0 6 0 7 = ρ 4 := m4
  have m10 : γ 0 6 0 11 = ρ 10 := m10
  have m11 : γ 0 6 0 12 = ρ 11 := m11
  have m45 : γ 1 6 0 13 = ρ 49 := m45
  obtain ⟨⟨-, c4⟩, -⟩ := hc
  have c4 : γ 4 = rUp (γ 3) 6 0 13 (ρ 49) := c4
  obtain ⟨l0, l1, l2, -⟩ := hl
  have l0 : sn225 [9 * ρ 4 + 5, ρ 42, ρ 19, ρ 20] (γ 1) 0 1 (γ 2) := hS225 _ _ _ _ _ l0
  have l1 : sn232 [9 * ρ 4 + 5, ρ 42, ρ 45, ρ 22] (γ 2) 0 0 (γ 3) := hS232 _ _ _ _ _ l1
  have l2 : sn251 [ρ 45 + 1, ρ 1, ρ 2, ρ 46, ρ 4, ρ 5, ρ 47, ρ 48, ρ 8, ρ 9, ρ 10, ρ 11, ρ 49, ρ 13, ρ 14, ρ 15, ρ 16, ρ 17, ρ 18, ρ 23, ρ 24, ρ 25, ρ 26, ρ 27, ρ 28, ρ 29, ρ 30, ρ 31, ρ 32, ρ 33, ρ 34, ρ 35, ρ 36, ρ 37, ρ 38, ρ 39, ρ 40] (γ 4) 1 0 (γ 5) := hS251 _ _ _ _ _ l2
  show sn252 [ρ 0, ρ 1, ρ 2, ρ 3, ρ 4, ρ 5, ρ 6, ρ 7, ρ 8, ρ 9, ρ 10, ρ 11, ρ 12, ρ 13, ρ 14, ρ 15, ρ 16, ρ 17, ρ 18, ρ 19, ρ 20, ρ 21, ρ 22, ρ 23, ρ 24, ρ 25, ρ 26, ρ 27, ρ 28, ρ 29, ρ 30, ρ 31, ρ 32, ρ 33, ρ 34, ρ 35, ρ 36, ρ 37, ρ 38, ρ 39, ρ 40] (γ 0) 1 0 (γ 5)
  have hD : en252 (γ 0) (0, [ρ 41, ρ 42, ρ 43, ρ 44], γ 1) = .inr (1, 0, γ 5) := by
    unfold en252
    refine (if_pos (show (0 : Nat) = 0 by decide)).trans ?_
    refine (zLet_eq (show _ = γ 1 from rfl)).trans ?_
    refine (zLet_eq (show _ = ρ 41 from rfl)).trans ?_
    refine (zLet_eq (show _ = ρ 42 from rfl)).trans ?_
    refine (zLet_eq (show _ = ρ 43 from rfl)).trans ?_
    refine (zLet_eq (show _ = ρ 44 from rfl)).trans ?_
    refine (zLet_eq m4).trans ?_
    refine (zLet_eq m10).trans ?_
    refine (zLet_eq m11).trans ?_
    refine (zLet_eq m45).trans ?_
    refine (if_neg w_0).trans ?_
    refine (if_neg w_1).trans ?_
    refine (if_neg w_2).trans ?_
    refine (if_neg w_3).trans ?_
    refine (zLet_eq (show fn225 [9 * ρ 4 + 5, ρ 42] (γ 1) = (0, 1, γ 2) from l0.symm)).trans ?_
    refine (zLet_eq (show _ = γ 2 from rfl)).trans ?_
    refine (if_pos zQ1_).trans ?_
    refine (zLet_eq (show fn232 [9 * ρ 4 + 5, ρ 42] (γ 2) = (0, 0, γ 3) from l1.symm)).trans ?_
    refine (zLet_eq (show _ = γ 3 from rfl)).trans ?_
    refine (if_pos (show (0 : Nat) = 0 by decide)).trans ?_
    refine (if_pos w_4).trans ?_
    refine (zLet_eq c4.symm).trans ?_
    refine (zLet_eq (show fn251 [] (γ 4) = (1, 0, γ 5) from l2.symm)).trans ?_
    refine (zLet_eq (show _ = γ 5 from rfl)).trans ?_
    refine (if_neg (show ¬ (1 : Nat) = 0 by decide)).trans ?_
    refine (if_pos (show (1 : Nat) = 1 by decide)).trans ?_
    rfl
  exact zGoo_aend hJ hD
theorem vn252a0_7 {S : Nat → zSpc} (hS225 : ∀ x g o v gz, S 225 x g o v gz → sn225 x g o v gz) (hS226 : ∀ x g o v gz, S 226 x g o v gz → sn226 x g o v gz) (hS227 : ∀ x g o v gz, S 227 x g o v gz → sn227 x g o v gz) (hS232 : ∀ x g o v gz, S 232 x g o v gz → sn232 x g o v gz) (hS251 : ∀ x g o v gz, S 251 x g o v gz → sn251 x g o v gz) {a : List Int} {g : rHp} : ∀ (ρ : Nat → Int) (γ : Nat → rHp), jn252 a g 0 (zAg (zNA a252_ 0) ρ) (γ 1) → zO 41 S a g q252a0_7 ρ γ → zGl (fun i vs g1 => jn252 a g i vs g1) (sn252 a g) q252a0_7 ρ γ := by
  intro ρ γ hJ h
  obtain ⟨ha, hg, hr, hf, hm, hc, hl⟩ := h
  have ha : a = [ρ 0, ρ 1, ρ 2, ρ 3, ρ 4, ρ 5, ρ 6, ρ 7, ρ 8, ρ 9, ρ 10, ρ 11, ρ 12, ρ 13, ρ 14, ρ 15, ρ 16, ρ 17, ρ 18, ρ 19, ρ 20, ρ 21, ρ 22, ρ 23, ρ 24, ρ 25, ρ 26, ρ 27, ρ 28, ρ 29, ρ 30, ρ 31, ρ 32, ρ 33, ρ 34, ρ 35, ρ 36, ρ 37, ρ 38, ρ 39, ρ 40] := ha
  subst ha
  subst hg
  have hJ : jn252 [ρ 0, ρ 1, ρ 2, ρ 3, ρ 4, ρ 5, ρ 6, ρ 7, ρ 8, ρ 9, ρ 10, ρ 11, ρ 12, ρ 13, ρ 14, ρ 15, ρ 16, ρ 17, ρ 18, ρ 19, ρ 20, ρ 21, ρ 22, ρ 23, ρ 24, ρ 25, ρ 26, ρ 27, ρ 28, ρ 29, ρ 30, ρ 31, ρ 32, ρ 33, ρ 34, ρ 35, ρ 36, ρ 37, ρ 38, ρ 39, ρ 40] (γ 0) 0 [ρ 0, ρ 1, ρ 2, ρ 3, ρ 4, ρ 5, ρ 6, ρ 7, ρ 8, ρ 9, ρ 10, ρ 11, ρ 12, ρ 13, ρ 14, ρ 15, ρ 16, ρ 17, ρ 18, ρ 19, ρ 20, ρ 21, ρ 22, ρ 23, ρ 24, ρ 25, ρ 26, ρ 27, ρ 28, ρ 29, ρ 30, ρ 31, ρ 32, ρ 33, ρ 34, ρ 35, ρ 36, ρ 37, ρ 38, ρ 39, ρ 40, ρ 41, ρ 42, ρ 43, ρ 44, ρ 45, ρ 46, ρ 47, ρ 48, ρ 49] (γ 1) := hJ
  obtain ⟨-, -, -, -, -, -, -, -, -, -, -, -, -, -, -, -, -, -, -, -, -, -, -, -, -, -, -, -, -, -, -, -, -, -, -, -, -, -, -, -, -, r41, r42, -⟩ := hr
  have r41 : (0 : Int) ≤ ρ 41 ∧ ρ 41 ≤ 1999 := r41
  have r42 : (0 : Int) ≤ ρ 42 ∧ ρ 42 ≤ 2000 := r42
  obtain ⟨-, -, -, -, -, f5, f6, f7, -⟩ := hf
  have f5 : (0 : Int) ≤ -ρ 42 + ρ 11 + (-1) := f5
  have f6 : (0 : Int) ≤ -ρ 43 + ρ 42 := f6
  have f7 : (0 : Int) ≤ -ρ 42 + ρ 10 + (-1) := f7
  obtain ⟨w_0, w_1, w_2, w_3, w_4⟩ : (¬ (ρ 42 < 0)) ∧ (¬ (ρ 42 ≥ ρ 10)) ∧ (¬ (ρ 41 ≥ 2000)) ∧ (¬ (ρ 42 < ρ 43)) ∧ (ρ 42 < ρ 11) := ⟨by omega, by omega, by omega, by omega, by omega⟩
  obtain ⟨-, -, -, -, m4, -, -, -, -, -, m10, m11, -, -, -, -, -, -, -, -, -, -, -, -, -, -, -, -, -, -, -, -, -, -, -, -, -, -, -, -, -, -, -, -, -, m45, -⟩ := hm
  have m4 : γ 0 6 0 7 = ρ 4 := m4
  have m10 : γ 0 6 0 11 = ρ 10 := m10
  have m11 : γ 0 6 0 12 = ρ 11 := m11
  have m45 : γ 1 6 0 13 = ρ 49 := m45
  obtain ⟨⟨-, c4⟩, -⟩ := hc
  have c4 : γ 4 = rUp (γ 3) 6 0 13 (ρ 49) := c4
  obtain ⟨l0, l1, l2, -⟩ := hl
  have l0 : sn225 [9 * ρ 4 + 5, ρ 42, ρ 19, ρ 20] (γ 1) 0 1 (γ 2) := hS225 _ _ _ _ _ l0
  have l1 : sn232 [9 * ρ 4 + 5, ρ 42, ρ 45, ρ 22] (γ 2) 0 0 (γ 3) := hS232 _ _ _ _ _ l1
  have l2 : sn251 [ρ 45 + 1, ρ 1, ρ 2, ρ 46, ρ 4, ρ 5, ρ 47, ρ 48, ρ 8, ρ 9, ρ 10, ρ 11, ρ 49, ρ 13, ρ 14, ρ 15, ρ 16, ρ 17, ρ 18, ρ 23, ρ 24, ρ 25, ρ 26, ρ 27, ρ 28, ρ 29, ρ 30, ρ 31, ρ 32, ρ 33, ρ 34, ρ 35, ρ 36, ρ 37, ρ 38, ρ 39, ρ 40] (γ 4) 4 0 (γ 5) := hS251 _ _ _ _ _ l2
  show sn252 [ρ 0, ρ 1, ρ 2, ρ 3, ρ 4, ρ 5, ρ 6, ρ 7, ρ 8, ρ 9, ρ 10, ρ 11, ρ 12, ρ 13, ρ 14, ρ 15, ρ 16, ρ 17, ρ 18, ρ 19, ρ 20, ρ 21, ρ 22, ρ 23, ρ 24, ρ 25, ρ 26, ρ 27, ρ 28, ρ 29, ρ 30, ρ 31, ρ 32, ρ 33, ρ 34, ρ 35, ρ 36, ρ 37, ρ 38, ρ 39, ρ 40] (γ 0) 4 0 (γ 5)
  have hD : en252 (γ 0) (0, [ρ 41, ρ 42, ρ 43, ρ 44], γ 1) = .inr (4, 0, γ 5) := by
    unfold en252
    refine (if_pos (show (0 : Nat) = 0 by decide)).trans ?_
    refine (zLet_eq (show _ = γ 1 from rfl)).trans ?_
    refine (zLet_eq (show _ = ρ 41 from rfl)).trans ?_
    refine (zLet_eq (show _ = ρ 42 from rfl)).trans ?_
    refine (zLet_eq (show _ = ρ 43 from rfl)).trans ?_
    refine (zLet_eq (show _ = ρ 44 from rfl)).trans ?_
    refine (zLet_eq m4).trans ?_
    refine (zLet_eq m10).trans ?_
    refine (zLet_eq m11).trans ?_
    refine (zLet_eq m45).trans ?_
    refine (if_neg w_0).trans ?_
    refine (if_neg w_1).trans ?_
    refine (if_neg w_2).trans ?_
    refine (if_neg w_3).trans ?_
    refine (zLet_eq (show fn225 [9 * ρ 4 + 5, ρ 42] (γ 1) = (0, 1, γ 2) from l0.symm)).trans ?_
    refine (zLet_eq (show _ = γ 2 from rfl)).trans ?_
    refine (if_pos zQ1_).trans ?_
    refine (zLet_eq (show fn232 [9 * ρ 4 + 5, ρ 42] (γ 2) = (0, 0, γ 3) from l1.symm)).trans ?_
    refine (zLet_eq (show _ = γ 3 from rfl)).trans ?_
    refine (if_pos (show (0 : Nat) = 0 by decide)).trans ?_
    refine (if_pos w_4).trans ?_
    refine (zLet_eq c4.symm).trans ?_
    refine (zLet_eq (show fn251 [] (γ 4) = (4, 0, γ 5) from l2.symm)).trans ?_
    refine (zLet_eq (show _ = γ 5 from rfl)).trans ?_
    refine (if_neg (show ¬ (4 : Nat) = 0 by decide)).trans ?_
    refine (if_neg (show ¬ (4 : Nat) = 1 by decide)).trans ?_
    rfl
  exact zGoo_aend hJ hD
theorem vn252a0_8 {S : Nat → zSpc} (hS225 : ∀ x g o v gz, S 225 x g o v gz → sn225 x g o v gz) (hS226 : ∀ x g o v gz, S 226 x g o v gz → sn226 x g o v gz) (hS227 : ∀ x g o v gz, S 227 x g o v gz → sn227 x g o v gz) (hS232 : ∀ x g o v gz, S 232 x g o v gz → sn232 x g o v gz) (hS251 : ∀ x g o v gz, S 251 x g o v gz → sn251 x g o v gz) {a : List Int} {g : rHp} : ∀ (ρ : Nat → Int) (γ : Nat → rHp), jn252 a g 0 (zAg (zNA a252_ 0) ρ) (γ 1) → zO 41 S a g q252a0_8 ρ γ → zGl (fun i vs g1 => jn252 a g i vs g1) (sn252 a g) q252a0_8 ρ γ := by
  intro ρ γ hJ h
  obtain ⟨ha, hg, hr, hf, hm, hc, hl⟩ := h
  have ha : a = [ρ 0, ρ 1, ρ 2, ρ 3, ρ 4, ρ 5, ρ 6, ρ 7, ρ 8, ρ 9, ρ 10, ρ 11, ρ 12, ρ 13, ρ 14, ρ 15, ρ 16, ρ 17, ρ 18, ρ 19, ρ 20, ρ 21, ρ 22, ρ 23, ρ 24, ρ 25, ρ 26, ρ 27, ρ 28, ρ 29, ρ 30, ρ 31, ρ 32, ρ 33, ρ 34, ρ 35, ρ 36, ρ 37, ρ 38, ρ 39, ρ 40] := ha
  subst ha
  subst hg
  have hJ : jn252 [ρ 0, ρ 1, ρ 2, ρ 3, ρ 4, ρ 5, ρ 6, ρ 7, ρ 8, ρ 9, ρ 10, ρ 11, ρ 12, ρ 13, ρ 14, ρ 15, ρ 16, ρ 17, ρ 18, ρ 19, ρ 20, ρ 21, ρ 22, ρ 23, ρ 24, ρ 25, ρ 26, ρ 27, ρ 28, ρ 29, ρ 30, ρ 31, ρ 32, ρ 33, ρ 34, ρ 35, ρ 36, ρ 37, ρ 38, ρ 39, ρ 40] (γ 0) 0 [ρ 0, ρ 1, ρ 2, ρ 3, ρ 4, ρ 5, ρ 6, ρ 7, ρ 8, ρ 9, ρ 10, ρ 11, ρ 12, ρ 13, ρ 14, ρ 15, ρ 16, ρ 17, ρ 18, ρ 19, ρ 20, ρ 21, ρ 22, ρ 23, ρ 24, ρ 25, ρ 26, ρ 27, ρ 28, ρ 29, ρ 30, ρ 31, ρ 32, ρ 33, ρ 34, ρ 35, ρ 36, ρ 37, ρ 38, ρ 39, ρ 40, ρ 41, ρ 42, ρ 43, ρ 44, ρ 45, ρ 46, ρ 47, ρ 48, ρ 49] (γ 1) := hJ
  obtain ⟨-, -, -, -, -, -, -, -, -, -, -, -, -, -, -, -, -, -, -, -, -, -, -, -, -, -, -, -, -, -, -, -, -, -, -, -, -, -, -, -, -, r41, r42, -⟩ := hr
  have r41 : (0 : Int) ≤ ρ 41 ∧ ρ 41 ≤ 1999 := r41
  have r42 : (0 : Int) ≤ ρ 42 ∧ ρ 42 ≤ 2000 := r42
  obtain ⟨-, -, -, -, -, -, f6, f7, f8, -⟩ := hf
  have f6 : (0 : Int) ≤ ρ 42 + -ρ 11 := f6
  have f7 : (0 : Int) ≤ -ρ 43 + ρ 42 := f7
  have f8 : (0 : Int) ≤ -ρ 42 + ρ 10 + (-1) := f8
  obtain ⟨w_0, w_1, w_2, w_3, w_4⟩ : (¬ (ρ 42 < 0)) ∧ (¬ (ρ 42 ≥ ρ 10)) ∧ (¬ (ρ 41 ≥ 2000)) ∧ (¬ (ρ 42 < ρ 43)) ∧ (¬ (ρ 42 < ρ 11)) := ⟨by omega, by omega, by omega, by omega, by omega⟩
  obtain ⟨-, -, -, -, m4, -, -, -, -, -, m10, m11, -, -, -, -, -, -, -, -, -, -, -, -, -, -, -, -, -, -, -, -, -, -, -, -, -, -, -, -, -, -, -, -, -, m45, -, -, -, -, -, m51, -⟩ := hm
  have m4 : γ 0 6 0 7 = ρ 4 := m4
  have m10 : γ 0 6 0 11 = ρ 10 := m10
  have m11 : γ 0 6 0 12 = ρ 11 := m11
  have m45 : γ 1 6 0 13 = ρ 49 := m45
  have m51 : γ 5 6 0 13 = ρ 55 := m51
  obtain ⟨⟨⟨⟨-, c4⟩, -⟩, c6⟩, -⟩ := hc
  have c4 : γ 4 = rUp (γ 3) 6 0 13 (ρ 50) := c4
  have c6 : γ 6 = rUp (γ 5) 6 0 13 (ρ 56) := c6
  obtain ⟨l0, l1, l2, l3, l4, l5, -⟩ := hl
  have l0 : sn225 [9 * ρ 4 + 5, ρ 42, ρ 19, ρ 20] (γ 1) 0 1 (γ 2) := hS225 _ _ _ _ _ l0
  have l1 : sn232 [9 * ρ 4 + 5, ρ 42, ρ 45, ρ 22] (γ 2) 0 0 (γ 3) := hS232 _ _ _ _ _ l1
  have l2 : zOpP (.iadd) (γ 0) (γ 1) [ρ 49, 1] (ρ 50) := l2
  have l3 : sn251 [ρ 45 + 1, ρ 1, ρ 2, ρ 46, ρ 4, ρ 5, ρ 47, ρ 48, ρ 8, ρ 9, ρ 10, ρ 11, ρ 50, ρ 13, ρ 14, ρ 15, ρ 16, ρ 17, ρ 18, ρ 23, ρ 24, ρ 25, ρ 26, ρ 27, ρ 28, ρ 29, ρ 30, ρ 31, ρ 32, ρ 33, ρ 34, ρ 35, ρ 36, ρ 37, ρ 38, ρ 39, ρ 40] (γ 4) 0 0 (γ 5) := hS251 _ _ _ _ _ l3
  have l4 : zOpP (.isub) (γ 0) (γ 1) [ρ 55, 1] (ρ 56) := l4
  have l5 : sn227 [9 * ρ 4 + 5, ρ 42, ρ 21] (γ 6) 0 (ρ 57) (γ 7) := hS227 _ _ _ _ _ l5
  show jn252 [ρ 0, ρ 1, ρ 2, ρ 3, ρ 4, ρ 5, ρ 6, ρ 7, ρ 8, ρ 9, ρ 10, ρ 11, ρ 12, ρ 13, ρ 14, ρ 15, ρ 16, ρ 17, ρ 18, ρ 19, ρ 20, ρ 21, ρ 22, ρ 23, ρ 24, ρ 25, ρ 26, ρ 27, ρ 28, ρ 29, ρ 30, ρ 31, ρ 32, ρ 33, ρ 34, ρ 35, ρ 36, ρ 37, ρ 38, ρ 39, ρ 40] (γ 0) 0 [ρ 0, ρ 1, ρ 2, ρ 3, ρ 4, ρ 5, ρ 6, ρ 7, ρ 8, ρ 9, ρ 10, ρ 11, ρ 12, ρ 13, ρ 14, ρ 15, ρ 16, ρ 17, ρ 18, ρ 19, ρ 20, ρ 21, ρ 22, ρ 23, ρ 24, ρ 25, ρ 26, ρ 27, ρ 28, ρ 29, ρ 30, ρ 31, ρ 32, ρ 33, ρ 34, ρ 35, ρ 36, ρ 37, ρ 38, ρ 39, ρ 40, ρ 41 + 1, ρ 57, ρ 43, ρ 44, ρ 51, ρ 52, ρ 53, ρ 54, ρ 56] (γ 7)
  have hD : en252 (γ 0) (0, [ρ 41, ρ 42, ρ 43, ρ 44], γ 1) = .inl (0, [ρ 41 + 1, ρ 57, ρ 43, ρ 44], γ 7) := by
    unfold en252
    refine (if_pos (show (0 : Nat) = 0 by decide)).trans ?_
    refine (zLet_eq (show _ = γ 1 from rfl)).trans ?_
    refine (zLet_eq (show _ = ρ 41 from rfl)).trans ?_
    refine (zLet_eq (show _ = ρ 42 from rfl)).trans ?_
    refine (zLet_eq (show _ = ρ 43 from rfl)).trans ?_
    refine (zLet_eq (show _ = ρ 44 from rfl)).trans ?_
    refine (zLet_eq m4).trans ?_
    refine (zLet_eq m10).trans ?_
    refine (zLet_eq m11).trans ?_
    refine (zLet_eq m45).trans ?_
    refine (if_neg w_0).trans ?_
    refine (if_neg w_1).trans ?_
    refine (if_neg w_2).trans ?_
    refine (if_neg w_3).trans ?_
    refine (zLet_eq (show fn225 [9 * ρ 4 + 5, ρ 42] (γ 1) = (0, 1, γ 2) from l0.symm)).trans ?_
    refine (zLet_eq (show _ = γ 2 from rfl)).trans ?_
    refine (if_pos zQ1_).trans ?_
    refine (zLet_eq (show fn232 [9 * ρ 4 + 5, ρ 42] (γ 2) = (0, 0, γ 3) from l1.symm)).trans ?_
    refine (zLet_eq (show _ = γ 3 from rfl)).trans ?_
    refine (if_pos (show (0 : Nat) = 0 by decide)).trans ?_
    refine (if_neg w_4).trans ?_
    refine (zLet_eq (zF2_ok l2)).trans ?_
    refine (zLet_eq c4.symm).trans ?_
    refine (zLet_eq (show fn251 [] (γ 4) = (0, 0, γ 5) from l3.symm)).trans ?_
    refine (zLet_eq (show _ = γ 5 from rfl)).trans ?_
    refine (if_pos (show (0 : Nat) = 0 by decide)).trans ?_
    refine (zLet_eq m51).trans ?_
    refine (zLet_eq (zF2_ok l4)).trans ?_
    refine (zLet_eq c6.symm).trans ?_
    refine (zLet_eq (show fn227 [9 * ρ 4 + 5, ρ 42] (γ 6) = (0, ρ 57, γ 7) from l5.symm)).trans ?_
    refine (zLet_eq (show _ = γ 7 from rfl)).trans ?_
    refine (zLet_eq (show _ = ρ 57 from rfl)).trans ?_
    rfl
  exact zGoo_ato hJ hD
theorem vn252a0_9 {S : Nat → zSpc} (hS225 : ∀ x g o v gz, S 225 x g o v gz → sn225 x g o v gz) (hS226 : ∀ x g o v gz, S 226 x g o v gz → sn226 x g o v gz) (hS227 : ∀ x g o v gz, S 227 x g o v gz → sn227 x g o v gz) (hS232 : ∀ x g o v gz, S 232 x g o v gz → sn232 x g o v gz) (hS251 : ∀ x g o v gz, S 251 x g o v gz → sn251 x g o v gz) {a : List Int} {g : rHp} : ∀ (ρ : Nat → Int) (γ : Nat → rHp), jn252 a g 0 (zAg (zNA a252_ 0) ρ) (γ 1) → zO 41 S a g q252a0_9 ρ γ → zGl (fun i vs g1 => jn252 a g i vs g1) (sn252 a g) q252a0_9 ρ γ := by
  intro ρ γ hJ h
  obtain ⟨ha, hg, hr, hf, hm, hc, hl⟩ := h
  have ha : a = [ρ 0, ρ 1, ρ 2, ρ 3, ρ 4, ρ 5, ρ 6, ρ 7, ρ 8, ρ 9, ρ 10, ρ 11, ρ 12, ρ 13, ρ 14, ρ 15, ρ 16, ρ 17, ρ 18, ρ 19, ρ 20, ρ 21, ρ 22, ρ 23, ρ 24, ρ 25, ρ 26, ρ 27, ρ 28, ρ 29, ρ 30, ρ 31, ρ 32, ρ 33, ρ 34, ρ 35, ρ 36, ρ 37, ρ 38, ρ 39, ρ 40] := ha
  subst ha
  subst hg
  have hJ : jn252 [ρ 0, ρ 1, ρ 2, ρ 3, ρ 4, ρ 5, ρ 6, ρ 7, ρ 8, ρ 9, ρ 10, ρ 11, ρ 12, ρ 13, ρ 14, ρ 15, ρ 16, ρ 17, ρ 18, ρ 19, ρ 20, ρ 21, ρ 22, ρ 23, ρ 24, ρ 25, ρ 26, ρ 27, ρ 28, ρ 29, ρ 30, ρ 31, ρ 32, ρ 33, ρ 34, ρ 35, ρ 36, ρ 37, ρ 38, ρ 39, ρ 40] (γ 0) 0 [ρ 0, ρ 1, ρ 2, ρ 3, ρ 4, ρ 5, ρ 6, ρ 7, ρ 8, ρ 9, ρ 10, ρ 11, ρ 12, ρ 13, ρ 14, ρ 15, ρ 16, ρ 17, ρ 18, ρ 19, ρ 20, ρ 21, ρ 22, ρ 23, ρ 24, ρ 25, ρ 26, ρ 27, ρ 28, ρ 29, ρ 30, ρ 31, ρ 32, ρ 33, ρ 34, ρ 35, ρ 36, ρ 37, ρ 38, ρ 39, ρ 40, ρ 41, ρ 42, ρ 43, ρ 44, ρ 45, ρ 46, ρ 47, ρ 48, ρ 49] (γ 1) := hJ
  obtain ⟨-, -, -, -, -, -, -, -, -, -, -, -, -, -, -, -, -, -, -, -, -, -, -, -, -, -, -, -, -, -, -, -, -, -, -, -, -, -, -, -, -, r41, r42, -⟩ := hr
  have r41 : (0 : Int) ≤ ρ 41 ∧ ρ 41 ≤ 1999 := r41
  have r42 : (0 : Int) ≤ ρ 42 ∧ ρ 42 ≤ 2000 := r42
  obtain ⟨-, -, -, -, -, f5, f6, f7, -⟩ := hf
  have f5 : (0 : Int) ≤ ρ 42 + -ρ 11 := f5
  have f6 : (0 : Int) ≤ -ρ 43 + ρ 42 := f6
  have f7 : (0 : Int) ≤ -ρ 42 + ρ 10 + (-1) := f7
  obtain ⟨w_0, w_1, w_2, w_3, w_4⟩ : (¬ (ρ 42 < 0)) ∧ (¬ (ρ 42 ≥ ρ 10)) ∧ (¬ (ρ 41 ≥ 2000)) ∧ (¬ (ρ 42 < ρ 43)) ∧ (¬ (ρ 42 < ρ 11)) := ⟨by omega, by omega, by omega, by omega, by omega⟩
  obtain ⟨-, -, -, -, m4, -, -, -, -, -, m10, m11, -, -, -, -, -, -, -, -, -, -, -, -, -, -, -, -, -, -, -, -, -, -, -, -, -, -, -, -, -, -, -, -, -, m45, -⟩ := hm
  have m4 : γ 0 6 0 7 = ρ 4 := m4
  have m10 : γ 0 6 0 11 = ρ 10 := m10
  have m11 : γ 0 6 0 12 = ρ 11 := m11
  have m45 : γ 1 6 0 13 = ρ 49 := m45
  obtain ⟨⟨-, c4⟩, -⟩ := hc
  have c4 : γ 4 = rUp (γ 3) 6 0 13 (ρ 50) := c4
  obtain ⟨l0, l1, l2, l3, -⟩ := hl
  have l0 : sn225 [9 * ρ 4 + 5, ρ 42, ρ 19, ρ 20] (γ 1) 0 1 (γ 2) := hS225 _ _ _ _ _ l0
  have l1 : sn232 [9 * ρ 4 + 5, ρ 42, ρ 45, ρ 22] (γ 2) 0 0 (γ 3) := hS232 _ _ _ _ _ l1
  have l2 : zOpP (.iadd) (γ 0) (γ 1) [ρ 49, 1] (ρ 50) := l2
  have l3 : sn251 [ρ 45 + 1, ρ 1, ρ 2, ρ 46, ρ 4, ρ 5, ρ 47, ρ 48, ρ 8, ρ 9, ρ 10, ρ 11, ρ 50, ρ 13, ρ 14, ρ 15, ρ 16, ρ 17, ρ 18, ρ 23, ρ 24, ρ 25, ρ 26, ρ 27, ρ 28, ρ 29, ρ 30, ρ 31, ρ 32, ρ 33, ρ 34, ρ 35, ρ 36, ρ 37, ρ 38, ρ 39, ρ 40] (γ 4) 1 0 (γ 5) := hS251 _ _ _ _ _ l3
  show sn252 [ρ 0, ρ 1, ρ 2, ρ 3, ρ 4, ρ 5, ρ 6, ρ 7, ρ 8, ρ 9, ρ 10, ρ 11, ρ 12, ρ 13, ρ 14, ρ 15, ρ 16, ρ 17, ρ 18, ρ 19, ρ 20, ρ 21, ρ 22, ρ 23, ρ 24, ρ 25, ρ 26, ρ 27, ρ 28, ρ 29, ρ 30, ρ 31, ρ 32, ρ 33, ρ 34, ρ 35, ρ 36, ρ 37, ρ 38, ρ 39, ρ 40] (γ 0) 1 0 (γ 5)
  have hD : en252 (γ 0) (0, [ρ 41, ρ 42, ρ 43, ρ 44], γ 1) = .inr (1, 0, γ 5) := by
    unfold en252
    refine (if_pos (show (0 : Nat) = 0 by decide)).trans ?_
    refine (zLet_eq (show _ = γ 1 from rfl)).trans ?_
    refine (zLet_eq (show _ = ρ 41 from rfl)).trans ?_
    refine (zLet_eq (show _ = ρ 42 from rfl)).trans ?_
    refine (zLet_eq (show _ = ρ 43 from rfl)).trans ?_
    refine (zLet_eq (show _ = ρ 44 from rfl)).trans ?_
    refine (zLet_eq m4).trans ?_
    refine (zLet_eq m10).trans ?_
    refine (zLet_eq m11).trans ?_
    refine (zLet_eq m45).trans ?_
    refine (if_neg w_0).trans ?_
    refine (if_neg w_1).trans ?_
    refine (if_neg w_2).trans ?_
    refine (if_neg w_3).trans ?_
    refine (zLet_eq (show fn225 [9 * ρ 4 + 5, ρ 42] (γ 1) = (0, 1, γ 2) from l0.symm)).trans ?_
    refine (zLet_eq (show _ = γ 2 from rfl)).trans ?_
    refine (if_pos zQ1_).trans ?_
    refine (zLet_eq (show fn232 [9 * ρ 4 + 5, ρ 42] (γ 2) = (0, 0, γ 3) from l1.symm)).trans ?_
    refine (zLet_eq (show _ = γ 3 from rfl)).trans ?_
    refine (if_pos (show (0 : Nat) = 0 by decide)).trans ?_
    refine (if_neg w_4).trans ?_
    refine (zLet_eq (zF2_ok l2)).trans ?_
    refine (zLet_eq c4.symm).trans ?_
    refine (zLet_eq (show fn251 [] (γ 4) = (1, 0, γ 5) from l3.symm)).trans ?_
    refine (zLet_eq (show _ = γ 5 from rfl)).trans ?_
    refine (if_neg (show ¬ (1 : Nat) = 0 by decide)).trans ?_
    refine (if_pos (show (1 : Nat) = 1 by decide)).trans ?_
    rfl
  exact zGoo_aend hJ hD
theorem vn252a0_10 {S : Nat → zSpc} (hS225 : ∀ x g o v gz, S 225 x g o v gz → sn225 x g o v gz) (hS226 : ∀ x g o v gz, S 226 x g o v gz → sn226 x g o v gz) (hS227 : ∀ x g o v gz, S 227 x g o v gz → sn227 x g o v gz) (hS232 : ∀ x g o v gz, S 232 x g o v gz → sn232 x g o v gz) (hS251 : ∀ x g o v gz, S 251 x g o v gz → sn251 x g o v gz) {a : List Int} {g : rHp} : ∀ (ρ : Nat → Int) (γ : Nat → rHp), jn252 a g 0 (zAg (zNA a252_ 0) ρ) (γ 1) → zO 41 S a g q252a0_10 ρ γ → zGl (fun i vs g1 => jn252 a g i vs g1) (sn252 a g) q252a0_10 ρ γ := by
  intro ρ γ hJ h
  obtain ⟨ha, hg, hr, hf, hm, hc, hl⟩ := h
  have ha : a = [ρ 0, ρ 1, ρ 2, ρ 3, ρ 4, ρ 5, ρ 6, ρ 7, ρ 8, ρ 9, ρ 10, ρ 11, ρ 12, ρ 13, ρ 14, ρ 15, ρ 16, ρ 17, ρ 18, ρ 19, ρ 20, ρ 21, ρ 22, ρ 23, ρ 24, ρ 25, ρ 26, ρ 27, ρ 28, ρ 29, ρ 30, ρ 31, ρ 32, ρ 33, ρ 34, ρ 35, ρ 36, ρ 37, ρ 38, ρ 39, ρ 40] := ha
  subst ha
  subst hg
  have hJ : jn252 [ρ 0, ρ 1, ρ 2, ρ 3, ρ 4, ρ 5, ρ 6, ρ 7, ρ 8, ρ 9, ρ 10, ρ 11, ρ 12, ρ 13, ρ 14, ρ 15, ρ 16, ρ 17, ρ 18, ρ 19, ρ 20, ρ 21, ρ 22, ρ 23, ρ 24, ρ 25, ρ 26, ρ 27, ρ 28, ρ 29, ρ 30, ρ 31, ρ 32, ρ 33, ρ 34, ρ 35, ρ 36, ρ 37, ρ 38, ρ 39, ρ 40] (γ 0) 0 [ρ 0, ρ 1, ρ 2, ρ 3, ρ 4, ρ 5, ρ 6, ρ 7, ρ 8, ρ 9, ρ 10, ρ 11, ρ 12, ρ 13, ρ 14, ρ 15, ρ 16, ρ 17, ρ 18, ρ 19, ρ 20, ρ 21, ρ 22, ρ 23, ρ 24, ρ 25, ρ 26, ρ 27, ρ 28, ρ 29, ρ 30, ρ 31, ρ 32, ρ 33, ρ 34, ρ 35, ρ 36, ρ 37, ρ 38, ρ 39, ρ 40, ρ 41, ρ 42, ρ 43, ρ 44, ρ 45, ρ 46, ρ 47, ρ 48, ρ 49] (γ 1) := hJ
  obtain ⟨-, -, -, -, -, -, -, -, -, -, -, -, -, -, -, -, -, -, -, -, -, -, -, -, -, -, -, -, -, -, -, -, -, -, -, -, -, -, -, -, -, r41, r42, -⟩ := hr
  have r41 : (0 : Int) ≤ ρ 41 ∧ ρ 41 ≤ 1999 := r41
  have r42 : (0 : Int) ≤ ρ 42 ∧ ρ 42 ≤ 2000 := r42
  obtain ⟨-, -, -, -, -, f5, f6, f7, -⟩ := hf
  have f5 : (0 : Int) ≤ ρ 42 + -ρ 11 := f5
  have f6 : (0 : Int) ≤ -ρ 43 + ρ 42 := f6
  have f7 : (0 : Int) ≤ -ρ 42 + ρ 10 + (-1) := f7
  obtain ⟨w_0, w_1, w_2, w_3, w_4⟩ : (¬ (ρ 42 < 0)) ∧ (¬ (ρ 42 ≥ ρ 10)) ∧ (¬ (ρ 41 ≥ 2000)) ∧ (¬ (ρ 42 < ρ 43)) ∧ (¬ (ρ 42 < ρ 11)) := ⟨by omega, by omega, by omega, by omega, by omega⟩
  obtain ⟨-, -, -, -, m4, -, -, -, -, -, m10, m11, -, -, -, -, -, -, -, -, -, -, -, -, -, -, -, -, -, -, -, -, -, -, -, -, -, -, -, -, -, -, -, -, -, m45, -⟩ := hm
  have m4 : γ 0 6 0 7 = ρ 4 := m4
  have m10 : γ 0 6 0 11 = ρ 10 := m10
  have m11 : γ 0 6 0 12 = ρ 11 := m11
  have m45 : γ 1 6 0 13 = ρ 49 := m45
  obtain ⟨⟨-, c4⟩, -⟩ := hc
  have c4 : γ 4 = rUp (γ 3) 6 0 13 (ρ 50) := c4
  obtain ⟨l0, l1, l2, l3, -⟩ := hl
  have l0 : sn225 [9 * ρ 4 + 5, ρ 42, ρ 19, ρ 20] (γ 1) 0 1 (γ 2) := hS225 _ _ _ _ _ l0
  have l1 : sn232 [9 * ρ 4 + 5, ρ 42, ρ 45, ρ 22] (γ 2) 0 0 (γ 3) := hS232 _ _ _ _ _ l1
  have l2 : zOpP (.iadd) (γ 0) (γ 1) [ρ 49, 1] (ρ 50) := l2
  have l3 : sn251 [ρ 45 + 1, ρ 1, ρ 2, ρ 46, ρ 4, ρ 5, ρ 47, ρ 48, ρ 8, ρ 9, ρ 10, ρ 11, ρ 50, ρ 13, ρ 14, ρ 15, ρ 16, ρ 17, ρ 18, ρ 23, ρ 24, ρ 25, ρ 26, ρ 27, ρ 28, ρ 29, ρ 30, ρ 31, ρ 32, ρ 33, ρ 34, ρ 35, ρ 36, ρ 37, ρ 38, ρ 39, ρ 40] (γ 4) 4 0 (γ 5) := hS251 _ _ _ _ _ l3
  show sn252 [ρ 0, ρ 1, ρ 2, ρ 3, ρ 4, ρ 5, ρ 6, ρ 7, ρ 8, ρ 9, ρ 10, ρ 11, ρ 12, ρ 13, ρ 14, ρ 15, ρ 16, ρ 17, ρ 18, ρ 19, ρ 20, ρ 21, ρ 22, ρ 23, ρ 24, ρ 25, ρ 26, ρ 27, ρ 28, ρ 29, ρ 30, ρ 31, ρ 32, ρ 33, ρ 34, ρ 35, ρ 36, ρ 37, ρ 38, ρ 39, ρ 40] (γ 0) 4 0 (γ 5)
  have hD : en252 (γ 0) (0, [ρ 41, ρ 42, ρ 43, ρ 44], γ 1) = .inr (4, 0, γ 5) := by
    unfold en252
    refine (if_pos (show (0 : Nat) = 0 by decide)).trans ?_
    refine (zLet_eq (show _ = γ 1 from rfl)).trans ?_
    refine (zLet_eq (show _ = ρ 41 from rfl)).trans ?_
    refine (zLet_eq (show _ = ρ 42 from rfl)).trans ?_
    refine (zLet_eq (show _ = ρ 43 from rfl)).trans ?_
    refine (zLet_eq (show _ = ρ 44 from rfl)).trans ?_
    refine (zLet_eq m4).trans ?_
    refine (zLet_eq m10).trans ?_
    refine (zLet_eq m11).trans ?_
    refine (zLet_eq m45).trans ?_
    refine (if_neg w_0).trans ?_
    refine (if_neg w_1).trans ?_
    refine (if_neg w_2).trans ?_
    refine (if_neg w_3).trans ?_
    refine (zLet_eq (show fn225 [9 * ρ 4 + 5, ρ 42] (γ 1) = (0, 1, γ 2) from l0.symm)).trans ?_
    refine (zLet_eq (show _ = γ 2 from rfl)).trans ?_
    refine (if_pos zQ1_).trans ?_
    refine (zLet_eq (show fn232 [9 * ρ 4 + 5, ρ 42] (γ 2) = (0, 0, γ 3) from l1.symm)).trans ?_
    refine (zLet_eq (show _ = γ 3 from rfl)).trans ?_
    refine (if_pos (show (0 : Nat) = 0 by decide)).trans ?_
    refine (if_neg w_4).trans ?_
    refine (zLet_eq (zF2_ok l2)).trans ?_
    refine (zLet_eq c4.symm).trans ?_
    refine (zLet_eq (show fn251 [] (γ 4) = (4, 0, γ 5) from l3.symm)).trans ?_
    refine (zLet_eq (show _ = γ 5 from rfl)).trans ?_
    refine (if_neg (show ¬ (4 : Nat) = 0 by decide)).trans ?_
    refine (if_neg (show ¬ (4 : Nat) = 1 by decide)).trans ?_
    rfl
  exact zGoo_aend hJ hD
theorem vn252a0_11 {S : Nat → zSpc} (hS225 : ∀ x g o v gz, S 225 x g o v gz → sn225 x g o v gz) (hS226 : ∀ x g o v gz, S 226 x g o v gz → sn226 x g o v gz) (hS227 : ∀ x g o v gz, S 227 x g o v gz → sn227 x g o v gz) (hS232 : ∀ x g o v gz, S 232 x g o v gz → sn232 x g o v gz) (hS251 : ∀ x g o v gz, S 251 x g o v gz → sn251 x g o v gz) {a : List Int} {g : rHp} : ∀ (ρ : Nat → Int) (γ : Nat → rHp), jn252 a g 0 (zAg (zNA a252_ 0) ρ) (γ 1) → zO 41 S a g q252a0_11 ρ γ → zGl (fun i vs g1 => jn252 a g i vs g1) (sn252 a g) q252a0_11 ρ γ := by
  intro ρ γ hJ h
  obtain ⟨ha, hg, hr, hf, hm, hc, hl⟩ := h
  have ha : a = [ρ 0, ρ 1, ρ 2, ρ 3, ρ 4, ρ 5, ρ 6, ρ 7, ρ 8, ρ 9, ρ 10, ρ 11, ρ 12, ρ 13, ρ 14, ρ 15, ρ 16, ρ 17, ρ 18, ρ 19, ρ 20, ρ 21, ρ 22, ρ 23, ρ 24, ρ 25, ρ 26, ρ 27, ρ 28, ρ 29, ρ 30, ρ 31, ρ 32, ρ 33, ρ 34, ρ 35, ρ 36, ρ 37, ρ 38, ρ 39, ρ 40] := ha
  subst ha
  subst hg
  have hJ : jn252 [ρ 0, ρ 1, ρ 2, ρ 3, ρ 4, ρ 5, ρ 6, ρ 7, ρ 8, ρ 9, ρ 10, ρ 11, ρ 12, ρ 13, ρ 14, ρ 15, ρ 16, ρ 17, ρ 18, ρ 19, ρ 20, ρ 21, ρ 22, ρ 23, ρ 24, ρ 25, ρ 26, ρ 27, ρ 28, ρ 29, ρ 30, ρ 31, ρ 32, ρ 33, ρ 34, ρ 35, ρ 36, ρ 37, ρ 38, ρ 39, ρ 40] (γ 0) 0 [ρ 0, ρ 1, ρ 2, ρ 3, ρ 4, ρ 5, ρ 6, ρ 7, ρ 8, ρ 9, ρ 10, ρ 11, ρ 12, ρ 13, ρ 14, ρ 15, ρ 16, ρ 17, ρ 18, ρ 19, ρ 20, ρ 21, ρ 22, ρ 23, ρ 24, ρ 25, ρ 26, ρ 27, ρ 28, ρ 29, ρ 30, ρ 31, ρ 32, ρ 33, ρ 34, ρ 35, ρ 36, ρ 37, ρ 38, ρ 39, ρ 40, ρ 41, ρ 42, ρ 43, ρ 44, ρ 45, ρ 46, ρ 47, ρ 48, ρ 49] (γ 1) := hJ
  obtain ⟨-, -, -, -, -, -, -, -, -, -, -, -, -, -, -, -, -, -, -, -, -, -, -, -, -, -, -, -, -, -, -, -, -, -, -, -, -, -, -, -, -, r41, r42, -⟩ := hr
  have r41 : (0 : Int) ≤ ρ 41 ∧ ρ 41 ≤ 1999 := r41
  have r42 : (0 : Int) ≤ ρ 42 ∧ ρ 42 ≤ 2000 := r42
  obtain ⟨f0, f1, -⟩ := hf
  have f0 : (0 : Int) ≤ -ρ 43 + ρ 42 := f0
  have f1 : (0 : Int) ≤ -ρ 42 + ρ 10 + (-1) := f1
  obtain ⟨w_0, w_1, w_2, w_3⟩ : (¬ (ρ 42 < 0)) ∧ (¬ (ρ 42 ≥ ρ 10)) ∧ (¬ (ρ 41 ≥ 2000)) ∧ (¬ (ρ 42 < ρ 43)) := ⟨by omega, by omega, by omega, by omega⟩
  obtain ⟨-, -, -, -, m4, -, -, -, -, -, m10, m11, -, -, -, -, -, -, -, -, -, -, -, -, -, -, -, -, -, -, -, -, -, -, -, -, -, -, -, -, -, -, -, -, -, m45, -⟩ := hm
  have m4 : γ 0 6 0 7 = ρ 4 := m4
  have m10 : γ 0 6 0 11 = ρ 10 := m10
  have m11 : γ 0 6 0 12 = ρ 11 := m11
  have m45 : γ 1 6 0 13 = ρ 49 := m45
  obtain ⟨l0, l1, -⟩ := hl
  have l0 : sn225 [9 * ρ 4 + 5, ρ 42, ρ 19, ρ 20] (γ 1) 0 1 (γ 2) := hS225 _ _ _ _ _ l0
  have l1 : sn232 [9 * ρ 4 + 5, ρ 42, ρ 45, ρ 22] (γ 2) 4 0 (γ 3) := hS232 _ _ _ _ _ l1
  show sn252 [ρ 0, ρ 1, ρ 2, ρ 3, ρ 4, ρ 5, ρ 6, ρ 7, ρ 8, ρ 9, ρ 10, ρ 11, ρ 12, ρ 13, ρ 14, ρ 15, ρ 16, ρ 17, ρ 18, ρ 19, ρ 20, ρ 21, ρ 22, ρ 23, ρ 24, ρ 25, ρ 26, ρ 27, ρ 28, ρ 29, ρ 30, ρ 31, ρ 32, ρ 33, ρ 34, ρ 35, ρ 36, ρ 37, ρ 38, ρ 39, ρ 40] (γ 0) 4 0 (γ 3)
  have hD : en252 (γ 0) (0, [ρ 41, ρ 42, ρ 43, ρ 44], γ 1) = .inr (4, 0, γ 3) := by
    unfold en252
    refine (if_pos (show (0 : Nat) = 0 by decide)).trans ?_
    refine (zLet_eq (show _ = γ 1 from rfl)).trans ?_
    refine (zLet_eq (show _ = ρ 41 from rfl)).trans ?_
    refine (zLet_eq (show _ = ρ 42 from rfl)).trans ?_
    refine (zLet_eq (show _ = ρ 43 from rfl)).trans ?_
    refine (zLet_eq (show _ = ρ 44 from rfl)).trans ?_
    refine (zLet_eq m4).trans ?_
    refine (zLet_eq m10).trans ?_
    refine (zLet_eq m11).trans ?_
    refine (zLet_eq m45).trans ?_
    refine (if_neg w_0).trans ?_
    refine (if_neg w_1).trans ?_
    refine (if_neg w_2).trans ?_
    refine (if_neg w_3).trans ?_
    refine (zLet_eq (show fn225 [9 * ρ 4 + 5, ρ 42] (γ 1) = (0, 1, γ 2) from l0.symm)).trans ?_
    refine (zLet_eq (show _ = γ 2 from rfl)).trans ?_
    refine (if_pos zQ1_).trans ?_
    refine (zLet_eq (show fn232 [9 * ρ 4 + 5, ρ 42] (γ 2) = (4, 0, γ 3) from l1.symm)).trans ?_
    refine (zLet_eq (show _ = γ 3 from rfl)).trans ?_
    refine (if_neg (show ¬ (4 : Nat) = 0 by decide)).trans ?_
    rfl
  exact zGoo_aend hJ hD
theorem yn252 {S : Nat → zSpc} (hS225 : ∀ x g o v gz, S 225 x g o v gz → sn225 x g o v gz) (hS226 : ∀ x g o v gz, S 226 x g o v gz → sn226 x g o v gz) (hS227 : ∀ x g o v gz, S 227 x g o v gz → sn227 x g o v gz) (hS232 : ∀ x g o v gz, S 232 x g o v gz → sn232 x g o v gz) (hS251 : ∀ x g o v gz, S 251 x g o v gz → sn251 x g o v gz) : ∀ x g o v gz, zSem uW uT w252_.2.2.2.1 w252_.2.2.1.1.length S q252 (fun i => q252a.getD i []) (zNA a252_) x g o v gz → sn252 x g o v gz := by
  intro a g o v gz h
  exact zSem_all (l0 := q252) (las := q252a) (S := S) (J := (fun i vs g1 => jn252 a g i vs g1)) (P := sn252 a g) (fun _ => (show zAll _ [q252_0, q252_1, q252_2, q252_3] from (zAll_c (vn252_0 hS225 hS226 hS227 hS232 hS251) (zAll_c (vn252_1 hS225 hS226 hS227 hS232 hS251) (zAll_c (vn252_2 hS225 hS226 hS227 hS232 hS251) (zAll_c (vn252_3 hS225 hS226 hS227 hS232 hS251) zAll_n)))))) (fun _ => (show zAllI _ 0 [q252a0] from ⟨(show zAll _ [q252a0_0, q252a0_1, q252a0_2, q252a0_3, q252a0_4, q252a0_5, q252a0_6, q252a0_7, q252a0_8, q252a0_9, q252a0_10, q252a0_11] from (zAll_c (vn252a0_0 hS225 hS226 hS227 hS232 hS251) (zAll_c (vn252a0_1 hS225 hS226 hS227 hS232 hS251) (zAll_c (vn252a0_2 hS225 hS226 hS227 hS232 hS251) (zAll_c (vn252a0_3 hS225 hS226 hS227 hS232 hS251) (zAll_c (vn252a0_4 hS225 hS226 hS227 hS232 hS251) (zAll_c (vn252a0_5 hS225 hS226 hS227 hS232 hS251) (zAll_c (vn252a0_6 hS225 hS226 hS227 hS232 hS251) (zAll_c (vn252a0_7 hS225 hS226 hS227 hS232 hS251) (zAll_c (vn252a0_8 hS225 hS226 hS227 hS232 hS251) (zAll_c (vn252a0_9 hS225 hS226 hS227 hS232 hS251) (zAll_c (vn252a0_10 hS225 hS226 hS227 hS232 hS251) (zAll_c (vn252a0_11 hS225 hS226 hS227 hS232 hS251) zAll_n))))))))))))), trivial⟩)) h
theorem vn253_0 {S : Nat → zSpc} (hS132 : ∀ x g o v gz, S 132 x g o v gz → sn132 x g o v gz) (hS228 : ∀ x g o v gz, S 228 x g o v gz → sn228 x g o v gz) (hS229 : ∀ x g o v gz, S 229 x g o v gz → sn229 x g o v gz) (hS230 : ∀ x g o v gz, S 230 x g o v gz → sn230 x g o v gz) (hS231 : ∀ x g o v gz, S 231 x g o v gz → sn231 x g o v gz) (hS244 : ∀ x g o v gz, S 244 x g o v gz → sn244 x g o v gz) (hS251 : ∀ x g o v gz, S 251 x g o v gz → sn251 x g o v gz) (hS252 : ∀ x g o v gz, S 252 x g o v gz → sn252 x g o v gz) {a : List Int} {g : rHp} : ∀ (ρ : Nat → Int) (γ : Nat → rHp), zO 43 S a g q253_0 ρ γ → zGl (fun _ _ _ => True) (sn253 a g) q253_0 ρ γ := by
  intro ρ γ h
  obtain ⟨ha, hg, hr, hf, hm, hc, hl⟩ := h
  have ha : a = [ρ 0, ρ 1, ρ 2, ρ 3, ρ 4, ρ 5, ρ 6, ρ 7, ρ 8, ρ 9, ρ 10, ρ 11, ρ 12, ρ 13, ρ 14, ρ 15, ρ 16, ρ 17, ρ 18, ρ 19, ρ 20, ρ 21, ρ 22, ρ 23, ρ 24, ρ 25, ρ 26, ρ 27, ρ 28, ρ 29, ρ 30, ρ 31, ρ 32, ρ 33, ρ 34, ρ 35, ρ 36, ρ 37, ρ 38, ρ 39, ρ 40, ρ 41, ρ 42] := ha
  subst ha
  subst hg
  obtain ⟨-, -, -, -, -, -, -, -, -, -, -, -, -, r13, -⟩ := hr
  have r13 : (0 : Int) ≤ ρ 13 ∧ ρ 13 ≤ 4 := r13
  have w_0 : 4 ≥ ρ 13 := by omega
  obtain ⟨-, -, -, -, m4, -, -, -, -, -, -, -, -, m13, -, -, -, -, -, m19, -⟩ := hm
  have m4 : γ 0 6 0 7 = ρ 4 := m4
  have m13 : γ 0 9 (ρ 4) 2 = ρ 13 := m13
  have m19 : γ 0 10 (9 * ρ 4 + 5) 4 = ρ 19 := m19
  obtain ⟨l0, -⟩ := hl
  have l0 : sn244 [ρ 0, ρ 1, ρ 2, ρ 3, ρ 4, ρ 6, ρ 7, ρ 8, ρ 9, ρ 14, ρ 15, ρ 16, ρ 17, ρ 18] (γ 0) 0 0 (γ 1) := hS244 _ _ _ _ _ l0
  show sn253 [ρ 0, ρ 1, ρ 2, ρ 3, ρ 4, ρ 5, ρ 6, ρ 7, ρ 8, ρ 9, ρ 10, ρ 11, ρ 12, ρ 13, ρ 14, ρ 15, ρ 16, ρ 17, ρ 18, ρ 19, ρ 20, ρ 21, ρ 22, ρ 23, ρ 24, ρ 25, ρ 26, ρ 27, ρ 28, ρ 29, ρ 30, ρ 31, ρ 32, ρ 33, ρ 34, ρ 35, ρ 36, ρ 37, ρ 38, ρ 39, ρ 40, ρ 41, ρ 42] (γ 0) 0 0 (γ 1)
  refine Eq.symm ?_
  show fn253 [] (γ 0) = _
  unfold fn253
  refine (zLet_eq m4).trans ?_
  refine (zLet_eq m13).trans ?_
  refine (zLet_eq m19).trans ?_
  refine (if_pos w_0).trans ?_
  refine (zLet_eq (show fn244 [] (γ 0) = (0, 0, γ 1) from l0.symm)).trans ?_
  refine (zLet_eq (show _ = γ 1 from rfl)).trans ?_
  refine (if_pos (show (0 : Nat) = 0 by decide)).trans ?_
  rfl
theorem vn253_1 {S : Nat → zSpc} (hS132 : ∀ x g o v gz, S 132 x g o v gz → sn132 x g o v gz) (hS228 : ∀ x g o v gz, S 228 x g o v gz → sn228 x g o v gz) (hS229 : ∀ x g o v gz, S 229 x g o v gz → sn229 x g o v gz) (hS230 : ∀ x g o v gz, S 230 x g o v gz → sn230 x g o v gz) (hS231 : ∀ x g o v gz, S 231 x g o v gz → sn231 x g o v gz) (hS244 : ∀ x g o v gz, S 244 x g o v gz → sn244 x g o v gz) (hS251 : ∀ x g o v gz, S 251 x g o v gz → sn251 x g o v gz) (hS252 : ∀ x g o v gz, S 252 x g o v gz → sn252 x g o v gz) {a : List Int} {g : rHp} : ∀ (ρ : Nat → Int) (γ : Nat → rHp), zO 43 S a g q253_1 ρ γ → zGl (fun _ _ _ => True) (sn253 a g) q253_1 ρ γ := by
  intro ρ γ h
  obtain ⟨ha, hg, hr, hf, hm, hc, hl⟩ := h
  have ha : a = [ρ 0, ρ 1, ρ 2, ρ 3, ρ 4, ρ 5, ρ 6, ρ 7, ρ 8, ρ 9, ρ 10, ρ 11, ρ 12, ρ 13, ρ 14, ρ 15, ρ 16, ρ 17, ρ 18, ρ 19, ρ 20, ρ 21, ρ 22, ρ 23, ρ 24, ρ 25, ρ 26, ρ 27, ρ 28, ρ 29, ρ 30, ρ 31, ρ 32, ρ 33, ρ 34, ρ 35, ρ 36, ρ 37, ρ 38, ρ 39, ρ 40, ρ 41, ρ 42] := ha
  subst ha
  subst hg
  obtain ⟨-, -, -, -, -, -, -, -, -, -, -, -, -, r13, -⟩ := hr
  have r13 : (0 : Int) ≤ ρ 13 ∧ ρ 13 ≤ 4 := r13
  have w_0 : 4 ≥ ρ 13 := by omega
  obtain ⟨-, -, -, -, m4, -, -, -, -, -, -, -, -, m13, -, -, -, -, -, m19, -⟩ := hm
  have m4 : γ 0 6 0 7 = ρ 4 := m4
  have m13 : γ 0 9 (ρ 4) 2 = ρ 13 := m13
  have m19 : γ 0 10 (9 * ρ 4 + 5) 4 = ρ 19 := m19
  obtain ⟨l0, -⟩ := hl
  have l0 : sn244 [ρ 0, ρ 1, ρ 2, ρ 3, ρ 4, ρ 6, ρ 7, ρ 8, ρ 9, ρ 14, ρ 15, ρ 16, ρ 17, ρ 18] (γ 0) 1 0 (γ 1) := hS244 _ _ _ _ _ l0
  show sn253 [ρ 0, ρ 1, ρ 2, ρ 3, ρ 4, ρ 5, ρ 6, ρ 7, ρ 8, ρ 9, ρ 10, ρ 11, ρ 12, ρ 13, ρ 14, ρ 15, ρ 16, ρ 17, ρ 18, ρ 19, ρ 20, ρ 21, ρ 22, ρ 23, ρ 24, ρ 25, ρ 26, ρ 27, ρ 28, ρ 29, ρ 30, ρ 31, ρ 32, ρ 33, ρ 34, ρ 35, ρ 36, ρ 37, ρ 38, ρ 39, ρ 40, ρ 41, ρ 42] (γ 0) 1 0 (γ 1)
  refine Eq.symm ?_
  show fn253 [] (γ 0) = _
  unfold fn253
  refine (zLet_eq m4).trans ?_
  refine (zLet_eq m13).trans ?_
  refine (zLet_eq m19).trans ?_
  refine (if_pos w_0).trans ?_
  refine (zLet_eq (show fn244 [] (γ 0) = (1, 0, γ 1) from l0.symm)).trans ?_
  refine (zLet_eq (show _ = γ 1 from rfl)).trans ?_
  refine (if_neg (show ¬ (1 : Nat) = 0 by decide)).trans ?_
  rfl
theorem vn253_2 {S : Nat → zSpc} (hS132 : ∀ x g o v gz, S 132 x g o v gz → sn132 x g o v gz) (hS228 : ∀ x g o v gz, S 228 x g o v gz → sn228 x g o v gz) (hS229 : ∀ x g o v gz, S 229 x g o v gz → sn229 x g o v gz) (hS230 : ∀ x g o v gz, S 230 x g o v gz → sn230 x g o v gz) (hS231 : ∀ x g o v gz, S 231 x g o v gz → sn231 x g o v gz) (hS244 : ∀ x g o v gz, S 244 x g o v gz → sn244 x g o v gz) (hS251 : ∀ x g o v gz, S 251 x g o v gz → sn251 x g o v gz) (hS252 : ∀ x g o v gz, S 252 x g o v gz → sn252 x g o v gz) {a : List Int} {g : rHp} : ∀ (ρ : Nat → Int) (γ : Nat → rHp), zO 43 S a g q253_2 ρ γ → zGl (fun _ _ _ => True) (sn253 a g) q253_2 ρ γ := by
  intro ρ γ h
  obtain ⟨ha, hg, hr, hf, hm, hc, hl⟩ := h
  have ha : a = [ρ 0, ρ 1, ρ 2, ρ 3, ρ 4, ρ 5, ρ 6, ρ 7, ρ 8, ρ 9, ρ 10, ρ 11, ρ 12, ρ 13, ρ 14, ρ 15, ρ 16, ρ 17, ρ 18, ρ 19, ρ 20, ρ 21, ρ 22, ρ 23, ρ 24, ρ 25, ρ 26, ρ 27, ρ 28, ρ 29, ρ 30, ρ 31, ρ 32, ρ 33, ρ 34, ρ 35, ρ 36, ρ 37, ρ 38, ρ 39, ρ 40, ρ 41, ρ 42] := ha
  subst ha
  subst hg
  obtain ⟨-, -, -, -, -, -, -, -, -, -, -, -, -, r13, -, -, -, -, -, r19, -⟩ := hr
  have r13 : (5 : Int) ≤ ρ 13 ∧ ρ 13 ≤ 8 := r13
  have r19 : (3 : Int) ≤ ρ 19 ∧ ρ 19 ≤ 3 := r19
  obtain ⟨w_0, w_1, w_2, w_3⟩ : (¬ (4 ≥ ρ 13)) ∧ (ρ 19 ≠ 1) ∧ (0 ≤ -ρ 19 + 3) ∧ (ρ 19 ≠ 2) := ⟨by omega, by omega, by omega, by omega⟩
  obtain ⟨-, -, -, -, m4, -, -, -, -, -, -, -, -, m13, -, -, -, -, -, m19, -⟩ := hm
  have m4 : γ 0 6 0 7 = ρ 4 := m4
  have m13 : γ 0 9 (ρ 4) 2 = ρ 13 := m13
  have m19 : γ 0 10 (9 * ρ 4 + 5) 4 = ρ 19 := m19
  obtain ⟨l0, l1, -⟩ := hl
  have l0 : sn132 [ρ 4, 4] (γ 0) 0 (9 * ρ 4 + 5) (γ 1) := hS132 _ _ _ _ _ l0
  have l1 : sn230 [9 * ρ 4 + 5, ρ 19] (γ 1) 0 0 (γ 2) := hS230 _ _ _ _ _ l1
  show sn253 [ρ 0, ρ 1, ρ 2, ρ 3, ρ 4, ρ 5, ρ 6, ρ 7, ρ 8, ρ 9, ρ 10, ρ 11, ρ 12, ρ 13, ρ 14, ρ 15, ρ 16, ρ 17, ρ 18, ρ 19, ρ 20, ρ 21, ρ 22, ρ 23, ρ 24, ρ 25, ρ 26, ρ 27, ρ 28, ρ 29, ρ 30, ρ 31, ρ 32, ρ 33, ρ 34, ρ 35, ρ 36, ρ 37, ρ 38, ρ 39, ρ 40, ρ 41, ρ 42] (γ 0) 0 0 (γ 2)
  refine Eq.symm ?_
  show fn253 [] (γ 0) = _
  unfold fn253
  refine (zLet_eq m4).trans ?_
  refine (zLet_eq m13).trans ?_
  refine (zLet_eq m19).trans ?_
  refine (if_neg w_0).trans ?_
  refine (zLet_eq (show fn132 [ρ 4, 4] (γ 0) = (0, 9 * ρ 4 + 5, γ 1) from l0.symm)).trans ?_
  refine (zLet_eq (show _ = γ 1 from rfl)).trans ?_
  refine (if_pos w_1).trans ?_
  refine (if_pos w_2).trans ?_
  refine (if_pos w_3).trans ?_
  refine (zLet_eq (show fn230 [9 * ρ 4 + 5] (γ 1) = (0, 0, γ 2) from l1.symm)).trans ?_
  refine (zLet_eq (show _ = γ 2 from rfl)).trans ?_
  refine (if_neg zQ0_).trans ?_
  rfl
theorem vn253_3 {S : Nat → zSpc} (hS132 : ∀ x g o v gz, S 132 x g o v gz → sn132 x g o v gz) (hS228 : ∀ x g o v gz, S 228 x g o v gz → sn228 x g o v gz) (hS229 : ∀ x g o v gz, S 229 x g o v gz → sn229 x g o v gz) (hS230 : ∀ x g o v gz, S 230 x g o v gz → sn230 x g o v gz) (hS231 : ∀ x g o v gz, S 231 x g o v gz → sn231 x g o v gz) (hS244 : ∀ x g o v gz, S 244 x g o v gz → sn244 x g o v gz) (hS251 : ∀ x g o v gz, S 251 x g o v gz → sn251 x g o v gz) (hS252 : ∀ x g o v gz, S 252 x g o v gz → sn252 x g o v gz) {a : List Int} {g : rHp} : ∀ (ρ : Nat → Int) (γ : Nat → rHp), zO 43 S a g q253_3 ρ γ → zGl (fun _ _ _ => True) (sn253 a g) q253_3 ρ γ := by
  intro ρ γ h
  obtain ⟨ha, hg, hr, hf, hm, hc, hl⟩ := h
  have ha : a = [ρ 0, ρ 1, ρ 2, ρ 3, ρ 4, ρ 5, ρ 6, ρ 7, ρ 8, ρ 9, ρ 10, ρ 11, ρ 12, ρ 13, ρ 14, ρ 15, ρ 16, ρ 17, ρ 18, ρ 19, ρ 20, ρ 21, ρ 22, ρ 23, ρ 24, ρ 25, ρ 26, ρ 27, ρ 28, ρ 29, ρ 30, ρ 31, ρ 32, ρ 33, ρ 34, ρ 35, ρ 36, ρ 37, ρ 38, ρ 39, ρ 40, ρ 41, ρ 42] := ha
  subst ha
  subst hg
  obtain ⟨-, -, -, -, -, -, -, -, -, -, -, -, -, r13, -, -, -, -, -, r19, -⟩ := hr
  have r13 : (5 : Int) ≤ ρ 13 ∧ ρ 13 ≤ 8 := r13
  have r19 : (3 : Int) ≤ ρ 19 ∧ ρ 19 ≤ 3 := r19
  obtain ⟨w_0, w_1, w_2, w_3⟩ : (¬ (4 ≥ ρ 13)) ∧ (ρ 19 ≠ 1) ∧ (0 ≤ -ρ 19 + 3) ∧ (ρ 19 ≠ 2) := ⟨by omega, by omega, by omega, by omega⟩
  obtain ⟨-, -, -, -, m4, -, -, -, -, -, -, -, -, m13, -, -, -, -, -, m19, -⟩ := hm
  have m4 : γ 0 6 0 7 = ρ 4 := m4
  have m13 : γ 0 9 (ρ 4) 2 = ρ 13 := m13
  have m19 : γ 0 10 (9 * ρ 4 + 5) 4 = ρ 19 := m19
  obtain ⟨l0, l1, l2, -⟩ := hl
  have l0 : sn132 [ρ 4, 4] (γ 0) 0 (9 * ρ 4 + 5) (γ 1) := hS132 _ _ _ _ _ l0
  have l1 : sn230 [9 * ρ 4 + 5, ρ 19] (γ 1) 0 1 (γ 2) := hS230 _ _ _ _ _ l1
  have l2 : sn251 [ρ 0, ρ 1, ρ 2, ρ 3, ρ 4, ρ 5, ρ 6, ρ 7, ρ 8, ρ 9, ρ 10, ρ 11, ρ 12, ρ 13, ρ 14, ρ 15, ρ 16, ρ 17, ρ 18, ρ 25, ρ 26, ρ 27, ρ 28, ρ 29, ρ 30, ρ 31, ρ 32, ρ 33, ρ 34, ρ 35, ρ 36, ρ 37, ρ 38, ρ 39, ρ 40, ρ 41, ρ 42] (γ 2) 0 0 (γ 3) := hS251 _ _ _ _ _ l2
  show sn253 [ρ 0, ρ 1, ρ 2, ρ 3, ρ 4, ρ 5, ρ 6, ρ 7, ρ 8, ρ 9, ρ 10, ρ 11, ρ 12, ρ 13, ρ 14, ρ 15, ρ 16, ρ 17, ρ 18, ρ 19, ρ 20, ρ 21, ρ 22, ρ 23, ρ 24, ρ 25, ρ 26, ρ 27, ρ 28, ρ 29, ρ 30, ρ 31, ρ 32, ρ 33, ρ 34, ρ 35, ρ 36, ρ 37, ρ 38, ρ 39, ρ 40, ρ 41, ρ 42] (γ 0) 0 0 (γ 3)
  refine Eq.symm ?_
  show fn253 [] (γ 0) = _
  unfold fn253
  refine (zLet_eq m4).trans ?_
  refine (zLet_eq m13).trans ?_
  refine (zLet_eq m19).trans ?_
  refine (if_neg w_0).trans ?_
  refine (zLet_eq (show fn132 [ρ 4, 4] (γ 0) = (0, 9 * ρ 4 + 5, γ 1) from l0.symm)).trans ?_
  refine (zLet_eq (show _ = γ 1 from rfl)).trans ?_
  refine (if_pos w_1).trans ?_
  refine (if_pos w_2).trans ?_
  refine (if_pos w_3).trans ?_
  refine (zLet_eq (show fn230 [9 * ρ 4 + 5] (γ 1) = (0, 1, γ 2) from l1.symm)).trans ?_
  refine (zLet_eq (show _ = γ 2 from rfl)).trans ?_
  refine (if_pos zQ1_).trans ?_
  refine (zLet_eq (show fn251 [] (γ 2) = (0, 0, γ 3) from l2.symm)).trans ?_
  refine (zLet_eq (show _ = γ 3 from rfl)).trans ?_
  refine (if_pos (show (0 : Nat) = 0 by decide)).trans ?_
  rfl
theorem vn253_4 {S : Nat → zSpc} (hS132 : ∀ x g o v gz, S 132 x g o v gz → sn132 x g o v gz) (hS228 : ∀ x g o v gz, S 228 x g o v gz → sn228 x g o v gz) (hS229 : ∀ x g o v gz, S 229 x g o v gz → sn229 x g o v gz) (hS230 : ∀ x g o v gz, S 230 x g o v gz → sn230 x g o v gz) (hS231 : ∀ x g o v gz, S 231 x g o v gz → sn231 x g o v gz) (hS244 : ∀ x g o v gz, S 244 x g o v gz → sn244 x g o v gz) (hS251 : ∀ x g o v gz, S 251 x g o v gz → sn251 x g o v gz) (hS252 : ∀ x g o v gz, S 252 x g o v gz → sn252 x g o v gz) {a : List Int} {g : rHp} : ∀ (ρ : Nat → Int) (γ : Nat → rHp), zO 43 S a g q253_4 ρ γ → zGl (fun _ _ _ => True) (sn253 a g) q253_4 ρ γ := by
  intro ρ γ h
  obtain ⟨ha, hg, hr, hf, hm, hc, hl⟩ := h
  have ha : a = [ρ 0, ρ 1, ρ 2, ρ 3, ρ 4, ρ 5, ρ 6, ρ 7, ρ 8, ρ 9, ρ 10, ρ 11, ρ 12, ρ 13, ρ 14, ρ 15, ρ 16, ρ 17, ρ 18, ρ 19, ρ 20, ρ 21, ρ 22, ρ 23, ρ 24, ρ 25, ρ 26, ρ 27, ρ 28, ρ 29, ρ 30, ρ 31, ρ 32, ρ 33, ρ 34, ρ 35, ρ 36, ρ 37, ρ 38, ρ 39, ρ 40, ρ 41, ρ 42] := ha
  subst ha
  subst hg
  obtain ⟨-, -, -, -, -, -, -, -, -, -, -, -, -, r13, -, -, -, -, -, r19, -⟩ := hr
  have r13 : (5 : Int) ≤ ρ 13 ∧ ρ 13 ≤ 8 := r13
  have r19 : (3 : Int) ≤ ρ 19 ∧ ρ 19 ≤ 3 := r19
  obtain ⟨w_0, w_1, w_2, w_3⟩ : (¬ (4 ≥ ρ 13)) ∧ (ρ 19 ≠ 1) ∧ (0 ≤ -ρ 19 + 3) ∧ (ρ 19 ≠ 2) := ⟨by omega, by omega, by omega, by omega⟩
  obtain ⟨-, -, -, -, m4, -, -, -, -, -, -, -, -, m13, -, -, -, -, -, m19, -⟩ := hm
  have m4 : γ 0 6 0 7 = ρ 4 := m4
  have m13 : γ 0 9 (ρ 4) 2 = ρ 13 := m13
  have m19 : γ 0 10 (9 * ρ 4 + 5) 4 = ρ 19 := m19
  obtain ⟨l0, l1, l2, -⟩ := hl
  have l0 : sn132 [ρ 4, 4] (γ 0) 0 (9 * ρ 4 + 5) (γ 1) := hS132 _ _ _ _ _ l0
  have l1 : sn230 [9 * ρ 4 + 5, ρ 19] (γ 1) 0 1 (γ 2) := hS230 _ _ _ _ _ l1
  have l2 : sn251 [ρ 0, ρ 1, ρ 2, ρ 3, ρ 4, ρ 5, ρ 6, ρ 7, ρ 8, ρ 9, ρ 10, ρ 11, ρ 12, ρ 13, ρ 14, ρ 15, ρ 16, ρ 17, ρ 18, ρ 25, ρ 26, ρ 27, ρ 28, ρ 29, ρ 30, ρ 31, ρ 32, ρ 33, ρ 34, ρ 35, ρ 36, ρ 37, ρ 38, ρ 39, ρ 40, ρ 41, ρ 42] (γ 2) 1 0 (γ 3) := hS251 _ _ _ _ _ l2
  show sn253 [ρ 0, ρ 1, ρ 2, ρ 3, ρ 4, ρ 5, ρ 6, ρ 7, ρ 8, ρ 9, ρ 10, ρ 11, ρ 12, ρ 13, ρ 14, ρ 15, ρ 16, ρ 17, ρ 18, ρ 19, ρ 20, ρ 21, ρ 22, ρ 23, ρ 24, ρ 25, ρ 26, ρ 27, ρ 28, ρ 29, ρ 30, ρ 31, ρ 32, ρ 33, ρ 34, ρ 35, ρ 36, ρ 37, ρ 38, ρ 39, ρ 40, ρ 41, ρ 42] (γ 0) 1 0 (γ 3)
  refine Eq.symm ?_
  show fn253 [] (γ 0) = _
  unfold fn253
  refine (zLet_eq m4).trans ?_
  refine (zLet_eq m13).trans ?_
  refine (zLet_eq m19).trans ?_
  refine (if_neg w_0).trans ?_
  refine (zLet_eq (show fn132 [ρ 4, 4] (γ 0) = (0, 9 * ρ 4 + 5, γ 1) from l0.symm)).trans ?_
  refine (zLet_eq (show _ = γ 1 from rfl)).trans ?_
  refine (if_pos w_1).trans ?_
  refine (if_pos w_2).trans ?_
  refine (if_pos w_3).trans ?_
  refine (zLet_eq (show fn230 [9 * ρ 4 + 5] (γ 1) = (0, 1, γ 2) from l1.symm)).trans ?_
  refine (zLet_eq (show _ = γ 2 from rfl)).trans ?_
  refine (if_pos zQ1_).trans ?_
  refine (zLet_eq (show fn251 [] (γ 2) = (1, 0, γ 3) from l2.symm)).trans ?_
  refine (zLet_eq (show _ = γ 3 from rfl)).trans ?_
  refine (if_neg (show ¬ (1 : Nat) = 0 by decide)).trans ?_
  refine (if_pos (show (1 : Nat) = 1 by decide)).trans ?_
  rfl
theorem vn253_5 {S : Nat → zSpc} (hS132 : ∀ x g o v gz, S 132 x g o v gz → sn132 x g o v gz) (hS228 : ∀ x g o v gz, S 228 x g o v gz → sn228 x g o v gz) (hS229 : ∀ x g o v gz, S 229 x g o v gz → sn229 x g o v gz) (hS230 : ∀ x g o v gz, S 230 x g o v gz → sn230 x g o v gz) (hS231 : ∀ x g o v gz, S 231 x g o v gz → sn231 x g o v gz) (hS244 : ∀ x g o v gz, S 244 x g o v gz → sn244 x g o v gz) (hS251 : ∀ x g o v gz, S 251 x g o v gz → sn251 x g o v gz) (hS252 : ∀ x g o v gz, S 252 x g o v gz → sn252 x g o v gz) {a : List Int} {g : rHp} : ∀ (ρ : Nat → Int) (γ : Nat → rHp), zO 43 S a g q253_5 ρ γ → zGl (fun _ _ _ => True) (sn253 a g) q253_5 ρ γ := by
  intro ρ γ h
  obtain ⟨ha, hg, hr, hf, hm, hc, hl⟩ := h
  have ha : a = [ρ 0, ρ 1, ρ 2, ρ 3, ρ 4, ρ 5, ρ 6, ρ 7, ρ 8, ρ 9, ρ 10, ρ 11, ρ 12, ρ 13, ρ 14, ρ 15, ρ 16, ρ 17, ρ 18, ρ 19, ρ 20, ρ 21, ρ 22, ρ 23, ρ 24, ρ 25, ρ 26, ρ 27, ρ 28, ρ 29, ρ 30, ρ 31, ρ 32, ρ 33, ρ 34, ρ 35, ρ 36, ρ 37, ρ 38, ρ 39, ρ 40, ρ 41, ρ 42] := ha
  subst ha
  subst hg
  obtain ⟨-, -, -, -, -, -, -, -, -, -, -, -, -, r13, -, -, -, -, -, r19, -⟩ := hr
  have r13 : (6 : Int) ≤ ρ 13 ∧ ρ 13 ≤ 8 := r13
  have r19 : (3 : Int) ≤ ρ 19 ∧ ρ 19 ≤ 3 := r19
  obtain ⟨w_0, w_1, w_2, w_3⟩ : (¬ (4 ≥ ρ 13)) ∧ (ρ 19 ≠ 1) ∧ (0 ≤ -ρ 19 + 3) ∧ (ρ 19 ≠ 2) := ⟨by omega, by omega, by omega, by omega⟩
  obtain ⟨-, -, -, -, m4, -, -, -, -, -, -, -, -, m13, -, -, -, -, -, m19, -⟩ := hm
  have m4 : γ 0 6 0 7 = ρ 4 := m4
  have m13 : γ 0 9 (ρ 4) 2 = ρ 13 := m13
  have m19 : γ 0 10 (9 * ρ 4 + 5) 4 = ρ 19 := m19
  obtain ⟨l0, l1, l2, -⟩ := hl
  have l0 : sn132 [ρ 4, 4] (γ 0) 0 (9 * ρ 4 + 5) (γ 1) := hS132 _ _ _ _ _ l0
  have l1 : sn230 [9 * ρ 4 + 5, ρ 19] (γ 1) 0 1 (γ 2) := hS230 _ _ _ _ _ l1
  have l2 : sn251 [ρ 0, ρ 1, ρ 2, ρ 3, ρ 4, ρ 5, ρ 6, ρ 7, ρ 8, ρ 9, ρ 10, ρ 11, ρ 12, ρ 13, ρ 14, ρ 15, ρ 16, ρ 17, ρ 18, ρ 25, ρ 26, ρ 27, ρ 28, ρ 29, ρ 30, ρ 31, ρ 32, ρ 33, ρ 34, ρ 35, ρ 36, ρ 37, ρ 38, ρ 39, ρ 40, ρ 41, ρ 42] (γ 2) 4 0 (γ 3) := hS251 _ _ _ _ _ l2
  show sn253 [ρ 0, ρ 1, ρ 2, ρ 3, ρ 4, ρ 5, ρ 6, ρ 7, ρ 8, ρ 9, ρ 10, ρ 11, ρ 12, ρ 13, ρ 14, ρ 15, ρ 16, ρ 17, ρ 18, ρ 19, ρ 20, ρ 21, ρ 22, ρ 23, ρ 24, ρ 25, ρ 26, ρ 27, ρ 28, ρ 29, ρ 30, ρ 31, ρ 32, ρ 33, ρ 34, ρ 35, ρ 36, ρ 37, ρ 38, ρ 39, ρ 40, ρ 41, ρ 42] (γ 0) 4 0 (γ 3)
  refine Eq.symm ?_
  show fn253 [] (γ 0) = _
  unfold fn253
  refine (zLet_eq m4).trans ?_
  refine (zLet_eq m13).trans ?_
  refine (zLet_eq m19).trans ?_
  refine (if_neg w_0).trans ?_
  refine (zLet_eq (show fn132 [ρ 4, 4] (γ 0) = (0, 9 * ρ 4 + 5, γ 1) from l0.symm)).trans ?_
  refine (zLet_eq (show _ = γ 1 from rfl)).trans ?_
  refine (if_pos w_1).trans ?_
  refine (if_pos w_2).trans ?_
  refine (if_pos w_3).trans ?_
  refine (zLet_eq (show fn230 [9 * ρ 4 + 5] (γ 1) = (0, 1, γ 2) from l1.symm)).trans ?_
  refine (zLet_eq (show _ = γ 2 from rfl)).trans ?_
  refine (if_pos zQ1_).trans ?_
  refine (zLet_eq (show fn251 [] (γ 2) = (4, 0, γ 3) from l2.symm)).trans ?_
  refine (zLet_eq (show _ = γ 3 from rfl)).trans ?_
  refine (if_neg (show ¬ (4 : Nat) = 0 by decide)).trans ?_
  refine (if_neg (show ¬ (4 : Nat) = 1 by decide)).trans ?_
  rfl
theorem vn253_6 {S : Nat → zSpc} (hS132 : ∀ x g o v gz, S 132 x g o v gz → sn132 x g o v gz) (hS228 : ∀ x g o v gz, S 228 x g o v gz → sn228 x g o v gz) (hS229 : ∀ x g o v gz, S 229 x g o v gz → sn229 x g o v gz) (hS230 : ∀ x g o v gz, S 230 x g o v gz → sn230 x g o v gz) (hS231 : ∀ x g o v gz, S 231 x g o v gz → sn231 x g o v gz) (hS244 : ∀ x g o v gz, S 244 x g o v gz → sn244 x g o v gz) (hS251 : ∀ x g o v gz, S 251 x g o v gz → sn251 x g o v gz) (hS252 : ∀ x g o v gz, S 252 x g o v gz → sn252 x g o v gz) {a : List Int} {g : rHp} : ∀ (ρ : Nat → Int) (γ : Nat → rHp), zO 43 S a g q253_6 ρ γ → zGl (fun _ _ _ => True) (sn253 a g) q253_6 ρ γ := by
  intro ρ γ h
  obtain ⟨ha, hg, hr, hf, hm, hc, hl⟩ := h
  have ha : a = [ρ 0, ρ 1, ρ 2, ρ 3, ρ 4, ρ 5, ρ 6, ρ 7, ρ 8, ρ 9, ρ 10, ρ 11, ρ 12, ρ 13, ρ 14, ρ 15, ρ 16, ρ 17, ρ 18, ρ 19, ρ 20, ρ 21, ρ 22, ρ 23, ρ 24, ρ 25, ρ 26, ρ 27, ρ 28, ρ 29, ρ 30, ρ 31, ρ 32, ρ 33, ρ 34, ρ 35, ρ 36, ρ 37, ρ 38, ρ 39, ρ 40, ρ 41, ρ 42] := ha
  subst ha
  subst hg
  obtain ⟨-, -, -, -, -, -, -, -, -, -, -, -, -, r13, -, -, -, -, -, r19, -⟩ := hr
  have r13 : (5 : Int) ≤ ρ 13 ∧ ρ 13 ≤ 8 := r13
  have r19 : (2 : Int) ≤ ρ 19 ∧ ρ 19 ≤ 2 := r19
  obtain ⟨w_0, w_1, w_2, w_3⟩ : (¬ (4 ≥ ρ 13)) ∧ (ρ 19 ≠ 1) ∧ (0 ≤ -ρ 19 + 3) ∧ (¬ (ρ 19 ≠ 2)) := ⟨by omega, by omega, by omega, by omega⟩
  obtain ⟨-, -, -, -, m4, -, -, -, -, -, -, -, -, m13, -, -, -, -, -, m19, -⟩ := hm
  have m4 : γ 0 6 0 7 = ρ 4 := m4
  have m13 : γ 0 9 (ρ 4) 2 = ρ 13 := m13
  have m19 : γ 0 10 (9 * ρ 4 + 5) 4 = ρ 19 := m19
  obtain ⟨l0, l1, l2, -⟩ := hl
  have l0 : sn132 [ρ 4, 4] (γ 0) 0 (9 * ρ 4 + 5) (γ 1) := hS132 _ _ _ _ _ l0
  have l1 : sn228 [9 * ρ 4 + 5, ρ 6, ρ 10, ρ 20, ρ 21, ρ 22] (γ 1) 0 0 (γ 2) := hS228 _ _ _ _ _ l1
  have l2 : sn251 [ρ 0, ρ 1, ρ 2, ρ 3, ρ 4, ρ 5, ρ 6, ρ 7, ρ 8, ρ 9, ρ 10, ρ 11, ρ 12, ρ 13, ρ 14, ρ 15, ρ 16, ρ 17, ρ 18, ρ 25, ρ 26, ρ 27, ρ 28, ρ 29, ρ 30, ρ 31, ρ 32, ρ 33, ρ 34, ρ 35, ρ 36, ρ 37, ρ 38, ρ 39, ρ 40, ρ 41, ρ 42] (γ 2) 0 0 (γ 3) := hS251 _ _ _ _ _ l2
  show sn253 [ρ 0, ρ 1, ρ 2, ρ 3, ρ 4, ρ 5, ρ 6, ρ 7, ρ 8, ρ 9, ρ 10, ρ 11, ρ 12, ρ 13, ρ 14, ρ 15, ρ 16, ρ 17, ρ 18, ρ 19, ρ 20, ρ 21, ρ 22, ρ 23, ρ 24, ρ 25, ρ 26, ρ 27, ρ 28, ρ 29, ρ 30, ρ 31, ρ 32, ρ 33, ρ 34, ρ 35, ρ 36, ρ 37, ρ 38, ρ 39, ρ 40, ρ 41, ρ 42] (γ 0) 0 0 (γ 3)
  refine Eq.symm ?_
  show fn253 [] (γ 0) = _
  unfold fn253
  refine (zLet_eq m4).trans ?_
  refine (zLet_eq m13).trans ?_
  refine (zLet_eq m19).trans ?_
  refine (if_neg w_0).trans ?_
  refine (zLet_eq (show fn132 [ρ 4, 4] (γ 0) = (0, 9 * ρ 4 + 5, γ 1) from l0.symm)).trans ?_
  refine (zLet_eq (show _ = γ 1 from rfl)).trans ?_
  refine (if_pos w_1).trans ?_
  refine (if_pos w_2).trans ?_
  refine (if_neg w_3).trans ?_
  refine (zLet_eq (show fn228 [9 * ρ 4 + 5] (γ 1) = (0, 0, γ 2) from l1.symm)).trans ?_
  refine (zLet_eq (show _ = γ 2 from rfl)).trans ?_
  refine (if_neg zQ0_).trans ?_
  refine (zLet_eq (show fn251 [] (γ 2) = (0, 0, γ 3) from l2.symm)).trans ?_
  refine (zLet_eq (show _ = γ 3 from rfl)).trans ?_
  refine (if_pos (show (0 : Nat) = 0 by decide)).trans ?_
  rfl
theorem vn253_7 {S : Nat → zSpc} (hS132 : ∀ x g o v gz, S 132 x g o v gz → sn132 x g o v gz) (hS228 : ∀ x g o v gz, S 228 x g o v gz → sn228 x g o v gz) (hS229 : ∀ x g o v gz, S 229 x g o v gz → sn229 x g o v gz) (hS230 : ∀ x g o v gz, S 230 x g o v gz → sn230 x g o v gz) (hS231 : ∀ x g o v gz, S 231 x g o v gz → sn231 x g o v gz) (hS244 : ∀ x g o v gz, S 244 x g o v gz → sn244 x g o v gz) (hS251 : ∀ x g o v gz, S 251 x g o v gz → sn251 x g o v gz) (hS252 : ∀ x g o v gz, S 252 x g o v gz → sn252 x g o v gz) {a : List Int} {g : rHp} : ∀ (ρ : Nat → Int) (γ : Nat → rHp), zO 43 S a g q253_7 ρ γ → zGl (fun _ _ _ => True) (sn253 a g) q253_7 ρ γ := by
  intro ρ γ h
  obtain ⟨ha, hg, hr, hf, hm, hc, hl⟩ := h
  have ha : a = [ρ 0, ρ 1, ρ 2, ρ 3, ρ 4, ρ 5, ρ 6, ρ 7, ρ 8, ρ 9, ρ 10, ρ 11, ρ 12, ρ 13, ρ 14, ρ 15, ρ 16, ρ 17, ρ 18, ρ 19, ρ 20, ρ 21, ρ 22, ρ 23, ρ 24, ρ 25, ρ 26, ρ 27, ρ 28, ρ 29, ρ 30, ρ 31, ρ 32, ρ 33, ρ 34, ρ 35, ρ 36, ρ 37, ρ 38, ρ 39, ρ 40, ρ 41, ρ 42] := ha
  subst ha
  subst hg
  obtain ⟨-, -, -, -, -, -, -, -, -, -, -, -, -, r13, -, -, -, -, -, r19, -⟩ := hr
  have r13 : (5 : Int) ≤ ρ 13 ∧ ρ 13 ≤ 8 := r13
  have r19 : (2 : Int) ≤ ρ 19 ∧ ρ 19 ≤ 2 := r19
  obtain ⟨w_0, w_1, w_2, w_3⟩ : (¬ (4 ≥ ρ 13)) ∧ (ρ 19 ≠ 1) ∧ (0 ≤ -ρ 19 + 3) ∧ (¬ (ρ 19 ≠ 2)) := ⟨by omega, by omega, by omega, by omega⟩
  obtain ⟨-, -, -, -, m4, -, -, -, -, -, -, -, -, m13, -, -, -, -, -, m19, -⟩ := hm
  have m4 : γ 0 6 0 7 = ρ 4 := m4
  have m13 : γ 0 9 (ρ 4) 2 = ρ 13 := m13
  have m19 : γ 0 10 (9 * ρ 4 + 5) 4 = ρ 19 := m19
  obtain ⟨l0, l1, l2, -⟩ := hl
  have l0 : sn132 [ρ 4, 4] (γ 0) 0 (9 * ρ 4 + 5) (γ 1) := hS132 _ _ _ _ _ l0
  have l1 : sn228 [9 * ρ 4 + 5, ρ 6, ρ 10, ρ 20, ρ 21, ρ 22] (γ 1) 0 0 (γ 2) := hS228 _ _ _ _ _ l1
  have l2 : sn251 [ρ 0, ρ 1, ρ 2, ρ 3, ρ 4, ρ 5, ρ 6, ρ 7, ρ 8, ρ 9, ρ 10, ρ 11, ρ 12, ρ 13, ρ 14, ρ 15, ρ 16, ρ 17, ρ 18, ρ 25, ρ 26, ρ 27, ρ 28, ρ 29, ρ 30, ρ 31, ρ 32, ρ 33, ρ 34, ρ 35, ρ 36, ρ 37, ρ 38, ρ 39, ρ 40, ρ 41, ρ 42] (γ 2) 1 0 (γ 3) := hS251 _ _ _ _ _ l2
  show sn253 [ρ 0, ρ 1, ρ 2, ρ 3, ρ 4, ρ 5, ρ 6, ρ 7, ρ 8, ρ 9, ρ 10, ρ 11, ρ 12, ρ 13, ρ 14, ρ 15, ρ 16, ρ 17, ρ 18, ρ 19, ρ 20, ρ 21, ρ 22, ρ 23, ρ 24, ρ 25, ρ 26, ρ 27, ρ 28, ρ 29, ρ 30, ρ 31, ρ 32, ρ 33, ρ 34, ρ 35, ρ 36, ρ 37, ρ 38, ρ 39, ρ 40, ρ 41, ρ 42] (γ 0) 1 0 (γ 3)
  refine Eq.symm ?_
  show fn253 [] (γ 0) = _
  unfold fn253
  refine (zLet_eq m4).trans ?_
  refine (zLet_eq m13).trans ?_
  refine (zLet_eq m19).trans ?_
  refine (if_neg w_0).trans ?_
  refine (zLet_eq (show fn132 [ρ 4, 4] (γ 0) = (0, 9 * ρ 4 + 5, γ 1) from l0.symm)).trans ?_
  refine (zLet_eq (show _ = γ 1 from rfl)).trans ?_
  refine (if_pos w_1).trans ?_
  refine (if_pos w_2).trans ?_
  refine (if_neg w_3).trans ?_
  refine (zLet_eq (show fn228 [9 * ρ 4 + 5] (γ 1) = (0, 0, γ 2) from l1.symm)).trans ?_
  refine (zLet_eq (show _ = γ 2 from rfl)).trans ?_
  refine (if_neg zQ0_).trans ?_
  refine (zLet_eq (show fn251 [] (γ 2) = (1, 0, γ 3) from l2.symm)).trans ?_
  refine (zLet_eq (show _ = γ 3 from rfl)).trans ?_
  refine (if_neg (show ¬ (1 : Nat) = 0 by decide)).trans ?_
  refine (if_pos (show (1 : Nat) = 1 by decide)).trans ?_
  rfl
theorem vn253_8 {S : Nat → zSpc} (hS132 : ∀ x g o v gz, S 132 x g o v gz → sn132 x g o v gz) (hS228 : ∀ x g o v gz, S 228 x g o v gz → sn228 x g o v gz) (hS229 : ∀ x g o v gz, S 229 x g o v gz → sn229 x g o v gz) (hS230 : ∀ x g o v gz, S 230 x g o v gz → sn230 x g o v gz) (hS231 : ∀ x g o v gz, S 231 x g o v gz → sn231 x g o v gz) (hS244 : ∀ x g o v gz, S 244 x g o v gz → sn244 x g o v gz) (hS251 : ∀ x g o v gz, S 251 x g o v gz → sn251 x g o v gz) (hS252 : ∀ x g o v gz, S 252 x g o v gz → sn252 x g o v gz) {a : List Int} {g : rHp} : ∀ (ρ : Nat → Int) (γ : Nat → rHp), zO 43 S a g q253_8 ρ γ → zGl (fun _ _ _ => True) (sn253 a g) q253_8 ρ γ := by
  intro ρ γ h
  obtain ⟨ha, hg, hr, hf, hm, hc, hl⟩ := h
  have ha : a = [ρ 0, ρ 1, ρ 2, ρ 3, ρ 4, ρ 5, ρ 6, ρ 7, ρ 8, ρ 9, ρ 10, ρ 11, ρ 12, ρ 13, ρ 14, ρ 15, ρ 16, ρ 17, ρ 18, ρ 19, ρ 20, ρ 21, ρ 22, ρ 23, ρ 24, ρ 25, ρ 26, ρ 27, ρ 28, ρ 29, ρ 30, ρ 31, ρ 32, ρ 33, ρ 34, ρ 35, ρ 36, ρ 37, ρ 38, ρ 39, ρ 40, ρ 41, ρ 42] := ha
  subst ha
  subst hg
  obtain ⟨-, -, -, -, -, -, -, -, -, -, -, -, -, r13, -, -, -, -, -, r19, -⟩ := hr
  have r13 : (6 : Int) ≤ ρ 13 ∧ ρ 13 ≤ 8 := r13
  have r19 : (2 : Int) ≤ ρ 19 ∧ ρ 19 ≤ 2 := r19
  obtain ⟨w_0, w_1, w_2, w_3⟩ : (¬ (4 ≥ ρ 13)) ∧ (ρ 19 ≠ 1) ∧ (0 ≤ -ρ 19 + 3) ∧ (¬ (ρ 19 ≠ 2)) := ⟨by omega, by omega, by omega, by omega⟩
  obtain ⟨-, -, -, -, m4, -, -, -, -, -, -, -, -, m13, -, -, -, -, -, m19, -⟩ := hm
  have m4 : γ 0 6 0 7 = ρ 4 := m4
  have m13 : γ 0 9 (ρ 4) 2 = ρ 13 := m13
  have m19 : γ 0 10 (9 * ρ 4 + 5) 4 = ρ 19 := m19
  obtain ⟨l0, l1, l2, -⟩ := hl
  have l0 : sn132 [ρ 4, 4] (γ 0) 0 (9 * ρ 4 + 5) (γ 1) := hS132 _ _ _ _ _ l0
  have l1 : sn228 [9 * ρ 4 + 5, ρ 6, ρ 10, ρ 20, ρ 21, ρ 22] (γ 1) 0 0 (γ 2) := hS228 _ _ _ _ _ l1
  have l2 : sn251 [ρ 0, ρ 1, ρ 2, ρ 3, ρ 4, ρ 5, ρ 6, ρ 7, ρ 8, ρ 9, ρ 10, ρ 11, ρ 12, ρ 13, ρ 14, ρ 15, ρ 16, ρ 17, ρ 18, ρ 25, ρ 26, ρ 27, ρ 28, ρ 29, ρ 30, ρ 31, ρ 32, ρ 33, ρ 34, ρ 35, ρ 36, ρ 37, ρ 38, ρ 39, ρ 40, ρ 41, ρ 42] (γ 2) 4 0 (γ 3) := hS251 _ _ _ _ _ l2
  show sn253 [ρ 0, ρ 1, ρ 2, ρ 3, ρ 4, ρ 5, ρ 6, ρ 7, ρ 8, ρ 9, ρ 10, ρ 11, ρ 12, ρ 13, ρ 14, ρ 15, ρ 16, ρ 17, ρ 18, ρ 19, ρ 20, ρ 21, ρ 22, ρ 23, ρ 24, ρ 25, ρ 26, ρ 27, ρ 28, ρ 29, ρ 30, ρ 31, ρ 32, ρ 33, ρ 34, ρ 35, ρ 36, ρ 37, ρ 38, ρ 39, ρ 40, ρ 41, ρ 42] (γ 0) 4 0 (γ 3)
  refine Eq.symm ?_
  show fn253 [] (γ 0) = _
  unfold fn253
  refine (zLet_eq m4).trans ?_
  refine (zLet_eq m13).trans ?_
  refine (zLet_eq m19).trans ?_
  refine (if_neg w_0).trans ?_
  refine (zLet_eq (show fn132 [ρ 4, 4] (γ 0) = (0, 9 * ρ 4 + 5, γ 1) from l0.symm)).trans ?_
  refine (zLet_eq (show _ = γ 1 from rfl)).trans ?_
  refine (if_pos w_1).trans ?_
  refine (if_pos w_2).trans ?_
  refine (if_neg w_3).trans ?_
  refine (zLet_eq (show fn228 [9 * ρ 4 + 5] (γ 1) = (0, 0, γ 2) from l1.symm)).trans ?_
  refine (zLet_eq (show _ = γ 2 from rfl)).trans ?_
  refine (if_neg zQ0_).trans ?_
  refine (zLet_eq (show fn251 [] (γ 2) = (4, 0, γ 3) from l2.symm)).trans ?_
  refine (zLet_eq (show _ = γ 3 from rfl)).trans ?_
  refine (if_neg (show ¬ (4 : Nat) = 0 by decide)).trans ?_
  refine (if_neg (show ¬ (4 : Nat) = 1 by decide)).trans ?_
  rfl
theorem vn253_9 {S : Nat → zSpc} (hS132 : ∀ x g o v gz, S 132 x g o v gz → sn132 x g o v gz) (hS228 : ∀ x g o v gz, S 228 x g o v gz → sn228 x g o v gz) (hS229 : ∀ x g o v gz, S 229 x g o v gz → sn229 x g o v gz) (hS230 : ∀ x g o v gz, S 230 x g o v gz → sn230 x g o v gz) (hS231 : ∀ x g o v gz, S 231 x g o v gz → sn231 x g o v gz) (hS244 : ∀ x g o v gz, S 244 x g o v gz → sn244 x g o v gz) (hS251 : ∀ x g o v gz, S 251 x g o v gz → sn251 x g o v gz) (hS252 : ∀ x g o v gz, S 252 x g o v gz → sn252 x g o v gz) {a : List Int} {g : rHp} : ∀ (ρ : Nat → Int) (γ : Nat → rHp), zO 43 S a g q253_9 ρ γ → zGl (fun _ _ _ => True) (sn253 a g) q253_9 ρ γ := by
  intro ρ γ h
  obtain ⟨ha, hg, hr, hf, hm, hc, hl⟩ := h
  have ha : a = [ρ 0, ρ 1, ρ 2, ρ 3, ρ 4, ρ 5, ρ 6, ρ 7, ρ 8, ρ 9, ρ 10, ρ 11, ρ 12, ρ 13, ρ 14, ρ 15, ρ 16, ρ 17, ρ 18, ρ 19, ρ 20, ρ 21, ρ 22, ρ 23, ρ 24, ρ 25, ρ 26, ρ 27, ρ 28, ρ 29, ρ 30, ρ 31, ρ 32, ρ 33, ρ 34, ρ 35, ρ 36, ρ 37, ρ 38, ρ 39, ρ 40, ρ 41, ρ 42] := ha
  subst ha
  subst hg
  obtain ⟨-, -, -, -, -, -, -, -, -, -, -, -, -, r13, -, -, -, -, -, r19, -⟩ := hr
  have r13 : (5 : Int) ≤ ρ 13 ∧ ρ 13 ≤ 8 := r13
  have r19 : (2 : Int) ≤ ρ 19 ∧ ρ 19 ≤ 2 := r19
  obtain ⟨w_0, w_1, w_2, w_3⟩ : (¬ (4 ≥ ρ 13)) ∧ (ρ 19 ≠ 1) ∧ (0 ≤ -ρ 19 + 3) ∧ (¬ (ρ 19 ≠ 2)) := ⟨by omega, by omega, by omega, by omega⟩
  obtain ⟨-, -, -, -, m4, -, -, -, -, -, -, -, -, m13, -, -, -, -, -, m19, -⟩ := hm
  have m4 : γ 0 6 0 7 = ρ 4 := m4
  have m13 : γ 0 9 (ρ 4) 2 = ρ 13 := m13
  have m19 : γ 0 10 (9 * ρ 4 + 5) 4 = ρ 19 := m19
  obtain ⟨l0, l1, -⟩ := hl
  have l0 : sn132 [ρ 4, 4] (γ 0) 0 (9 * ρ 4 + 5) (γ 1) := hS132 _ _ _ _ _ l0
  have l1 : sn228 [9 * ρ 4 + 5, ρ 6, ρ 10, ρ 20, ρ 21, ρ 22] (γ 1) 0 1 (γ 2) := hS228 _ _ _ _ _ l1
  show sn253 [ρ 0, ρ 1, ρ 2, ρ 3, ρ 4, ρ 5, ρ 6, ρ 7, ρ 8, ρ 9, ρ 10, ρ 11, ρ 12, ρ 13, ρ 14, ρ 15, ρ 16, ρ 17, ρ 18, ρ 19, ρ 20, ρ 21, ρ 22, ρ 23, ρ 24, ρ 25, ρ 26, ρ 27, ρ 28, ρ 29, ρ 30, ρ 31, ρ 32, ρ 33, ρ 34, ρ 35, ρ 36, ρ 37, ρ 38, ρ 39, ρ 40, ρ 41, ρ 42] (γ 0) 0 0 (γ 2)
  refine Eq.symm ?_
  show fn253 [] (γ 0) = _
  unfold fn253
  refine (zLet_eq m4).trans ?_
  refine (zLet_eq m13).trans ?_
  refine (zLet_eq m19).trans ?_
  refine (if_neg w_0).trans ?_
  refine (zLet_eq (show fn132 [ρ 4, 4] (γ 0) = (0, 9 * ρ 4 + 5, γ 1) from l0.symm)).trans ?_
  refine (zLet_eq (show _ = γ 1 from rfl)).trans ?_
  refine (if_pos w_1).trans ?_
  refine (if_pos w_2).trans ?_
  refine (if_neg w_3).trans ?_
  refine (zLet_eq (show fn228 [9 * ρ 4 + 5] (γ 1) = (0, 1, γ 2) from l1.symm)).trans ?_
  refine (zLet_eq (show _ = γ 2 from rfl)).trans ?_
  refine (if_pos zQ1_).trans ?_
  rfl
theorem vn253_10 {S : Nat → zSpc} (hS132 : ∀ x g o v gz, S 132 x g o v gz → sn132 x g o v gz) (hS228 : ∀ x g o v gz, S 228 x g o v gz → sn228 x g o v gz) (hS229 : ∀ x g o v gz, S 229 x g o v gz → sn229 x g o v gz) (hS230 : ∀ x g o v gz, S 230 x g o v gz → sn230 x g o v gz) (hS231 : ∀ x g o v gz, S 231 x g o v gz → sn231 x g o v gz) (hS244 : ∀ x g o v gz, S 244 x g o v gz → sn244 x g o v gz) (hS251 : ∀ x g o v gz, S 251 x g o v gz → sn251 x g o v gz) (hS252 : ∀ x g o v gz, S 252 x g o v gz → sn252 x g o v gz) {a : List Int} {g : rHp} : ∀ (ρ : Nat → Int) (γ : Nat → rHp), zO 43 S a g q253_10 ρ γ → zGl (fun _ _ _ => True) (sn253 a g) q253_10 ρ γ := by
  intro ρ γ h
  obtain ⟨ha, hg, hr, hf, hm, hc, hl⟩ := h
  have ha : a = [ρ 0, ρ 1, ρ 2, ρ 3, ρ 4, ρ 5, ρ 6, ρ 7, ρ 8, ρ 9, ρ 10, ρ 11, ρ 12, ρ 13, ρ 14, ρ 15, ρ 16, ρ 17, ρ 18, ρ 19, ρ 20, ρ 21, ρ 22, ρ 23, ρ 24, ρ 25, ρ 26, ρ 27, ρ 28, ρ 29, ρ 30, ρ 31, ρ 32, ρ 33, ρ 34, ρ 35, ρ 36, ρ 37, ρ 38, ρ 39, ρ 40, ρ 41, ρ 42] := ha
  subst ha
  subst hg
  obtain ⟨-, -, -, -, -, -, -, -, -, -, -, -, -, r13, -, -, -, -, -, r19, -⟩ := hr
  have r13 : (5 : Int) ≤ ρ 13 ∧ ρ 13 ≤ 8 := r13
  have r19 : (4 : Int) ≤ ρ 19 ∧ ρ 19 ≤ 5 := r19
  obtain ⟨w_0, w_1, w_2, w_3⟩ : (¬ (4 ≥ ρ 13)) ∧ (ρ 19 ≠ 1) ∧ (¬ (0 ≤ -ρ 19 + 3)) ∧ (0 ≤ -ρ 19 + 5) := ⟨by omega, by omega, by omega, by omega⟩
  obtain ⟨-, -, -, -, m4, -, -, -, -, -, -, -, -, m13, -, -, -, -, -, m19, -⟩ := hm
  have m4 : γ 0 6 0 7 = ρ 4 := m4
  have m13 : γ 0 9 (ρ 4) 2 = ρ 13 := m13
  have m19 : γ 0 10 (9 * ρ 4 + 5) 4 = ρ 19 := m19
  obtain ⟨l0, l1, -⟩ := hl
  have l0 : sn132 [ρ 4, 4] (γ 0) 0 (9 * ρ 4 + 5) (γ 1) := hS132 _ _ _ _ _ l0
  have l1 : sn229 [9 * ρ 4 + 5, ρ 19] (γ 1) 0 0 (γ 2) := hS229 _ _ _ _ _ l1
  show sn253 [ρ 0, ρ 1, ρ 2, ρ 3, ρ 4, ρ 5, ρ 6, ρ 7, ρ 8, ρ 9, ρ 10, ρ 11, ρ 12, ρ 13, ρ 14, ρ 15, ρ 16, ρ 17, ρ 18, ρ 19, ρ 20, ρ 21, ρ 22, ρ 23, ρ 24, ρ 25, ρ 26, ρ 27, ρ 28, ρ 29, ρ 30, ρ 31, ρ 32, ρ 33, ρ 34, ρ 35, ρ 36, ρ 37, ρ 38, ρ 39, ρ 40, ρ 41, ρ 42] (γ 0) 0 0 (γ 2)
  refine Eq.symm ?_
  show fn253 [] (γ 0) = _
  unfold fn253
  refine (zLet_eq m4).trans ?_
  refine (zLet_eq m13).trans ?_
  refine (zLet_eq m19).trans ?_
  refine (if_neg w_0).trans ?_
  refine (zLet_eq (show fn132 [ρ 4, 4] (γ 0) = (0, 9 * ρ 4 + 5, γ 1) from l0.symm)).trans ?_
  refine (zLet_eq (show _ = γ 1 from rfl)).trans ?_
  refine (if_pos w_1).trans ?_
  refine (if_neg w_2).trans ?_
  refine (if_pos w_3).trans ?_
  refine (zLet_eq (show fn229 [9 * ρ 4 + 5] (γ 1) = (0, 0, γ 2) from l1.symm)).trans ?_
  refine (zLet_eq (show _ = γ 2 from rfl)).trans ?_
  refine (if_neg zQ0_).trans ?_
  rfl
theorem vn253_11 {S : Nat → zSpc} (hS132 : ∀ x g o v gz, S 132 x g o v gz → sn132 x g o v gz) (hS228 : ∀ x g o v gz, S 228 x g o v gz → sn228 x g o v gz) (hS229 : ∀ x g o v gz, S 229 x g o v gz → sn229 x g o v gz) (hS230 : ∀ x g o v gz, S 230 x g o v gz → sn230 x g o v gz) (hS231 : ∀ x g o v gz, S 231 x g o v gz → sn231 x g o v gz) (hS244 : ∀ x g o v gz, S 244 x g o v gz → sn244 x g o v gz) (hS251 : ∀ x g o v gz, S 251 x g o v gz → sn251 x g o v gz) (hS252 : ∀ x g o v gz, S 252 x g o v gz → sn252 x g o v gz) {a : List Int} {g : rHp} : ∀ (ρ : Nat → Int) (γ : Nat → rHp), zO 43 S a g q253_11 ρ γ → zGl (fun _ _ _ => True) (sn253 a g) q253_11 ρ γ := by
  intro ρ γ h
  obtain ⟨ha, hg, hr, hf, hm, hc, hl⟩ := h
  have ha : a = [ρ 0, ρ 1, ρ 2, ρ 3, ρ 4, ρ 5, ρ 6, ρ 7, ρ 8, ρ 9, ρ 10, ρ 11, ρ 12, ρ 13, ρ 14, ρ 15, ρ 16, ρ 17, ρ 18, ρ 19, ρ 20, ρ 21, ρ 22, ρ 23, ρ 24, ρ 25, ρ 26, ρ 27, ρ 28, ρ 29, ρ 30, ρ 31, ρ 32, ρ 33, ρ 34, ρ 35, ρ 36, ρ 37, ρ 38, ρ 39, ρ 40, ρ 41, ρ 42] := ha
  subst ha
  subst hg
  obtain ⟨-, -, -, -, -, -, -, -, -, -, -, -, -, r13, -, -, -, -, -, r19, -⟩ := hr
  have r13 : (5 : Int) ≤ ρ 13 ∧ ρ 13 ≤ 8 := r13
  have r19 : (4 : Int) ≤ ρ 19 ∧ ρ 19 ≤ 5 := r19
  obtain ⟨w_0, w_1, w_2, w_3⟩ : (¬ (4 ≥ ρ 13)) ∧ (ρ 19 ≠ 1) ∧ (¬ (0 ≤ -ρ 19 + 3)) ∧ (0 ≤ -ρ 19 + 5) := ⟨by omega, by omega, by omega, by omega⟩
  obtain ⟨-, -, -, -, m4, -, -, -, -, -, -, -, -, m13, -, -, -, -, -, m19, -⟩ := hm
  have m4 : γ 0 6 0 7 = ρ 4 := m4
  have m13 : γ 0 9 (ρ 4) 2 = ρ 13 := m13
  have m19 : γ 0 10 (9 * ρ 4 + 5) 4 = ρ 19 := m19
  obtain ⟨l0, l1, l2, -⟩ := hl
  have l0 : sn132 [ρ 4, 4] (γ 0) 0 (9 * ρ 4 + 5) (γ 1) := hS132 _ _ _ _ _ l0
  have l1 : sn229 [9 * ρ 4 + 5, ρ 19] (γ 1) 0 1 (γ 2) := hS229 _ _ _ _ _ l1
  have l2 : sn251 [ρ 0, ρ 1, ρ 2, ρ 3, ρ 4, ρ 5, ρ 6, ρ 7, ρ 8, ρ 9, ρ 10, ρ 11, ρ 12, ρ 13, ρ 14, ρ 15, ρ 16, ρ 17, ρ 18, ρ 25, ρ 26, ρ 27, ρ 28, ρ 29, ρ 30, ρ 31, ρ 32, ρ 33, ρ 34, ρ 35, ρ 36, ρ 37, ρ 38, ρ 39, ρ 40, ρ 41, ρ 42] (γ 2) 0 0 (γ 3) := hS251 _ _ _ _ _ l2
  show sn253 [ρ 0, ρ 1, ρ 2, ρ 3, ρ 4, ρ 5, ρ 6, ρ 7, ρ 8, ρ 9, ρ 10, ρ 11, ρ 12, ρ 13, ρ 14, ρ 15, ρ 16, ρ 17, ρ 18, ρ 19, ρ 20, ρ 21, ρ 22, ρ 23, ρ 24, ρ 25, ρ 26, ρ 27, ρ 28, ρ 29, ρ 30, ρ 31, ρ 32, ρ 33, ρ 34, ρ 35, ρ 36, ρ 37, ρ 38, ρ 39, ρ 40, ρ 41, ρ 42] (γ 0) 0 0 (γ 3)
  refine Eq.symm ?_
  show fn253 [] (γ 0) = _
  unfold fn253
  refine (zLet_eq m4).trans ?_
  refine (zLet_eq m13).trans ?_
  refine (zLet_eq m19).trans ?_
  refine (if_neg w_0).trans ?_
  refine (zLet_eq (show fn132 [ρ 4, 4] (γ 0) = (0, 9 * ρ 4 + 5, γ 1) from l0.symm)).trans ?_
  refine (zLet_eq (show _ = γ 1 from rfl)).trans ?_
  refine (if_pos w_1).trans ?_
  refine (if_neg w_2).trans ?_
  refine (if_pos w_3).trans ?_
  refine (zLet_eq (show fn229 [9 * ρ 4 + 5] (γ 1) = (0, 1, γ 2) from l1.symm)).trans ?_
  refine (zLet_eq (show _ = γ 2 from rfl)).trans ?_
  refine (if_pos zQ1_).trans ?_
  refine (zLet_eq (show fn251 [] (γ 2) = (0, 0, γ 3) from l2.symm)).trans ?_
  refine (zLet_eq (show _ = γ 3 from rfl)).trans ?_
  refine (if_pos (show (0 : Nat) = 0 by decide)).trans ?_
  rfl
theorem vn253_12 {S : Nat → zSpc} (hS132 : ∀ x g o v gz, S 132 x g o v gz → sn132 x g o v gz) (hS228 : ∀ x g o v gz, S 228 x g o v gz → sn228 x g o v gz) (hS229 : ∀ x g o v gz, S 229 x g o v gz → sn229 x g o v gz) (hS230 : ∀ x g o v gz, S 230 x g o v gz → sn230 x g o v gz) (hS231 : ∀ x g o v gz, S 231 x g o v gz → sn231 x g o v gz) (hS244 : ∀ x g o v gz, S 244 x g o v gz → sn244 x g o v gz) (hS251 : ∀ x g o v gz, S 251 x g o v gz → sn251 x g o v gz) (hS252 : ∀ x g o v gz, S 252 x g o v gz → sn252 x g o v gz) {a : List Int} {g : rHp} : ∀ (ρ : Nat → Int) (γ : Nat → rHp), zO 43 S a g q253_12 ρ γ → zGl (fun _ _ _ => True) (sn253 a g) q253_12 ρ γ := by
  intro ρ γ h
  obtain ⟨ha, hg, hr, hf, hm, hc, hl⟩ := h
  have ha : a = [ρ 0, ρ 1, ρ 2, ρ 3, ρ 4, ρ 5, ρ 6, ρ 7, ρ 8, ρ 9, ρ 10, ρ 11, ρ 12, ρ 13, ρ 14, ρ 15, ρ 16, ρ 17, ρ 18, ρ 19, ρ 20, ρ 21, ρ 22, ρ 23, ρ 24, ρ 25, ρ 26, ρ 27, ρ 28, ρ 29, ρ 30, ρ 31, ρ 32, ρ 33, ρ 34, ρ 35, ρ 36, ρ 37, ρ 38, ρ 39, ρ 40, ρ 41, ρ 42] := ha
  subst ha
  subst hg
  obtain ⟨-, -, -, -, -, -, -, -, -, -, -, -, -, r13, -, -, -, -, -, r19, -⟩ := hr
  have r13 : (5 : Int) ≤ ρ 13 ∧ ρ 13 ≤ 8 := r13
  have r19 : (4 : Int) ≤ ρ 19 ∧ ρ 19 ≤ 5 := r19
  obtain ⟨w_0, w_1, w_2, w_3⟩ : (¬ (4 ≥ ρ 13)) ∧ (ρ 19 ≠ 1) ∧ (¬ (0 ≤ -ρ 19 + 3)) ∧ (0 ≤ -ρ 19 + 5) := ⟨by omega, by omega, by omega, by omega⟩
  obtain ⟨-, -, -, -, m4, -, -, -, -, -, -, -, -, m13, -, -, -, -, -, m19, -⟩ := hm
  have m4 : γ 0 6 0 7 = ρ 4 := m4
  have m13 : γ 0 9 (ρ 4) 2 = ρ 13 := m13
  have m19 : γ 0 10 (9 * ρ 4 + 5) 4 = ρ 19 := m19
  obtain ⟨l0, l1, l2, -⟩ := hl
  have l0 : sn132 [ρ 4, 4] (γ 0) 0 (9 * ρ 4 + 5) (γ 1) := hS132 _ _ _ _ _ l0
  have l1 : sn229 [9 * ρ 4 + 5, ρ 19] (γ 1) 0 1 (γ 2) := hS229 _ _ _ _ _ l1
  have l2 : sn251 [ρ 0, ρ 1, ρ 2, ρ 3, ρ 4, ρ 5, ρ 6, ρ 7, ρ 8, ρ 9, ρ 10, ρ 11, ρ 12, ρ 13, ρ 14, ρ 15, ρ 16, ρ 17, ρ 18, ρ 25, ρ 26, ρ 27, ρ 28, ρ 29, ρ 30, ρ 31, ρ 32, ρ 33, ρ 34, ρ 35, ρ 36, ρ 37, ρ 38, ρ 39, ρ 40, ρ 41, ρ 42] (γ 2) 1 0 (γ 3) := hS251 _ _ _ _ _ l2
  show sn253 [ρ 0, ρ 1, ρ 2, ρ 3, ρ 4, ρ 5, ρ 6, ρ 7, ρ 8, ρ 9, ρ 10, ρ 11, ρ 12, ρ 13, ρ 14, ρ 15, ρ 16, ρ 17, ρ 18, ρ 19, ρ 20, ρ 21, ρ 22, ρ 23, ρ 24, ρ 25, ρ 26, ρ 27, ρ 28, ρ 29, ρ 30, ρ 31, ρ 32, ρ 33, ρ 34, ρ 35, ρ 36, ρ 37, ρ 38, ρ 39, ρ 40, ρ 41, ρ 42] (γ 0) 1 0 (γ 3)
  refine Eq.symm ?_
  show fn253 [] (γ 0) = _
  unfold fn253
  refine (zLet_eq m4).trans ?_
  refine (zLet_eq m13).trans ?_
  refine (zLet_eq m19).trans ?_
  refine (if_neg w_0).trans ?_
  refine (zLet_eq (show fn132 [ρ 4, 4] (γ 0) = (0, 9 * ρ 4 + 5, γ 1) from l0.symm)).trans ?_
  refine (zLet_eq (show _ = γ 1 from rfl)).trans ?_
  refine (if_pos w_1).trans ?_
  refine (if_neg w_2).trans ?_
  refine (if_pos w_3).trans ?_
  refine (zLet_eq (show fn229 [9 * ρ 4 + 5] (γ 1) = (0, 1, γ 2) from l1.symm)).trans ?_
  refine (zLet_eq (show _ = γ 2 from rfl)).trans ?_
  refine (if_pos zQ1_).trans ?_
  refine (zLet_eq (show fn251 [] (γ 2) = (1, 0, γ 3) from l2.symm)).trans ?_
  refine (zLet_eq (show _ = γ 3 from rfl)).trans ?_
  refine (if_neg (show ¬ (1 : Nat) = 0 by decide)).trans ?_
  refine (if_pos (show (1 : Nat) = 1 by decide)).trans ?_
  rfl
theorem vn253_13 {S : Nat → zSpc} (hS132 : ∀ x g o v gz, S 132 x g o v gz → sn132 x g o v gz) (hS228 : ∀ x g o v gz, S 228 x g o v gz → sn228 x g o v gz) (hS229 : ∀ x g o v gz, S 229 x g o v gz → sn229 x g o v gz) (hS230 : ∀ x g o v gz, S 230 x g o v gz → sn230 x g o v gz) (hS231 : ∀ x g o v gz, S 231 x g o v gz → sn231 x g o v gz) (hS244 : ∀ x g o v gz, S 244 x g o v gz → sn244 x g o v gz) (hS251 : ∀ x g o v gz, S 251 x g o v gz → sn251 x g o v gz) (hS252 : ∀ x g o v gz, S 252 x g o v gz → sn252 x g o v gz) {a : List Int} {g : rHp} : ∀ (ρ : Nat → Int) (γ : Nat → rHp), zO 43 S a g q253_13 ρ γ → zGl (fun _ _ _ => True) (sn253 a g) q253_13 ρ γ := by
  intro ρ γ h
  obtain ⟨ha, hg, hr, hf, hm, hc, hl⟩ := h
  have ha : a = [ρ 0, ρ 1, ρ 2, ρ 3, ρ 4, ρ 5, ρ 6, ρ 7, ρ 8, ρ 9, ρ 10, ρ 11, ρ 12, ρ 13, ρ 14, ρ 15, ρ 16, ρ 17, ρ 18, ρ 19, ρ 20, ρ 21, ρ 22, ρ 23, ρ 24, ρ 25, ρ 26, ρ 27, ρ 28, ρ 29, ρ 30, ρ 31, ρ 32, ρ 33, ρ 34, ρ 35, ρ 36, ρ 37, ρ 38, ρ 39, ρ 40, ρ 41, ρ 42] := ha
  subst ha
  subst hg
  obtain ⟨-, -, -, -, -, -, -, -, -, -, -, -, -, r13, -, -, -, -, -, r19, -⟩ := hr
  have r13 : (6 : Int) ≤ ρ 13 ∧ ρ 13 ≤ 8 := r13
  have r19 : (4 : Int) ≤ ρ 19 ∧ ρ 19 ≤ 5 := r19
  obtain ⟨w_0, w_1, w_2, w_3⟩ : (¬ (4 ≥ ρ 13)) ∧ (ρ 19 ≠ 1) ∧ (¬ (0 ≤ -ρ 19 + 3)) ∧ (0 ≤ -ρ 19 + 5) := ⟨by omega, by omega, by omega, by omega⟩
  obtain ⟨-, -, -, -, m4, -, -, -, -, -, -, -, -, m13, -, -, -, -, -, m19, -⟩ := hm
  have m4 : γ 0 6 0 7 = ρ 4 := m4
  have m13 : γ 0 9 (ρ 4) 2 = ρ 13 := m13
  have m19 : γ 0 10 (9 * ρ 4 + 5) 4 = ρ 19 := m19
  obtain ⟨l0, l1, l2, -⟩ := hl
  have l0 : sn132 [ρ 4, 4] (γ 0) 0 (9 * ρ 4 + 5) (γ 1) := hS132 _ _ _ _ _ l0
  have l1 : sn229 [9 * ρ 4 + 5, ρ 19] (γ 1) 0 1 (γ 2) := hS229 _ _ _ _ _ l1
  have l2 : sn251 [ρ 0, ρ 1, ρ 2, ρ 3, ρ 4, ρ 5, ρ 6, ρ 7, ρ 8, ρ 9, ρ 10, ρ 11, ρ 12, ρ 13, ρ 14, ρ 15, ρ 16, ρ 17, ρ 18, ρ 25, ρ 26, ρ 27, ρ 28, ρ 29, ρ 30, ρ 31, ρ 32, ρ 33, ρ 34, ρ 35, ρ 36, ρ 37, ρ 38, ρ 39, ρ 40, ρ 41, ρ 42] (γ 2) 4 0 (γ 3) := hS251 _ _ _ _ _ l2
  show sn253 [ρ 0, ρ 1, ρ 2, ρ 3, ρ 4, ρ 5, ρ 6, ρ 7, ρ 8, ρ 9, ρ 10, ρ 11, ρ 12, ρ 13, ρ 14, ρ 15, ρ 16, ρ 17, ρ 18, ρ 19, ρ 20, ρ 21, ρ 22, ρ 23, ρ 24, ρ 25, ρ 26, ρ 27, ρ 28, ρ 29, ρ 30, ρ 31, ρ 32, ρ 33, ρ 34, ρ 35, ρ 36, ρ 37, ρ 38, ρ 39, ρ 40, ρ 41, ρ 42] (γ 0) 4 0 (γ 3)
  refine Eq.symm ?_
  show fn253 [] (γ 0) = _
  unfold fn253
  refine (zLet_eq m4).trans ?_
  refine (zLet_eq m13).trans ?_
  refine (zLet_eq m19).trans ?_
  refine (if_neg w_0).trans ?_
  refine (zLet_eq (show fn132 [ρ 4, 4] (γ 0) = (0, 9 * ρ 4 + 5, γ 1) from l0.symm)).trans ?_
  refine (zLet_eq (show _ = γ 1 from rfl)).trans ?_
  refine (if_pos w_1).trans ?_
  refine (if_neg w_2).trans ?_
  refine (if_pos w_3).trans ?_
  refine (zLet_eq (show fn229 [9 * ρ 4 + 5] (γ 1) = (0, 1, γ 2) from l1.symm)).trans ?_
  refine (zLet_eq (show _ = γ 2 from rfl)).trans ?_
  refine (if_pos zQ1_).trans ?_
  refine (zLet_eq (show fn251 [] (γ 2) = (4, 0, γ 3) from l2.symm)).trans ?_
  refine (zLet_eq (show _ = γ 3 from rfl)).trans ?_
  refine (if_neg (show ¬ (4 : Nat) = 0 by decide)).trans ?_
  refine (if_neg (show ¬ (4 : Nat) = 1 by decide)).trans ?_
  rfl
theorem vn253_14 {S : Nat → zSpc} (hS132 : ∀ x g o v gz, S 132 x g o v gz → sn132 x g o v gz) (hS228 : ∀ x g o v gz, S 228 x g o v gz → sn228 x g o v gz) (hS229 : ∀ x g o v gz, S 229 x g o v gz → sn229 x g o v gz) (hS230 : ∀ x g o v gz, S 230 x g o v gz → sn230 x g o v gz) (hS231 : ∀ x g o v gz, S 231 x g o v gz → sn231 x g o v gz) (hS244 : ∀ x g o v gz, S 244 x g o v gz → sn244 x g o v gz) (hS251 : ∀ x g o v gz, S 251 x g o v gz → sn251 x g o v gz) (hS252 : ∀ x g o v gz, S 252 x g o v gz → sn252 x g o v gz) {a : List Int} {g : rHp} : ∀ (ρ : Nat → Int) (γ : Nat → rHp), zO 43 S a g q253_14 ρ γ → zGl (fun _ _ _ => True) (sn253 a g) q253_14 ρ γ := by
  intro ρ γ h
  obtain ⟨ha, hg, hr, hf, hm, hc, hl⟩ := h
  have ha : a = [ρ 0, ρ 1, ρ 2, ρ 3, ρ 4, ρ 5, ρ 6, ρ 7, ρ 8, ρ 9, ρ 10, ρ 11, ρ 12, ρ 13, ρ 14, ρ 15, ρ 16, ρ 17, ρ 18, ρ 19, ρ 20, ρ 21, ρ 22, ρ 23, ρ 24, ρ 25, ρ 26, ρ 27, ρ 28, ρ 29, ρ 30, ρ 31, ρ 32, ρ 33, ρ 34, ρ 35, ρ 36, ρ 37, ρ 38, ρ 39, ρ 40, ρ 41, ρ 42] := ha
  subst ha
  subst hg
  obtain ⟨-, -, -, -, -, -, -, -, -, -, -, -, -, r13, -, -, -, -, -, r19, -⟩ := hr
  have r13 : (5 : Int) ≤ ρ 13 ∧ ρ 13 ≤ 8 := r13
  have r19 : (6 : Int) ≤ ρ 19 ∧ ρ 19 ≤ 8 := r19
  obtain ⟨w_0, w_1, w_2, w_3⟩ : (¬ (4 ≥ ρ 13)) ∧ (ρ 19 ≠ 1) ∧ (¬ (0 ≤ -ρ 19 + 3)) ∧ (¬ (0 ≤ -ρ 19 + 5)) := ⟨by omega, by omega, by omega, by omega⟩
  obtain ⟨-, -, -, -, m4, -, -, -, -, -, -, -, -, m13, -, -, -, -, -, m19, -⟩ := hm
  have m4 : γ 0 6 0 7 = ρ 4 := m4
  have m13 : γ 0 9 (ρ 4) 2 = ρ 13 := m13
  have m19 : γ 0 10 (9 * ρ 4 + 5) 4 = ρ 19 := m19
  obtain ⟨l0, l1, -⟩ := hl
  have l0 : sn132 [ρ 4, 4] (γ 0) 0 (9 * ρ 4 + 5) (γ 1) := hS132 _ _ _ _ _ l0
  have l1 : sn231 [9 * ρ 4 + 5, ρ 19, ρ 24] (γ 1) 0 0 (γ 2) := hS231 _ _ _ _ _ l1
  show sn253 [ρ 0, ρ 1, ρ 2, ρ 3, ρ 4, ρ 5, ρ 6, ρ 7, ρ 8, ρ 9, ρ 10, ρ 11, ρ 12, ρ 13, ρ 14, ρ 15, ρ 16, ρ 17, ρ 18, ρ 19, ρ 20, ρ 21, ρ 22, ρ 23, ρ 24, ρ 25, ρ 26, ρ 27, ρ 28, ρ 29, ρ 30, ρ 31, ρ 32, ρ 33, ρ 34, ρ 35, ρ 36, ρ 37, ρ 38, ρ 39, ρ 40, ρ 41, ρ 42] (γ 0) 0 0 (γ 2)
  refine Eq.symm ?_
  show fn253 [] (γ 0) = _
  unfold fn253
  refine (zLet_eq m4).trans ?_
  refine (zLet_eq m13).trans ?_
  refine (zLet_eq m19).trans ?_
  refine (if_neg w_0).trans ?_
  refine (zLet_eq (show fn132 [ρ 4, 4] (γ 0) = (0, 9 * ρ 4 + 5, γ 1) from l0.symm)).trans ?_
  refine (zLet_eq (show _ = γ 1 from rfl)).trans ?_
  refine (if_pos w_1).trans ?_
  refine (if_neg w_2).trans ?_
  refine (if_neg w_3).trans ?_
  refine (zLet_eq (show fn231 [9 * ρ 4 + 5] (γ 1) = (0, 0, γ 2) from l1.symm)).trans ?_
  refine (zLet_eq (show _ = γ 2 from rfl)).trans ?_
  refine (if_neg zQ0_).trans ?_
  rfl
theorem vn253_15 {S : Nat → zSpc} (hS132 : ∀ x g o v gz, S 132 x g o v gz → sn132 x g o v gz) (hS228 : ∀ x g o v gz, S 228 x g o v gz → sn228 x g o v gz) (hS229 : ∀ x g o v gz, S 229 x g o v gz → sn229 x g o v gz) (hS230 : ∀ x g o v gz, S 230 x g o v gz → sn230 x g o v gz) (hS231 : ∀ x g o v gz, S 231 x g o v gz → sn231 x g o v gz) (hS244 : ∀ x g o v gz, S 244 x g o v gz → sn244 x g o v gz) (hS251 : ∀ x g o v gz, S 251 x g o v gz → sn251 x g o v gz) (hS252 : ∀ x g o v gz, S 252 x g o v gz → sn252 x g o v gz) {a : List Int} {g : rHp} : ∀ (ρ : Nat → Int) (γ : Nat → rHp), zO 43 S a g q253_15 ρ γ → zGl (fun _ _ _ => True) (sn253 a g) q253_15 ρ γ := by
  intro ρ γ h
  obtain ⟨ha, hg, hr, hf, hm, hc, hl⟩ := h
  have ha : a = [ρ 0, ρ 1, ρ 2, ρ 3, ρ 4, ρ 5, ρ 6, ρ 7, ρ 8, ρ 9, ρ 10, ρ 11, ρ 12, ρ 13, ρ 14, ρ 15, ρ 16, ρ 17, ρ 18, ρ 19, ρ 20, ρ 21, ρ 22, ρ 23, ρ 24, ρ 25, ρ 26, ρ 27, ρ 28, ρ 29, ρ 30, ρ 31, ρ 32, ρ 33, ρ 34, ρ 35, ρ 36, ρ 37, ρ 38, ρ 39, ρ 40, ρ 41, ρ 42] := ha
  subst ha
  subst hg
  obtain ⟨-, -, -, -, -, -, -, -, -, -, -, -, -, r13, -, -, -, -, -, r19, -⟩ := hr
  have r13 : (5 : Int) ≤ ρ 13 ∧ ρ 13 ≤ 8 := r13
  have r19 : (6 : Int) ≤ ρ 19 ∧ ρ 19 ≤ 8 := r19
  obtain ⟨w_0, w_1, w_2, w_3⟩ : (¬ (4 ≥ ρ 13)) ∧ (ρ 19 ≠ 1) ∧ (¬ (0 ≤ -ρ 19 + 3)) ∧ (¬ (0 ≤ -ρ 19 + 5)) := ⟨by omega, by omega, by omega, by omega⟩
  obtain ⟨-, -, -, -, m4, -, -, -, -, -, -, -, -, m13, -, -, -, -, -, m19, -⟩ := hm
  have m4 : γ 0 6 0 7 = ρ 4 := m4
  have m13 : γ 0 9 (ρ 4) 2 = ρ 13 := m13
  have m19 : γ 0 10 (9 * ρ 4 + 5) 4 = ρ 19 := m19
  obtain ⟨l0, l1, l2, -⟩ := hl
  have l0 : sn132 [ρ 4, 4] (γ 0) 0 (9 * ρ 4 + 5) (γ 1) := hS132 _ _ _ _ _ l0
  have l1 : sn231 [9 * ρ 4 + 5, ρ 19, ρ 24] (γ 1) 0 1 (γ 2) := hS231 _ _ _ _ _ l1
  have l2 : sn251 [ρ 0, ρ 1, ρ 2, ρ 3, ρ 4, ρ 5, ρ 6, ρ 7, ρ 8, ρ 9, ρ 10, ρ 11, ρ 12, ρ 13, ρ 14, ρ 15, ρ 16, ρ 17, ρ 18, ρ 25, ρ 26, ρ 27, ρ 28, ρ 29, ρ 30, ρ 31, ρ 32, ρ 33, ρ 34, ρ 35, ρ 36, ρ 37, ρ 38, ρ 39, ρ 40, ρ 41, ρ 42] (γ 2) 0 0 (γ 3) := hS251 _ _ _ _ _ l2
  show sn253 [ρ 0, ρ 1, ρ 2, ρ 3, ρ 4, ρ 5, ρ 6, ρ 7, ρ 8, ρ 9, ρ 10, ρ 11, ρ 12, ρ 13, ρ 14, ρ 15, ρ 16, ρ 17, ρ 18, ρ 19, ρ 20, ρ 21, ρ 22, ρ 23, ρ 24, ρ 25, ρ 26, ρ 27, ρ 28, ρ 29, ρ 30, ρ 31, ρ 32, ρ 33, ρ 34, ρ 35, ρ 36, ρ 37, ρ 38, ρ 39, ρ 40, ρ 41, ρ 42] (γ 0) 0 0 (γ 3)
  refine Eq.symm ?_
  show fn253 [] (γ 0) = _
  unfold fn253
  refine (zLet_eq m4).trans ?_
  refine (zLet_eq m13).trans ?_
  refine (zLet_eq m19).trans ?_
  refine (if_neg w_0).trans ?_
  refine (zLet_eq (show fn132 [ρ 4, 4] (γ 0) = (0, 9 * ρ 4 + 5, γ 1) from l0.symm)).trans ?_
  refine (zLet_eq (show _ = γ 1 from rfl)).trans ?_
  refine (if_pos w_1).trans ?_
  refine (if_neg w_2).trans ?_
  refine (if_neg w_3).trans ?_
  refine (zLet_eq (show fn231 [9 * ρ 4 + 5] (γ 1) = (0, 1, γ 2) from l1.symm)).trans ?_
  refine (zLet_eq (show _ = γ 2 from rfl)).trans ?_
  refine (if_pos zQ1_).trans ?_
  refine (zLet_eq (show fn251 [] (γ 2) = (0, 0, γ 3) from l2.symm)).trans ?_
  refine (zLet_eq (show _ = γ 3 from rfl)).trans ?_
  refine (if_pos (show (0 : Nat) = 0 by decide)).trans ?_
  rfl
theorem vn253_16 {S : Nat → zSpc} (hS132 : ∀ x g o v gz, S 132 x g o v gz → sn132 x g o v gz) (hS228 : ∀ x g o v gz, S 228 x g o v gz → sn228 x g o v gz) (hS229 : ∀ x g o v gz, S 229 x g o v gz → sn229 x g o v gz) (hS230 : ∀ x g o v gz, S 230 x g o v gz → sn230 x g o v gz) (hS231 : ∀ x g o v gz, S 231 x g o v gz → sn231 x g o v gz) (hS244 : ∀ x g o v gz, S 244 x g o v gz → sn244 x g o v gz) (hS251 : ∀ x g o v gz, S 251 x g o v gz → sn251 x g o v gz) (hS252 : ∀ x g o v gz, S 252 x g o v gz → sn252 x g o v gz) {a : List Int} {g : rHp} : ∀ (ρ : Nat → Int) (γ : Nat → rHp), zO 43 S a g q253_16 ρ γ → zGl (fun _ _ _ => True) (sn253 a g) q253_16 ρ γ := by
  intro ρ γ h
  obtain ⟨ha, hg, hr, hf, hm, hc, hl⟩ := h
  have ha : a = [ρ 0, ρ 1, ρ 2, ρ 3, ρ 4, ρ 5, ρ 6, ρ 7, ρ 8, ρ 9, ρ 10, ρ 11, ρ 12, ρ 13, ρ 14, ρ 15, ρ 16, ρ 17, ρ 18, ρ 19, ρ 20, ρ 21, ρ 22, ρ 23, ρ 24, ρ 25, ρ 26, ρ 27, ρ 28, ρ 29, ρ 30, ρ 31, ρ 32, ρ 33, ρ 34, ρ 35, ρ 36, ρ 37, ρ 38, ρ 39, ρ 40, ρ 41, ρ 42] := ha
  subst ha
  subst hg
  obtain ⟨-, -, -, -, -, -, -, -, -, -, -, -, -, r13, -, -, -, -, -, r19, -⟩ := hr
  have r13 : (5 : Int) ≤ ρ 13 ∧ ρ 13 ≤ 8 := r13
  have r19 : (6 : Int) ≤ ρ 19 ∧ ρ 19 ≤ 8 := r19
  obtain ⟨w_0, w_1, w_2, w_3⟩ : (¬ (4 ≥ ρ 13)) ∧ (ρ 19 ≠ 1) ∧ (¬ (0 ≤ -ρ 19 + 3)) ∧ (¬ (0 ≤ -ρ 19 + 5)) := ⟨by omega, by omega, by omega, by omega⟩
  obtain ⟨-, -, -, -, m4, -, -, -, -, -, -, -, -, m13, -, -, -, -, -, m19, -⟩ := hm
  have m4 : γ 0 6 0 7 = ρ 4 := m4
  have m13 : γ 0 9 (ρ 4) 2 = ρ 13 := m13
  have m19 : γ 0 10 (9 * ρ 4 + 5) 4 = ρ 19 := m19
  obtain ⟨l0, l1, l2, -⟩ := hl
  have l0 : sn132 [ρ 4, 4] (γ 0) 0 (9 * ρ 4 + 5) (γ 1) := hS132 _ _ _ _ _ l0
  have l1 : sn231 [9 * ρ 4 + 5, ρ 19, ρ 24] (γ 1) 0 1 (γ 2) := hS231 _ _ _ _ _ l1
  have l2 : sn251 [ρ 0, ρ 1, ρ 2, ρ 3, ρ 4, ρ 5, ρ 6, ρ 7, ρ 8, ρ 9, ρ 10, ρ 11, ρ 12, ρ 13, ρ 14, ρ 15, ρ 16, ρ 17, ρ 18, ρ 25, ρ 26, ρ 27, ρ 28, ρ 29, ρ 30, ρ 31, ρ 32, ρ 33, ρ 34, ρ 35, ρ 36, ρ 37, ρ 38, ρ 39, ρ 40, ρ 41, ρ 42] (γ 2) 1 0 (γ 3) := hS251 _ _ _ _ _ l2
  show sn253 [ρ 0, ρ 1, ρ 2, ρ 3, ρ 4, ρ 5, ρ 6, ρ 7, ρ 8, ρ 9, ρ 10, ρ 11, ρ 12, ρ 13, ρ 14, ρ 15, ρ 16, ρ 17, ρ 18, ρ 19, ρ 20, ρ 21, ρ 22, ρ 23, ρ 24, ρ 25, ρ 26, ρ 27, ρ 28, ρ 29, ρ 30, ρ 31, ρ 32, ρ 33, ρ 34, ρ 35, ρ 36, ρ 37, ρ 38, ρ 39, ρ 40, ρ 41, ρ 42] (γ 0) 1 0 (γ 3)
  refine Eq.symm ?_
  show fn253 [] (γ 0) = _
  unfold fn253
  refine (zLet_eq m4).trans ?_
  refine (zLet_eq m13).trans ?_
  refine (zLet_eq m19).trans ?_
  refine (if_neg w_0).trans ?_
  refine (zLet_eq (show fn132 [ρ 4, 4] (γ 0) = (0, 9 * ρ 4 + 5, γ 1) from l0.symm)).trans ?_
  refine (zLet_eq (show _ = γ 1 from rfl)).trans ?_
  refine (if_pos w_1).trans ?_
  refine (if_neg w_2).trans ?_
  refine (if_neg w_3).trans ?_
  refine (zLet_eq (show fn231 [9 * ρ 4 + 5] (γ 1) = (0, 1, γ 2) from l1.symm)).trans ?_
  refine (zLet_eq (show _ = γ 2 from rfl)).trans ?_
  refine (if_pos zQ1_).trans ?_
  refine (zLet_eq (show fn251 [] (γ 2) = (1, 0, γ 3) from l2.symm)).trans ?_
  refine (zLet_eq (show _ = γ 3 from rfl)).trans ?_
  refine (if_neg (show ¬ (1 : Nat) = 0 by decide)).trans ?_
  refine (if_pos (show (1 : Nat) = 1 by decide)).trans ?_
  rfl
theorem vn253_17 {S : Nat → zSpc} (hS132 : ∀ x g o v gz, S 132 x g o v gz → sn132 x g o v gz) (hS228 : ∀ x g o v gz, S 228 x g o v gz → sn228 x g o v gz) (hS229 : ∀ x g o v gz, S 229 x g o v gz → sn229 x g o v gz) (hS230 : ∀ x g o v gz, S 230 x g o v gz → sn230 x g o v gz) (hS231 : ∀ x g o v gz, S 231 x g o v gz → sn231 x g o v gz) (hS244 : ∀ x g o v gz, S 244 x g o v gz → sn244 x g o v gz) (hS251 : ∀ x g o v gz, S 251 x g o v gz → sn251 x g o v gz) (hS252 : ∀ x g o v gz, S 252 x g o v gz → sn252 x g o v gz) {a : List Int} {g : rHp} : ∀ (ρ : Nat → Int) (γ : Nat → rHp), zO 43 S a g q253_17 ρ γ → zGl (fun _ _ _ => True) (sn253 a g) q253_17 ρ γ := by
  intro ρ γ h
  obtain ⟨ha, hg, hr, hf, hm, hc, hl⟩ := h
  have ha : a = [ρ 0, ρ 1, ρ 2, ρ 3, ρ 4, ρ 5, ρ 6, ρ 7, ρ 8, ρ 9, ρ 10, ρ 11, ρ 12, ρ 13, ρ 14, ρ 15, ρ 16, ρ 17, ρ 18, ρ 19, ρ 20, ρ 21, ρ 22, ρ 23, ρ 24, ρ 25, ρ 26, ρ 27, ρ 28, ρ 29, ρ 30, ρ 31, ρ 32, ρ 33, ρ 34, ρ 35, ρ 36, ρ 37, ρ 38, ρ 39, ρ 40, ρ 41, ρ 42] := ha
  subst ha
  subst hg
  obtain ⟨-, -, -, -, -, -, -, -, -, -, -, -, -, r13, -, -, -, -, -, r19, -⟩ := hr
  have r13 : (6 : Int) ≤ ρ 13 ∧ ρ 13 ≤ 8 := r13
  have r19 : (6 : Int) ≤ ρ 19 ∧ ρ 19 ≤ 8 := r19
  obtain ⟨w_0, w_1, w_2, w_3⟩ : (¬ (4 ≥ ρ 13)) ∧ (ρ 19 ≠ 1) ∧ (¬ (0 ≤ -ρ 19 + 3)) ∧ (¬ (0 ≤ -ρ 19 + 5)) := ⟨by omega, by omega, by omega, by omega⟩
  obtain ⟨-, -, -, -, m4, -, -, -, -, -, -, -, -, m13, -, -, -, -, -, m19, -⟩ := hm
  have m4 : γ 0 6 0 7 = ρ 4 := m4
  have m13 : γ 0 9 (ρ 4) 2 = ρ 13 := m13
  have m19 : γ 0 10 (9 * ρ 4 + 5) 4 = ρ 19 := m19
  obtain ⟨l0, l1, l2, -⟩ := hl
  have l0 : sn132 [ρ 4, 4] (γ 0) 0 (9 * ρ 4 + 5) (γ 1) := hS132 _ _ _ _ _ l0
  have l1 : sn231 [9 * ρ 4 + 5, ρ 19, ρ 24] (γ 1) 0 1 (γ 2) := hS231 _ _ _ _ _ l1
  have l2 : sn251 [ρ 0, ρ 1, ρ 2, ρ 3, ρ 4, ρ 5, ρ 6, ρ 7, ρ 8, ρ 9, ρ 10, ρ 11, ρ 12, ρ 13, ρ 14, ρ 15, ρ 16, ρ 17, ρ 18, ρ 25, ρ 26, ρ 27, ρ 28, ρ 29, ρ 30, ρ 31, ρ 32, ρ 33, ρ 34, ρ 35, ρ 36, ρ 37, ρ 38, ρ 39, ρ 40, ρ 41, ρ 42] (γ 2) 4 0 (γ 3) := hS251 _ _ _ _ _ l2
  show sn253 [ρ 0, ρ 1, ρ 2, ρ 3, ρ 4, ρ 5, ρ 6, ρ 7, ρ 8, ρ 9, ρ 10, ρ 11, ρ 12, ρ 13, ρ 14, ρ 15, ρ 16, ρ 17, ρ 18, ρ 19, ρ 20, ρ 21, ρ 22, ρ 23, ρ 24, ρ 25, ρ 26, ρ 27, ρ 28, ρ 29, ρ 30, ρ 31, ρ 32, ρ 33, ρ 34, ρ 35, ρ 36, ρ 37, ρ 38, ρ 39, ρ 40, ρ 41, ρ 42] (γ 0) 4 0 (γ 3)
  refine Eq.symm ?_
  show fn253 [] (γ 0) = _
  unfold fn253
  refine (zLet_eq m4).trans ?_
  refine (zLet_eq m13).trans ?_
  refine (zLet_eq m19).trans ?_
  refine (if_neg w_0).trans ?_
  refine (zLet_eq (show fn132 [ρ 4, 4] (γ 0) = (0, 9 * ρ 4 + 5, γ 1) from l0.symm)).trans ?_
  refine (zLet_eq (show _ = γ 1 from rfl)).trans ?_
  refine (if_pos w_1).trans ?_
  refine (if_neg w_2).trans ?_
  refine (if_neg w_3).trans ?_
  refine (zLet_eq (show fn231 [9 * ρ 4 + 5] (γ 1) = (0, 1, γ 2) from l1.symm)).trans ?_
  refine (zLet_eq (show _ = γ 2 from rfl)).trans ?_
  refine (if_pos zQ1_).trans ?_
  refine (zLet_eq (show fn251 [] (γ 2) = (4, 0, γ 3) from l2.symm)).trans ?_
  refine (zLet_eq (show _ = γ 3 from rfl)).trans ?_
  refine (if_neg (show ¬ (4 : Nat) = 0 by decide)).trans ?_
  refine (if_neg (show ¬ (4 : Nat) = 1 by decide)).trans ?_
  rfl
theorem vn253_18 {S : Nat → zSpc} (hS132 : ∀ x g o v gz, S 132 x g o v gz → sn132 x g o v gz) (hS228 : ∀ x g o v gz, S 228 x g o v gz → sn228 x g o v gz) (hS229 : ∀ x g o v gz, S 229 x g o v gz → sn229 x g o v gz) (hS230 : ∀ x g o v gz, S 230 x g o v gz → sn230 x g o v gz) (hS231 : ∀ x g o v gz, S 231 x g o v gz → sn231 x g o v gz) (hS244 : ∀ x g o v gz, S 244 x g o v gz → sn244 x g o v gz) (hS251 : ∀ x g o v gz, S 251 x g o v gz → sn251 x g o v gz) (hS252 : ∀ x g o v gz, S 252 x g o v gz → sn252 x g o v gz) {a : List Int} {g : rHp} : ∀ (ρ : Nat → Int) (γ : Nat → rHp), zO 43 S a g q253_18 ρ γ → zGl (fun _ _ _ => True) (sn253 a g) q253_18 ρ γ := by
  intro ρ γ h
  obtain ⟨ha, hg, hr, hf, hm, hc, hl⟩ := h
  have ha : a = [ρ 0, ρ 1, ρ 2, ρ 3, ρ 4, ρ 5, ρ 6, ρ 7, ρ 8, ρ 9, ρ 10, ρ 11, ρ 12, ρ 13, ρ 14, ρ 15, ρ 16, ρ 17, ρ 18, ρ 19, ρ 20, ρ 21, ρ 22, ρ 23, ρ 24, ρ 25, ρ 26, ρ 27, ρ 28, ρ 29, ρ 30, ρ 31, ρ 32, ρ 33, ρ 34, ρ 35, ρ 36, ρ 37, ρ 38, ρ 39, ρ 40, ρ 41, ρ 42] := ha
  subst ha
  subst hg
  obtain ⟨-, -, -, -, -, -, -, -, -, -, -, -, -, r13, -, -, -, -, -, r19, -⟩ := hr
  have r13 : (5 : Int) ≤ ρ 13 ∧ ρ 13 ≤ 8 := r13
  have r19 : (1 : Int) ≤ ρ 19 ∧ ρ 19 ≤ 1 := r19
  obtain ⟨w_0, w_1⟩ : (¬ (4 ≥ ρ 13)) ∧ (¬ (ρ 19 ≠ 1)) := ⟨by omega, by omega⟩
  obtain ⟨-, -, -, -, m4, -, -, -, -, -, -, -, -, m13, -, -, -, -, -, m19, -⟩ := hm
  have m4 : γ 0 6 0 7 = ρ 4 := m4
  have m13 : γ 0 9 (ρ 4) 2 = ρ 13 := m13
  have m19 : γ 0 10 (9 * ρ 4 + 5) 4 = ρ 19 := m19
  obtain ⟨l0, l1, -⟩ := hl
  have l0 : sn132 [ρ 4, 4] (γ 0) 0 (9 * ρ 4 + 5) (γ 1) := hS132 _ _ _ _ _ l0
  have l1 : sn252 [ρ 0, ρ 1, ρ 2, ρ 3, ρ 4, ρ 5, ρ 6, ρ 7, ρ 8, ρ 9, ρ 10, ρ 11, ρ 12, ρ 13, ρ 14, ρ 15, ρ 16, ρ 17, ρ 18, ρ 20, ρ 21, ρ 22, ρ 23, ρ 25, ρ 26, ρ 27, ρ 28, ρ 29, ρ 30, ρ 31, ρ 32, ρ 33, ρ 34, ρ 35, ρ 36, ρ 37, ρ 38, ρ 39, ρ 40, ρ 41, ρ 42] (γ 1) 0 0 (γ 2) := hS252 _ _ _ _ _ l1
  show sn253 [ρ 0, ρ 1, ρ 2, ρ 3, ρ 4, ρ 5, ρ 6, ρ 7, ρ 8, ρ 9, ρ 10, ρ 11, ρ 12, ρ 13, ρ 14, ρ 15, ρ 16, ρ 17, ρ 18, ρ 19, ρ 20, ρ 21, ρ 22, ρ 23, ρ 24, ρ 25, ρ 26, ρ 27, ρ 28, ρ 29, ρ 30, ρ 31, ρ 32, ρ 33, ρ 34, ρ 35, ρ 36, ρ 37, ρ 38, ρ 39, ρ 40, ρ 41, ρ 42] (γ 0) 0 0 (γ 2)
  refine Eq.symm ?_
  show fn253 [] (γ 0) = _
  unfold fn253
  refine (zLet_eq m4).trans ?_
  refine (zLet_eq m13).trans ?_
  refine (zLet_eq m19).trans ?_
  refine (if_neg w_0).trans ?_
  refine (zLet_eq (show fn132 [ρ 4, 4] (γ 0) = (0, 9 * ρ 4 + 5, γ 1) from l0.symm)).trans ?_
  refine (zLet_eq (show _ = γ 1 from rfl)).trans ?_
  refine (if_neg w_1).trans ?_
  refine (zLet_eq (show fn252 [] (γ 1) = (0, 0, γ 2) from l1.symm)).trans ?_
  refine (zLet_eq (show _ = γ 2 from rfl)).trans ?_
  refine (if_pos (show (0 : Nat) = 0 by decide)).trans ?_
  rfl
theorem vn253_19 {S : Nat → zSpc} (hS132 : ∀ x g o v gz, S 132 x g o v gz → sn132 x g o v gz) (hS228 : ∀ x g o v gz, S 228 x g o v gz → sn228 x g o v gz) (hS229 : ∀ x g o v gz, S 229 x g o v gz → sn229 x g o v gz) (hS230 : ∀ x g o v gz, S 230 x g o v gz → sn230 x g o v gz) (hS231 : ∀ x g o v gz, S 231 x g o v gz → sn231 x g o v gz) (hS244 : ∀ x g o v gz, S 244 x g o v gz → sn244 x g o v gz) (hS251 : ∀ x g o v gz, S 251 x g o v gz → sn251 x g o v gz) (hS252 : ∀ x g o v gz, S 252 x g o v gz → sn252 x g o v gz) {a : List Int} {g : rHp} : ∀ (ρ : Nat → Int) (γ : Nat → rHp), zO 43 S a g q253_19 ρ γ → zGl (fun _ _ _ => True) (sn253 a g) q253_19 ρ γ := by
  intro ρ γ h
  obtain ⟨ha, hg, hr, hf, hm, hc, hl⟩ := h
  have ha : a = [ρ 0, ρ 1, ρ 2, ρ 3, ρ 4, ρ 5, ρ 6, ρ 7, ρ 8, ρ 9, ρ 10, ρ 11, ρ 12, ρ 13, ρ 14, ρ 15, ρ 16, ρ 17, ρ 18, ρ 19, ρ 20, ρ 21, ρ 22, ρ 23, ρ 24, ρ 25, ρ 26, ρ 27, ρ 28, ρ 29, ρ 30, ρ 31, ρ 32, ρ 33, ρ 34, ρ 35, ρ 36, ρ 37, ρ 38, ρ 39, ρ 40, ρ 41, ρ 42] := ha
  subst ha
  subst hg
  obtain ⟨-, -, -, -, -, -, -, -, -, -, -, -, -, r13, -, -, -, -, -, r19, -⟩ := hr
  have r13 : (5 : Int) ≤ ρ 13 ∧ ρ 13 ≤ 8 := r13
  have r19 : (1 : Int) ≤ ρ 19 ∧ ρ 19 ≤ 1 := r19
  obtain ⟨w_0, w_1⟩ : (¬ (4 ≥ ρ 13)) ∧ (¬ (ρ 19 ≠ 1)) := ⟨by omega, by omega⟩
  obtain ⟨-, -, -, -, m4, -, -, -, -, -, -, -, -, m13, -, -, -, -, -, m19, -⟩ := hm
  have m4 : γ 0 6 0 7 = ρ 4 := m4
  have m13 : γ 0 9 (ρ 4) 2 = ρ 13 := m13
  have m19 : γ 0 10 (9 * ρ 4 + 5) 4 = ρ 19 := m19
  obtain ⟨l0, l1, -⟩ := hl
  have l0 : sn132 [ρ 4, 4] (γ 0) 0 (9 * ρ 4 + 5) (γ 1) := hS132 _ _ _ _ _ l0
  have l1 : sn252 [ρ 0, ρ 1, ρ 2, ρ 3, ρ 4, ρ 5, ρ 6, ρ 7, ρ 8, ρ 9, ρ 10, ρ 11, ρ 12, ρ 13, ρ 14, ρ 15, ρ 16, ρ 17, ρ 18, ρ 20, ρ 21, ρ 22, ρ 23, ρ 25, ρ 26, ρ 27, ρ 28, ρ 29, ρ 30, ρ 31, ρ 32, ρ 33, ρ 34, ρ 35, ρ 36, ρ 37, ρ 38, ρ 39, ρ 40, ρ 41, ρ 42] (γ 1) 1 0 (γ 2) := hS252 _ _ _ _ _ l1
  show sn253 [ρ 0, ρ 1, ρ 2, ρ 3, ρ 4, ρ 5, ρ 6, ρ 7, ρ 8, ρ 9, ρ 10, ρ 11, ρ 12, ρ 13, ρ 14, ρ 15, ρ 16, ρ 17, ρ 18, ρ 19, ρ 20, ρ 21, ρ 22, ρ 23, ρ 24, ρ 25, ρ 26, ρ 27, ρ 28, ρ 29, ρ 30, ρ 31, ρ 32, ρ 33, ρ 34, ρ 35, ρ 36, ρ 37, ρ 38, ρ 39, ρ 40, ρ 41, ρ 42] (γ 0) 1 0 (γ 2)
  refine Eq.symm ?_
  show fn253 [] (γ 0) = _
  unfold fn253
  refine (zLet_eq m4).trans ?_
  refine (zLet_eq m13).trans ?_
  refine (zLet_eq m19).trans ?_
  refine (if_neg w_0).trans ?_
  refine (zLet_eq (show fn132 [ρ 4, 4] (γ 0) = (0, 9 * ρ 4 + 5, γ 1) from l0.symm)).trans ?_
  refine (zLet_eq (show _ = γ 1 from rfl)).trans ?_
  refine (if_neg w_1).trans ?_
  refine (zLet_eq (show fn252 [] (γ 1) = (1, 0, γ 2) from l1.symm)).trans ?_
  refine (zLet_eq (show _ = γ 2 from rfl)).trans ?_
  refine (if_neg (show ¬ (1 : Nat) = 0 by decide)).trans ?_
  refine (if_pos (show (1 : Nat) = 1 by decide)).trans ?_
  rfl
theorem vn253_20 {S : Nat → zSpc} (hS132 : ∀ x g o v gz, S 132 x g o v gz → sn132 x g o v gz) (hS228 : ∀ x g o v gz, S 228 x g o v gz → sn228 x g o v gz) (hS229 : ∀ x g o v gz, S 229 x g o v gz → sn229 x g o v gz) (hS230 : ∀ x g o v gz, S 230 x g o v gz → sn230 x g o v gz) (hS231 : ∀ x g o v gz, S 231 x g o v gz → sn231 x g o v gz) (hS244 : ∀ x g o v gz, S 244 x g o v gz → sn244 x g o v gz) (hS251 : ∀ x g o v gz, S 251 x g o v gz → sn251 x g o v gz) (hS252 : ∀ x g o v gz, S 252 x g o v gz → sn252 x g o v gz) {a : List Int} {g : rHp} : ∀ (ρ : Nat → Int) (γ : Nat → rHp), zO 43 S a g q253_20 ρ γ → zGl (fun _ _ _ => True) (sn253 a g) q253_20 ρ γ := by
  intro ρ γ h
  obtain ⟨ha, hg, hr, hf, hm, hc, hl⟩ := h
  have ha : a = [ρ 0, ρ 1, ρ 2, ρ 3, ρ 4, ρ 5, ρ 6, ρ 7, ρ 8, ρ 9, ρ 10, ρ 11, ρ 12, ρ 13, ρ 14, ρ 15, ρ 16, ρ 17, ρ 18, ρ 19, ρ 20, ρ 21, ρ 22, ρ 23, ρ 24, ρ 25, ρ 26, ρ 27, ρ 28, ρ 29, ρ 30, ρ 31, ρ 32, ρ 33, ρ 34, ρ 35, ρ 36, ρ 37, ρ 38, ρ 39, ρ 40, ρ 41, ρ 42] := ha
  subst ha
  subst hg
  obtain ⟨-, -, -, -, -, -, -, -, -, -, -, -, -, r13, -, -, -, -, -, r19, -⟩ := hr
  have r13 : (5 : Int) ≤ ρ 13 ∧ ρ 13 ≤ 8 := r13
  have r19 : (1 : Int) ≤ ρ 19 ∧ ρ 19 ≤ 1 := r19
  obtain ⟨w_0, w_1⟩ : (¬ (4 ≥ ρ 13)) ∧ (¬ (ρ 19 ≠ 1)) := ⟨by omega, by omega⟩
  obtain ⟨-, -, -, -, m4, -, -, -, -, -, -, -, -, m13, -, -, -, -, -, m19, -⟩ := hm
  have m4 : γ 0 6 0 7 = ρ 4 := m4
  have m13 : γ 0 9 (ρ 4) 2 = ρ 13 := m13
  have m19 : γ 0 10 (9 * ρ 4 + 5) 4 = ρ 19 := m19
  obtain ⟨l0, l1, -⟩ := hl
  have l0 : sn132 [ρ 4, 4] (γ 0) 0 (9 * ρ 4 + 5) (γ 1) := hS132 _ _ _ _ _ l0
  have l1 : sn252 [ρ 0, ρ 1, ρ 2, ρ 3, ρ 4, ρ 5, ρ 6, ρ 7, ρ 8, ρ 9, ρ 10, ρ 11, ρ 12, ρ 13, ρ 14, ρ 15, ρ 16, ρ 17, ρ 18, ρ 20, ρ 21, ρ 22, ρ 23, ρ 25, ρ 26, ρ 27, ρ 28, ρ 29, ρ 30, ρ 31, ρ 32, ρ 33, ρ 34, ρ 35, ρ 36, ρ 37, ρ 38, ρ 39, ρ 40, ρ 41, ρ 42] (γ 1) 4 0 (γ 2) := hS252 _ _ _ _ _ l1
  show sn253 [ρ 0, ρ 1, ρ 2, ρ 3, ρ 4, ρ 5, ρ 6, ρ 7, ρ 8, ρ 9, ρ 10, ρ 11, ρ 12, ρ 13, ρ 14, ρ 15, ρ 16, ρ 17, ρ 18, ρ 19, ρ 20, ρ 21, ρ 22, ρ 23, ρ 24, ρ 25, ρ 26, ρ 27, ρ 28, ρ 29, ρ 30, ρ 31, ρ 32, ρ 33, ρ 34, ρ 35, ρ 36, ρ 37, ρ 38, ρ 39, ρ 40, ρ 41, ρ 42] (γ 0) 4 0 (γ 2)
  refine Eq.symm ?_
  show fn253 [] (γ 0) = _
  unfold fn253
  refine (zLet_eq m4).trans ?_
  refine (zLet_eq m13).trans ?_
  refine (zLet_eq m19).trans ?_
  refine (if_neg w_0).trans ?_
  refine (zLet_eq (show fn132 [ρ 4, 4] (γ 0) = (0, 9 * ρ 4 + 5, γ 1) from l0.symm)).trans ?_
  refine (zLet_eq (show _ = γ 1 from rfl)).trans ?_
  refine (if_neg w_1).trans ?_
  refine (zLet_eq (show fn252 [] (γ 1) = (4, 0, γ 2) from l1.symm)).trans ?_
  refine (zLet_eq (show _ = γ 2 from rfl)).trans ?_
  refine (if_neg (show ¬ (4 : Nat) = 0 by decide)).trans ?_
  refine (if_neg (show ¬ (4 : Nat) = 1 by decide)).trans ?_
  rfl
theorem yn253 {S : Nat → zSpc} (hS132 : ∀ x g o v gz, S 132 x g o v gz → sn132 x g o v gz) (hS228 : ∀ x g o v gz, S 228 x g o v gz → sn228 x g o v gz) (hS229 : ∀ x g o v gz, S 229 x g o v gz → sn229 x g o v gz) (hS230 : ∀ x g o v gz, S 230 x g o v gz → sn230 x g o v gz) (hS231 : ∀ x g o v gz, S 231 x g o v gz → sn231 x g o v gz) (hS244 : ∀ x g o v gz, S 244 x g o v gz → sn244 x g o v gz) (hS251 : ∀ x g o v gz, S 251 x g o v gz → sn251 x g o v gz) (hS252 : ∀ x g o v gz, S 252 x g o v gz → sn252 x g o v gz) : ∀ x g o v gz, zSem uW uT w253_.2.2.2.1 w253_.2.2.1.1.length S q253 (fun i => q253a.getD i []) (zNA a253_) x g o v gz → sn253 x g o v gz := by
  intro a g o v gz h
  exact zSem_all (l0 := q253) (las := q253a) (S := S) (J := (fun _ _ _ => True)) (P := sn253 a g) (fun _ => (show zAll _ [q253_0, q253_1, q253_2, q253_3, q253_4, q253_5, q253_6, q253_7, q253_8, q253_9, q253_10, q253_11, q253_12, q253_13, q253_14, q253_15, q253_16, q253_17, q253_18, q253_19, q253_20] from (zAll_c (vn253_0 hS132 hS228 hS229 hS230 hS231 hS244 hS251 hS252) (zAll_c (vn253_1 hS132 hS228 hS229 hS230 hS231 hS244 hS251 hS252) (zAll_c (vn253_2 hS132 hS228 hS229 hS230 hS231 hS244 hS251 hS252) (zAll_c (vn253_3 hS132 hS228 hS229 hS230 hS231 hS244 hS251 hS252) (zAll_c (vn253_4 hS132 hS228 hS229 hS230 hS231 hS244 hS251 hS252) (zAll_c (vn253_5 hS132 hS228 hS229 hS230 hS231 hS244 hS251 hS252) (zAll_c (vn253_6 hS132 hS228 hS229 hS230 hS231 hS244 hS251 hS252) (zAll_c (vn253_7 hS132 hS228 hS229 hS230 hS231 hS244 hS251 hS252) (zAll_c (vn253_8 hS132 hS228 hS229 hS230 hS231 hS244 hS251 hS252) (zAll_c (vn253_9 hS132 hS228 hS229 hS230 hS231 hS244 hS251 hS252) (zAll_c (vn253_10 hS132 hS228 hS229 hS230 hS231 hS244 hS251 hS252) (zAll_c (vn253_11 hS132 hS228 hS229 hS230 hS231 hS244 hS251 hS252) (zAll_c (vn253_12 hS132 hS228 hS229 hS230 hS231 hS244 hS251 hS252) (zAll_c (vn253_13 hS132 hS228 hS229 hS230 hS231 hS244 hS251 hS252) (zAll_c (vn253_14 hS132 hS228 hS229 hS230 hS231 hS244 hS251 hS252) (zAll_c (vn253_15 hS132 hS228 hS229 hS230 hS231 hS244 hS251 hS252) (zAll_c (vn253_16 hS132 hS228 hS229 hS230 hS231 hS244 hS251 hS252) (zAll_c (vn253_17 hS132 hS228 hS229 hS230 hS231 hS244 hS251 hS252) (zAll_c (vn253_18 hS132 hS228 hS229 hS230 hS231 hS244 hS251 hS252) (zAll_c (vn253_19 hS132 hS228 hS229 hS230 hS231 hS244 hS251 hS252) (zAll_c (vn253_20 hS132 hS228 hS229 hS230 hS231 hS244 hS251 hS252) zAll_n))))))))))))))))))))))) (fun _ => (show zAllI _ 0 [] from trivial)) h
