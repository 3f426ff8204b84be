/-! ===== the runs are the functions ===== -/
theorem vn256_0 {S : Nat → zSpc} (hS225 : ∀ x g o v gz, S 225 x g o v gz → sn225 x g o v gz) (hS226 : ∀ x g o v gz, S 226 x g o v gz → sn226 x g o v gz) (hS227 : ∀ x g o v gz, S 227 x g o v gz → sn227 x g o v gz) (hS232 : ∀ x g o v gz, S 232 x g o v gz → sn232 x g o v gz) (hS255 : ∀ x g o v gz, S 255 x g o v gz → sn255 x g o v gz) {a : List Int} {g : rHp} : ∀ (ρ : Nat → Int) (γ : Nat → rHp), zO 53 S a g q256_0 ρ γ → zGl (fun i vs g1 => jn256 a g i vs g1) (sn256 a g) q256_0 ρ γ := by
  intro ρ γ h
  obtain ⟨ha, hg, hr, hf, hm, hc, hl⟩ := h
  have ha : a = [ρ 0, ρ 1, ρ 2, ρ 3, ρ 4, ρ 5, ρ 6, ρ 7, ρ 8, ρ 9, ρ 10, ρ 11, ρ 12, ρ 13, ρ 14, ρ 15, ρ 16, ρ 17, ρ 18, ρ 19, ρ 20, ρ 21, ρ 22, ρ 23, ρ 24, ρ 25, ρ 26, ρ 27, ρ 28, ρ 29, ρ 30, ρ 31, ρ 32, ρ 33, ρ 34, ρ 35, ρ 36, ρ 37, ρ 38, ρ 39, ρ 40, ρ 41, ρ 42, ρ 43, ρ 44, ρ 45, ρ 46, ρ 47, ρ 48, ρ 49, ρ 50, ρ 51, ρ 52] := ha
  subst ha
  subst hg
  obtain ⟨-, -, -, -, -, -, -, -, -, r9, -⟩ := hr
  have r9 : ((-2147483648) : Int) ≤ ρ 9 ∧ ρ 9 ≤ 1 := r9
  have w_0 : ρ 9 ≤ 1 := by omega
  obtain ⟨-, -, -, -, m4, -, -, -, -, m9, -, m11, m12, -, m14, -, -, -, -, -, -, -, m22, -⟩ := hm
  have m4 : γ 0 6 0 7 = ρ 4 := m4
  have m9 : γ 0 6 0 10 = ρ 9 := m9
  have m11 : γ 0 6 0 12 = ρ 11 := m11
  have m12 : γ 0 6 0 13 = ρ 12 := m12
  have m14 : γ 0 9 (ρ 4) 3 = ρ 14 := m14
  have m22 : γ 0 10 (9 * ρ 4 + 3) 10 = ρ 22 := m22
  obtain ⟨l0, -⟩ := hl
  have l0 : sn226 [9 * ρ 4 + 3, 0, ρ 6, ρ 20, ρ 21] (γ 0) 0 (ρ 53) (γ 1) := hS226 _ _ _ _ _ l0
  show jn256 [ρ 0, ρ 1, ρ 2, ρ 3, ρ 4, ρ 5, ρ 6, ρ 7, ρ 8, ρ 9, ρ 10, ρ 11, ρ 12, ρ 13, ρ 14, ρ 15, ρ 16, ρ 17, ρ 18, ρ 19, ρ 20, ρ 21, ρ 22, ρ 23, ρ 24, ρ 25, ρ 26, ρ 27, ρ 28, ρ 29, ρ 30, ρ 31, ρ 32, ρ 33, ρ 34, ρ 35, ρ 36, ρ 37, ρ 38, ρ 39, ρ 40, ρ 41, ρ 42, ρ 43, ρ 44, ρ 45, ρ 46, ρ 47, ρ 48, ρ 49, ρ 50, ρ 51, ρ 52] (γ 0) 0 [ρ 0, ρ 1, ρ 2, ρ 3, ρ 4, ρ 5, ρ 6, ρ 7, ρ 8, ρ 9, ρ 10, ρ 11, ρ 12, ρ 13, ρ 14, ρ 15, ρ 16, ρ 17, ρ 18, ρ 19, ρ 20, ρ 21, ρ 22, ρ 23, ρ 24, ρ 25, ρ 26, ρ 27, ρ 28, ρ 29, ρ 30, ρ 31, ρ 32, ρ 33, ρ 34, ρ 35, ρ 36, ρ 37, ρ 38, ρ 39, ρ 40, ρ 41, ρ 42, ρ 43, ρ 44, ρ 45, ρ 46, ρ 47, ρ 48, ρ 49, ρ 50, ρ 51, ρ 52, 0, ρ 53, 0, 0, ρ 0, ρ 3, ρ 6, ρ 7, ρ 12] (γ 1)
  have hD : dn256 [] (γ 0) = .inl (0, [0, ρ 53, 0, 0], γ 1) := by
    unfold dn256
    refine (zLet_eq m4).trans ?_
    refine (zLet_eq m9).trans ?_
    refine (zLet_eq m11).trans ?_
    refine (zLet_eq m12).trans ?_
    refine (zLet_eq m14).trans ?_
    refine (zLet_eq m22).trans ?_
    refine (if_pos w_0).trans ?_
    refine (zLet_eq (show fn226 [9 * ρ 4 + 3, 0] (γ 0) = (0, ρ 53, γ 1) from l0.symm)).trans ?_
    refine (zLet_eq (show _ = γ 1 from rfl)).trans ?_
    refine (zLet_eq (show _ = ρ 53 from rfl)).trans ?_
    rfl
  exact zGoo_to hD
theorem vn256_1 {S : Nat → zSpc} (hS225 : ∀ x g o v gz, S 225 x g o v gz → sn225 x g o v gz) (hS226 : ∀ x g o v gz, S 226 x g o v gz → sn226 x g o v gz) (hS227 : ∀ x g o v gz, S 227 x g o v gz → sn227 x g o v gz) (hS232 : ∀ x g o v gz, S 232 x g o v gz → sn232 x g o v gz) (hS255 : ∀ x g o v gz, S 255 x g o v gz → sn255 x g o v gz) {a : List Int} {g : rHp} : ∀ (ρ : Nat → Int) (γ : Nat → rHp), zO 53 S a g q256_1 ρ γ → zGl (fun i vs g1 => jn256 a g i vs g1) (sn256 a g) q256_1 ρ γ := by
  intro ρ γ h
  obtain ⟨ha, hg, hr, hf, hm, hc, hl⟩ := h
  have ha : a = [ρ 0, ρ 1, ρ 2, ρ 3, ρ 4, ρ 5, ρ 6, ρ 7, ρ 8, ρ 9, ρ 10, ρ 11, ρ 12, ρ 13, ρ 14, ρ 15, ρ 16, ρ 17, ρ 18, ρ 19, ρ 20, ρ 21, ρ 22, ρ 23, ρ 24, ρ 25, ρ 26, ρ 27, ρ 28, ρ 29, ρ 30, ρ 31, ρ 32, ρ 33, ρ 34, ρ 35, ρ 36, ρ 37, ρ 38, ρ 39, ρ 40, ρ 41, ρ 42, ρ 43, ρ 44, ρ 45, ρ 46, ρ 47, ρ 48, ρ 49, ρ 50, ρ 51, ρ 52] := ha
  subst ha
  subst hg
  obtain ⟨-, -, -, -, -, -, -, -, -, r9, -, -, r12, -⟩ := hr
  have r9 : (2 : Int) ≤ ρ 9 ∧ ρ 9 ≤ 2147483647 := r9
  have r12 : ((-2147483648) : Int) ≤ ρ 12 ∧ ρ 12 ≤ 2147483647 := r12
  have w_0 : ¬ (ρ 9 ≤ 1) := by omega
  obtain ⟨-, -, -, -, m4, -, -, -, -, m9, -, m11, m12, -, m14, -, -, -, -, -, -, -, m22, -⟩ := hm
  have m4 : γ 0 6 0 7 = ρ 4 := m4
  have m9 : γ 0 6 0 10 = ρ 9 := m9
  have m11 : γ 0 6 0 12 = ρ 11 := m11
  have m12 : γ 0 6 0 13 = ρ 12 := m12
  have m14 : γ 0 9 (ρ 4) 3 = ρ 14 := m14
  have m22 : γ 0 10 (9 * ρ 4 + 3) 10 = ρ 22 := m22
  obtain ⟨l0, l1, -⟩ := hl
  have l0 : ρ 12 ≠ 0 := l0
  have l1 : sn226 [9 * ρ 4 + 3, 0, ρ 6, ρ 20, ρ 21] (γ 0) 0 (ρ 53) (γ 1) := hS226 _ _ _ _ _ l1
  have wl_0 : ρ 12 ≠ 0 := by omega
  show jn256 [ρ 0, ρ 1, ρ 2, ρ 3, ρ 4, ρ 5, ρ 6, ρ 7, ρ 8, ρ 9, ρ 10, ρ 11, ρ 12, ρ 13, ρ 14, ρ 15, ρ 16, ρ 17, ρ 18, ρ 19, ρ 20, ρ 21, ρ 22, ρ 23, ρ 24, ρ 25, ρ 26, ρ 27, ρ 28, ρ 29, ρ 30, ρ 31, ρ 32, ρ 33, ρ 34, ρ 35, ρ 36, ρ 37, ρ 38, ρ 39, ρ 40, ρ 41, ρ 42, ρ 43, ρ 44, ρ 45, ρ 46, ρ 47, ρ 48, ρ 49, ρ 50, ρ 51, ρ 52] (γ 0) 0 [ρ 0, ρ 1, ρ 2, ρ 3, ρ 4, ρ 5, ρ 6, ρ 7, ρ 8, ρ 9, ρ 10, ρ 11, ρ 12, ρ 13, ρ 14, ρ 15, ρ 16, ρ 17, ρ 18, ρ 19, ρ 20, ρ 21, ρ 22, ρ 23, ρ 24, ρ 25, ρ 26, ρ 27, ρ 28, ρ 29, ρ 30, ρ 31, ρ 32, ρ 33, ρ 34, ρ 35, ρ 36, ρ 37, ρ 38, ρ 39, ρ 40, ρ 41, ρ 42, ρ 43, ρ 44, ρ 45, ρ 46, ρ 47, ρ 48, ρ 49, ρ 50, ρ 51, ρ 52, 0, ρ 53, 0, 0, ρ 0, ρ 3, ρ 6, ρ 7, ρ 12] (γ 1)
  have hD : dn256 [] (γ 0) = .inl (0, [0, ρ 53, 0, 0], γ 1) := by
    unfold dn256
    refine (zLet_eq m4).trans ?_
    refine (zLet_eq m9).trans ?_
    refine (zLet_eq m11).trans ?_
    refine (zLet_eq m12).trans ?_
    refine (zLet_eq m14).trans ?_
    refine (zLet_eq m22).trans ?_
    refine (if_neg w_0).trans ?_
    refine (if_pos wl_0).trans ?_
    refine (zLet_eq (show fn226 [9 * ρ 4 + 3, 0] (γ 0) = (0, ρ 53, γ 1) from l1.symm)).trans ?_
    refine (zLet_eq (show _ = γ 1 from rfl)).trans ?_
    refine (zLet_eq (show _ = ρ 53 from rfl)).trans ?_
    rfl
  exact zGoo_to hD
theorem vn256_2 {S : Nat → zSpc} (hS225 : ∀ x g o v gz, S 225 x g o v gz → sn225 x g o v gz) (hS226 : ∀ x g o v gz, S 226 x g o v gz → sn226 x g o v gz) (hS227 : ∀ x g o v gz, S 227 x g o v gz → sn227 x g o v gz) (hS232 : ∀ x g o v gz, S 232 x g o v gz → sn232 x g o v gz) (hS255 : ∀ x g o v gz, S 255 x g o v gz → sn255 x g o v gz) {a : List Int} {g : rHp} : ∀ (ρ : Nat → Int) (γ : Nat → rHp), zO 53 S a g q256_2 ρ γ → zGl (fun i vs g1 => jn256 a g i vs g1) (sn256 a g) q256_2 ρ γ := by
  intro ρ γ h
  obtain ⟨ha, hg, hr, hf, hm, hc, hl⟩ := h
  have ha : a = [ρ 0, ρ 1, ρ 2, ρ 3, ρ 4, ρ 5, ρ 6, ρ 7, ρ 8, ρ 9, ρ 10, ρ 11, ρ 12, ρ 13, ρ 14, ρ 15, ρ 16, ρ 17, ρ 18, ρ 19, ρ 20, ρ 21, ρ 22, ρ 23, ρ 24, ρ 25, ρ 26, ρ 27, ρ 28, ρ 29, ρ 30, ρ 31, ρ 32, ρ 33, ρ 34, ρ 35, ρ 36, ρ 37, ρ 38, ρ 39, ρ 40, ρ 41, ρ 42, ρ 43, ρ 44, ρ 45, ρ 46, ρ 47, ρ 48, ρ 49, ρ 50, ρ 51, ρ 52] := ha
  subst ha
  subst hg
  obtain ⟨-, -, -, -, -, -, -, -, -, r9, -, -, r12, -, r14, -, -, -, -, -, -, -, r22, -⟩ := hr
  have r9 : (2 : Int) ≤ ρ 9 ∧ ρ 9 ≤ 2147483647 := r9
  have r12 : (0 : Int) ≤ ρ 12 ∧ ρ 12 ≤ 0 := r12
  have r14 : (0 : Int) ≤ ρ 14 ∧ ρ 14 ≤ 8 := r14
  have r22 : (0 : Int) ≤ ρ 22 ∧ ρ 22 ≤ 7 := r22
  obtain ⟨w_0, w_1⟩ : (¬ (ρ 9 ≤ 1)) ∧ (¬ (ρ 12 ≠ 0)) := ⟨by omega, by omega⟩
  obtain ⟨-, -, -, -, m4, -, -, -, -, m9, -, m11, m12, -, m14, -, -, -, -, -, -, -, m22, -⟩ := hm
  have m4 : γ 0 6 0 7 = ρ 4 := m4
  have m9 : γ 0 6 0 10 = ρ 9 := m9
  have m11 : γ 0 6 0 12 = ρ 11 := m11
  have m12 : γ 0 6 0 13 = ρ 12 := m12
  have m14 : γ 0 9 (ρ 4) 3 = ρ 14 := m14
  have m22 : γ 0 10 (9 * ρ 4 + 3) 10 = ρ 22 := m22
  obtain ⟨l0, l1, -⟩ := hl
  have l0 : ρ 22 ≠ ρ 14 + (-1) := l0
  have l1 : sn226 [9 * ρ 4 + 3, 0, ρ 6, ρ 20, ρ 21] (γ 0) 0 (ρ 53) (γ 1) := hS226 _ _ _ _ _ l1
  have wl_0 : ρ 22 ≠ ρ 14 + (-1) := by omega
  show jn256 [ρ 0, ρ 1, ρ 2, ρ 3, ρ 4, ρ 5, ρ 6, ρ 7, ρ 8, ρ 9, ρ 10, ρ 11, ρ 12, ρ 13, ρ 14, ρ 15, ρ 16, ρ 17, ρ 18, ρ 19, ρ 20, ρ 21, ρ 22, ρ 23, ρ 24, ρ 25, ρ 26, ρ 27, ρ 28, ρ 29, ρ 30, ρ 31, ρ 32, ρ 33, ρ 34, ρ 35, ρ 36, ρ 37, ρ 38, ρ 39, ρ 40, ρ 41, ρ 42, ρ 43, ρ 44, ρ 45, ρ 46, ρ 47, ρ 48, ρ 49, ρ 50, ρ 51, ρ 52] (γ 0) 0 [ρ 0, ρ 1, ρ 2, ρ 3, ρ 4, ρ 5, ρ 6, ρ 7, ρ 8, ρ 9, ρ 10, ρ 11, ρ 12, ρ 13, ρ 14, ρ 15, ρ 16, ρ 17, ρ 18, ρ 19, ρ 20, ρ 21, ρ 22, ρ 23, ρ 24, ρ 25, ρ 26, ρ 27, ρ 28, ρ 29, ρ 30, ρ 31, ρ 32, ρ 33, ρ 34, ρ 35, ρ 36, ρ 37, ρ 38, ρ 39, ρ 40, ρ 41, ρ 42, ρ 43, ρ 44, ρ 45, ρ 46, ρ 47, ρ 48, ρ 49, ρ 50, ρ 51, ρ 52, 0, ρ 53, 0, 0, ρ 0, ρ 3, ρ 6, ρ 7, ρ 12] (γ 1)
  have hD : dn256 [] (γ 0) = .inl (0, [0, ρ 53, 0, 0], γ 1) := by
    unfold dn256
    refine (zLet_eq m4).trans ?_
    refine (zLet_eq m9).trans ?_
    refine (zLet_eq m11).trans ?_
    refine (zLet_eq m12).trans ?_
    refine (zLet_eq m14).trans ?_
    refine (zLet_eq m22).trans ?_
    refine (if_neg w_0).trans ?_
    refine (if_neg w_1).trans ?_
    refine (if_pos wl_0).trans ?_
    refine (zLet_eq (show fn226 [9 * ρ 4 + 3, 0] (γ 0) = (0, ρ 53, γ 1) from l1.symm)).trans ?_
    refine (zLet_eq (show _ = γ 1 from rfl)).trans ?_
    refine (zLet_eq (show _ = ρ 53 from rfl)).trans ?_
    rfl
  exact zGoo_to hD
theorem vn256_3 {S : Nat → zSpc} (hS225 : ∀ x g o v gz, S 225 x g o v gz → sn225 x g o v gz) (hS226 : ∀ x g o v gz, S 226 x g o v gz → sn226 x g o v gz) (hS227 : ∀ x g o v gz, S 227 x g o v gz → sn227 x g o v gz) (hS232 : ∀ x g o v gz, S 232 x g o v gz → sn232 x g o v gz) (hS255 : ∀ x g o v gz, S 255 x g o v gz → sn255 x g o v gz) {a : List Int} {g : rHp} : ∀ (ρ : Nat → Int) (γ : Nat → rHp), zO 53 S a g q256_3 ρ γ → zGl (fun i vs g1 => jn256 a g i vs g1) (sn256 a g) q256_3 ρ γ := by
  intro ρ γ h
  obtain ⟨ha, hg, hr, hf, hm, hc, hl⟩ := h
  have ha : a = [ρ 0, ρ 1, ρ 2, ρ 3, ρ 4, ρ 5, ρ 6, ρ 7, ρ 8, ρ 9, ρ 10, ρ 11, ρ 12, ρ 13, ρ 14, ρ 15, ρ 16, ρ 17, ρ 18, ρ 19, ρ 20, ρ 21, ρ 22, ρ 23, ρ 24, ρ 25, ρ 26, ρ 27, ρ 28, ρ 29, ρ 30, ρ 31, ρ 32, ρ 33, ρ 34, ρ 35, ρ 36, ρ 37, ρ 38, ρ 39, ρ 40, ρ 41, ρ 42, ρ 43, ρ 44, ρ 45, ρ 46, ρ 47, ρ 48, ρ 49, ρ 50, ρ 51, ρ 52] := ha
  subst ha
  subst hg
  obtain ⟨-, -, -, -, -, -, -, -, -, r9, -, -, r12, -⟩ := hr
  have r9 : (2 : Int) ≤ ρ 9 ∧ ρ 9 ≤ 2147483647 := r9
  have r12 : (0 : Int) ≤ ρ 12 ∧ ρ 12 ≤ 0 := r12
  obtain ⟨f0, f1, -⟩ := hf
  have f0 : (0 : Int) ≤ -ρ 22 + ρ 14 + (-1) := f0
  have f1 : (0 : Int) ≤ ρ 22 + -ρ 14 + 1 := f1
  obtain ⟨w_0, w_1, w_2⟩ : (¬ (ρ 9 ≤ 1)) ∧ (¬ (ρ 12 ≠ 0)) ∧ (¬ (ρ 22 ≠ ρ 14 + (-1))) := ⟨by omega, by omega, by omega⟩
  obtain ⟨-, -, -, -, m4, -, -, -, -, m9, -, m11, m12, -, m14, -, -, -, -, -, -, -, m22, -⟩ := hm
  have m4 : γ 0 6 0 7 = ρ 4 := m4
  have m9 : γ 0 6 0 10 = ρ 9 := m9
  have m11 : γ 0 6 0 12 = ρ 11 := m11
  have m12 : γ 0 6 0 13 = ρ 12 := m12
  have m14 : γ 0 9 (ρ 4) 3 = ρ 14 := m14
  have m22 : γ 0 10 (9 * ρ 4 + 3) 10 = ρ 22 := m22
  obtain ⟨l0, -⟩ := hl
  have l0 : sn226 [9 * ρ 4 + 3, ρ 11, ρ 6, ρ 20, ρ 21] (γ 0) 0 (ρ 53) (γ 1) := hS226 _ _ _ _ _ l0
  show jn256 [ρ 0, ρ 1, ρ 2, ρ 3, ρ 4, ρ 5, ρ 6, ρ 7, ρ 8, ρ 9, ρ 10, ρ 11, ρ 12, ρ 13, ρ 14, ρ 15, ρ 16, ρ 17, ρ 18, ρ 19, ρ 20, ρ 21, ρ 22, ρ 23, ρ 24, ρ 25, ρ 26, ρ 27, ρ 28, ρ 29, ρ 30, ρ 31, ρ 32, ρ 33, ρ 34, ρ 35, ρ 36, ρ 37, ρ 38, ρ 39, ρ 40, ρ 41, ρ 42, ρ 43, ρ 44, ρ 45, ρ 46, ρ 47, ρ 48, ρ 49, ρ 50, ρ 51, ρ 52] (γ 0) 0 [ρ 0, ρ 1, ρ 2, ρ 3, ρ 4, ρ 5, ρ 6, ρ 7, ρ 8, ρ 9, ρ 10, ρ 11, ρ 12, ρ 13, ρ 14, ρ 15, ρ 16, ρ 17, ρ 18, ρ 19, ρ 20, ρ 21, ρ 22, ρ 23, ρ 24, ρ 25, ρ 26, ρ 27, ρ 28, ρ 29, ρ 30, ρ 31, ρ 32, ρ 33, ρ 34, ρ 35, ρ 36, ρ 37, ρ 38, ρ 39, ρ 40, ρ 41, ρ 42, ρ 43, ρ 44, ρ 45, ρ 46, ρ 47, ρ 48, ρ 49, ρ 50, ρ 51, ρ 52, 0, ρ 53, ρ 11, 1, ρ 0, ρ 3, ρ 6, ρ 7, ρ 12] (γ 1)
  have hD : dn256 [] (γ 0) = .inl (0, [0, ρ 53, ρ 11, 1], γ 1) := by
    unfold dn256
    refine (zLet_eq m4).trans ?_
    refine (zLet_eq m9).trans ?_
    refine (zLet_eq m11).trans ?_
    refine (zLet_eq m12).trans ?_
    refine (zLet_eq m14).trans ?_
    refine (zLet_eq m22).trans ?_
    refine (if_neg w_0).trans ?_
    refine (if_neg w_1).trans ?_
    refine (if_neg w_2).trans ?_
    refine (zLet_eq (show fn226 [9 * ρ 4 + 3, ρ 11] (γ 0) = (0, ρ 53, γ 1) from l0.symm)).trans ?_
    refine (zLet_eq (show _ = γ 1 from rfl)).trans ?_
    refine (zLet_eq (show _ = ρ 53 from rfl)).trans ?_
    rfl
  exact zGoo_to hD
theorem vn256a0_0 {S : Nat → zSpc} (hS225 : ∀ x g o v gz, S 225 x g o v gz → sn225 x g o v gz) (hS226 : ∀ x g o v gz, S 226 x g o v gz → sn226 x g o v gz) (hS227 : ∀ x g o v gz, S 227 x g o v gz → sn227 x g o v gz) (hS232 : ∀ x g o v gz, S 232 x g o v gz → sn232 x g o v gz) (hS255 : ∀ x g o v gz, S 255 x g o v gz → sn255 x g o v gz) {a : List Int} {g : rHp} : ∀ (ρ : Nat → Int) (γ : Nat → rHp), jn256 a g 0 (zAg (zNA a256_ 0) ρ) (γ 1) → zO 53 S a g q256a0_0 ρ γ → zGl (fun i vs g1 => jn256 a g i vs g1) (sn256 a g) q256a0_0 ρ γ := by
  intro ρ γ hJ h
  obtain ⟨ha, hg, hr, hf, hm, hc, hl⟩ := h
  have ha : a = [ρ 0, ρ 1, ρ 2, ρ 3, ρ 4, ρ 5, ρ 6, ρ 7, ρ 8, ρ 9, ρ 10, ρ 11, ρ 12, ρ 13, ρ 14, ρ 15, ρ 16, ρ 17, ρ 18, ρ 19, ρ 20, ρ 21, ρ 22, ρ 23, ρ 24, ρ 25, ρ 26, ρ 27, ρ 28, ρ 29, ρ 30, ρ 31, ρ 32, ρ 33, ρ 34, ρ 35, ρ 36, ρ 37, ρ 38, ρ 39, ρ 40, ρ 41, ρ 42, ρ 43, ρ 44, ρ 45, ρ 46, ρ 47, ρ 48, ρ 49, ρ 50, ρ 51, ρ 52] := ha
  subst ha
  subst hg
  have hJ : jn256 [ρ 0, ρ 1, ρ 2, ρ 3, ρ 4, ρ 5, ρ 6, ρ 7, ρ 8, ρ 9, ρ 10, ρ 11, ρ 12, ρ 13, ρ 14, ρ 15, ρ 16, ρ 17, ρ 18, ρ 19, ρ 20, ρ 21, ρ 22, ρ 23, ρ 24, ρ 25, ρ 26, ρ 27, ρ 28, ρ 29, ρ 30, ρ 31, ρ 32, ρ 33, ρ 34, ρ 35, ρ 36, ρ 37, ρ 38, ρ 39, ρ 40, ρ 41, ρ 42, ρ 43, ρ 44, ρ 45, ρ 46, ρ 47, ρ 48, ρ 49, ρ 50, ρ 51, ρ 52] (γ 0) 0 [ρ 0, ρ 1, ρ 2, ρ 3, ρ 4, ρ 5, ρ 6, ρ 7, ρ 8, ρ 9, ρ 10, ρ 11, ρ 12, ρ 13, ρ 14, ρ 15, ρ 16, ρ 17, ρ 18, ρ 19, ρ 20, ρ 21, ρ 22, ρ 23, ρ 24, ρ 25, ρ 26, ρ 27, ρ 28, ρ 29, ρ 30, ρ 31, ρ 32, ρ 33, ρ 34, ρ 35, ρ 36, ρ 37, ρ 38, ρ 39, ρ 40, ρ 41, ρ 42, ρ 43, ρ 44, ρ 45, ρ 46, ρ 47, ρ 48, ρ 49, ρ 50, ρ 51, ρ 52, ρ 53, ρ 54, ρ 55, ρ 56, ρ 57, ρ 58, ρ 59, ρ 60, ρ 61] (γ 1) := hJ
  obtain ⟨-, -, -, -, -, -, -, -, -, -, -, -, -, -, -, -, -, -, -, -, -, -, -, -, -, -, -, -, -, -, -, -, -, -, -, -, -, -, -, -, -, -, -, -, -, -, -, -, -, -, -, -, -, -, r54, -⟩ := hr
  have r54 : ((-1) : Int) ≤ ρ 54 ∧ ρ 54 ≤ (-1) := r54
  have w_0 : ρ 54 < 0 := by omega
  obtain ⟨-, -, -, -, m4, -, -, -, -, -, m10, m11, -, -, -, -, -, -, -, -, -, -, -, -, -, -, -, -, -, -, -, -, -, -, -, -, -, -, -, -, -, -, -, -, -, -, -, -, -, -, -, -, -, -, -, -, -, m57, -⟩ := hm
  have m4 : γ 0 6 0 7 = ρ 4 := m4
  have m10 : γ 0 6 0 11 = ρ 10 := m10
  have m11 : γ 0 6 0 12 = ρ 11 := m11
  have m57 : γ 1 6 0 13 = ρ 61 := m57
  show sn256 [ρ 0, ρ 1, ρ 2, ρ 3, ρ 4, ρ 5, ρ 6, ρ 7, ρ 8, ρ 9, ρ 10, ρ 11, ρ 12, ρ 13, ρ 14, ρ 15, ρ 16, ρ 17, ρ 18, ρ 19, ρ 20, ρ 21, ρ 22, ρ 23, ρ 24, ρ 25, ρ 26, ρ 27, ρ 28, ρ 29, ρ 30, ρ 31, ρ 32, ρ 33, ρ 34, ρ 35, ρ 36, ρ 37, ρ 38, ρ 39, ρ 40, ρ 41, ρ 42, ρ 43, ρ 44, ρ 45, ρ 46, ρ 47, ρ 48, ρ 49, ρ 50, ρ 51, ρ 52] (γ 0) 0 0 (γ 1)
  have hD : en256 (γ 0) (0, [ρ 53, ρ 54, ρ 55, ρ 56], γ 1) = .inr (0, 0, γ 1) := by
    unfold en256
    refine (if_pos (show (0 : Nat) = 0 by decide)).trans ?_
    refine (zLet_eq (show _ = γ 1 from rfl)).trans ?_
    refine (zLet_eq (show _ = ρ 53 from rfl)).trans ?_
    refine (zLet_eq (show _ = ρ 54 from rfl)).trans ?_
    refine (zLet_eq (show _ = ρ 55 from rfl)).trans ?_
    refine (zLet_eq (show _ = ρ 56 from rfl)).trans ?_
    refine (zLet_eq m4).trans ?_
    refine (zLet_eq m10).trans ?_
    refine (zLet_eq m11).trans ?_
    refine (zLet_eq m57).trans ?_
    refine (if_pos w_0).trans ?_
    rfl
  exact zGoo_aend hJ hD
theorem vn256a0_1 {S : Nat → zSpc} (hS225 : ∀ x g o v gz, S 225 x g o v gz → sn225 x g o v gz) (hS226 : ∀ x g o v gz, S 226 x g o v gz → sn226 x g o v gz) (hS227 : ∀ x g o v gz, S 227 x g o v gz → sn227 x g o v gz) (hS232 : ∀ x g o v gz, S 232 x g o v gz → sn232 x g o v gz) (hS255 : ∀ x g o v gz, S 255 x g o v gz → sn255 x g o v gz) {a : List Int} {g : rHp} : ∀ (ρ : Nat → Int) (γ : Nat → rHp), jn256 a g 0 (zAg (zNA a256_ 0) ρ) (γ 1) → zO 53 S a g q256a0_1 ρ γ → zGl (fun i vs g1 => jn256 a g i vs g1) (sn256 a g) q256a0_1 ρ γ := by
  intro ρ γ hJ h
  obtain ⟨ha, hg, hr, hf, hm, hc, hl⟩ := h
  have ha : a = [ρ 0, ρ 1, ρ 2, ρ 3, ρ 4, ρ 5, ρ 6, ρ 7, ρ 8, ρ 9, ρ 10, ρ 11, ρ 12, ρ 13, ρ 14, ρ 15, ρ 16, ρ 17, ρ 18, ρ 19, ρ 20, ρ 21, ρ 22, ρ 23, ρ 24, ρ 25, ρ 26, ρ 27, ρ 28, ρ 29, ρ 30, ρ 31, ρ 32, ρ 33, ρ 34, ρ 35, ρ 36, ρ 37, ρ 38, ρ 39, ρ 40, ρ 41, ρ 42, ρ 43, ρ 44, ρ 45, ρ 46, ρ 47, ρ 48, ρ 49, ρ 50, ρ 51, ρ 52] := ha
  subst ha
  subst hg
  have hJ : jn256 [ρ 0, ρ 1, ρ 2, ρ 3, ρ 4, ρ 5, ρ 6, ρ 7, ρ 8, ρ 9, ρ 10, ρ 11, ρ 12, ρ 13, ρ 14, ρ 15, ρ 16, ρ 17, ρ 18, ρ 19, ρ 20, ρ 21, ρ 22, ρ 23, ρ 24, ρ 25, ρ 26, ρ 27, ρ 28, ρ 29, ρ 30, ρ 31, ρ 32, ρ 33, ρ 34, ρ 35, ρ 36, ρ 37, ρ 38, ρ 39, ρ 40, ρ 41, ρ 42, ρ 43, ρ 44, ρ 45, ρ 46, ρ 47, ρ 48, ρ 49, ρ 50, ρ 51, ρ 52] (γ 0) 0 [ρ 0, ρ 1, ρ 2, ρ 3, ρ 4, ρ 5, ρ 6, ρ 7, ρ 8, ρ 9, ρ 10, ρ 11, ρ 12, ρ 13, ρ 14, ρ 15, ρ 16, ρ 17, ρ 18, ρ 19, ρ 20, ρ 21, ρ 22, ρ 23, ρ 24, ρ 25, ρ 26, ρ 27, ρ 28, ρ 29, ρ 30, ρ 31, ρ 32, ρ 33, ρ 34, ρ 35, ρ 36, ρ 37, ρ 38, ρ 39, ρ 40, ρ 41, ρ 42, ρ 43, ρ 44, ρ 45, ρ 46, ρ 47, ρ 48, ρ 49, ρ 50, ρ 51, ρ 52, ρ 53, ρ 54, ρ 55, ρ 56, ρ 57, ρ 58, ρ 59, ρ 60, ρ 61] (γ 1) := hJ
  obtain ⟨-, -, -, -, -, -, -, -, -, -, -, -, -, -, -, -, -, -, -, -, -, -, -, -, -, -, -, -, -, -, -, -, -, -, -, -, -, -, -, -, -, -, -, -, -, -, -, -, -, -, -, -, -, -, r54, -⟩ := hr
  have r54 : (0 : Int) ≤ ρ 54 ∧ ρ 54 ≤ 2000 := r54
  obtain ⟨f0, -⟩ := hf
  have f0 : (0 : Int) ≤ ρ 54 + -ρ 10 := f0
  obtain ⟨w_0, w_1⟩ : (¬ (ρ 54 < 0)) ∧ (ρ 54 ≥ ρ 10) := ⟨by omega, by omega⟩
  obtain ⟨-, -, -, -, m4, -, -, -, -, -, m10, m11, -, -, -, -, -, -, -, -, -, -, -, -, -, -, -, -, -, -, -, -, -, -, -, -, -, -, -, -, -, -, -, -, -, -, -, -, -, -, -, -, -, -, -, -, -, m57, -⟩ := hm
  have m4 : γ 0 6 0 7 = ρ 4 := m4
  have m10 : γ 0 6 0 11 = ρ 10 := m10
  have m11 : γ 0 6 0 12 = ρ 11 := m11
  have m57 : γ 1 6 0 13 = ρ 61 := m57
  show sn256 [ρ 0, ρ 1, ρ 2, ρ 3, ρ 4, ρ 5, ρ 6, ρ 7, ρ 8, ρ 9, ρ 10, ρ 11, ρ 12, ρ 13, ρ 14, ρ 15, ρ 16, ρ 17, ρ 18, ρ 19, ρ 20, ρ 21, ρ 22, ρ 23, ρ 24, ρ 25, ρ 26, ρ 27, ρ 28, ρ 29, ρ 30, ρ 31, ρ 32, ρ 33, ρ 34, ρ 35, ρ 36, ρ 37, ρ 38, ρ 39, ρ 40, ρ 41, ρ 42, ρ 43, ρ 44, ρ 45, ρ 46, ρ 47, ρ 48, ρ 49, ρ 50, ρ 51, ρ 52] (γ 0) 0 0 (γ 1)
  have hD : en256 (γ 0) (0, [ρ 53, ρ 54, ρ 55, ρ 56], γ 1) = .inr (0, 0, γ 1) := by
    unfold en256
    refine (if_pos (show (0 : Nat) = 0 by decide)).trans ?_
    refine (zLet_eq (show _ = γ 1 from rfl)).trans ?_
    refine (zLet_eq (show _ = ρ 53 from rfl)).trans ?_
    refine (zLet_eq (show _ = ρ 54 from rfl)).trans ?_
    refine (zLet_eq (show _ = ρ 55 from rfl)).trans ?_
    refine (zLet_eq (show _ = ρ 56 from rfl)).trans ?_
    refine (zLet_eq m4).trans ?_
    refine (zLet_eq m10).trans ?_
    refine (zLet_eq m11).trans ?_
    refine (zLet_eq m57).trans ?_
    refine (if_neg w_0).trans ?_
    refine (if_pos w_1).trans ?_
    rfl
  exact zGoo_aend hJ hD
theorem vn256a0_2 {S : Nat → zSpc} (hS225 : ∀ x g o v gz, S 225 x g o v gz → sn225 x g o v gz) (hS226 : ∀ x g o v gz, S 226 x g o v gz → sn226 x g o v gz) (hS227 : ∀ x g o v gz, S 227 x g o v gz → sn227 x g o v gz) (hS232 : ∀ x g o v gz, S 232 x g o v gz → sn232 x g o v gz) (hS255 : ∀ x g o v gz, S 255 x g o v gz → sn255 x g o v gz) {a : List Int} {g : rHp} : ∀ (ρ : Nat → Int) (γ : Nat → rHp), jn256 a g 0 (zAg (zNA a256_ 0) ρ) (γ 1) → zO 53 S a g q256a0_2 ρ γ → zGl (fun i vs g1 => jn256 a g i vs g1) (sn256 a g) q256a0_2 ρ γ := by
  intro ρ γ hJ h
  obtain ⟨ha, hg, hr, hf, hm, hc, hl⟩ := h
  have ha : a = [ρ 0, ρ 1, ρ 2, ρ 3, ρ 4, ρ 5, ρ 6, ρ 7, ρ 8, ρ 9, ρ 10, ρ 11, ρ 12, ρ 13, ρ 14, ρ 15, ρ 16, ρ 17, ρ 18, ρ 19, ρ 20, ρ 21, ρ 22, ρ 23, ρ 24, ρ 25, ρ 26, ρ 27, ρ 28, ρ 29, ρ 30, ρ 31, ρ 32, ρ 33, ρ 34, ρ 35, ρ 36, ρ 37, ρ 38, ρ 39, ρ 40, ρ 41, ρ 42, ρ 43, ρ 44, ρ 45, ρ 46, ρ 47, ρ 48, ρ 49, ρ 50, ρ 51, ρ 52] := ha
  subst ha
  subst hg
  have hJ : jn256 [ρ 0, ρ 1, ρ 2, ρ 3, ρ 4, ρ 5, ρ 6, ρ 7, ρ 8, ρ 9, ρ 10, ρ 11, ρ 12, ρ 13, ρ 14, ρ 15, ρ 16, ρ 17, ρ 18, ρ 19, ρ 20, ρ 21, ρ 22, ρ 23, ρ 24, ρ 25, ρ 26, ρ 27, ρ 28, ρ 29, ρ 30, ρ 31, ρ 32, ρ 33, ρ 34, ρ 35, ρ 36, ρ 37, ρ 38, ρ 39, ρ 40, ρ 41, ρ 42, ρ 43, ρ 44, ρ 45, ρ 46, ρ 47, ρ 48, ρ 49, ρ 50, ρ 51, ρ 52] (γ 0) 0 [ρ 0, ρ 1, ρ 2, ρ 3, ρ 4, ρ 5, ρ 6, ρ 7, ρ 8, ρ 9, ρ 10, ρ 11, ρ 12, ρ 13, ρ 14, ρ 15, ρ 16, ρ 17, ρ 18, ρ 19, ρ 20, ρ 21, ρ 22, ρ 23, ρ 24, ρ 25, ρ 26, ρ 27, ρ 28, ρ 29, ρ 30, ρ 31, ρ 32, ρ 33, ρ 34, ρ 35, ρ 36, ρ 37, ρ 38, ρ 39, ρ 40, ρ 41, ρ 42, ρ 43, ρ 44, ρ 45, ρ 46, ρ 47, ρ 48, ρ 49, ρ 50, ρ 51, ρ 52, ρ 53, ρ 54, ρ 55, ρ 56, ρ 57, ρ 58, ρ 59, ρ 60, ρ 61] (γ 1) := hJ
  obtain ⟨-, -, -, -, -, -, -, -, -, -, -, -, -, -, -, -, -, -, -, -, -, -, -, -, -, -, -, -, -, -, -, -, -, -, -, -, -, -, -, -, -, -, -, -, -, -, -, -, -, -, -, -, -, r53, r54, -⟩ := hr
  have r53 : (2000 : Int) ≤ ρ 53 ∧ ρ 53 ≤ 2000 := r53
  have r54 : (0 : Int) ≤ ρ 54 ∧ ρ 54 ≤ 2000 := r54
  obtain ⟨f0, -⟩ := hf
  have f0 : (0 : Int) ≤ -ρ 54 + ρ 10 + (-1) := f0
  obtain ⟨w_0, w_1, w_2⟩ : (¬ (ρ 54 < 0)) ∧ (¬ (ρ 54 ≥ ρ 10)) ∧ (ρ 53 ≥ 2000) := ⟨by omega, by omega, by omega⟩
  obtain ⟨-, -, -, -, m4, -, -, -, -, -, m10, m11, -, -, -, -, -, -, -, -, -, -, -, -, -, -, -, -, -, -, -, -, -, -, -, -, -, -, -, -, -, -, -, -, -, -, -, -, -, -, -, -, -, -, -, -, -, m57, -⟩ := hm
  have m4 : γ 0 6 0 7 = ρ 4 := m4
  have m10 : γ 0 6 0 11 = ρ 10 := m10
  have m11 : γ 0 6 0 12 = ρ 11 := m11
  have m57 : γ 1 6 0 13 = ρ 61 := m57
  show sn256 [ρ 0, ρ 1, ρ 2, ρ 3, ρ 4, ρ 5, ρ 6, ρ 7, ρ 8, ρ 9, ρ 10, ρ 11, ρ 12, ρ 13, ρ 14, ρ 15, ρ 16, ρ 17, ρ 18, ρ 19, ρ 20, ρ 21, ρ 22, ρ 23, ρ 24, ρ 25, ρ 26, ρ 27, ρ 28, ρ 29, ρ 30, ρ 31, ρ 32, ρ 33, ρ 34, ρ 35, ρ 36, ρ 37, ρ 38, ρ 39, ρ 40, ρ 41, ρ 42, ρ 43, ρ 44, ρ 45, ρ 46, ρ 47, ρ 48, ρ 49, ρ 50, ρ 51, ρ 52] (γ 0) 0 0 (γ 1)
  have hD : en256 (γ 0) (0, [ρ 53, ρ 54, ρ 55, ρ 56], γ 1) = .inr (0, 0, γ 1) := by
    unfold en256
    refine (if_pos (show (0 : Nat) = 0 by decide)).trans ?_
    refine (zLet_eq (show _ = γ 1 from rfl)).trans ?_
    refine (zLet_eq (show _ = ρ 53 from rfl)).trans ?_
    refine (zLet_eq (show _ = ρ 54 from rfl)).trans ?_
    refine (zLet_eq (show _ = ρ 55 from rfl)).trans ?_
    refine (zLet_eq (show _ = ρ 56 from rfl)).trans ?_
    refine (zLet_eq m4).trans ?_
    refine (zLet_eq m10).trans ?_
    refine (zLet_eq m11).trans ?_
    refine (zLet_eq m57).trans ?_
    refine (if_neg w_0).trans ?_
    refine (if_neg w_1).trans ?_
    refine (if_pos w_2).trans ?_
    rfl
  exact zGoo_aend hJ hD
theorem vn256a0_3 {S : Nat → zSpc} (hS225 : ∀ x g o v gz, S 225 x g o v gz → sn225 x g o v gz) (hS226 : ∀ x g o v gz, S 226 x g o v gz → sn226 x g o v gz) (hS227 : ∀ x g o v gz, S 227 x g o v gz → sn227 x g o v gz) (hS232 : ∀ x g o v gz, S 232 x g o v gz → sn232 x g o v gz) (hS255 : ∀ x g o v gz, S 255 x g o v gz → sn255 x g o v gz) {a : List Int} {g : rHp} : ∀ (ρ : Nat → Int) (γ : Nat → rHp), jn256 a g 0 (zAg (zNA a256_ 0) ρ) (γ 1) → zO 53 S a g q256a0_3 ρ γ → zGl (fun i vs g1 => jn256 a g i vs g1) (sn256 a g) q256a0_3 ρ γ := by
  intro ρ γ hJ h
  obtain ⟨ha, hg, hr, hf, hm, hc, hl⟩ := h
  have ha : a = [ρ 0, ρ 1, ρ 2, ρ 3, ρ 4, ρ 5, ρ 6, ρ 7, ρ 8, ρ 9, ρ 10, ρ 11, ρ 12, ρ 13, ρ 14, ρ 15, ρ 16, ρ 17, ρ 18, ρ 19, ρ 20, ρ 21, ρ 22, ρ 23, ρ 24, ρ 25, ρ 26, ρ 27, ρ 28, ρ 29, ρ 30, ρ 31, ρ 32, ρ 33, ρ 34, ρ 35, ρ 36, ρ 37, ρ 38, ρ 39, ρ 40, ρ 41, ρ 42, ρ 43, ρ 44, ρ 45, ρ 46, ρ 47, ρ 48, ρ 49, ρ 50, ρ 51, ρ 52] := ha
  subst ha
  subst hg
  have hJ : jn256 [ρ 0, ρ 1, ρ 2, ρ 3, ρ 4, ρ 5, ρ 6, ρ 7, ρ 8, ρ 9, ρ 10, ρ 11, ρ 12, ρ 13, ρ 14, ρ 15, ρ 16, ρ 17, ρ 18, ρ 19, ρ 20, ρ 21, ρ 22, ρ 23, ρ 24, ρ 25, ρ 26, ρ 27, ρ 28, ρ 29, ρ 30, ρ 31, ρ 32, ρ 33, ρ 34, ρ 35, ρ 36, ρ 37, ρ 38, ρ 39, ρ 40, ρ 41, ρ 42, ρ 43, ρ 44, ρ 45, ρ 46, ρ 47, ρ 48, ρ 49, ρ 50, ρ 51, ρ 52] (γ 0) 0 [ρ 0, ρ 1, ρ 2, ρ 3, ρ 4, ρ 5, ρ 6, ρ 7, ρ 8, ρ 9, ρ 10, ρ 11, ρ 12, ρ 13, ρ 14, ρ 15, ρ 16, ρ 17, ρ 18, ρ 19, ρ 20, ρ 21, ρ 22, ρ 23, ρ 24, ρ 25, ρ 26, ρ 27, ρ 28, ρ 29, ρ 30, ρ 31, ρ 32, ρ 33, ρ 34, ρ 35, ρ 36, ρ 37, ρ 38, ρ 39, ρ 40, ρ 41, ρ 42, ρ 43, ρ 44, ρ 45, ρ 46, ρ 47, ρ 48, ρ 49, ρ 50, ρ 51, ρ 52, ρ 53, ρ 54, ρ 55, ρ 56, ρ 57, ρ 58, ρ 59, ρ 60, ρ 61] (γ 1) := hJ
  obtain ⟨-, -, -, -, -, -, -, -, -, -, -, -, -, -, -, -, -, -, -, -, -, -, -, -, -, -, -, -, -, -, -, -, -, -, -, -, -, -, -, -, -, -, -, -, -, -, -, -, -, -, -, -, -, r53, r54, -⟩ := hr
  have r53 : (0 : Int) ≤ ρ 53 ∧ ρ 53 ≤ 1999 := r53
  have r54 : (0 : Int) ≤ ρ 54 ∧ ρ 54 ≤ 2000 := r54
  obtain ⟨f0, f1, -⟩ := hf
  have f0 : (0 : Int) ≤ ρ 55 + -ρ 54 + (-1) := f0
  have f1 : (0 : Int) ≤ -ρ 54 + ρ 10 + (-1) := f1
  obtain ⟨w_0, w_1, w_2, w_3⟩ : (¬ (ρ 54 < 0)) ∧ (¬ (ρ 54 ≥ ρ 10)) ∧ (¬ (ρ 53 ≥ 2000)) ∧ (ρ 54 < ρ 55) := ⟨by omega, by omega, by omega, by omega⟩
  obtain ⟨-, -, -, -, m4, -, -, -, -, -, m10, m11, -, -, -, -, -, -, -, -, -, -, -, -, -, -, -, -, -, -, -, -, -, -, -, -, -, -, -, -, -, -, -, -, -, -, -, -, -, -, -, -, -, -, -, -, -, m57, -⟩ := hm
  have m4 : γ 0 6 0 7 = ρ 4 := m4
  have m10 : γ 0 6 0 11 = ρ 10 := m10
  have m11 : γ 0 6 0 12 = ρ 11 := m11
  have m57 : γ 1 6 0 13 = ρ 61 := m57
  obtain ⟨l0, -⟩ := hl
  have l0 : sn227 [9 * ρ 4 + 3, ρ 54, ρ 21] (γ 1) 0 (ρ 62) (γ 2) := hS227 _ _ _ _ _ l0
  show jn256 [ρ 0, ρ 1, ρ 2, ρ 3, ρ 4, ρ 5, ρ 6, ρ 7, ρ 8, ρ 9, ρ 10, ρ 11, ρ 12, ρ 13, ρ 14, ρ 15, ρ 16, ρ 17, ρ 18, ρ 19, ρ 20, ρ 21, ρ 22, ρ 23, ρ 24, ρ 25, ρ 26, ρ 27, ρ 28, ρ 29, ρ 30, ρ 31, ρ 32, ρ 33, ρ 34, ρ 35, ρ 36, ρ 37, ρ 38, ρ 39, ρ 40, ρ 41, ρ 42, ρ 43, ρ 44, ρ 45, ρ 46, ρ 47, ρ 48, ρ 49, ρ 50, ρ 51, ρ 52] (γ 0) 0 [ρ 0, ρ 1, ρ 2, ρ 3, ρ 4, ρ 5, ρ 6, ρ 7, ρ 8, ρ 9, ρ 10, ρ 11, ρ 12, ρ 13, ρ 14, ρ 15, ρ 16, ρ 17, ρ 18, ρ 19, ρ 20, ρ 21, ρ 22, ρ 23, ρ 24, ρ 25, ρ 26, ρ 27, ρ 28, ρ 29, ρ 30, ρ 31, ρ 32, ρ 33, ρ 34, ρ 35, ρ 36, ρ 37, ρ 38, ρ 39, ρ 40, ρ 41, ρ 42, ρ 43, ρ 44, ρ 45, ρ 46, ρ 47, ρ 48, ρ 49, ρ 50, ρ 51, ρ 52, ρ 53 + 1, ρ 62, ρ 55, ρ 56, ρ 57, ρ 58, ρ 59, ρ 60, ρ 61] (γ 2)
  have hD : en256 (γ 0) (0, [ρ 53, ρ 54, ρ 55, ρ 56], γ 1) = .inl (0, [ρ 53 + 1, ρ 62, ρ 55, ρ 56], γ 2) := by
    unfold en256
    refine (if_pos (show (0 : Nat) = 0 by decide)).trans ?_
    refine (zLet_eq (show _ = γ 1 from rfl)).trans ?_
    refine (zLet_eq (show _ = ρ 53 from rfl)).trans ?_
    refine (zLet_eq (show _ = ρ 54 from rfl)).trans ?_
    refine (zLet_eq (show _ = ρ 55 from rfl)).trans ?_
    refine (zLet_eq (show _ = ρ 56 from rfl)).trans ?_
    refine (zLet_eq m4).trans ?_
    refine (zLet_eq m10).trans ?_
    refine (zLet_eq m11).trans ?_
    refine (zLet_eq m57).trans ?_
    refine (if_neg w_0).trans ?_
    refine (if_neg w_1).trans ?_
    refine (if_neg w_2).trans ?_
    refine (if_pos w_3).trans ?_
    refine (zLet_eq (show fn227 [9 * ρ 4 + 3, ρ 54] (γ 1) = (0, ρ 62, γ 2) from l0.symm)).trans ?_
    refine (zLet_eq (show _ = γ 2 from rfl)).trans ?_
    refine (zLet_eq (show _ = ρ 62 from rfl)).trans ?_
    rfl
  exact zGoo_ato hJ hD
theorem vn256a0_4 {S : Nat → zSpc} (hS225 : ∀ x g o v gz, S 225 x g o v gz → sn225 x g o v gz) (hS226 : ∀ x g o v gz, S 226 x g o v gz → sn226 x g o v gz) (hS227 : ∀ x g o v gz, S 227 x g o v gz → sn227 x g o v gz) (hS232 : ∀ x g o v gz, S 232 x g o v gz → sn232 x g o v gz) (hS255 : ∀ x g o v gz, S 255 x g o v gz → sn255 x g o v gz) {a : List Int} {g : rHp} : ∀ (ρ : Nat → Int) (γ : Nat → rHp), jn256 a g 0 (zAg (zNA a256_ 0) ρ) (γ 1) → zO 53 S a g q256a0_4 ρ γ → zGl (fun i vs g1 => jn256 a g i vs g1) (sn256 a g) q256a0_4 ρ γ := by
  intro ρ γ hJ h
  obtain ⟨ha, hg, hr, hf, hm, hc, hl⟩ := h
  have ha : a = [ρ 0, ρ 1, ρ 2, ρ 3, ρ 4, ρ 5, ρ 6, ρ 7, ρ 8, ρ 9, ρ 10, ρ 11, ρ 12, ρ 13, ρ 14, ρ 15, ρ 16, ρ 17, ρ 18, ρ 19, ρ 20, ρ 21, ρ 22, ρ 23, ρ 24, ρ 25, ρ 26, ρ 27, ρ 28, ρ 29, ρ 30, ρ 31, ρ 32, ρ 33, ρ 34, ρ 35, ρ 36, ρ 37, ρ 38, ρ 39, ρ 40, ρ 41, ρ 42, ρ 43, ρ 44, ρ 45, ρ 46, ρ 47, ρ 48, ρ 49, ρ 50, ρ 51, ρ 52] := ha
  subst ha
  subst hg
  have hJ : jn256 [ρ 0, ρ 1, ρ 2, ρ 3, ρ 4, ρ 5, ρ 6, ρ 7, ρ 8, ρ 9, ρ 10, ρ 11, ρ 12, ρ 13, ρ 14, ρ 15, ρ 16, ρ 17, ρ 18, ρ 19, ρ 20, ρ 21, ρ 22, ρ 23, ρ 24, ρ 25, ρ 26, ρ 27, ρ 28, ρ 29, ρ 30, ρ 31, ρ 32, ρ 33, ρ 34, ρ 35, ρ 36, ρ 37, ρ 38, ρ 39, ρ 40, ρ 41, ρ 42, ρ 43, ρ 44, ρ 45, ρ 46, ρ 47, ρ 48, ρ 49, ρ 50, ρ 51, ρ 52] (γ 0) 0 [ρ 0, ρ 1, ρ 2, ρ 3, ρ 4, ρ 5, ρ 6, ρ 7, ρ 8, ρ 9, ρ 10, ρ 11, ρ 12, ρ 13, ρ 14, ρ 15, ρ 16, ρ 17, ρ 18, ρ 19, ρ 20, ρ 21, ρ 22, ρ 23, ρ 24, ρ 25, ρ 26, ρ 27, ρ 28, ρ 29, ρ 30, ρ 31, ρ 32, ρ 33, ρ 34, ρ 35, ρ 36, ρ 37, ρ 38, ρ 39, ρ 40, ρ 41, ρ 42, ρ 43, ρ 44, ρ 45, ρ 46, ρ 47, ρ 48, ρ 49, ρ 50, ρ 51, ρ 52, ρ 53, ρ 54, ρ 55, ρ 56, ρ 57, ρ 58, ρ 59, ρ 60, ρ 61] (γ 1) := hJ
  obtain ⟨-, -, -, -, -, -, -, -, -, -, -, -, -, -, -, -, -, -, -, -, -, -, -, -, -, -, -, -, -, -, -, -, -, -, -, -, -, -, -, -, -, -, -, -, -, -, -, -, -, -, -, -, -, r53, r54, -⟩ := hr
  have r53 : (0 : Int) ≤ ρ 53 ∧ ρ 53 ≤ 1999 := r53
  have r54 : (0 : Int) ≤ ρ 54 ∧ ρ 54 ≤ 2000 := r54
  obtain ⟨f0, f1, -⟩ := hf
  have f0 : (0 : Int) ≤ -ρ 55 + ρ 54 := f0
  have f1 : (0 : Int) ≤ -ρ 54 + ρ 10 + (-1) := f1
  obtain ⟨w_0, w_1, w_2, w_3⟩ : (¬ (ρ 54 < 0)) ∧ (¬ (ρ 54 ≥ ρ 10)) ∧ (¬ (ρ 53 ≥ 2000)) ∧ (¬ (ρ 54 < ρ 55)) := ⟨by omega, by omega, by omega, by omega⟩
  obtain ⟨-, -, -, -, m4, -, -, -, -, -, m10, m11, -, -, -, -, -, -, -, -, -, -, -, -, -, -, -, -, -, -, -, -, -, -, -, -, -, -, -, -, -, -, -, -, -, -, -, -, -, -, -, -, -, -, -, -, -, m57, -⟩ := hm
  have m4 : γ 0 6 0 7 = ρ 4 := m4
  have m10 : γ 0 6 0 11 = ρ 10 := m10
  have m11 : γ 0 6 0 12 = ρ 11 := m11
  have m57 : γ 1 6 0 13 = ρ 61 := m57
  obtain ⟨l0, l1, -⟩ := hl
  have l0 : sn225 [9 * ρ 4 + 3, ρ 54, ρ 19, ρ 20] (γ 1) 0 0 (γ 2) := hS225 _ _ _ _ _ l0
  have l1 : sn227 [9 * ρ 4 + 3, ρ 54, ρ 21] (γ 2) 0 (ρ 62) (γ 3) := hS227 _ _ _ _ _ l1
  show jn256 [ρ 0, ρ 1, ρ 2, ρ 3, ρ 4, ρ 5, ρ 6, ρ 7, ρ 8, ρ 9, ρ 10, ρ 11, ρ 12, ρ 13, ρ 14, ρ 15, ρ 16, ρ 17, ρ 18, ρ 19, ρ 20, ρ 21, ρ 22, ρ 23, ρ 24, ρ 25, ρ 26, ρ 27, ρ 28, ρ 29, ρ 30, ρ 31, ρ 32, ρ 33, ρ 34, ρ 35, ρ 36, ρ 37, ρ 38, ρ 39, ρ 40, ρ 41, ρ 42, ρ 43, ρ 44, ρ 45, ρ 46, ρ 47, ρ 48, ρ 49, ρ 50, ρ 51, ρ 52] (γ 0) 0 [ρ 0, ρ 1, ρ 2, ρ 3, ρ 4, ρ 5, ρ 6, ρ 7, ρ 8, ρ 9, ρ 10, ρ 11, ρ 12, ρ 13, ρ 14, ρ 15, ρ 16, ρ 17, ρ 18, ρ 19, ρ 20, ρ 21, ρ 22, ρ 23, ρ 24, ρ 25, ρ 26, ρ 27, ρ 28, ρ 29, ρ 30, ρ 31, ρ 32, ρ 33, ρ 34, ρ 35, ρ 36, ρ 37, ρ 38, ρ 39, ρ 40, ρ 41, ρ 42, ρ 43, ρ 44, ρ 45, ρ 46, ρ 47, ρ 48, ρ 49, ρ 50, ρ 51, ρ 52, ρ 53 + 1, ρ 62, ρ 55, ρ 56, ρ 57, ρ 58, ρ 59, ρ 60, ρ 61] (γ 3)
  have hD : en256 (γ 0) (0, [ρ 53, ρ 54, ρ 55, ρ 56], γ 1) = .inl (0, [ρ 53 + 1, ρ 62, ρ 55, ρ 56], γ 3) := by
    unfold en256
    refine (if_pos (show (0 : Nat) = 0 by decide)).trans ?_
    refine (zLet_eq (show _ = γ 1 from rfl)).trans ?_
    refine (zLet_eq (show _ = ρ 53 from rfl)).trans ?_
    refine (zLet_eq (show _ = ρ 54 from rfl)).trans ?_
    refine (zLet_eq (show _ = ρ 55 from rfl)).trans ?_
    refine (zLet_eq (show _ = ρ 56 from rfl)).trans ?_
    refine (zLet_eq m4).trans ?_
    refine (zLet_eq m10).trans ?_
    refine (zLet_eq m11).trans ?_
    refine (zLet_eq m57).trans ?_
    refine (if_neg w_0).trans ?_
    refine (if_neg w_1).trans ?_
    refine (if_neg w_2).trans ?_
    refine (if_neg w_3).trans ?_
    refine (zLet_eq (show fn225 [9 * ρ 4 + 3, ρ 54] (γ 1) = (0, 0, γ 2) from l0.symm)).trans ?_
    refine (zLet_eq (show _ = γ 2 from rfl)).trans ?_
    refine (if_neg zQ0_).trans ?_
    refine (zLet_eq (show fn227 [9 * ρ 4 + 3, ρ 54] (γ 2) = (0, ρ 62, γ 3) from l1.symm)).trans ?_
    refine (zLet_eq (show _ = γ 3 from rfl)).trans ?_
    refine (zLet_eq (show _ = ρ 62 from rfl)).trans ?_
    rfl
  exact zGoo_ato hJ hD
theorem vn256a0_5 {S : Nat → zSpc} (hS225 : ∀ x g o v gz, S 225 x g o v gz → sn225 x g o v gz) (hS226 : ∀ x g o v gz, S 226 x g o v gz → sn226 x g o v gz) (hS227 : ∀ x g o v gz, S 227 x g o v gz → sn227 x g o v gz) (hS232 : ∀ x g o v gz, S 232 x g o v gz → sn232 x g o v gz) (hS255 : ∀ x g o v gz, S 255 x g o v gz → sn255 x g o v gz) {a : List Int} {g : rHp} : ∀ (ρ : Nat → Int) (γ : Nat → rHp), jn256 a g 0 (zAg (zNA a256_ 0) ρ) (γ 1) → zO 53 S a g q256a0_5 ρ γ → zGl (fun i vs g1 => jn256 a g i vs g1) (sn256 a g) q256a0_5 ρ γ := by
  intro ρ γ hJ h
  obtain ⟨ha, hg, hr, hf, hm, hc, hl⟩ := h
  have ha : a = [ρ 0, ρ 1, ρ 2, ρ 3, ρ 4, ρ 5, ρ 6, ρ 7, ρ 8, ρ 9, ρ 10, ρ 11, ρ 12, ρ 13, ρ 14, ρ 15, ρ 16, ρ 17, ρ 18, ρ 19, ρ 20, ρ 21, ρ 22, ρ 23, ρ 24, ρ 25, ρ 26, ρ 27, ρ 28, ρ 29, ρ 30, ρ 31, ρ 32, ρ 33, ρ 34, ρ 35, ρ 36, ρ 37, ρ 38, ρ 39, ρ 40, ρ 41, ρ 42, ρ 43, ρ 44, ρ 45, ρ 46, ρ 47, ρ 48, ρ 49, ρ 50, ρ 51, ρ 52] := ha
  subst ha
  subst hg
  have hJ : jn256 [ρ 0, ρ 1, ρ 2, ρ 3, ρ 4, ρ 5, ρ 6, ρ 7, ρ 8, ρ 9, ρ 10, ρ 11, ρ 12, ρ 13, ρ 14, ρ 15, ρ 16, ρ 17, ρ 18, ρ 19, ρ 20, ρ 21, ρ 22, ρ 23, ρ 24, ρ 25, ρ 26, ρ 27, ρ 28, ρ 29, ρ 30, ρ 31, ρ 32, ρ 33, ρ 34, ρ 35, ρ 36, ρ 37, ρ 38, ρ 39, ρ 40, ρ 41, ρ 42, ρ 43, ρ 44, ρ 45, ρ 46, ρ 47, ρ 48, ρ 49, ρ 50, ρ 51, ρ 52] (γ 0) 0 [ρ 0, ρ 1, ρ 2, ρ 3, ρ 4, ρ 5, ρ 6, ρ 7, ρ 8, ρ 9, ρ 10, ρ 11, ρ 12, ρ 13, ρ 14, ρ 15, ρ 16, ρ 17, ρ 18, ρ 19, ρ 20, ρ 21, ρ 22, ρ 23, ρ 24, ρ 25, ρ 26, ρ 27, ρ 28, ρ 29, ρ 30, ρ 31, ρ 32, ρ 33, ρ 34, ρ 35, ρ 36, ρ 37, ρ 38, ρ 39, ρ 40, ρ 41, ρ 42, ρ 43, ρ 44, ρ 45, ρ 46, ρ 47, ρ 48, ρ 49, ρ 50, ρ 51, ρ 52, ρ 53, ρ 54, ρ 55, ρ 56, ρ 57, ρ 58, ρ 59, ρ 60, ρ 61] (γ 1) := hJ
  obtain ⟨-, -, -, -, -, -, -, -, -, -, -, -, -, -, -, -, -, -, -, -, -, -, -, -, -, -, -, -, -, -, -, -, -, -, -, -, -, -, -, -, -, -, -, -, -, -, -, -, -, -, -, -, -, r53, r54, -⟩ := hr
  have r53 : (0 : Int) ≤ ρ 53 ∧ ρ 53 ≤ 1999 := r53
  have r54 : (0 : Int) ≤ ρ 54 ∧ ρ 54 ≤ 2000 := r54
  obtain ⟨-, -, -, -, -, -, f6, f7, f8, -⟩ := hf
  have f6 : (0 : Int) ≤ -ρ 54 + ρ 11 + (-1) := f6
  have f7 : (0 : Int) ≤ -ρ 55 + ρ 54 := f7
  have f8 : (0 : Int) ≤ -ρ 54 + ρ 10 + (-1) := f8
  obtain ⟨w_0, w_1, w_2, w_3, w_4⟩ : (¬ (ρ 54 < 0)) ∧ (¬ (ρ 54 ≥ ρ 10)) ∧ (¬ (ρ 53 ≥ 2000)) ∧ (¬ (ρ 54 < ρ 55)) ∧ (ρ 54 < ρ 11) := ⟨by omega, by omega, by omega, by omega, by omega⟩
  obtain ⟨-, -, -, -, m4, -, -, -, -, -, m10, m11, -, -, -, -, -, -, -, -, -, -, -, -, -, -, -, -, -, -, -, -, -, -, -, -, -, -, -, -, -, -, -, -, -, -, -, -, -, -, -, -, -, -, -, -, -, m57, -, -, -, -, -, m63, -⟩ := hm
  have m4 : γ 0 6 0 7 = ρ 4 := m4
  have m10 : γ 0 6 0 11 = ρ 10 := m10
  have m11 : γ 0 6 0 12 = ρ 11 := m11
  have m57 : γ 1 6 0 13 = ρ 61 := m57
  have m63 : γ 5 6 0 13 = ρ 66 := m63
  obtain ⟨⟨⟨⟨-, c4⟩, -⟩, c6⟩, -⟩ := hc
  have c4 : γ 4 = rUp (γ 3) 6 0 13 (ρ 61) := c4
  have c6 : γ 6 = rUp (γ 5) 6 0 13 (ρ 66) := c6
  obtain ⟨l0, l1, l2, l3, -⟩ := hl
  have l0 : sn225 [9 * ρ 4 + 3, ρ 54, ρ 19, ρ 20] (γ 1) 0 1 (γ 2) := hS225 _ _ _ _ _ l0
  have l1 : sn232 [9 * ρ 4 + 3, ρ 54, ρ 57, ρ 22] (γ 2) 0 0 (γ 3) := hS232 _ _ _ _ _ l1
  have l2 : sn255 [ρ 57 + 1, ρ 1, ρ 2, ρ 58, ρ 4, ρ 5, ρ 59, ρ 60, ρ 8, ρ 9, ρ 10, ρ 11, ρ 61, ρ 13, ρ 14, ρ 15, ρ 16, ρ 17, ρ 18, ρ 23, ρ 24, ρ 25, ρ 26, ρ 27, ρ 28, ρ 29, ρ 30, ρ 31, ρ 32, ρ 33, ρ 34, ρ 35, ρ 36, ρ 37, ρ 38, ρ 39, ρ 40, ρ 41, ρ 42, ρ 43, ρ 44, ρ 45, ρ 46, ρ 47, ρ 48, ρ 49, ρ 50, ρ 51, ρ 52] (γ 4) 0 0 (γ 5) := hS255 _ _ _ _ _ l2
  have l3 : sn227 [9 * ρ 4 + 3, ρ 54, ρ 21] (γ 6) 0 (ρ 67) (γ 7) := hS227 _ _ _ _ _ l3
  show jn256 [ρ 0, ρ 1, ρ 2, ρ 3, ρ 4, ρ 5, ρ 6, ρ 7, ρ 8, ρ 9, ρ 10, ρ 11, ρ 12, ρ 13, ρ 14, ρ 15, ρ 16, ρ 17, ρ 18, ρ 19, ρ 20, ρ 21, ρ 22, ρ 23, ρ 24, ρ 25, ρ 26, ρ 27, ρ 28, ρ 29, ρ 30, ρ 31, ρ 32, ρ 33, ρ 34, ρ 35, ρ 36, ρ 37, ρ 38, ρ 39, ρ 40, ρ 41, ρ 42, ρ 43, ρ 44, ρ 45, ρ 46, ρ 47, ρ 48, ρ 49, ρ 50, ρ 51, ρ 52] (γ 0) 0 [ρ 0, ρ 1, ρ 2, ρ 3, ρ 4, ρ 5, ρ 6, ρ 7, ρ 8, ρ 9, ρ 10, ρ 11, ρ 12, ρ 13, ρ 14, ρ 15, ρ 16, ρ 17, ρ 18, ρ 19, ρ 20, ρ 21, ρ 22, ρ 23, ρ 24, ρ 25, ρ 26, ρ 27, ρ 28, ρ 29, ρ 30, ρ 31, ρ 32, ρ 33, ρ 34, ρ 35, ρ 36, ρ 37, ρ 38, ρ 39, ρ 40, ρ 41, ρ 42, ρ 43, ρ 44, ρ 45, ρ 46, ρ 47, ρ 48, ρ 49, ρ 50, ρ 51, ρ 52, ρ 53 + 1, ρ 67, ρ 55, ρ 56, ρ 62, ρ 63, ρ 64, ρ 65, ρ 66] (γ 7)
  have hD : en256 (γ 0) (0, [ρ 53, ρ 54, ρ 55, ρ 56], γ 1) = .inl (0, [ρ 53 + 1, ρ 67, ρ 55, ρ 56], γ 7) := by
    unfold en256
    refine (if_pos (show (0 : Nat) = 0 by decide)).trans ?_
    refine (zLet_eq (show _ = γ 1 from rfl)).trans ?_
    refine (zLet_eq (show _ = ρ 53 from rfl)).trans ?_
    refine (zLet_eq (show _ = ρ 54 from rfl)).trans ?_
    refine (zLet_eq (show _ = ρ 55 from rfl)).trans ?_
    refine (zLet_eq (show _ = ρ 56 from rfl)).trans ?_
    refine (zLet_eq m4).trans ?_
    refine (zLet_eq m10).trans ?_
    refine (zLet_eq m11).trans ?_
    refine (zLet_eq m57).trans ?_
    refine (if_neg w_0).trans ?_
    refine (if_neg w_1).trans ?_
    refine (if_neg w_2).trans ?_
    refine (if_neg w_3).trans ?_
    refine (zLet_eq (show fn225 [9 * ρ 4 + 3, ρ 54] (γ 1) = (0, 1, γ 2) from l0.symm)).trans ?_
    refine (zLet_eq (show _ = γ 2 from rfl)).trans ?_
    refine (if_pos zQ1_).trans ?_
    refine (zLet_eq (show fn232 [9 * ρ 4 + 3, ρ 54] (γ 2) = (0, 0, γ 3) from l1.symm)).trans ?_
    refine (zLet_eq (show _ = γ 3 from rfl)).trans ?_
    refine (if_pos (show (0 : Nat) = 0 by decide)).trans ?_
    refine (if_pos w_4).trans ?_
    refine (zLet_eq c4.symm).trans ?_
    refine (zLet_eq (show fn255 [] (γ 4) = (0, 0, γ 5) from l2.symm)).trans ?_
    refine (zLet_eq (show _ = γ 5 from rfl)).trans ?_
    refine (if_pos (show (0 : Nat) = 0 by decide)).trans ?_
    refine (zLet_eq m63).trans ?_
    refine (zLet_eq c6.symm).trans ?_
    refine (zLet_eq (show fn227 [9 * ρ 4 + 3, ρ 54] (γ 6) = (0, ρ 67, γ 7) from l3.symm)).trans ?_
    refine (zLet_eq (show _ = γ 7 from rfl)).trans ?_
    refine (zLet_eq (show _ = ρ 67 from rfl)).trans ?_
    rfl
  exact zGoo_ato hJ hD
theorem vn256a0_6 {S : Nat → zSpc} (hS225 : ∀ x g o v gz, S 225 x g o v gz → sn225 x g o v gz) (hS226 : ∀ x g o v gz, S 226 x g o v gz → sn226 x g o v gz) (hS227 : ∀ x g o v gz, S 227 x g o v gz → sn227 x g o v gz) (hS232 : ∀ x g o v gz, S 232 x g o v gz → sn232 x g o v gz) (hS255 : ∀ x g o v gz, S 255 x g o v gz → sn255 x g o v gz) {a : List Int} {g : rHp} : ∀ (ρ : Nat → Int) (γ : Nat → rHp), jn256 a g 0 (zAg (zNA a256_ 0) ρ) (γ 1) → zO 53 S a g q256a0_6 ρ γ → zGl (fun i vs g1 => jn256 a g i vs g1) (sn256 a g) q256a0_6 ρ γ := by
  intro ρ γ hJ h
  obtain ⟨ha, hg, hr, hf, hm, hc, hl⟩ := h
  have ha : a = [ρ 0, ρ 1, ρ 2, ρ 3, ρ 4, ρ 5, ρ 6, ρ 7, ρ 8, ρ 9, ρ 10, ρ 11, ρ 12, ρ 13, ρ 14, ρ 15, ρ 16, ρ 17, ρ 18, ρ 19, ρ 20, ρ 21, ρ 22, ρ 23, ρ 24, ρ 25, ρ 26, ρ 27, ρ 28, ρ 29, ρ 30, ρ 31, ρ 32, ρ 33, ρ 34, ρ 35, ρ 36, ρ 37, ρ 38, ρ 39, ρ 40, ρ 41, ρ 42, ρ 43, ρ 44, ρ 45, ρ 46, ρ 47, ρ 48, ρ 49, ρ 50, ρ 51, ρ 52] := ha
  subst ha
  subst hg
  have hJ : jn256 [ρ 0, ρ 1, ρ 2, ρ 3, ρ 4, ρ 5, ρ 6, ρ 7, ρ 8, ρ 9, ρ 10, ρ 11, ρ 12, ρ 13, ρ 14, ρ 15, ρ 16, ρ 17, ρ 18, ρ 19, ρ 20, ρ 21, ρ 22, ρ 23, ρ 24, ρ 25, ρ 26, ρ 27, ρ 28, ρ 29, ρ 30, ρ 31, ρ 32, ρ 33, ρ 34, ρ 35, ρ 36, ρ 37, ρ 38, ρ 39, ρ 40, ρ 41, ρ 42, ρ 43, ρ 44, ρ 45, ρ 46, ρ 47, ρ 48, ρ 49, ρ 50, ρ 51, ρ 52] (γ 0) 0 [ρ 0, ρ 1, ρ 2, ρ 3, ρ 4, ρ 5, ρ 6, ρ 7, ρ 8, ρ 9, ρ 10, ρ 11, ρ 12, ρ 13, ρ 14, ρ 15, ρ 16, ρ 17, ρ 18, ρ 19, ρ 20, ρ 21, ρ 22, ρ 23, ρ 24, ρ 25, ρ 26, ρ 27, ρ 28, ρ 29, ρ 30, ρ 31, ρ 32, ρ 33, ρ 34, ρ 35, ρ 36, ρ 37, ρ 38, ρ 39, ρ 40, ρ 41, ρ 42, ρ 43, ρ 44, ρ 45, ρ 46, ρ 47, ρ 48, ρ 49, ρ 50, ρ 51, ρ 52, ρ 53, ρ 54, ρ 55, ρ 56, ρ 57, ρ 58, ρ 59, ρ 60, ρ 61] (γ 1) := hJ
  obtain ⟨-, -, -, -, -, -, -, -, -, -, -, -, -, -, -, -, -, -, -, -, -, -, -, -, -, -, -, -, -, -, -, -, -, -, -, -, -, -, -, -, -, -, -, -, -, -, -, -, -, -, -, -, -, r53, r54, -⟩ := hr
  have r53 : (0 : Int) ≤ ρ 53 ∧ ρ 53 ≤ 1999 := r53
  have r54 : (0 : Int) ≤ ρ 54 ∧ ρ 54 ≤ 2000 := r54
  obtain ⟨-, -, -, -, -, f5, f6, f7, -⟩ := hf
  have f5 : (0 : Int) ≤ -ρ 54 + ρ 11 + (-1) := f5
  have f6 : (0 : Int) ≤ -ρ 55 + ρ 54 := f6
  have f7 : (0 : Int) ≤ -ρ 54 + ρ 10 + (-1) := f7
  obtain ⟨w_0, w_1, w_2, w_3, w_4⟩ : (¬ (ρ 54 < 0)) ∧ (¬ (ρ 54 ≥ ρ 10)) ∧ (¬ (ρ 53 ≥ 2000)) ∧ (¬ (ρ 54 < ρ 55)) ∧ (ρ 54 < ρ 11) := ⟨by omega, by omega, by omega, by omega, by omega⟩
  obtain ⟨-, -, -, -, m4, -, -, -, -, -, m10, m11, -, -, -, -, -, -, -, -, -, -, -, -, -, -, -, -, -, -, -, -, -, -, -, -, -, -, -, -, -, -, -, -, -, -, -, -, -, -, -, -, -, -, -, -, -, m57, -⟩ := hm
  have m4 : γ 0 6 0 7 = ρ 4 := m4
  have m10 : γ 0 6 0 11 = ρ 10 := m10
  have m11 : γ 0 6 0 12 = ρ 11 := m11
  have m57 : γ 1 6 0 13 = ρ 61 := m57
  obtain ⟨⟨-, c4⟩, -⟩ := hc
  have c4 : γ 4 = rUp (γ 3) 6 0 13 (ρ 61) := c4
  obtain ⟨l0, l1, l2, -⟩ := hl
  have l0 : sn225 [9 * ρ 4 + 3, ρ 54, ρ 19, ρ 20] (γ 1) 0 1 (γ 2) := hS225 _ _ _ _ _ l0
  have l1 : sn232 [9 * ρ 4 + 3, ρ 54, ρ 57, ρ 22] (γ 2) 0 0 (γ 3) := hS232 _ _ _ _ _ l1
  have l2 : sn255 [ρ 57 + 1, ρ 1, ρ 2, ρ 58, ρ 4, ρ 5, ρ 59, ρ 60, ρ 8, ρ 9, ρ 10, ρ 11, ρ 61, ρ 13, ρ 14, ρ 15, ρ 16, ρ 17, ρ 18, ρ 23, ρ 24, ρ 25, ρ 26, ρ 27, ρ 28, ρ 29, ρ 30, ρ 31, ρ 32, ρ 33, ρ 34, ρ 35, ρ 36, ρ 37, ρ 38, ρ 39, ρ 40, ρ 41, ρ 42, ρ 43, ρ 44, ρ 45, ρ 46, ρ 47, ρ 48, ρ 49, ρ 50, ρ 51, ρ 52] (γ 4) 1 0 (γ 5) := hS255 _ _ _ _ _ l2
  show sn256 [ρ 0, ρ 1, ρ 2, ρ 3, ρ 4, ρ 5, ρ 6, ρ 7, ρ 8, ρ 9, ρ 10, ρ 11, ρ 12, ρ 13, ρ 14, ρ 15, ρ 16, ρ 17, ρ 18, ρ 19, ρ 20, ρ 21, ρ 22, ρ 23, ρ 24, ρ 25, ρ 26, ρ 27, ρ 28, ρ 29, ρ 30, ρ 31, ρ 32, ρ 33, ρ 34, ρ 35, ρ 36, ρ 37, ρ 38, ρ 39, ρ 40, ρ 41, ρ 42, ρ 43, ρ 44, ρ 45, ρ 46, ρ 47, ρ 48, ρ 49, ρ 50, ρ 51, ρ 52] (γ 0) 1 0 (γ 5)
  have hD : en256 (γ 0) (0, [ρ 53, ρ 54, ρ 55, ρ 56], γ 1) = .inr (1, 0, γ 5) := by
    unfold en256
    refine (if_pos (show (0 : Nat) = 0 by decide)).trans ?_
    refine (zLet_eq (show _ = γ 1 from rfl)).trans ?_
    refine (zLet_eq (show _ = ρ 53 from rfl)).trans ?_
    refine (zLet_eq (show _ = ρ 54 from rfl)).trans ?_
    refine (zLet_eq (show _ = ρ 55 from rfl)).trans ?_
    refine (zLet_eq (show _ = ρ 56 from rfl)).trans ?_
    refine (zLet_eq m4).trans ?_
    refine (zLet_eq m10).trans ?_
    refine (zLet_eq m11).trans ?_
    refine (zLet_eq m57).trans ?_
    refine (if_neg w_0).trans ?_
    refine (if_neg w_1).trans ?_
    refine (if_neg w_2).trans ?_
    refine (if_neg w_3).trans ?_
    refine (zLet_eq (show fn225 [9 * ρ 4 + 3, ρ 54] (γ 1) = (0, 1, γ 2) from l0.symm)).trans ?_
    refine (zLet_eq (show _ = γ 2 from rfl)).trans ?_
    refine (if_pos zQ1_).trans ?_
    refine (zLet_eq (show fn232 [9 * ρ 4 + 3, ρ 54] (γ 2) = (0, 0, γ 3) from l1.symm)).trans ?_
    refine (zLet_eq (show _ = γ 3 from rfl)).trans ?_
    refine (if_pos (show (0 : Nat) = 0 by decide)).trans ?_
    refine (if_pos w_4).trans ?_
    refine (zLet_eq c4.symm).trans ?_
    refine (zLet_eq (show fn255 [] (γ 4) = (1, 0, γ 5) from l2.symm)).trans ?_
    refine (zLet_eq (show _ = γ 5 from rfl)).trans ?_
    refine (if_neg (show ¬ (1 : Nat) = 0 by decide)).trans ?_
    refine (if_pos (show (1 : Nat) = 1 by decide)).trans ?_
    rfl
  exact zGoo_aend hJ hD
theorem vn256a0_7 {S : Nat → zSpc} (hS225 : ∀ x g o v gz, S 225 x g o v gz → sn225 x g o v gz) (hS226 : ∀ x g o v gz, S 226 x g o v gz → sn226 x g o v gz) (hS227 : ∀ x g o v gz, S 227 x g o v gz → sn227 x g o v gz) (hS232 : ∀ x g o v gz, S 232 x g o v gz → sn232 x g o v gz) (hS255 : ∀ x g o v gz, S 255 x g o v gz → sn255 x g o v gz) {a : List Int} {g : rHp} : ∀ (ρ : Nat → Int) (γ : Nat → rHp), jn256 a g 0 (zAg (zNA a256_ 0) ρ) (γ 1) → zO 53 S a g q256a0_7 ρ γ → zGl (fun i vs g1 => jn256 a g i vs g1) (sn256 a g) q256a0_7 ρ γ := by
  intro ρ γ hJ h
  obtain ⟨ha, hg, hr, hf, hm, hc, hl⟩ := h
  have ha : a = [ρ 0, ρ 1, ρ 2, ρ 3, ρ 4, ρ 5, ρ 6, ρ 7, ρ 8, ρ 9, ρ 10, ρ 11, ρ 12, ρ 13, ρ 14, ρ 15, ρ 16, ρ 17, ρ 18, ρ 19, ρ 20, ρ 21, ρ 22, ρ 23, ρ 24, ρ 25, ρ 26, ρ 27, ρ 28, ρ 29, ρ 30, ρ 31, ρ 32, ρ 33, ρ 34, ρ 35, ρ 36, ρ 37, ρ 38, ρ 39, ρ 40, ρ 41, ρ 42, ρ 43, ρ 44, ρ 45, ρ 46, ρ 47, ρ 48, ρ 49, ρ 50, ρ 51, ρ 52] := ha
  subst ha
  subst hg
  have hJ : jn256 [ρ 0, ρ 1, ρ 2, ρ 3, ρ 4, ρ 5, ρ 6, ρ 7, ρ 8, ρ 9, ρ 10, ρ 11, ρ 12, ρ 13, ρ 14, ρ 15, ρ 16, ρ 17, ρ 18, ρ 19, ρ 20, ρ 21, ρ 22, ρ 23, ρ 24, ρ 25, ρ 26, ρ 27, ρ 28, ρ 29, ρ 30, ρ 31, ρ 32, ρ 33, ρ 34, ρ 35, ρ 36, ρ 37, ρ 38, ρ 39, ρ 40, ρ 41, ρ 42, ρ 43, ρ 44, ρ 45, ρ 46, ρ 47, ρ 48, ρ 49, ρ 50, ρ 51, ρ 52] (γ 0) 0 [ρ 0, ρ 1, ρ 2, ρ 3, ρ 4, ρ 5, ρ 6, ρ 7, ρ 8, ρ 9, ρ 10, ρ 11, ρ 12, ρ 13, ρ 14, ρ 15, ρ 16, ρ 17, ρ 18, ρ 19, ρ 20, ρ 21, ρ 22, ρ 23, ρ 24, ρ 25, ρ 26, ρ 27, ρ 28, ρ 29, ρ 30, ρ 31, ρ 32, ρ 33, ρ 34, ρ 35, ρ 36, ρ 37, ρ 38, ρ 39, ρ 40, ρ 41, ρ 42, ρ 43, ρ 44, ρ 45, ρ 46, ρ 47, ρ 48, ρ 49, ρ 50, ρ 51, ρ 52, ρ 53, ρ 54, ρ 55, ρ 56, ρ 57, ρ 58, ρ 59, ρ 60, ρ 61] (γ 1) := hJ
  obtain ⟨-, -, -, -, -, -, -, -, -, -, -, -, -, -, -, -, -, -, -, -, -, -, -, -, -, -, -, -, -, -, -, -, -, -, -, -, -, -, -, -, -, -, -, -, -, -, -, -, -, -, -, -, -, r53, r54, -⟩ := hr
  have r53 : (0 : Int) ≤ ρ 53 ∧ ρ 53 ≤ 1999 := r53
  have r54 : (0 : Int) ≤ ρ 54 ∧ ρ 54 ≤ 2000 := r54
  obtain ⟨-, -, -, -, -, f5, f6, f7, -⟩ := hf
  have f5 : (0 : Int) ≤ -ρ 54 + ρ 11 + (-1) := f5
  have f6 : (0 : Int) ≤ -ρ 55 + ρ 54 := f6
  have f7 : (0 : Int) ≤ -ρ 54 + ρ 10 + (-1) := f7
  obtain ⟨w_0, w_1, w_2, w_3, w_4⟩ : (¬ (ρ 54 < 0)) ∧ (¬ (ρ 54 ≥ ρ 10)) ∧ (¬ (ρ 53 ≥ 2000)) ∧ (¬ (ρ 54 < ρ 55)) ∧ (ρ 54 < ρ 11) := ⟨by omega, by omega, by omega, by omega, by omega⟩
  obtain ⟨-, -, -, -, m4, -, -, -, -, -, m10, m11, -, -, -, -, -, -, -, -, -, -, -, -, -, -, -, -, -, -, -, -, -, -, -, -, -, -, -, -, -, -, -, -, -, -, -, -, -, -, -, -, -, -, -, -, -, m57, -⟩ := hm
  have m4 : γ 0 6 0 7 = ρ 4 := m4
  have m10 : γ 0 6 0 11 = ρ 10 := m10
  have m11 : γ 0 6 0 12 = ρ 11 := m11
  have m57 : γ 1 6 0 13 = ρ 61 := m57
  obtain ⟨⟨-, c4⟩, -⟩ := hc
  have c4 : γ 4 = rUp (γ 3) 6 0 13 (ρ 61) := c4
  obtain ⟨l0, l1, l2, -⟩ := hl
  have l0 : sn225 [9 * ρ 4 + 3, ρ 54, ρ 19, ρ 20] (γ 1) 0 1 (γ 2) := hS225 _ _ _ _ _ l0
  have l1 : sn232 [9 * ρ 4 + 3, ρ 54, ρ 57, ρ 22] (γ 2) 0 0 (γ 3) := hS232 _ _ _ _ _ l1
  have l2 : sn255 [ρ 57 + 1, ρ 1, ρ 2, ρ 58, ρ 4, ρ 5, ρ 59, ρ 60, ρ 8, ρ 9, ρ 10, ρ 11, ρ 61, ρ 13, ρ 14, ρ 15, ρ 16, ρ 17, ρ 18, ρ 23, ρ 24, ρ 25, ρ 26, ρ 27, ρ 28, ρ 29, ρ 30, ρ 31, ρ 32, ρ 33, ρ 34, ρ 35, ρ 36, ρ 37, ρ 38, ρ 39, ρ 40, ρ 41, ρ 42, ρ 43, ρ 44, ρ 45, ρ 46, ρ 47, ρ 48, ρ 49, ρ 50, ρ 51, ρ 52] (γ 4) 4 0 (γ 5) := hS255 _ _ _ _ _ l2
  show sn256 [ρ 0, ρ 1, ρ 2, ρ 3, ρ 4, ρ 5, ρ 6, ρ 7, ρ 8, ρ 9, ρ 10, ρ 11, ρ 12, ρ 13, ρ 14, ρ 15, ρ 16, ρ 17, ρ 18, ρ 19, ρ 20, ρ 21, ρ 22, ρ 23, ρ 24, ρ 25, ρ 26, ρ 27, ρ 28, ρ 29, ρ 30, ρ 31, ρ 32, ρ 33, ρ 34, ρ 35, ρ 36, ρ 37, ρ 38, ρ 39, ρ 40, ρ 41, ρ 42, ρ 43, ρ 44, ρ 45, ρ 46, ρ 47, ρ 48, ρ 49, ρ 50, ρ 51, ρ 52] (γ 0) 4 0 (γ 5)
  have hD : en256 (γ 0) (0, [ρ 53, ρ 54, ρ 55, ρ 56], γ 1) = .inr (4, 0, γ 5) := by
    unfold en256
    refine (if_pos (show (0 : Nat) = 0 by decide)).trans ?_
    refine (zLet_eq (show _ = γ 1 from rfl)).trans ?_
    refine (zLet_eq (show _ = ρ 53 from rfl)).trans ?_
    refine (zLet_eq (show _ = ρ 54 from rfl)).trans ?_
    refine (zLet_eq (show _ = ρ 55 from rfl)).trans ?_
    refine (zLet_eq (show _ = ρ 56 from rfl)).trans ?_
    refine (zLet_eq m4).trans ?_
    refine (zLet_eq m10).trans ?_
    refine (zLet_eq m11).trans ?_
    refine (zLet_eq m57).trans ?_
    refine (if_neg w_0).trans ?_
    refine (if_neg w_1).trans ?_
    refine (if_neg w_2).trans ?_
    refine (if_neg w_3).trans ?_
    refine (zLet_eq (show fn225 [9 * ρ 4 + 3, ρ 54] (γ 1) = (0, 1, γ 2) from l0.symm)).trans ?_
    refine (zLet_eq (show _ = γ 2 from rfl)).trans ?_
    refine (if_pos zQ1_).trans ?_
    refine (zLet_eq (show fn232 [9 * ρ 4 + 3, ρ 54] (γ 2) = (0, 0, γ 3) from l1.symm)).trans ?_
    refine (zLet_eq (show _ = γ 3 from rfl)).trans ?_
    refine (if_pos (show (0 : Nat) = 0 by decide)).trans ?_
    refine (if_pos w_4).trans ?_
    refine (zLet_eq c4.symm).trans ?_
    refine (zLet_eq (show fn255 [] (γ 4) = (4, 0, γ 5) from l2.symm)).trans ?_
    refine (zLet_eq (show _ = γ 5 from rfl)).trans ?_
    refine (if_neg (show ¬ (4 : Nat) = 0 by decide)).trans ?_
    refine (if_neg (show ¬ (4 : Nat) = 1 by decide)).trans ?_
    rfl
  exact zGoo_aend hJ hD
theorem vn256a0_8 {S : Nat → zSpc} (hS225 : ∀ x g o v gz, S 225 x g o v gz → sn225 x g o v gz) (hS226 : ∀ x g o v gz, S 226 x g o v gz → sn226 x g o v gz) (hS227 : ∀ x g o v gz, S 227 x g o v gz → sn227 x g o v gz) (hS232 : ∀ x g o v gz, S 232 x g o v gz → sn232 x g o v gz) (hS255 : ∀ x g o v gz, S 255 x g o v gz → sn255 x g o v gz) {a : List Int} {g : rHp} : ∀ (ρ : Nat → Int) (γ : Nat → rHp), jn256 a g 0 (zAg (zNA a256_ 0) ρ) (γ 1) → zO 53 S a g q256a0_8 ρ γ → zGl (fun i vs g1 => jn256 a g i vs g1) (sn256 a g) q256a0_8 ρ γ := by
  intro ρ γ hJ h
  obtain ⟨ha, hg, hr, hf, hm, hc, hl⟩ := h
  have ha : a = [ρ 0, ρ 1, ρ 2, ρ 3, ρ 4, ρ 5, ρ 6, ρ 7, ρ 8, ρ 9, ρ 10, ρ 11, ρ 12, ρ 13, ρ 14, ρ 15, ρ 16, ρ 17, ρ 18, ρ 19, ρ 20, ρ 21, ρ 22, ρ 23, ρ 24, ρ 25, ρ 26, ρ 27, ρ 28, ρ 29, ρ 30, ρ 31, ρ 32, ρ 33, ρ 34, ρ 35, ρ 36, ρ 37, ρ 38, ρ 39, ρ 40, ρ 41, ρ 42, ρ 43, ρ 44, ρ 45, ρ 46, ρ 47, ρ 48, ρ 49, ρ 50, ρ 51, ρ 52] := ha
  subst ha
  subst hg
  have hJ : jn256 [ρ 0, ρ 1, ρ 2, ρ 3, ρ 4, ρ 5, ρ 6, ρ 7, ρ 8, ρ 9, ρ 10, ρ 11, ρ 12, ρ 13, ρ 14, ρ 15, ρ 16, ρ 17, ρ 18, ρ 19, ρ 20, ρ 21, ρ 22, ρ 23, ρ 24, ρ 25, ρ 26, ρ 27, ρ 28, ρ 29, ρ 30, ρ 31, ρ 32, ρ 33, ρ 34, ρ 35, ρ 36, ρ 37, ρ 38, ρ 39, ρ 40, ρ 41, ρ 42, ρ 43, ρ 44, ρ 45, ρ 46, ρ 47, ρ 48, ρ 49, ρ 50, ρ 51, ρ 52] (γ 0) 0 [ρ 0, ρ 1, ρ 2, ρ 3, ρ 4, ρ 5, ρ 6, ρ 7, ρ 8, ρ 9, ρ 10, ρ 11, ρ 12, ρ 13, ρ 14, ρ 15, ρ 16, ρ 17, ρ 18, ρ 19, ρ 20, ρ 21, ρ 22, ρ 23, ρ 24, ρ 25, ρ 26, ρ 27, ρ 28, ρ 29, ρ 30, ρ 31, ρ 32, ρ 33, ρ 34, ρ 35, ρ 36, ρ 37, ρ 38, ρ 39, ρ 40, ρ 41, ρ 42, ρ 43, ρ 44, ρ 45, ρ 46, ρ 47, ρ 48, ρ 49, ρ 50, ρ 51, ρ 52, ρ 53, ρ 54, ρ 55, ρ 56, ρ 57, ρ 58, ρ 59, ρ 60, ρ 61] (γ 1) := hJ
  obtain ⟨-, -, -, -, -, -, -, -, -, -, -, -, -, -, -, -, -, -, -, -, -, -, -, -, -, -, -, -, -, -, -, -, -, -, -, -, -, -, -, -, -, -, -, -, -, -, -, -, -, -, -, -, -, r53, r54, -⟩ := hr
  have r53 : (0 : Int) ≤ ρ 53 ∧ ρ 53 ≤ 1999 := r53
  have r54 : (0 : Int) ≤ ρ 54 ∧ ρ 54 ≤ 2000 := r54
  obtain ⟨-, -, -, -, -, -, f6, f7, f8, -⟩ := hf
  have f6 : (0 : Int) ≤ ρ 54 + -ρ 11 := f6
  have f7 : (0 : Int) ≤ -ρ 55 + ρ 54 := f7
  have f8 : (0 : Int) ≤ -ρ 54 + ρ 10 + (-1) := f8
  obtain ⟨w_0, w_1, w_2, w_3, w_4⟩ : (¬ (ρ 54 < 0)) ∧ (¬ (ρ 54 ≥ ρ 10)) ∧ (¬ (ρ 53 ≥ 2000)) ∧ (¬ (ρ 54 < ρ 55)) ∧ (¬ (ρ 54 < ρ 11)) := ⟨by omega, by omega, by omega, by omega, by omega⟩
  obtain ⟨-, -, -, -, m4, -, -, -, -, -, m10, m11, -, -, -, -, -, -, -, -, -, -, -, -, -, -, -, -, -, -, -, -, -, -, -, -, -, -, -, -, -, -, -, -, -, -, -, -, -, -, -, -, -, -, -, -, -, m57, -, -, -, -, -, m63, -⟩ := hm
  have m4 : γ 0 6 0 7 = ρ 4 := m4
  have m10 : γ 0 6 0 11 = ρ 10 := m10
  have m11 : γ 0 6 0 12 = ρ 11 := m11
  have m57 : γ 1 6 0 13 = ρ 61 := m57
  have m63 : γ 5 6 0 13 = ρ 67 := m63
  obtain ⟨⟨⟨⟨-, c4⟩, -⟩, c6⟩, -⟩ := hc
  have c4 : γ 4 = rUp (γ 3) 6 0 13 (ρ 62) := c4
  have c6 : γ 6 = rUp (γ 5) 6 0 13 (ρ 68) := c6
  obtain ⟨l0, l1, l2, l3, l4, l5, -⟩ := hl
  have l0 : sn225 [9 * ρ 4 + 3, ρ 54, ρ 19, ρ 20] (γ 1) 0 1 (γ 2) := hS225 _ _ _ _ _ l0
  have l1 : sn232 [9 * ρ 4 + 3, ρ 54, ρ 57, ρ 22] (γ 2) 0 0 (γ 3) := hS232 _ _ _ _ _ l1
  have l2 : zOpP (.iadd) (γ 0) (γ 1) [ρ 61, 1] (ρ 62) := l2
  have l3 : sn255 [ρ 57 + 1, ρ 1, ρ 2, ρ 58, ρ 4, ρ 5, ρ 59, ρ 60, ρ 8, ρ 9, ρ 10, ρ 11, ρ 62, ρ 13, ρ 14, ρ 15, ρ 16, ρ 17, ρ 18, ρ 23, ρ 24, ρ 25, ρ 26, ρ 27, ρ 28, ρ 29, ρ 30, ρ 31, ρ 32, ρ 33, ρ 34, ρ 35, ρ 36, ρ 37, ρ 38, ρ 39, ρ 40, ρ 41, ρ 42, ρ 43, ρ 44, ρ 45, ρ 46, ρ 47, ρ 48, ρ 49, ρ 50, ρ 51, ρ 52] (γ 4) 0 0 (γ 5) := hS255 _ _ _ _ _ l3
  have l4 : zOpP (.isub) (γ 0) (γ 1) [ρ 67, 1] (ρ 68) := l4
  have l5 : sn227 [9 * ρ 4 + 3, ρ 54, ρ 21] (γ 6) 0 (ρ 69) (γ 7) := hS227 _ _ _ _ _ l5
  show jn256 [ρ 0, ρ 1, ρ 2, ρ 3, ρ 4, ρ 5, ρ 6, ρ 7, ρ 8, ρ 9, ρ 10, ρ 11, ρ 12, ρ 13, ρ 14, ρ 15, ρ 16, ρ 17, ρ 18, ρ 19, ρ 20, ρ 21, ρ 22, ρ 23, ρ 24, ρ 25, ρ 26, ρ 27, ρ 28, ρ 29, ρ 30, ρ 31, ρ 32, ρ 33, ρ 34, ρ 35, ρ 36, ρ 37, ρ 38, ρ 39, ρ 40, ρ 41, ρ 42, ρ 43, ρ 44, ρ 45, ρ 46, ρ 47, ρ 48, ρ 49, ρ 50, ρ 51, ρ 52] (γ 0) 0 [ρ 0, ρ 1, ρ 2, ρ 3, ρ 4, ρ 5, ρ 6, ρ 7, ρ 8, ρ 9, ρ 10, ρ 11, ρ 12, ρ 13, ρ 14, ρ 15, ρ 16, ρ 17, ρ 18, ρ 19, ρ 20, ρ 21, ρ 22, ρ 23, ρ 24, ρ 25, ρ 26, ρ 27, ρ 28, ρ 29, ρ 30, ρ 31, ρ 32, ρ 33, ρ 34, ρ 35, ρ 36, ρ 37, ρ 38, ρ 39, ρ 40, ρ 41, ρ 42, ρ 43, ρ 44, ρ 45, ρ 46, ρ 47, ρ 48, ρ 49, ρ 50, ρ 51, ρ 52, ρ 53 + 1, ρ 69, ρ 55, ρ 56, ρ 63, ρ 64, ρ 65, ρ 66, ρ 68] (γ 7)
  have hD : en256 (γ 0) (0, [ρ 53, ρ 54, ρ 55, ρ 56], γ 1) = .inl (0, [ρ 53 + 1, ρ 69, ρ 55, ρ 56], γ 7) := by
    unfold en256
    refine (if_pos (show (0 : Nat) = 0 by decide)).trans ?_
    refine (zLet_eq (show _ = γ 1 from rfl)).trans ?_
    refine (zLet_eq (show _ = ρ 53 from rfl)).trans ?_
    refine (zLet_eq (show _ = ρ 54 from rfl)).trans ?_
    refine (zLet_eq (show _ = ρ 55 from rfl)).trans ?_
    refine (zLet_eq (show _ = ρ 56 from rfl)).trans ?_
    refine (zLet_eq m4).trans ?_
    refine (zLet_eq m10).trans ?_
    refine (zLet_eq m11).trans ?_
    refine (zLet_eq m57).trans ?_
    refine (if_neg w_0).trans ?_
    refine (if_neg w_1).trans ?_
    refine (if_neg w_2).trans ?_
    refine (if_neg w_3).trans ?_
    refine (zLet_eq (show fn225 [9 * ρ 4 + 3, ρ 54] (γ 1) = (0, 1, γ 2) from l0.symm)).trans ?_
    refine (zLet_eq (show _ = γ 2 from rfl)).trans ?_
    refine (if_pos zQ1_).trans ?_
    refine (zLet_eq (show fn232 [9 * ρ 4 + 3, ρ 54] (γ 2) = (0, 0, γ 3) from l1.symm)).trans ?_
    refine (zLet_eq (show _ = γ 3 from rfl)).trans ?_
    refine (if_pos (show (0 : Nat) = 0 by decide)).trans ?_
    refine (if_neg w_4).trans ?_
    refine (zLet_eq (zF2_ok l2)).trans ?_
    refine (zLet_eq c4.symm).trans ?_
    refine (zLet_eq (show fn255 [] (γ 4) = (0, 0, γ 5) from l3.symm)).trans ?_
    refine (zLet_eq (show _ = γ 5 from rfl)).trans ?_
    refine (if_pos (show (0 : Nat) = 0 by decide)).trans ?_
    refine (zLet_eq m63).trans ?_
    refine (zLet_eq (zF2_ok l4)).trans ?_
    refine (zLet_eq c6.symm).trans ?_
    refine (zLet_eq (show fn227 [9 * ρ 4 + 3, ρ 54] (γ 6) = (0, ρ 69, γ 7) from l5.symm)).trans ?_
    refine (zLet_eq (show _ = γ 7 from rfl)).trans ?_
    refine (zLet_eq (show _ = ρ 69 from rfl)).trans ?_
    rfl
  exact zGoo_ato hJ hD
theorem vn256a0_9 {S : Nat → zSpc} (hS225 : ∀ x g o v gz, S 225 x g o v gz → sn225 x g o v gz) (hS226 : ∀ x g o v gz, S 226 x g o v gz → sn226 x g o v gz) (hS227 : ∀ x g o v gz, S 227 x g o v gz → sn227 x g o v gz) (hS232 : ∀ x g o v gz, S 232 x g o v gz → sn232 x g o v gz) (hS255 : ∀ x g o v gz, S 255 x g o v gz → sn255 x g o v gz) {a : List Int} {g : rHp} : ∀ (ρ : Nat → Int) (γ : Nat → rHp), jn256 a g 0 (zAg (zNA a256_ 0) ρ) (γ 1) → zO 53 S a g q256a0_9 ρ γ → zGl (fun i vs g1 => jn256 a g i vs g1) (sn256 a g) q256a0_9 ρ γ := by
  intro ρ γ hJ h
  obtain ⟨ha, hg, hr, hf, hm, hc, hl⟩ := h
  have ha : a = [ρ 0, ρ 1, ρ 2, ρ 3, ρ 4, ρ 5, ρ 6, ρ 7, ρ 8, ρ 9, ρ 10, ρ 11, ρ 12, ρ 13, ρ 14, ρ 15, ρ 16, ρ 17, ρ 18, ρ 19, ρ 20, ρ 21, ρ 22, ρ 23, ρ 24, ρ 25, ρ 26, ρ 27, ρ 28, ρ 29, ρ 30, ρ 31, ρ 32, ρ 33, ρ 34, ρ 35, ρ 36, ρ 37, ρ 38, ρ 39, ρ 40, ρ 41, ρ 42, ρ 43, ρ 44, ρ 45, ρ 46, ρ 47, ρ 48, ρ 49, ρ 50, ρ 51, ρ 52] := ha
  subst ha
  subst hg
  have hJ : jn256 [ρ 0, ρ 1, ρ 2, ρ 3, ρ 4, ρ 5, ρ 6, ρ 7, ρ 8, ρ 9, ρ 10, ρ 11, ρ 12, ρ 13, ρ 14, ρ 15, ρ 16, ρ 17, ρ 18, ρ 19, ρ 20, ρ 21, ρ 22, ρ 23, ρ 24, ρ 25, ρ 26, ρ 27, ρ 28, ρ 29, ρ 30, ρ 31, ρ 32, ρ 33, ρ 34, ρ 35, ρ 36, ρ 37, ρ 38, ρ 39, ρ 40, ρ 41, ρ 42, ρ 43, ρ 44, ρ 45, ρ 46, ρ 47, ρ 48, ρ 49, ρ 50, ρ 51, ρ 52] (γ 0) 0 [ρ 0, ρ 1, ρ 2, ρ 3, ρ 4, ρ 5, ρ 6, ρ 7, ρ 8, ρ 9, ρ 10, ρ 11, ρ 12, ρ 13, ρ 14, ρ 15, ρ 16, ρ 17, ρ 18, ρ 19, ρ 20, ρ 21, ρ 22, ρ 23, ρ 24, ρ 25, ρ 26, ρ 27, ρ 28, ρ 29, ρ 30, ρ 31, ρ 32, ρ 33, ρ 34, ρ 35, ρ 36, ρ 37, ρ 38, ρ 39, ρ 40, ρ 41, ρ 42, ρ 43, ρ 44, ρ 45, ρ 46, ρ 47, ρ 48, ρ 49, ρ 50, ρ 51, ρ 52, ρ 53, ρ 54, ρ 55, ρ 56, ρ 57, ρ 58, ρ 59, ρ 60, ρ 61] (γ 1) := hJ
  obtain ⟨-, -, -, -, -, -, -, -, -, -, -, -, -, -, -, -, -, -, -, -, -, -, -, -, -, -, -, -, -, -, -, -, -, -, -, -, -, -, -, -, -, -, -, -, -, -, -, -, -, -, -, -, -, r53, r54, -⟩ := hr
  have r53 : (0 : Int) ≤ ρ 53 ∧ ρ 53 ≤ 1999 := r53
  have r54 : (0 : Int) ≤ ρ 54 ∧ ρ 54 ≤ 2000 := r54
  obtain ⟨-, -, -, -, -, f5, f6, f7, -⟩ := hf
  have f5 : (0 : Int) ≤ ρ 54 + -ρ 11 := f5
  have f6 : (0 : Int) ≤ -ρ 55 + ρ 54 := f6
  have f7 : (0 : Int) ≤ -ρ 54 + ρ 10 + (-1) := f7
  obtain ⟨w_0, w_1, w_2, w_3, w_4⟩ : (¬ (ρ 54 < 0)) ∧ (¬ (ρ 54 ≥ ρ 10)) ∧ (¬ (ρ 53 ≥ 2000)) ∧ (¬ (ρ 54 < ρ 55)) ∧ (¬ (ρ 54 < ρ 11)) := ⟨by omega, by omega, by omega, by omega, by omega⟩
  obtain ⟨-, -, -, -, m4, -, -, -, -, -, m10, m11, -, -, -, -, -, -, -, -, -, -, -, -, -, -, -, -, -, -, -, -, -, -, -, -, -, -, -, -, -, -, -, -, -, -, -, -, -, -, -, -, -, -, -, -, -, m57, -⟩ := hm
  have m4 : γ 0 6 0 7 = ρ 4 := m4
  have m10 : γ 0 6 0 11 = ρ 10 := m10
  have m11 : γ 0 6 0 12 = ρ 11 := m11
  have m57 : γ 1 6 0 13 = ρ 61 := m57
  obtain ⟨⟨-, c4⟩, -⟩ := hc
  have c4 : γ 4 = rUp (γ 3) 6 0 13 (ρ 62) := c4
  obtain ⟨l0, l1, l2, l3, -⟩ := hl
  have l0 : sn225 [9 * ρ 4 + 3, ρ 54, ρ 19, ρ 20] (γ 1) 0 1 (γ 2) := hS225 _ _ _ _ _ l0
  have l1 : sn232 [9 * ρ 4 + 3, ρ 54, ρ 57, ρ 22] (γ 2) 0 0 (γ 3) := hS232 _ _ _ _ _ l1
  have l2 : zOpP (.iadd) (γ 0) (γ 1) [ρ 61, 1] (ρ 62) := l2
  have l3 : sn255 [ρ 57 + 1, ρ 1, ρ 2, ρ 58, ρ 4, ρ 5, ρ 59, ρ 60, ρ 8, ρ 9, ρ 10, ρ 11, ρ 62, ρ 13, ρ 14, ρ 15, ρ 16, ρ 17, ρ 18, ρ 23, ρ 24, ρ 25, ρ 26, ρ 27, ρ 28, ρ 29, ρ 30, ρ 31, ρ 32, ρ 33, ρ 34, ρ 35, ρ 36, ρ 37, ρ 38, ρ 39, ρ 40, ρ 41, ρ 42, ρ 43, ρ 44, ρ 45, ρ 46, ρ 47, ρ 48, ρ 49, ρ 50, ρ 51, ρ 52] (γ 4) 1 0 (γ 5) := hS255 _ _ _ _ _ l3
  show sn256 [ρ 0, ρ 1, ρ 2, ρ 3, ρ 4, ρ 5, ρ 6, ρ 7, ρ 8, ρ 9, ρ 10, ρ 11, ρ 12, ρ 13, ρ 14, ρ 15, ρ 16, ρ 17, ρ 18, ρ 19, ρ 20, ρ 21, ρ 22, ρ 23, ρ 24, ρ 25, ρ 26, ρ 27, ρ 28, ρ 29, ρ 30, ρ 31, ρ 32, ρ 33, ρ 34, ρ 35, ρ 36, ρ 37, ρ 38, ρ 39, ρ 40, ρ 41, ρ 42, ρ 43, ρ 44, ρ 45, ρ 46, ρ 47, ρ 48, ρ 49, ρ 50, ρ 51, ρ 52] (γ 0) 1 0 (γ 5)
  have hD : en256 (γ 0) (0, [ρ 53, ρ 54, ρ 55, ρ 56], γ 1) = .inr (1, 0, γ 5) := by
    unfold en256
    refine (if_pos (show (0 : Nat) = 0 by decide)).trans ?_
    refine (zLet_eq (show _ = γ 1 from rfl)).trans ?_
    refine (zLet_eq (show _ = ρ 53 from rfl)).trans ?_
    refine (zLet_eq (show _ = ρ 54 from rfl)).trans ?_
    refine (zLet_eq (show _ = ρ 55 from rfl)).trans ?_
    refine (zLet_eq (show _ = ρ 56 from rfl)).trans ?_
    refine (zLet_eq m4).trans ?_
    refine (zLet_eq m10).trans ?_
    refine (zLet_eq m11).trans ?_
    refine (zLet_eq m57).trans ?_
    refine (if_neg w_0).trans ?_
    refine (if_neg w_1).trans ?_
    refine (if_neg w_2).trans ?_
    refine (if_neg w_3).trans ?_
    refine (zLet_eq (show fn225 [9 * ρ 4 + 3, ρ 54] (γ 1) = (0, 1, γ 2) from l0.symm)).trans ?_
    refine (zLet_eq (show _ = γ 2 from rfl)).trans ?_
    refine (if_pos zQ1_).trans ?_
    refine (zLet_eq (show fn232 [9 * ρ 4 + 3, ρ 54] (γ 2) = (0, 0, γ 3) from l1.symm)).trans ?_
    refine (zLet_eq (show _ = γ 3 from rfl)).trans ?_
    refine (if_pos (show (0 : Nat) = 0 by decide)).trans ?_
    refine (if_neg w_4).trans ?_
    refine (zLet_eq (zF2_ok l2)).trans ?_
    refine (zLet_eq c4.symm).trans ?_
    refine (zLet_eq (show fn255 [] (γ 4) = (1, 0, γ 5) from l3.symm)).trans ?_
    refine (zLet_eq (show _ = γ 5 from rfl)).trans ?_
    refine (if_neg (show ¬ (1 : Nat) = 0 by decide)).trans ?_
    refine (if_pos (show (1 : Nat) = 1 by decide)).trans ?_
    rfl
  exact zGoo_aend hJ hD
theorem vn256a0_10 {S : Nat → zSpc} (hS225 : ∀ x g o v gz, S 225 x g o v gz → sn225 x g o v gz) (hS226 : ∀ x g o v gz, S 226 x g o v gz → sn226 x g o v gz) (hS227 : ∀ x g o v gz, S 227 x g o v gz → sn227 x g o v gz) (hS232 : ∀ x g o v gz, S 232 x g o v gz → sn232 x g o v gz) (hS255 : ∀ x g o v gz, S 255 x g o v gz → sn255 x g o v gz) {a : List Int} {g : rHp} : ∀ (ρ : Nat → Int) (γ : Nat → rHp), jn256 a g 0 (zAg (zNA a256_ 0) ρ) (γ 1) → zO 53 S a g q256a0_10 ρ γ → zGl (fun i vs g1 => jn256 a g i vs g1) (sn256 a g) q256a0_10 ρ γ := by
  intro ρ γ hJ h
  obtain ⟨ha, hg, hr, hf, hm, hc, hl⟩ := h
  have ha : a = [ρ 0, ρ 1, ρ 2, ρ 3, ρ 4, ρ 5, ρ 6, ρ 7, ρ 8, ρ 9, ρ 10, ρ 11, ρ 12, ρ 13, ρ 14, ρ 15, ρ 16, ρ 17, ρ 18, ρ 19, ρ 20, ρ 21, ρ 22, ρ 23, ρ 24, ρ 25, ρ 26, ρ 27, ρ 28, ρ 29, ρ 30, ρ 31, ρ 32, ρ 33, ρ 34, ρ 35, ρ 36, ρ 37, ρ 38, ρ 39, ρ 40, ρ 41, ρ 42, ρ 43, ρ 44, ρ 45, ρ 46, ρ 47, ρ 48, ρ 49, ρ 50, ρ 51, ρ 52] := ha
  subst ha
  subst hg
  have hJ : jn256 [ρ 0, ρ 1, ρ 2, ρ 3, ρ 4, ρ 5, ρ 6, ρ 7, ρ 8, ρ 9, ρ 10, ρ 11, ρ 12, ρ 13, ρ 14, ρ 15, ρ 16, ρ 17, ρ 18, ρ 19, ρ 20, ρ 21, ρ 22, ρ 23, ρ 24, ρ 25, ρ 26, ρ 27, ρ 28, ρ 29, ρ 30, ρ 31, ρ 32, ρ 33, ρ 34, ρ 35, ρ 36, ρ 37, ρ 38, ρ 39, ρ 40, ρ 41, ρ 42, ρ 43, ρ 44, ρ 45, ρ 46, ρ 47, ρ 48, ρ 49, ρ 50, ρ 51, ρ 52] (γ 0) 0 [ρ 0, ρ 1, ρ 2, ρ 3, ρ 4, ρ 5, ρ 6, ρ 7, ρ 8, ρ 9, ρ 10, ρ 11, ρ 12, ρ 13, ρ 14, ρ 15, ρ 16, ρ 17, ρ 18, ρ 19, ρ 20, ρ 21, ρ 22, ρ 23, ρ 24, ρ 25, ρ 26, ρ 27, ρ 28, ρ 29, ρ 30, ρ 31, ρ 32, ρ 33, ρ 34, ρ 35, ρ 36, ρ 37, ρ 38, ρ 39, ρ 40, ρ 41, ρ 42, ρ 43, ρ 44, ρ 45, ρ 46, ρ 47, ρ 48, ρ 49, ρ 50, ρ 51, ρ 52, ρ 53, ρ 54, ρ 55, ρ 56, ρ 57, ρ 58, ρ 59, ρ 60, ρ 61] (γ 1) := hJ
  obtain ⟨-, -, -, -, -, -, -, -, -, -, -, -, -, -, -, -, -, -, -, -, -, -, -, -, -, -, -, -, -, -, -, -, -, -, -, -, -, -, -, -, -, -, -, -, -, -, -, -, -, -, -, -, -, r53, r54, -⟩ := hr
  have r53 : (0 : Int) ≤ ρ 53 ∧ ρ 53 ≤ 1999 := r53
  have r54 : (0 : Int) ≤ ρ 54 ∧ ρ 54 ≤ 2000 := r54
  obtain ⟨-, -, -, -, -, f5, f6, f7, -⟩ := hf
  have f5 : (0 : Int) ≤ ρ 54 + -ρ 11 := f5
  have f6 : (0 : Int) ≤ -ρ 55 + ρ 54 := f6
  have f7 : (0 : Int) ≤ -ρ 54 + ρ 10 + (-1) := f7
  obtain ⟨w_0, w_1, w_2, w_3, w_4⟩ : (¬ (ρ 54 < 0)) ∧ (¬ (ρ 54 ≥ ρ 10)) ∧ (¬ (ρ 53 ≥ 2000)) ∧ (¬ (ρ 54 < ρ 55)) ∧ (¬ (ρ 54 < ρ 11)) := ⟨by omega, by omega, by omega, by omega, by omega⟩
  obtain ⟨-, -, -, -, m4, -, -, -, -, -, m10, m11, -, -, -, -, -, -, -, -, -, -, -, -, -, -, -, -, -, -, -, -, -, -, -, -, -, -, -, -, -, -, -, -, -, -, -, -, -, -, -, -, -, -, -, -, -, m57, -⟩ := hm
  have m4 : γ 0 6 0 7 = ρ 4 := m4
  have m10 : γ 0 6 0 11 = ρ 10 := m10
  have m11 : γ 0 6 0 12 = ρ 11 := m11
  have m57 : γ 1 6 0 13 = ρ 61 := m57
  obtain ⟨⟨-, c4⟩, -⟩ := hc
  have c4 : γ 4 = rUp (γ 3) 6 0 13 (ρ 62) := c4
  obtain ⟨l0, l1, l2, l3, -⟩ := hl
  have l0 : sn225 [9 * ρ 4 + 3, ρ 54, ρ 19, ρ 20] (γ 1) 0 1 (γ 2) := hS225 _ _ _ _ _ l0
  have l1 : sn232 [9 * ρ 4 + 3, ρ 54, ρ 57, ρ 22] (γ 2) 0 0 (γ 3) := hS232 _ _ _ _ _ l1
  have l2 : zOpP (.iadd) (γ 0) (γ 1) [ρ 61, 1] (ρ 62) := l2
  have l3 : sn255 [ρ 57 + 1, ρ 1, ρ 2, ρ 58, ρ 4, ρ 5, ρ 59, ρ 60, ρ 8, ρ 9, ρ 10, ρ 11, ρ 62, ρ 13, ρ 14, ρ 15, ρ 16, ρ 17, ρ 18, ρ 23, ρ 24, ρ 25, ρ 26, ρ 27, ρ 28, ρ 29, ρ 30, ρ 31, ρ 32, ρ 33, ρ 34, ρ 35, ρ 36, ρ 37, ρ 38, ρ 39, ρ 40, ρ 41, ρ 42, ρ 43, ρ 44, ρ 45, ρ 46, ρ 47, ρ 48, ρ 49, ρ 50, ρ 51, ρ 52] (γ 4) 4 0 (γ 5) := hS255 _ _ _ _ _ l3
  show sn256 [ρ 0, ρ 1, ρ 2, ρ 3, ρ 4, ρ 5, ρ 6, ρ 7, ρ 8, ρ 9, ρ 10, ρ 11, ρ 12, ρ 13, ρ 14, ρ 15, ρ 16, ρ 17, ρ 18, ρ 19, ρ 20, ρ 21, ρ 22, ρ 23, ρ 24, ρ 25, ρ 26, ρ 27, ρ 28, ρ 29, ρ 30, ρ 31, ρ 32, ρ 33, ρ 34, ρ 35, ρ 36, ρ 37, ρ 38, ρ 39, ρ 40, ρ 41, ρ 42, ρ 43, ρ 44, ρ 45, ρ 46, ρ 47, ρ 48, ρ 49, ρ 50, ρ 51, ρ 52] (γ 0) 4 0 (γ 5)
  have hD : en256 (γ 0) (0, [ρ 53, ρ 54, ρ 55, ρ 56], γ 1) = .inr (4, 0, γ 5) := by
    unfold en256
    refine (if_pos (show (0 : Nat) = 0 by decide)).trans ?_
    refine (zLet_eq (show _ = γ 1 from rfl)).trans ?_
    refine (zLet_eq (show _ = ρ 53 from rfl)).trans ?_
    refine (zLet_eq (show _ = ρ 54 from rfl)).trans ?_
    refine (zLet_eq (show _ = ρ 55 from rfl)).trans ?_
    refine (zLet_eq (show _ = ρ 56 from rfl)).trans ?_
    refine (zLet_eq m4).trans ?_
    refine (zLet_eq m10).trans ?_
    refine (zLet_eq m11).trans ?_
    refine (zLet_eq m57).trans ?_
    refine (if_neg w_0).trans ?_
    refine (if_neg w_1).trans ?_
    refine (if_neg w_2).trans ?_
    refine (if_neg w_3).trans ?_
    refine (zLet_eq (show fn225 [9 * ρ 4 + 3, ρ 54] (γ 1) = (0, 1, γ 2) from l0.symm)).trans ?_
    refine (zLet_eq (show _ = γ 2 from rfl)).trans ?_
    refine (if_pos zQ1_).trans ?_
    refine (zLet_eq (show fn232 [9 * ρ 4 + 3, ρ 54] (γ 2) = (0, 0, γ 3) from l1.symm)).trans ?_
    refine (zLet_eq (show _ = γ 3 from rfl)).trans ?_
    refine (if_pos (show (0 : Nat) = 0 by decide)).trans ?_
    refine (if_neg w_4).trans ?_
    refine (zLet_eq (zF2_ok l2)).trans ?_
    refine (zLet_eq c4.symm).trans ?_
    refine (zLet_eq (show fn255 [] (γ 4) = (4, 0, γ 5) from l3.symm)).trans ?_
    refine (zLet_eq (show _ = γ 5 from rfl)).trans ?_
    refine (if_neg (show ¬ (4 : Nat) = 0 by decide)).trans ?_
    refine (if_neg (show ¬ (4 : Nat) = 1 by decide)).trans ?_
    rfl
  exact zGoo_aend hJ hD
theorem vn256a0_11 {S : Nat → zSpc} (hS225 : ∀ x g o v gz, S 225 x g o v gz → sn225 x g o v gz) (hS226 : ∀ x g o v gz, S 226 x g o v gz → sn226 x g o v gz) (hS227 : ∀ x g o v gz, S 227 x g o v gz → sn227 x g o v gz) (hS232 : ∀ x g o v gz, S 232 x g o v gz → sn232 x g o v gz) (hS255 : ∀ x g o v gz, S 255 x g o v gz → sn255 x g o v gz) {a : List Int} {g : rHp} : ∀ (ρ : Nat → Int) (γ : Nat → rHp), jn256 a g 0 (zAg (zNA a256_ 0) ρ) (γ 1) → zO 53 S a g q256a0_11 ρ γ → zGl (fun i vs g1 => jn256 a g i vs g1) (sn256 a g) q256a0_11 ρ γ := by
  intro ρ γ hJ h
  obtain ⟨ha, hg, hr, hf, hm, hc, hl⟩ := h
  have ha : a = [ρ 0, ρ 1, ρ 2, ρ 3, ρ 4, ρ 5, ρ 6, ρ 7, ρ 8, ρ 9, ρ 10, ρ 11, ρ 12, ρ 13, ρ 14, ρ 15, ρ 16, ρ 17, ρ 18, ρ 19, ρ 20, ρ 21, ρ 22, ρ 23, ρ 24, ρ 25, ρ 26, ρ 27, ρ 28, ρ 29, ρ 30, ρ 31, ρ 32, ρ 33, ρ 34, ρ 35, ρ 36, ρ 37, ρ 38, ρ 39, ρ 40, ρ 41, ρ 42, ρ 43, ρ 44, ρ 45, ρ 46, ρ 47, ρ 48, ρ 49, ρ 50, ρ 51, ρ 52] := ha
  subst ha
  subst hg
  have hJ : jn256 [ρ 0, ρ 1, ρ 2, ρ 3, ρ 4, ρ 5, ρ 6, ρ 7, ρ 8, ρ 9, ρ 10, ρ 11, ρ 12, ρ 13, ρ 14, ρ 15, ρ 16, ρ 17, ρ 18, ρ 19, ρ 20, ρ 21, ρ 22, ρ 23, ρ 24, ρ 25, ρ 26, ρ 27, ρ 28, ρ 29, ρ 30, ρ 31, ρ 32, ρ 33, ρ 34, ρ 35, ρ 36, ρ 37, ρ 38, ρ 39, ρ 40, ρ 41, ρ 42, ρ 43, ρ 44, ρ 45, ρ 46, ρ 47, ρ 48, ρ 49, ρ 50, ρ 51, ρ 52] (γ 0) 0 [ρ 0, ρ 1, ρ 2, ρ 3, ρ 4, ρ 5, ρ 6, ρ 7, ρ 8, ρ 9, ρ 10, ρ 11, ρ 12, ρ 13, ρ 14, ρ 15, ρ 16, ρ 17, ρ 18, ρ 19, ρ 20, ρ 21, ρ 22, ρ 23, ρ 24, ρ 25, ρ 26, ρ 27, ρ 28, ρ 29, ρ 30, ρ 31, ρ 32, ρ 33, ρ 34, ρ 35, ρ 36, ρ 37, ρ 38, ρ 39, ρ 40, ρ 41, ρ 42, ρ 43, ρ 44, ρ 45, ρ 46, ρ 47, ρ 48, ρ 49, ρ 50, ρ 51, ρ 52, ρ 53, ρ 54, ρ 55, ρ 56, ρ 57, ρ 58, ρ 59, ρ 60, ρ 61] (γ 1) := hJ
  obtain ⟨-, -, -, -, -, -, -, -, -, -, -, -, -, -, -, -, -, -, -, -, -, -, -, -, -, -, -, -, -, -, -, -, -, -, -, -, -, -, -, -, -, -, -, -, -, -, -, -, -, -, -, -, -, r53, r54, -⟩ := hr
  have r53 : (0 : Int) ≤ ρ 53 ∧ ρ 53 ≤ 1999 := r53
  have r54 : (0 : Int) ≤ ρ 54 ∧ ρ 54 ≤ 2000 := r54
  obtain ⟨f0, f1, -⟩ := hf
  have f0 : (0 : Int) ≤ -ρ 55 + ρ 54 := f0
  have f1 : (0 : Int) ≤ -ρ 54 + ρ 10 + (-1) := f1
  obtain ⟨w_0, w_1, w_2, w_3⟩ : (¬ (ρ 54 < 0)) ∧ (¬ (ρ 54 ≥ ρ 10)) ∧ (¬ (ρ 53 ≥ 2000)) ∧ (¬ (ρ 54 < ρ 55)) := ⟨by omega, by omega, by omega, by omega⟩
  obtain ⟨-, -, -, -, m4, -, -, -, -, -, m10, m11, -, -, -, -, -, -, -, -, -, -, -, -, -, -, -, -, -, -, -, -, -, -, -, -, -, -, -, -, -, -, -, -, -, -, -, -, -, -, -, -, -, -, -, -, -, m57, -⟩ := hm
  have m4 : γ 0 6 0 7 = ρ 4 := m4
  have m10 : γ 0 6 0 11 = ρ 10 := m10
  have m11 : γ 0 6 0 12 = ρ 11 := m11
  have m57 : γ 1 6 0 13 = ρ 61 := m57
  obtain ⟨l0, l1, -⟩ := hl
  have l0 : sn225 [9 * ρ 4 + 3, ρ 54, ρ 19, ρ 20] (γ 1) 0 1 (γ 2) := hS225 _ _ _ _ _ l0
  have l1 : sn232 [9 * ρ 4 + 3, ρ 54, ρ 57, ρ 22] (γ 2) 4 0 (γ 3) := hS232 _ _ _ _ _ l1
  show sn256 [ρ 0, ρ 1, ρ 2, ρ 3, ρ 4, ρ 5, ρ 6, ρ 7, ρ 8, ρ 9, ρ 10, ρ 11, ρ 12, ρ 13, ρ 14, ρ 15, ρ 16, ρ 17, ρ 18, ρ 19, ρ 20, ρ 21, ρ 22, ρ 23, ρ 24, ρ 25, ρ 26, ρ 27, ρ 28, ρ 29, ρ 30, ρ 31, ρ 32, ρ 33, ρ 34, ρ 35, ρ 36, ρ 37, ρ 38, ρ 39, ρ 40, ρ 41, ρ 42, ρ 43, ρ 44, ρ 45, ρ 46, ρ 47, ρ 48, ρ 49, ρ 50, ρ 51, ρ 52] (γ 0) 4 0 (γ 3)
  have hD : en256 (γ 0) (0, [ρ 53, ρ 54, ρ 55, ρ 56], γ 1) = .inr (4, 0, γ 3) := by
    unfold en256
    refine (if_pos (show (0 : Nat) = 0 by decide)).trans ?_
    refine (zLet_eq (show _ = γ 1 from rfl)).trans ?_
    refine (zLet_eq (show _ = ρ 53 from rfl)).trans ?_
    refine (zLet_eq (show _ = ρ 54 from rfl)).trans ?_
    refine (zLet_eq (show _ = ρ 55 from rfl)).trans ?_
    refine (zLet_eq (show _ = ρ 56 from rfl)).trans ?_
    refine (zLet_eq m4).trans ?_
    refine (zLet_eq m10).trans ?_
    refine (zLet_eq m11).trans ?_
    refine (zLet_eq m57).trans ?_
    refine (if_neg w_0).trans ?_
    refine (if_neg w_1).trans ?_
    refine (if_neg w_2).trans ?_
    refine (if_neg w_3).trans ?_
    refine (zLet_eq (show fn225 [9 * ρ 4 + 3, ρ 54] (γ 1) = (0, 1, γ 2) from l0.symm)).trans ?_
    refine (zLet_eq (show _ = γ 2 from rfl)).trans ?_
    refine (if_pos zQ1_).trans ?_
    refine (zLet_eq (show fn232 [9 * ρ 4 + 3, ρ 54] (γ 2) = (4, 0, γ 3) from l1.symm)).trans ?_
    refine (zLet_eq (show _ = γ 3 from rfl)).trans ?_
    refine (if_neg (show ¬ (4 : Nat) = 0 by decide)).trans ?_
    rfl
  exact zGoo_aend hJ hD
theorem yn256 {S : Nat → zSpc} (hS225 : ∀ x g o v gz, S 225 x g o v gz → sn225 x g o v gz) (hS226 : ∀ x g o v gz, S 226 x g o v gz → sn226 x g o v gz) (hS227 : ∀ x g o v gz, S 227 x g o v gz → sn227 x g o v gz) (hS232 : ∀ x g o v gz, S 232 x g o v gz → sn232 x g o v gz) (hS255 : ∀ x g o v gz, S 255 x g o v gz → sn255 x g o v gz) : ∀ x g o v gz, zSem uW uT w256_.2.2.2.1 w256_.2.2.1.1.length S q256 (fun i => q256a.getD i []) (zNA a256_) x g o v gz → sn256 x g o v gz := by
  intro a g o v gz h
  exact zSem_all (l0 := q256) (las := q256a) (S := S) (J := (fun i vs g1 => jn256 a g i vs g1)) (P := sn256 a g) (fun _ => (show zAll _ [q256_0, q256_1, q256_2, q256_3] from (zAll_c (vn256_0 hS225 hS226 hS227 hS232 hS255) (zAll_c (vn256_1 hS225 hS226 hS227 hS232 hS255) (zAll_c (vn256_2 hS225 hS226 hS227 hS232 hS255) (zAll_c (vn256_3 hS225 hS226 hS227 hS232 hS255) zAll_n)))))) (fun _ => (show zAllI _ 0 [q256a0] from ⟨(show zAll _ [q256a0_0, q256a0_1, q256a0_2, q256a0_3, q256a0_4, q256a0_5, q256a0_6, q256a0_7, q256a0_8, q256a0_9, q256a0_10, q256a0_11] from (zAll_c (vn256a0_0 hS225 hS226 hS227 hS232 hS255) (zAll_c (vn256a0_1 hS225 hS226 hS227 hS232 hS255) (zAll_c (vn256a0_2 hS225 hS226 hS227 hS232 hS255) (zAll_c (vn256a0_3 hS225 hS226 hS227 hS232 hS255) (zAll_c (vn256a0_4 hS225 hS226 hS227 hS232 hS255) (zAll_c (vn256a0_5 hS225 hS226 hS227 hS232 hS255) (zAll_c (vn256a0_6 hS225 hS226 hS227 hS232 hS255) (zAll_c (vn256a0_7 hS225 hS226 hS227 hS232 hS255) (zAll_c (vn256a0_8 hS225 hS226 hS227 hS232 hS255) (zAll_c (vn256a0_9 hS225 hS226 hS227 hS232 hS255) (zAll_c (vn256a0_10 hS225 hS226 hS227 hS232 hS255) (zAll_c (vn256a0_11 hS225 hS226 hS227 hS232 hS255) zAll_n))))))))))))), trivial⟩)) h
theorem vn257_0 {S : Nat → zSpc} (hS132 : ∀ x g o v gz, S 132 x g o v gz → sn132 x g o v gz) (hS228 : ∀ x g o v gz, S 228 x g o v gz → sn228 x g o v gz) (hS229 : ∀ x g o v gz, S 229 x g o v gz → sn229 x g o v gz) (hS230 : ∀ x g o v gz, S 230 x g o v gz → sn230 x g o v gz) (hS231 : ∀ x g o v gz, S 231 x g o v gz → sn231 x g o v gz) (hS244 : ∀ x g o v gz, S 244 x g o v gz → sn244 x g o v gz) (hS255 : ∀ x g o v gz, S 255 x g o v gz → sn255 x g o v gz) (hS256 : ∀ x g o v gz, S 256 x g o v gz → sn256 x g o v gz) {a : List Int} {g : rHp} : ∀ (ρ : Nat → Int) (γ : Nat → rHp), zO 55 S a g q257_0 ρ γ → zGl (fun _ _ _ => True) (sn257 a g) q257_0 ρ γ := by
  intro ρ γ h
  obtain ⟨ha, hg, hr, hf, hm, hc, hl⟩ := h
  have ha : a = [ρ 0, ρ 1, ρ 2, ρ 3, ρ 4, ρ 5, ρ 6, ρ 7, ρ 8, ρ 9, ρ 10, ρ 11, ρ 12, ρ 13, ρ 14, ρ 15, ρ 16, ρ 17, ρ 18, ρ 19, ρ 20, ρ 21, ρ 22, ρ 23, ρ 24, ρ 25, ρ 26, ρ 27, ρ 28, ρ 29, ρ 30, ρ 31, ρ 32, ρ 33, ρ 34, ρ 35, ρ 36, ρ 37, ρ 38, ρ 39, ρ 40, ρ 41, ρ 42, ρ 43, ρ 44, ρ 45, ρ 46, ρ 47, ρ 48, ρ 49, ρ 50, ρ 51, ρ 52, ρ 53, ρ 54] := ha
  subst ha
  subst hg
  obtain ⟨-, -, -, -, -, -, -, -, -, -, -, -, -, r13, -⟩ := hr
  have r13 : (0 : Int) ≤ ρ 13 ∧ ρ 13 ≤ 2 := r13
  have w_0 : 2 ≥ ρ 13 := by omega
  obtain ⟨-, -, -, -, m4, -, -, -, -, -, -, -, -, m13, -, -, -, -, -, m19, -⟩ := hm
  have m4 : γ 0 6 0 7 = ρ 4 := m4
  have m13 : γ 0 9 (ρ 4) 2 = ρ 13 := m13
  have m19 : γ 0 10 (9 * ρ 4 + 3) 4 = ρ 19 := m19
  obtain ⟨l0, -⟩ := hl
  have l0 : sn244 [ρ 0, ρ 1, ρ 2, ρ 3, ρ 4, ρ 6, ρ 7, ρ 8, ρ 9, ρ 14, ρ 15, ρ 16, ρ 17, ρ 18] (γ 0) 0 0 (γ 1) := hS244 _ _ _ _ _ l0
  show sn257 [ρ 0, ρ 1, ρ 2, ρ 3, ρ 4, ρ 5, ρ 6, ρ 7, ρ 8, ρ 9, ρ 10, ρ 11, ρ 12, ρ 13, ρ 14, ρ 15, ρ 16, ρ 17, ρ 18, ρ 19, ρ 20, ρ 21, ρ 22, ρ 23, ρ 24, ρ 25, ρ 26, ρ 27, ρ 28, ρ 29, ρ 30, ρ 31, ρ 32, ρ 33, ρ 34, ρ 35, ρ 36, ρ 37, ρ 38, ρ 39, ρ 40, ρ 41, ρ 42, ρ 43, ρ 44, ρ 45, ρ 46, ρ 47, ρ 48, ρ 49, ρ 50, ρ 51, ρ 52, ρ 53, ρ 54] (γ 0) 0 0 (γ 1)
  refine Eq.symm ?_
  show fn257 [] (γ 0) = _
  unfold fn257
  refine (zLet_eq m4).trans ?_
  refine (zLet_eq m13).trans ?_
  refine (zLet_eq m19).trans ?_
  refine (if_pos w_0).trans ?_
  refine (zLet_eq (show fn244 [] (γ 0) = (0, 0, γ 1) from l0.symm)).trans ?_
  refine (zLet_eq (show _ = γ 1 from rfl)).trans ?_
  refine (if_pos (show (0 : Nat) = 0 by decide)).trans ?_
  rfl
theorem vn257_1 {S : Nat → zSpc} (hS132 : ∀ x g o v gz, S 132 x g o v gz → sn132 x g o v gz) (hS228 : ∀ x g o v gz, S 228 x g o v gz → sn228 x g o v gz) (hS229 : ∀ x g o v gz, S 229 x g o v gz → sn229 x g o v gz) (hS230 : ∀ x g o v gz, S 230 x g o v gz → sn230 x g o v gz) (hS231 : ∀ x g o v gz, S 231 x g o v gz → sn231 x g o v gz) (hS244 : ∀ x g o v gz, S 244 x g o v gz → sn244 x g o v gz) (hS255 : ∀ x g o v gz, S 255 x g o v gz → sn255 x g o v gz) (hS256 : ∀ x g o v gz, S 256 x g o v gz → sn256 x g o v gz) {a : List Int} {g : rHp} : ∀ (ρ : Nat → Int) (γ : Nat → rHp), zO 55 S a g q257_1 ρ γ → zGl (fun _ _ _ => True) (sn257 a g) q257_1 ρ γ := by
  intro ρ γ h
  obtain ⟨ha, hg, hr, hf, hm, hc, hl⟩ := h
  have ha : a = [ρ 0, ρ 1, ρ 2, ρ 3, ρ 4, ρ 5, ρ 6, ρ 7, ρ 8, ρ 9, ρ 10, ρ 11, ρ 12, ρ 13, ρ 14, ρ 15, ρ 16, ρ 17, ρ 18, ρ 19, ρ 20, ρ 21, ρ 22, ρ 23, ρ 24, ρ 25, ρ 26, ρ 27, ρ 28, ρ 29, ρ 30, ρ 31, ρ 32, ρ 33, ρ 34, ρ 35, ρ 36, ρ 37, ρ 38, ρ 39, ρ 40, ρ 41, ρ 42, ρ 43, ρ 44, ρ 45, ρ 46, ρ 47, ρ 48, ρ 49, ρ 50, ρ 51, ρ 52, ρ 53, ρ 54] := ha
  subst ha
  subst hg
  obtain ⟨-, -, -, -, -, -, -, -, -, -, -, -, -, r13, -⟩ := hr
  have r13 : (0 : Int) ≤ ρ 13 ∧ ρ 13 ≤ 2 := r13
  have w_0 : 2 ≥ ρ 13 := by omega
  obtain ⟨-, -, -, -, m4, -, -, -, -, -, -, -, -, m13, -, -, -, -, -, m19, -⟩ := hm
  have m4 : γ 0 6 0 7 = ρ 4 := m4
  have m13 : γ 0 9 (ρ 4) 2 = ρ 13 := m13
  have m19 : γ 0 10 (9 * ρ 4 + 3) 4 = ρ 19 := m19
  obtain ⟨l0, -⟩ := hl
  have l0 : sn244 [ρ 0, ρ 1, ρ 2, ρ 3, ρ 4, ρ 6, ρ 7, ρ 8, ρ 9, ρ 14, ρ 15, ρ 16, ρ 17, ρ 18] (γ 0) 1 0 (γ 1) := hS244 _ _ _ _ _ l0
  show sn257 [ρ 0, ρ 1, ρ 2, ρ 3, ρ 4, ρ 5, ρ 6, ρ 7, ρ 8, ρ 9, ρ 10, ρ 11, ρ 12, ρ 13, ρ 14, ρ 15, ρ 16, ρ 17, ρ 18, ρ 19, ρ 20, ρ 21, ρ 22, ρ 23, ρ 24, ρ 25, ρ 26, ρ 27, ρ 28, ρ 29, ρ 30, ρ 31, ρ 32, ρ 33, ρ 34, ρ 35, ρ 36, ρ 37, ρ 38, ρ 39, ρ 40, ρ 41, ρ 42, ρ 43, ρ 44, ρ 45, ρ 46, ρ 47, ρ 48, ρ 49, ρ 50, ρ 51, ρ 52, ρ 53, ρ 54] (γ 0) 1 0 (γ 1)
  refine Eq.symm ?_
  show fn257 [] (γ 0) = _
  unfold fn257
  refine (zLet_eq m4).trans ?_
  refine (zLet_eq m13).trans ?_
  refine (zLet_eq m19).trans ?_
  refine (if_pos w_0).trans ?_
  refine (zLet_eq (show fn244 [] (γ 0) = (1, 0, γ 1) from l0.symm)).trans ?_
  refine (zLet_eq (show _ = γ 1 from rfl)).trans ?_
  refine (if_neg (show ¬ (1 : Nat) = 0 by decide)).trans ?_
  rfl
theorem vn257_2 {S : Nat → zSpc} (hS132 : ∀ x g o v gz, S 132 x g o v gz → sn132 x g o v gz) (hS228 : ∀ x g o v gz, S 228 x g o v gz → sn228 x g o v gz) (hS229 : ∀ x g o v gz, S 229 x g o v gz → sn229 x g o v gz) (hS230 : ∀ x g o v gz, S 230 x g o v gz → sn230 x g o v gz) (hS231 : ∀ x g o v gz, S 231 x g o v gz → sn231 x g o v gz) (hS244 : ∀ x g o v gz, S 244 x g o v gz → sn244 x g o v gz) (hS255 : ∀ x g o v gz, S 255 x g o v gz → sn255 x g o v gz) (hS256 : ∀ x g o v gz, S 256 x g o v gz → sn256 x g o v gz) {a : List Int} {g : rHp} : ∀ (ρ : Nat → Int) (γ : Nat → rHp), zO 55 S a g q257_2 ρ γ → zGl (fun _ _ _ => True) (sn257 a g) q257_2 ρ γ := by
  intro ρ γ h
  obtain ⟨ha, hg, hr, hf, hm, hc, hl⟩ := h
  have ha : a = [ρ 0, ρ 1, ρ 2, ρ 3, ρ 4, ρ 5, ρ 6, ρ 7, ρ 8, ρ 9, ρ 10, ρ 11, ρ 12, ρ 13, ρ 14, ρ 15, ρ 16, ρ 17, ρ 18, ρ 19, ρ 20, ρ 21, ρ 22, ρ 23, ρ 24, ρ 25, ρ 26, ρ 27, ρ 28, ρ 29, ρ 30, ρ 31, ρ 32, ρ 33, ρ 34, ρ 35, ρ 36, ρ 37, ρ 38, ρ 39, ρ 40, ρ 41, ρ 42, ρ 43, ρ 44, ρ 45, ρ 46, ρ 47, ρ 48, ρ 49, ρ 50, ρ 51, ρ 52, ρ 53, ρ 54] := ha
  subst ha
  subst hg
  obtain ⟨-, -, -, -, -, -, -, -, -, -, -, -, -, r13, -, -, -, -, -, r19, -⟩ := hr
  have r13 : (3 : Int) ≤ ρ 13 ∧ ρ 13 ≤ 8 := r13
  have r19 : (3 : Int) ≤ ρ 19 ∧ ρ 19 ≤ 3 := r19
  obtain ⟨w_0, w_1, w_2, w_3⟩ : (¬ (2 ≥ ρ 13)) ∧ (ρ 19 ≠ 1) ∧ (0 ≤ -ρ 19 + 3) ∧ (ρ 19 ≠ 2) := ⟨by omega, by omega, by omega, by omega⟩
  obtain ⟨-, -, -, -, m4, -, -, -, -, -, -, -, -, m13, -, -, -, -, -, m19, -⟩ := hm
  have m4 : γ 0 6 0 7 = ρ 4 := m4
  have m13 : γ 0 9 (ρ 4) 2 = ρ 13 := m13
  have m19 : γ 0 10 (9 * ρ 4 + 3) 4 = ρ 19 := m19
  obtain ⟨l0, l1, -⟩ := hl
  have l0 : sn132 [ρ 4, 2] (γ 0) 0 (9 * ρ 4 + 3) (γ 1) := hS132 _ _ _ _ _ l0
  have l1 : sn230 [9 * ρ 4 + 3, ρ 19] (γ 1) 0 0 (γ 2) := hS230 _ _ _ _ _ l1
  show sn257 [ρ 0, ρ 1, ρ 2, ρ 3, ρ 4, ρ 5, ρ 6, ρ 7, ρ 8, ρ 9, ρ 10, ρ 11, ρ 12, ρ 13, ρ 14, ρ 15, ρ 16, ρ 17, ρ 18, ρ 19, ρ 20, ρ 21, ρ 22, ρ 23, ρ 24, ρ 25, ρ 26, ρ 27, ρ 28, ρ 29, ρ 30, ρ 31, ρ 32, ρ 33, ρ 34, ρ 35, ρ 36, ρ 37, ρ 38, ρ 39, ρ 40, ρ 41, ρ 42, ρ 43, ρ 44, ρ 45, ρ 46, ρ 47, ρ 48, ρ 49, ρ 50, ρ 51, ρ 52, ρ 53, ρ 54] (γ 0) 0 0 (γ 2)
  refine Eq.symm ?_
  show fn257 [] (γ 0) = _
  unfold fn257
  refine (zLet_eq m4).trans ?_
  refine (zLet_eq m13).trans ?_
  refine (zLet_eq m19).trans ?_
  refine (if_neg w_0).trans ?_
  refine (zLet_eq (show fn132 [ρ 4, 2] (γ 0) = (0, 9 * ρ 4 + 3, γ 1) from l0.symm)).trans ?_
  refine (zLet_eq (show _ = γ 1 from rfl)).trans ?_
  refine (if_pos w_1).trans ?_
  refine (if_pos w_2).trans ?_
  refine (if_pos w_3).trans ?_
  refine (zLet_eq (show fn230 [9 * ρ 4 + 3] (γ 1) = (0, 0, γ 2) from l1.symm)).trans ?_
  refine (zLet_eq (show _ = γ 2 from rfl)).trans ?_
  refine (if_neg zQ0_).trans ?_
  rfl
theorem vn257_3 {S : Nat → zSpc} (hS132 : ∀ x g o v gz, S 132 x g o v gz → sn132 x g o v gz) (hS228 : ∀ x g o v gz, S 228 x g o v gz → sn228 x g o v gz) (hS229 : ∀ x g o v gz, S 229 x g o v gz → sn229 x g o v gz) (hS230 : ∀ x g o v gz, S 230 x g o v gz → sn230 x g o v gz) (hS231 : ∀ x g o v gz, S 231 x g o v gz → sn231 x g o v gz) (hS244 : ∀ x g o v gz, S 244 x g o v gz → sn244 x g o v gz) (hS255 : ∀ x g o v gz, S 255 x g o v gz → sn255 x g o v gz) (hS256 : ∀ x g o v gz, S 256 x g o v gz → sn256 x g o v gz) {a : List Int} {g : rHp} : ∀ (ρ : Nat → Int) (γ : Nat → rHp), zO 55 S a g q257_3 ρ γ → zGl (fun _ _ _ => True) (sn257 a g) q257_3 ρ γ := by
  intro ρ γ h
  obtain ⟨ha, hg, hr, hf, hm, hc, hl⟩ := h
  have ha : a = [ρ 0, ρ 1, ρ 2, ρ 3, ρ 4, ρ 5, ρ 6, ρ 7, ρ 8, ρ 9, ρ 10, ρ 11, ρ 12, ρ 13, ρ 14, ρ 15, ρ 16, ρ 17, ρ 18, ρ 19, ρ 20, ρ 21, ρ 22, ρ 23, ρ 24, ρ 25, ρ 26, ρ 27, ρ 28, ρ 29, ρ 30, ρ 31, ρ 32, ρ 33, ρ 34, ρ 35, ρ 36, ρ 37, ρ 38, ρ 39, ρ 40, ρ 41, ρ 42, ρ 43, ρ 44, ρ 45, ρ 46, ρ 47, ρ 48, ρ 49, ρ 50, ρ 51, ρ 52, ρ 53, ρ 54] := ha
  subst ha
  subst hg
  obtain ⟨-, -, -, -, -, -, -, -, -, -, -, -, -, r13, -, -, -, -, -, r19, -⟩ := hr
  have r13 : (3 : Int) ≤ ρ 13 ∧ ρ 13 ≤ 8 := r13
  have r19 : (3 : Int) ≤ ρ 19 ∧ ρ 19 ≤ 3 := r19
  obtain ⟨w_0, w_1, w_2, w_3⟩ : (¬ (2 ≥ ρ 13)) ∧ (ρ 19 ≠ 1) ∧ (0 ≤ -ρ 19 + 3) ∧ (ρ 19 ≠ 2) := ⟨by omega, by omega, by omega, by omega⟩
  obtain ⟨-, -, -, -, m4, -, -, -, -, -, -, -, -, m13, -, -, -, -, -, m19, -⟩ := hm
  have m4 : γ 0 6 0 7 = ρ 4 := m4
  have m13 : γ 0 9 (ρ 4) 2 = ρ 13 := m13
  have m19 : γ 0 10 (9 * ρ 4 + 3) 4 = ρ 19 := m19
  obtain ⟨l0, l1, l2, -⟩ := hl
  have l0 : sn132 [ρ 4, 2] (γ 0) 0 (9 * ρ 4 + 3) (γ 1) := hS132 _ _ _ _ _ l0
  have l1 : sn230 [9 * ρ 4 + 3, ρ 19] (γ 1) 0 1 (γ 2) := hS230 _ _ _ _ _ l1
  have l2 : sn255 [ρ 0, ρ 1, ρ 2, ρ 3, ρ 4, ρ 5, ρ 6, ρ 7, ρ 8, ρ 9, ρ 10, ρ 11, ρ 12, ρ 13, ρ 14, ρ 15, ρ 16, ρ 17, ρ 18, ρ 25, ρ 26, ρ 27, ρ 28, ρ 29, ρ 30, ρ 31, ρ 32, ρ 33, ρ 34, ρ 35, ρ 36, ρ 37, ρ 38, ρ 39, ρ 40, ρ 41, ρ 42, ρ 43, ρ 44, ρ 45, ρ 46, ρ 47, ρ 48, ρ 49, ρ 50, ρ 51, ρ 52, ρ 53, ρ 54] (γ 2) 0 0 (γ 3) := hS255 _ _ _ _ _ l2
  show sn257 [ρ 0, ρ 1, ρ 2, ρ 3, ρ 4, ρ 5, ρ 6, ρ 7, ρ 8, ρ 9, ρ 10, ρ 11, ρ 12, ρ 13, ρ 14, ρ 15, ρ 16, ρ 17, ρ 18, ρ 19, ρ 20, ρ 21, ρ 22, ρ 23, ρ 24, ρ 25, ρ 26, ρ 27, ρ 28, ρ 29, ρ 30, ρ 31, ρ 32, ρ 33, ρ 34, ρ 35, ρ 36, ρ 37, ρ 38, ρ 39, ρ 40, ρ 41, ρ 42, ρ 43, ρ 44, ρ 45, ρ 46, ρ 47, ρ 48, ρ 49, ρ 50, ρ 51, ρ 52, ρ 53, ρ 54] (γ 0) 0 0 (γ 3)
  refine Eq.symm ?_
  show fn257 [] (γ 0) = _
  unfold fn257
  refine (zLet_eq m4).trans ?_
  refine (zLet_eq m13).trans ?_
  refine (zLet_eq m19).trans ?_
  refine (if_neg w_0).trans ?_
  refine (zLet_eq (show fn132 [ρ 4, 2] (γ 0) = (0, 9 * ρ 4 + 3, γ 1) from l0.symm)).trans ?_
  refine (zLet_eq (show _ = γ 1 from rfl)).trans ?_
  refine (if_pos w_1).trans ?_
  refine (if_pos w_2).trans ?_
  refine (if_pos w_3).trans ?_
  refine (zLet_eq (show fn230 [9 * ρ 4 + 3] (γ 1) = (0, 1, γ 2) from l1.symm)).trans ?_
  refine (zLet_eq (show _ = γ 2 from rfl)).trans ?_
  refine (if_pos zQ1_).trans ?_
  refine (zLet_eq (show fn255 [] (γ 2) = (0, 0, γ 3) from l2.symm)).trans ?_
  refine (zLet_eq (show _ = γ 3 from rfl)).trans ?_
  refine (if_pos (show (0 : Nat) = 0 by decide)).trans ?_
  rfl
theorem vn257_4 {S : Nat → zSpc} (hS132 : ∀ x g o v gz, S 132 x g o v gz → sn132 x g o v gz) (hS228 : ∀ x g o v gz, S 228 x g o v gz → sn228 x g o v gz) (hS229 : ∀ x g o v gz, S 229 x g o v gz → sn229 x g o v gz) (hS230 : ∀ x g o v gz, S 230 x g o v gz → sn230 x g o v gz) (hS231 : ∀ x g o v gz, S 231 x g o v gz → sn231 x g o v gz) (hS244 : ∀ x g o v gz, S 244 x g o v gz → sn244 x g o v gz) (hS255 : ∀ x g o v gz, S 255 x g o v gz → sn255 x g o v gz) (hS256 : ∀ x g o v gz, S 256 x g o v gz → sn256 x g o v gz) {a : List Int} {g : rHp} : ∀ (ρ : Nat → Int) (γ : Nat → rHp), zO 55 S a g q257_4 ρ γ → zGl (fun _ _ _ => True) (sn257 a g) q257_4 ρ γ := by
  intro ρ γ h
  obtain ⟨ha, hg, hr, hf, hm, hc, hl⟩ := h
  have ha : a = [ρ 0, ρ 1, ρ 2, ρ 3, ρ 4, ρ 5, ρ 6, ρ 7, ρ 8, ρ 9, ρ 10, ρ 11, ρ 12, ρ 13, ρ 14, ρ 15, ρ 16, ρ 17, ρ 18, ρ 19, ρ 20, ρ 21, ρ 22, ρ 23, ρ 24, ρ 25, ρ 26, ρ 27, ρ 28, ρ 29, ρ 30, ρ 31, ρ 32, ρ 33, ρ 34, ρ 35, ρ 36, ρ 37, ρ 38, ρ 39, ρ 40, ρ 41, ρ 42, ρ 43, ρ 44, ρ 45, ρ 46, ρ 47, ρ 48, ρ 49, ρ 50, ρ 51, ρ 52, ρ 53, ρ 54] := ha
  subst ha
  subst hg
  obtain ⟨-, -, -, -, -, -, -, -, -, -, -, -, -, r13, -, -, -, -, -, r19, -⟩ := hr
  have r13 : (3 : Int) ≤ ρ 13 ∧ ρ 13 ≤ 8 := r13
  have r19 : (3 : Int) ≤ ρ 19 ∧ ρ 19 ≤ 3 := r19
  obtain ⟨w_0, w_1, w_2, w_3⟩ : (¬ (2 ≥ ρ 13)) ∧ (ρ 19 ≠ 1) ∧ (0 ≤ -ρ 19 + 3) ∧ (ρ 19 ≠ 2) := ⟨by omega, by omega, by omega, by omega⟩
  obtain ⟨-, -, -, -, m4, -, -, -, -, -, -, -, -, m13, -, -, -, -, -, m19, -⟩ := hm
  have m4 : γ 0 6 0 7 = ρ 4 := m4
  have m13 : γ 0 9 (ρ 4) 2 = ρ 13 := m13
  have m19 : γ 0 10 (9 * ρ 4 + 3) 4 = ρ 19 := m19
  obtain ⟨l0, l1, l2, -⟩ := hl
  have l0 : sn132 [ρ 4, 2] (γ 0) 0 (9 * ρ 4 + 3) (γ 1) := hS132 _ _ _ _ _ l0
  have l1 : sn230 [9 * ρ 4 + 3, ρ 19] (γ 1) 0 1 (γ 2) := hS230 _ _ _ _ _ l1
  have l2 : sn255 [ρ 0, ρ 1, ρ 2, ρ 3, ρ 4, ρ 5, ρ 6, ρ 7, ρ 8, ρ 9, ρ 10, ρ 11, ρ 12, ρ 13, ρ 14, ρ 15, ρ 16, ρ 17, ρ 18, ρ 25, ρ 26, ρ 27, ρ 28, ρ 29, ρ 30, ρ 31, ρ 32, ρ 33, ρ 34, ρ 35, ρ 36, ρ 37, ρ 38, ρ 39, ρ 40, ρ 41, ρ 42, ρ 43, ρ 44, ρ 45, ρ 46, ρ 47, ρ 48, ρ 49, ρ 50, ρ 51, ρ 52, ρ 53, ρ 54] (γ 2) 1 0 (γ 3) := hS255 _ _ _ _ _ l2
  show sn257 [ρ 0, ρ 1, ρ 2, ρ 3, ρ 4, ρ 5, ρ 6, ρ 7, ρ 8, ρ 9, ρ 10, ρ 11, ρ 12, ρ 13, ρ 14, ρ 15, ρ 16, ρ 17, ρ 18, ρ 19, ρ 20, ρ 21, ρ 22, ρ 23, ρ 24, ρ 25, ρ 26, ρ 27, ρ 28, ρ 29, ρ 30, ρ 31, ρ 32, ρ 33, ρ 34, ρ 35, ρ 36, ρ 37, ρ 38, ρ 39, ρ 40, ρ 41, ρ 42, ρ 43, ρ 44, ρ 45, ρ 46, ρ 47, ρ 48, ρ 49, ρ 50, ρ 51, ρ 52, ρ 53, ρ 54] (γ 0) 1 0 (γ 3)
  refine Eq.symm ?_
  show fn257 [] (γ 0) = _
  unfold fn257
  refine (zLet_eq m4).trans ?_
  refine (zLet_eq m13).trans ?_
  refine (zLet_eq m19).trans ?_
  refine (if_neg w_0).trans ?_
  refine (zLet_eq (show fn132 [ρ 4, 2] (γ 0) = (0, 9 * ρ 4 + 3, γ 1) from l0.symm)).trans ?_
  refine (zLet_eq (show _ = γ 1 from rfl)).trans ?_
  refine (if_pos w_1).trans ?_
  refine (if_pos w_2).trans ?_
  refine (if_pos w_3).trans ?_
  refine (zLet_eq (show fn230 [9 * ρ 4 + 3] (γ 1) = (0, 1, γ 2) from l1.symm)).trans ?_
  refine (zLet_eq (show _ = γ 2 from rfl)).trans ?_
  refine (if_pos zQ1_).trans ?_
  refine (zLet_eq (show fn255 [] (γ 2) = (1, 0, γ 3) from l2.symm)).trans ?_
  refine (zLet_eq (show _ = γ 3 from rfl)).trans ?_
  refine (if_neg (show ¬ (1 : Nat) = 0 by decide)).trans ?_
  refine (if_pos (show (1 : Nat) = 1 by decide)).trans ?_
  rfl
theorem vn257_5 {S : Nat → zSpc} (hS132 : ∀ x g o v gz, S 132 x g o v gz → sn132 x g o v gz) (hS228 : ∀ x g o v gz, S 228 x g o v gz → sn228 x g o v gz) (hS229 : ∀ x g o v gz, S 229 x g o v gz → sn229 x g o v gz) (hS230 : ∀ x g o v gz, S 230 x g o v gz → sn230 x g o v gz) (hS231 : ∀ x g o v gz, S 231 x g o v gz → sn231 x g o v gz) (hS244 : ∀ x g o v gz, S 244 x g o v gz → sn244 x g o v gz) (hS255 : ∀ x g o v gz, S 255 x g o v gz → sn255 x g o v gz) (hS256 : ∀ x g o v gz, S 256 x g o v gz → sn256 x g o v gz) {a : List Int} {g : rHp} : ∀ (ρ : Nat → Int) (γ : Nat → rHp), zO 55 S a g q257_5 ρ γ → zGl (fun _ _ _ => True) (sn257 a g) q257_5 ρ γ := by
  intro ρ γ h
  obtain ⟨ha, hg, hr, hf, hm, hc, hl⟩ := h
  have ha : a = [ρ 0, ρ 1, ρ 2, ρ 3, ρ 4, ρ 5, ρ 6, ρ 7, ρ 8, ρ 9, ρ 10, ρ 11, ρ 12, ρ 13, ρ 14, ρ 15, ρ 16, ρ 17, ρ 18, ρ 19, ρ 20, ρ 21, ρ 22, ρ 23, ρ 24, ρ 25, ρ 26, ρ 27, ρ 28, ρ 29, ρ 30, ρ 31, ρ 32, ρ 33, ρ 34, ρ 35, ρ 36, ρ 37, ρ 38, ρ 39, ρ 40, ρ 41, ρ 42, ρ 43, ρ 44, ρ 45, ρ 46, ρ 47, ρ 48, ρ 49, ρ 50, ρ 51, ρ 52, ρ 53, ρ 54] := ha
  subst ha
  subst hg
  obtain ⟨-, -, -, -, -, -, -, -, -, -, -, -, -, r13, -, -, -, -, -, r19, -⟩ := hr
  have r13 : (4 : Int) ≤ ρ 13 ∧ ρ 13 ≤ 8 := r13
  have r19 : (3 : Int) ≤ ρ 19 ∧ ρ 19 ≤ 3 := r19
  obtain ⟨w_0, w_1, w_2, w_3⟩ : (¬ (2 ≥ ρ 13)) ∧ (ρ 19 ≠ 1) ∧ (0 ≤ -ρ 19 + 3) ∧ (ρ 19 ≠ 2) := ⟨by omega, by omega, by omega, by omega⟩
  obtain ⟨-, -, -, -, m4, -, -, -, -, -, -, -, -, m13, -, -, -, -, -, m19, -⟩ := hm
  have m4 : γ 0 6 0 7 = ρ 4 := m4
  have m13 : γ 0 9 (ρ 4) 2 = ρ 13 := m13
  have m19 : γ 0 10 (9 * ρ 4 + 3) 4 = ρ 19 := m19
  obtain ⟨l0, l1, l2, -⟩ := hl
  have l0 : sn132 [ρ 4, 2] (γ 0) 0 (9 * ρ 4 + 3) (γ 1) := hS132 _ _ _ _ _ l0
  have l1 : sn230 [9 * ρ 4 + 3, ρ 19] (γ 1) 0 1 (γ 2) := hS230 _ _ _ _ _ l1
  have l2 : sn255 [ρ 0, ρ 1, ρ 2, ρ 3, ρ 4, ρ 5, ρ 6, ρ 7, ρ 8, ρ 9, ρ 10, ρ 11, ρ 12, ρ 13, ρ 14, ρ 15, ρ 16, ρ 17, ρ 18, ρ 25, ρ 26, ρ 27, ρ 28, ρ 29, ρ 30, ρ 31, ρ 32, ρ 33, ρ 34, ρ 35, ρ 36, ρ 37, ρ 38, ρ 39, ρ 40, ρ 41, ρ 42, ρ 43, ρ 44, ρ 45, ρ 46, ρ 47, ρ 48, ρ 49, ρ 50, ρ 51, ρ 52, ρ 53, ρ 54] (γ 2) 4 0 (γ 3) := hS255 _ _ _ _ _ l2
  show sn257 [ρ 0, ρ 1, ρ 2, ρ 3, ρ 4, ρ 5, ρ 6, ρ 7, ρ 8, ρ 9, ρ 10, ρ 11, ρ 12, ρ 13, ρ 14, ρ 15, ρ 16, ρ 17, ρ 18, ρ 19, ρ 20, ρ 21, ρ 22, ρ 23, ρ 24, ρ 25, ρ 26, ρ 27, ρ 28, ρ 29, ρ 30, ρ 31, ρ 32, ρ 33, ρ 34, ρ 35, ρ 36, ρ 37, ρ 38, ρ 39, ρ 40, ρ 41, ρ 42, ρ 43, ρ 44, ρ 45, ρ 46, ρ 47, ρ 48, ρ 49, ρ 50, ρ 51, ρ 52, ρ 53, ρ 54] (γ 0) 4 0 (γ 3)
  refine Eq.symm ?_
  show fn257 [] (γ 0) = _
  unfold fn257
  refine (zLet_eq m4).trans ?_
  refine (zLet_eq m13).trans ?_
  refine (zLet_eq m19).trans ?_
  refine (if_neg w_0).trans ?_
  refine (zLet_eq (show fn132 [ρ 4, 2] (γ 0) = (0, 9 * ρ 4 + 3, γ 1) from l0.symm)).trans ?_
  refine (zLet_eq (show _ = γ 1 from rfl)).trans ?_
  refine (if_pos w_1).trans ?_
  refine (if_pos w_2).trans ?_
  refine (if_pos w_3).trans ?_
  refine (zLet_eq (show fn230 [9 * ρ 4 + 3] (γ 1) = (0, 1, γ 2) from l1.symm)).trans ?_
  refine (zLet_eq (show _ = γ 2 from rfl)).trans ?_
  refine (if_pos zQ1_).trans ?_
  refine (zLet_eq (show fn255 [] (γ 2) = (4, 0, γ 3) from l2.symm)).trans ?_
  refine (zLet_eq (show _ = γ 3 from rfl)).trans ?_
  refine (if_neg (show ¬ (4 : Nat) = 0 by decide)).trans ?_
  refine (if_neg (show ¬ (4 : Nat) = 1 by decide)).trans ?_
  rfl
theorem vn257_6 {S : Nat → zSpc} (hS132 : ∀ x g o v gz, S 132 x g o v gz → sn132 x g o v gz) (hS228 : ∀ x g o v gz, S 228 x g o v gz → sn228 x g o v gz) (hS229 : ∀ x g o v gz, S 229 x g o v gz → sn229 x g o v gz) (hS230 : ∀ x g o v gz, S 230 x g o v gz → sn230 x g o v gz) (hS231 : ∀ x g o v gz, S 231 x g o v gz → sn231 x g o v gz) (hS244 : ∀ x g o v gz, S 244 x g o v gz → sn244 x g o v gz) (hS255 : ∀ x g o v gz, S 255 x g o v gz → sn255 x g o v gz) (hS256 : ∀ x g o v gz, S 256 x g o v gz → sn256 x g o v gz) {a : List Int} {g : rHp} : ∀ (ρ : Nat → Int) (γ : Nat → rHp), zO 55 S a g q257_6 ρ γ → zGl (fun _ _ _ => True) (sn257 a g) q257_6 ρ γ := by
  intro ρ γ h
  obtain ⟨ha, hg, hr, hf, hm, hc, hl⟩ := h
  have ha : a = [ρ 0, ρ 1, ρ 2, ρ 3, ρ 4, ρ 5, ρ 6, ρ 7, ρ 8, ρ 9, ρ 10, ρ 11, ρ 12, ρ 13, ρ 14, ρ 15, ρ 16, ρ 17, ρ 18, ρ 19, ρ 20, ρ 21, ρ 22, ρ 23, ρ 24, ρ 25, ρ 26, ρ 27, ρ 28, ρ 29, ρ 30, ρ 31, ρ 32, ρ 33, ρ 34, ρ 35, ρ 36, ρ 37, ρ 38, ρ 39, ρ 40, ρ 41, ρ 42, ρ 43, ρ 44, ρ 45, ρ 46, ρ 47, ρ 48, ρ 49, ρ 50, ρ 51, ρ 52, ρ 53, ρ 54] := ha
  subst ha
  subst hg
  obtain ⟨-, -, -, -, -, -, -, -, -, -, -, -, -, r13, -, -, -, -, -, r19, -⟩ := hr
  have r13 : (3 : Int) ≤ ρ 13 ∧ ρ 13 ≤ 8 := r13
  have r19 : (2 : Int) ≤ ρ 19 ∧ ρ 19 ≤ 2 := r19
  obtain ⟨w_0, w_1, w_2, w_3⟩ : (¬ (2 ≥ ρ 13)) ∧ (ρ 19 ≠ 1) ∧ (0 ≤ -ρ 19 + 3) ∧ (¬ (ρ 19 ≠ 2)) := ⟨by omega, by omega, by omega, by omega⟩
  obtain ⟨-, -, -, -, m4, -, -, -, -, -, -, -, -, m13, -, -, -, -, -, m19, -⟩ := hm
  have m4 : γ 0 6 0 7 = ρ 4 := m4
  have m13 : γ 0 9 (ρ 4) 2 = ρ 13 := m13
  have m19 : γ 0 10 (9 * ρ 4 + 3) 4 = ρ 19 := m19
  obtain ⟨l0, l1, l2, -⟩ := hl
  have l0 : sn132 [ρ 4, 2] (γ 0) 0 (9 * ρ 4 + 3) (γ 1) := hS132 _ _ _ _ _ l0
  have l1 : sn228 [9 * ρ 4 + 3, ρ 6, ρ 10, ρ 20, ρ 21, ρ 22] (γ 1) 0 0 (γ 2) := hS228 _ _ _ _ _ l1
  have l2 : sn255 [ρ 0, ρ 1, ρ 2, ρ 3, ρ 4, ρ 5, ρ 6, ρ 7, ρ 8, ρ 9, ρ 10, ρ 11, ρ 12, ρ 13, ρ 14, ρ 15, ρ 16, ρ 17, ρ 18, ρ 25, ρ 26, ρ 27, ρ 28, ρ 29, ρ 30, ρ 31, ρ 32, ρ 33, ρ 34, ρ 35, ρ 36, ρ 37, ρ 38, ρ 39, ρ 40, ρ 41, ρ 42, ρ 43, ρ 44, ρ 45, ρ 46, ρ 47, ρ 48, ρ 49, ρ 50, ρ 51, ρ 52, ρ 53, ρ 54] (γ 2) 0 0 (γ 3) := hS255 _ _ _ _ _ l2
  show sn257 [ρ 0, ρ 1, ρ 2, ρ 3, ρ 4, ρ 5, ρ 6, ρ 7, ρ 8, ρ 9, ρ 10, ρ 11, ρ 12, ρ 13, ρ 14, ρ 15, ρ 16, ρ 17, ρ 18, ρ 19, ρ 20, ρ 21, ρ 22, ρ 23, ρ 24, ρ 25, ρ 26, ρ 27, ρ 28, ρ 29, ρ 30, ρ 31, ρ 32, ρ 33, ρ 34, ρ 35, ρ 36, ρ 37, ρ 38, ρ 39, ρ 40, ρ 41, ρ 42, ρ 43, ρ 44, ρ 45, ρ 46, ρ 47, ρ 48, ρ 49, ρ 50, ρ 51, ρ 52, ρ 53, ρ 54] (γ 0) 0 0 (γ 3)
  refine Eq.symm ?_
  show fn257 [] (γ 0) = _
  unfold fn257
  refine (zLet_eq m4).trans ?_
  refine (zLet_eq m13).trans ?_
  refine (zLet_eq m19).trans ?_
  refine (if_neg w_0).trans ?_
  refine (zLet_eq (show fn132 [ρ 4, 2] (γ 0) = (0, 9 * ρ 4 + 3, γ 1) from l0.symm)).trans ?_
  refine (zLet_eq (show _ = γ 1 from rfl)).trans ?_
  refine (if_pos w_1).trans ?_
  refine (if_pos w_2).trans ?_
  refine (if_neg w_3).trans ?_
  refine (zLet_eq (show fn228 [9 * ρ 4 + 3] (γ 1) = (0, 0, γ 2) from l1.symm)).trans ?_
  refine (zLet_eq (show _ = γ 2 from rfl)).trans ?_
  refine (if_neg zQ0_).trans ?_
  refine (zLet_eq (show fn255 [] (γ 2) = (0, 0, γ 3) from l2.symm)).trans ?_
  refine (zLet_eq (show _ = γ 3 from rfl)).trans ?_
  refine (if_pos (show (0 : Nat) = 0 by decide)).trans ?_
  rfl
theorem vn257_7 {S : Nat → zSpc} (hS132 : ∀ x g o v gz, S 132 x g o v gz → sn132 x g o v gz) (hS228 : ∀ x g o v gz, S 228 x g o v gz → sn228 x g o v gz) (hS229 : ∀ x g o v gz, S 229 x g o v gz → sn229 x g o v gz) (hS230 : ∀ x g o v gz, S 230 x g o v gz → sn230 x g o v gz) (hS231 : ∀ x g o v gz, S 231 x g o v gz → sn231 x g o v gz) (hS244 : ∀ x g o v gz, S 244 x g o v gz → sn244 x g o v gz) (hS255 : ∀ x g o v gz, S 255 x g o v gz → sn255 x g o v gz) (hS256 : ∀ x g o v gz, S 256 x g o v gz → sn256 x g o v gz) {a : List Int} {g : rHp} : ∀ (ρ : Nat → Int) (γ : Nat → rHp), zO 55 S a g q257_7 ρ γ → zGl (fun _ _ _ => True) (sn257 a g) q257_7 ρ γ := by
  intro ρ γ h
  obtain ⟨ha, hg, hr, hf, hm, hc, hl⟩ := h
  have ha : a = [ρ 0, ρ 1, ρ 2, ρ 3, ρ 4, ρ 5, ρ 6, ρ 7, ρ 8, ρ 9, ρ 10, ρ 11, ρ 12, ρ 13, ρ 14, ρ 15, ρ 16, ρ 17, ρ 18, ρ 19, ρ 20, ρ 21, ρ 22, ρ 23, ρ 24, ρ 25, ρ 26, ρ 27, ρ 28, ρ 29, ρ 30, ρ 31, ρ 32, ρ 33, ρ 34, ρ 35, ρ 36, ρ 37, ρ 38, ρ 39, ρ 40, ρ 41, ρ 42, ρ 43, ρ 44, ρ 45, ρ 46, ρ 47, ρ 48, ρ 49, ρ 50, ρ 51, ρ 52, ρ 53, ρ 54] := ha
  subst ha
  subst hg
  obtain ⟨-, -, -, -, -, -, -, -, -, -, -, -, -, r13, -, -, -, -, -, r19, -⟩ := hr
  have r13 : (3 : Int) ≤ ρ 13 ∧ ρ 13 ≤ 8 := r13
  have r19 : (2 : Int) ≤ ρ 19 ∧ ρ 19 ≤ 2 := r19
  obtain ⟨w_0, w_1, w_2, w_3⟩ : (¬ (2 ≥ ρ 13)) ∧ (ρ 19 ≠ 1) ∧ (0 ≤ -ρ 19 + 3) ∧ (¬ (ρ 19 ≠ 2)) := ⟨by omega, by omega, by omega, by omega⟩
  obtain ⟨-, -, -, -, m4, -, -, -, -, -, -, -, -, m13, -, -, -, -, -, m19, -⟩ := hm
  have m4 : γ 0 6 0 7 = ρ 4 := m4
  have m13 : γ 0 9 (ρ 4) 2 = ρ 13 := m13
  have m19 : γ 0 10 (9 * ρ 4 + 3) 4 = ρ 19 := m19
  obtain ⟨l0, l1, l2, -⟩ := hl
  have l0 : sn132 [ρ 4, 2] (γ 0) 0 (9 * ρ 4 + 3) (γ 1) := hS132 _ _ _ _ _ l0
  have l1 : sn228 [9 * ρ 4 + 3, ρ 6, ρ 10, ρ 20, ρ 21, ρ 22] (γ 1) 0 0 (γ 2) := hS228 _ _ _ _ _ l1
  have l2 : sn255 [ρ 0, ρ 1, ρ 2, ρ 3, ρ 4, ρ 5, ρ 6, ρ 7, ρ 8, ρ 9, ρ 10, ρ 11, ρ 12, ρ 13, ρ 14, ρ 15, ρ 16, ρ 17, ρ 18, ρ 25, ρ 26, ρ 27, ρ 28, ρ 29, ρ 30, ρ 31, ρ 32, ρ 33, ρ 34, ρ 35, ρ 36, ρ 37, ρ 38, ρ 39, ρ 40, ρ 41, ρ 42, ρ 43, ρ 44, ρ 45, ρ 46, ρ 47, ρ 48, ρ 49, ρ 50, ρ 51, ρ 52, ρ 53, ρ 54] (γ 2) 1 0 (γ 3) := hS255 _ _ _ _ _ l2
  show sn257 [ρ 0, ρ 1, ρ 2, ρ 3, ρ 4, ρ 5, ρ 6, ρ 7, ρ 8, ρ 9, ρ 10, ρ 11, ρ 12, ρ 13, ρ 14, ρ 15, ρ 16, ρ 17, ρ 18, ρ 19, ρ 20, ρ 21, ρ 22, ρ 23, ρ 24, ρ 25, ρ 26, ρ 27, ρ 28, ρ 29, ρ 30, ρ 31, ρ 32, ρ 33, ρ 34, ρ 35, ρ 36, ρ 37, ρ 38, ρ 39, ρ 40, ρ 41, ρ 42, ρ 43, ρ 44, ρ 45, ρ 46, ρ 47, ρ 48, ρ 49, ρ 50, ρ 51, ρ 52, ρ 53, ρ 54] (γ 0) 1 0 (γ 3)
  refine Eq.symm ?_
  show fn257 [] (γ 0) = _
  unfold fn257
  refine (zLet_eq m4).trans ?_
  refine (zLet_eq m13).trans ?_
  refine (zLet_eq m19).trans ?_
  refine (if_neg w_0).trans ?_
  refine (zLet_eq (show fn132 [ρ 4, 2] (γ 0) = (0, 9 * ρ 4 + 3, γ 1) from l0.symm)).trans ?_
  refine (zLet_eq (show _ = γ 1 from rfl)).trans ?_
  refine (if_pos w_1).trans ?_
  refine (if_pos w_2).trans ?_
  refine (if_neg w_3).trans ?_
  refine (zLet_eq (show fn228 [9 * ρ 4 + 3] (γ 1) = (0, 0, γ 2) from l1.symm)).trans ?_
  refine (zLet_eq (show _ = γ 2 from rfl)).trans ?_
  refine (if_neg zQ0_).trans ?_
  refine (zLet_eq (show fn255 [] (γ 2) = (1, 0, γ 3) from l2.symm)).trans ?_
  refine (zLet_eq (show _ = γ 3 from rfl)).trans ?_
  refine (if_neg (show ¬ (1 : Nat) = 0 by decide)).trans ?_
  refine (if_pos (show (1 : Nat) = 1 by decide)).trans ?_
  rfl
theorem vn257_8 {S : Nat → zSpc} (hS132 : ∀ x g o v gz, S 132 x g o v gz → sn132 x g o v gz) (hS228 : ∀ x g o v gz, S 228 x g o v gz → sn228 x g o v gz) (hS229 : ∀ x g o v gz, S 229 x g o v gz → sn229 x g o v gz) (hS230 : ∀ x g o v gz, S 230 x g o v gz → sn230 x g o v gz) (hS231 : ∀ x g o v gz, S 231 x g o v gz → sn231 x g o v gz) (hS244 : ∀ x g o v gz, S 244 x g o v gz → sn244 x g o v gz) (hS255 : ∀ x g o v gz, S 255 x g o v gz → sn255 x g o v gz) (hS256 : ∀ x g o v gz, S 256 x g o v gz → sn256 x g o v gz) {a : List Int} {g : rHp} : ∀ (ρ : Nat → Int) (γ : Nat → rHp), zO 55 S a g q257_8 ρ γ → zGl (fun _ _ _ => True) (sn257 a g) q257_8 ρ γ := by
  intro ρ γ h
  obtain ⟨ha, hg, hr, hf, hm, hc, hl⟩ := h
  have ha : a = [ρ 0, ρ 1, ρ 2, ρ 3, ρ 4, ρ 5, ρ 6, ρ 7, ρ 8, ρ 9, ρ 10, ρ 11, ρ 12, ρ 13, ρ 14, ρ 15, ρ 16, ρ 17, ρ 18, ρ 19, ρ 20, ρ 21, ρ 22, ρ 23, ρ 24, ρ 25, ρ 26, ρ 27, ρ 28, ρ 29, ρ 30, ρ 31, ρ 32, ρ 33, ρ 34, ρ 35, ρ 36, ρ 37, ρ 38, ρ 39, ρ 40, ρ 41, ρ 42, ρ 43, ρ 44, ρ 45, ρ 46, ρ 47, ρ 48, ρ 49, ρ 50, ρ 51, ρ 52, ρ 53, ρ 54] := ha
  subst ha
  subst hg
  obtain ⟨-, -, -, -, -, -, -, -, -, -, -, -, -, r13, -, -, -, -, -, r19, -⟩ := hr
  have r13 : (4 : Int) ≤ ρ 13 ∧ ρ 13 ≤ 8 := r13
  have r19 : (2 : Int) ≤ ρ 19 ∧ ρ 19 ≤ 2 := r19
  obtain ⟨w_0, w_1, w_2, w_3⟩ : (¬ (2 ≥ ρ 13)) ∧ (ρ 19 ≠ 1) ∧ (0 ≤ -ρ 19 + 3) ∧ (¬ (ρ 19 ≠ 2)) := ⟨by omega, by omega, by omega, by omega⟩
  obtain ⟨-, -, -, -, m4, -, -, -, -, -, -, -, -, m13, -, -, -, -, -, m19, -⟩ := hm
  have m4 : γ 0 6 0 7 = ρ 4 := m4
  have m13 : γ 0 9 (ρ 4) 2 = ρ 13 := m13
  have m19 : γ 0 10 (9 * ρ 4 + 3) 4 = ρ 19 := m19
  obtain ⟨l0, l1, l2, -⟩ := hl
  have l0 : sn132 [ρ 4, 2] (γ 0) 0 (9 * ρ 4 + 3) (γ 1) := hS132 _ _ _ _ _ l0
  have l1 : sn228 [9 * ρ 4 + 3, ρ 6, ρ 10, ρ 20, ρ 21, ρ 22] (γ 1) 0 0 (γ 2) := hS228 _ _ _ _ _ l1
  have l2 : sn255 [ρ 0, ρ 1, ρ 2, ρ 3, ρ 4, ρ 5, ρ 6, ρ 7, ρ 8, ρ 9, ρ 10, ρ 11, ρ 12, ρ 13, ρ 14, ρ 15, ρ 16, ρ 17, ρ 18, ρ 25, ρ 26, ρ 27, ρ 28, ρ 29, ρ 30, ρ 31, ρ 32, ρ 33, ρ 34, ρ 35, ρ 36, ρ 37, ρ 38, ρ 39, ρ 40, ρ 41, ρ 42, ρ 43, ρ 44, ρ 45, ρ 46, ρ 47, ρ 48, ρ 49, ρ 50, ρ 51, ρ 52, ρ 53, ρ 54] (γ 2) 4 0 (γ 3) := hS255 _ _ _ _ _ l2
  show sn257 [ρ 0, ρ 1, ρ 2, ρ 3, ρ 4, ρ 5, ρ 6, ρ 7, ρ 8, ρ 9, ρ 10, ρ 11, ρ 12, ρ 13, ρ 14, ρ 15, ρ 16, ρ 17, ρ 18, ρ 19, ρ 20, ρ 21, ρ 22, ρ 23, ρ 24, ρ 25, ρ 26, ρ 27, ρ 28, ρ 29, ρ 30, ρ 31, ρ 32, ρ 33, ρ 34, ρ 35, ρ 36, ρ 37, ρ 38, ρ 39, ρ 40, ρ 41, ρ 42, ρ 43, ρ 44, ρ 45, ρ 46, ρ 47, ρ 48, ρ 49, ρ 50, ρ 51, ρ 52, ρ 53, ρ 54] (γ 0) 4 0 (γ 3)
  refine Eq.symm ?_
  show fn257 [] (γ 0) = _
  unfold fn257
  refine (zLet_eq m4).trans ?_
  refine (zLet_eq m13).trans ?_
  refine (zLet_eq m19).trans ?_
  refine (if_neg w_0).trans ?_
  refine (zLet_eq (show fn132 [ρ 4, 2] (γ 0) = (0, 9 * ρ 4 + 3, γ 1) from l0.symm)).trans ?_
  refine (zLet_eq (show _ = γ 1 from rfl)).trans ?_
  refine (if_pos w_1).trans ?_
  refine (if_pos w_2).trans ?_
  refine (if_neg w_3).trans ?_
  refine (zLet_eq (show fn228 [9 * ρ 4 + 3] (γ 1) = (0, 0, γ 2) from l1.symm)).trans ?_
  refine (zLet_eq (show _ = γ 2 from rfl)).trans ?_
  refine (if_neg zQ0_).trans ?_
  refine (zLet_eq (show fn255 [] (γ 2) = (4, 0, γ 3) from l2.symm)).trans ?_
  refine (zLet_eq (show _ = γ 3 from rfl)).trans ?_
  refine (if_neg (show ¬ (4 : Nat) = 0 by decide)).trans ?_
  refine (if_neg (show ¬ (4 : Nat) = 1 by decide)).trans ?_
  rfl
theorem vn257_9 {S : Nat → zSpc} (hS132 : ∀ x g o v gz, S 132 x g o v gz → sn132 x g o v gz) (hS228 : ∀ x g o v gz, S 228 x g o v gz → sn228 x g o v gz) (hS229 : ∀ x g o v gz, S 229 x g o v gz → sn229 x g o v gz) (hS230 : ∀ x g o v gz, S 230 x g o v gz → sn230 x g o v gz) (hS231 : ∀ x g o v gz, S 231 x g o v gz → sn231 x g o v gz) (hS244 : ∀ x g o v gz, S 244 x g o v gz → sn244 x g o v gz) (hS255 : ∀ x g o v gz, S 255 x g o v gz → sn255 x g o v gz) (hS256 : ∀ x g o v gz, S 256 x g o v gz → sn256 x g o v gz) {a : List Int} {g : rHp} : ∀ (ρ : Nat → Int) (γ : Nat → rHp), zO 55 S a g q257_9 ρ γ → zGl (fun _ _ _ => True) (sn257 a g) q257_9 ρ γ := by
  intro ρ γ h
  obtain ⟨ha, hg, hr, hf, hm, hc, hl⟩ := h
  have ha : a = [ρ 0, ρ 1, ρ 2, ρ 3, ρ 4, ρ 5, ρ 6, ρ 7, ρ 8, ρ 9, ρ 10, ρ 11, ρ 12, ρ 13, ρ 14, ρ 15, ρ 16, ρ 17, ρ 18, ρ 19, ρ 20, ρ 21, ρ 22, ρ 23, ρ 24, ρ 25, ρ 26, ρ 27, ρ 28, ρ 29, ρ 30, ρ 31, ρ 32, ρ 33, ρ 34, ρ 35, ρ 36, ρ 37, ρ 38, ρ 39, ρ 40, ρ 41, ρ 42, ρ 43, ρ 44, ρ 45, ρ 46, ρ 47, ρ 48, ρ 49, ρ 50, ρ 51, ρ 52, ρ 53, ρ 54] := ha
  subst ha
  subst hg
  obtain ⟨-, -, -, -, -, -, -, -, -, -, -, -, -, r13, -, -, -, -, -, r19, -⟩ := hr
  have r13 : (3 : Int) ≤ ρ 13 ∧ ρ 13 ≤ 8 := r13
  have r19 : (2 : Int) ≤ ρ 19 ∧ ρ 19 ≤ 2 := r19
  obtain ⟨w_0, w_1, w_2, w_3⟩ : (¬ (2 ≥ ρ 13)) ∧ (ρ 19 ≠ 1) ∧ (0 ≤ -ρ 19 + 3) ∧ (¬ (ρ 19 ≠ 2)) := ⟨by omega, by omega, by omega, by omega⟩
  obtain ⟨-, -, -, -, m4, -, -, -, -, -, -, -, -, m13, -, -, -, -, -, m19, -⟩ := hm
  have m4 : γ 0 6 0 7 = ρ 4 := m4
  have m13 : γ 0 9 (ρ 4) 2 = ρ 13 := m13
  have m19 : γ 0 10 (9 * ρ 4 + 3) 4 = ρ 19 := m19
  obtain ⟨l0, l1, -⟩ := hl
  have l0 : sn132 [ρ 4, 2] (γ 0) 0 (9 * ρ 4 + 3) (γ 1) := hS132 _ _ _ _ _ l0
  have l1 : sn228 [9 * ρ 4 + 3, ρ 6, ρ 10, ρ 20, ρ 21, ρ 22] (γ 1) 0 1 (γ 2) := hS228 _ _ _ _ _ l1
  show sn257 [ρ 0, ρ 1, ρ 2, ρ 3, ρ 4, ρ 5, ρ 6, ρ 7, ρ 8, ρ 9, ρ 10, ρ 11, ρ 12, ρ 13, ρ 14, ρ 15, ρ 16, ρ 17, ρ 18, ρ 19, ρ 20, ρ 21, ρ 22, ρ 23, ρ 24, ρ 25, ρ 26, ρ 27, ρ 28, ρ 29, ρ 30, ρ 31, ρ 32, ρ 33, ρ 34, ρ 35, ρ 36, ρ 37, ρ 38, ρ 39, ρ 40, ρ 41, ρ 42, ρ 43, ρ 44, ρ 45, ρ 46, ρ 47, ρ 48, ρ 49, ρ 50, ρ 51, ρ 52, ρ 53, ρ 54] (γ 0) 0 0 (γ 2)
  refine Eq.symm ?_
  show fn257 [] (γ 0) = _
  unfold fn257
  refine (zLet_eq m4).trans ?_
  refine (zLet_eq m13).trans ?_
  refine (zLet_eq m19).trans ?_
  refine (if_neg w_0).trans ?_
  refine (zLet_eq (show fn132 [ρ 4, 2] (γ 0) = (0, 9 * ρ 4 + 3, γ 1) from l0.symm)).trans ?_
  refine (zLet_eq (show _ = γ 1 from rfl)).trans ?_
  refine (if_pos w_1).trans ?_
  refine (if_pos w_2).trans ?_
  refine (if_neg w_3).trans ?_
  refine (zLet_eq (show fn228 [9 * ρ 4 + 3] (γ 1) = (0, 1, γ 2) from l1.symm)).trans ?_
  refine (zLet_eq (show _ = γ 2 from rfl)).trans ?_
  refine (if_pos zQ1_).trans ?_
  rfl
theorem vn257_10 {S : Nat → zSpc} (hS132 : ∀ x g o v gz, S 132 x g o v gz → sn132 x g o v gz) (hS228 : ∀ x g o v gz, S 228 x g o v gz → sn228 x g o v gz) (hS229 : ∀ x g o v gz, S 229 x g o v gz → sn229 x g o v gz) (hS230 : ∀ x g o v gz, S 230 x g o v gz → sn230 x g o v gz) (hS231 : ∀ x g o v gz, S 231 x g o v gz → sn231 x g o v gz) (hS244 : ∀ x g o v gz, S 244 x g o v gz → sn244 x g o v gz) (hS255 : ∀ x g o v gz, S 255 x g o v gz → sn255 x g o v gz) (hS256 : ∀ x g o v gz, S 256 x g o v gz → sn256 x g o v gz) {a : List Int} {g : rHp} : ∀ (ρ : Nat → Int) (γ : Nat → rHp), zO 55 S a g q257_10 ρ γ → zGl (fun _ _ _ => True) (sn257 a g) q257_10 ρ γ := by
  intro ρ γ h
  obtain ⟨ha, hg, hr, hf, hm, hc, hl⟩ := h
  have ha : a = [ρ 0, ρ 1, ρ 2, ρ 3, ρ 4, ρ 5, ρ 6, ρ 7, ρ 8, ρ 9, ρ 10, ρ 11, ρ 12, ρ 13, ρ 14, ρ 15, ρ 16, ρ 17, ρ 18, ρ 19, ρ 20, ρ 21, ρ 22, ρ 23, ρ 24, ρ 25, ρ 26, ρ 27, ρ 28, ρ 29, ρ 30, ρ 31, ρ 32, ρ 33, ρ 34, ρ 35, ρ 36, ρ 37, ρ 38, ρ 39, ρ 40, ρ 41, ρ 42, ρ 43, ρ 44, ρ 45, ρ 46, ρ 47, ρ 48, ρ 49, ρ 50, ρ 51, ρ 52, ρ 53, ρ 54] := ha
  subst ha
  subst hg
  obtain ⟨-, -, -, -, -, -, -, -, -, -, -, -, -, r13, -, -, -, -, -, r19, -⟩ := hr
  have r13 : (3 : Int) ≤ ρ 13 ∧ ρ 13 ≤ 8 := r13
  have r19 : (4 : Int) ≤ ρ 19 ∧ ρ 19 ≤ 5 := r19
  obtain ⟨w_0, w_1, w_2, w_3⟩ : (¬ (2 ≥ ρ 13)) ∧ (ρ 19 ≠ 1) ∧ (¬ (0 ≤ -ρ 19 + 3)) ∧ (0 ≤ -ρ 19 + 5) := ⟨by omega, by omega, by omega, by omega⟩
  obtain ⟨-, -, -, -, m4, -, -, -, -, -, -, -, -, m13, -, -, -, -, -, m19, -⟩ := hm
  have m4 : γ 0 6 0 7 = ρ 4 := m4
  have m13 : γ 0 9 (ρ 4) 2 = ρ 13 := m13
  have m19 : γ 0 10 (9 * ρ 4 + 3) 4 = ρ 19 := m19
  obtain ⟨l0, l1, -⟩ := hl
  have l0 : sn132 [ρ 4, 2] (γ 0) 0 (9 * ρ 4 + 3) (γ 1) := hS132 _ _ _ _ _ l0
  have l1 : sn229 [9 * ρ 4 + 3, ρ 19] (γ 1) 0 0 (γ 2) := hS229 _ _ _ _ _ l1
  show sn257 [ρ 0, ρ 1, ρ 2, ρ 3, ρ 4, ρ 5, ρ 6, ρ 7, ρ 8, ρ 9, ρ 10, ρ 11, ρ 12, ρ 13, ρ 14, ρ 15, ρ 16, ρ 17, ρ 18, ρ 19, ρ 20, ρ 21, ρ 22, ρ 23, ρ 24, ρ 25, ρ 26, ρ 27, ρ 28, ρ 29, ρ 30, ρ 31, ρ 32, ρ 33, ρ 34, ρ 35, ρ 36, ρ 37, ρ 38, ρ 39, ρ 40, ρ 41, ρ 42, ρ 43, ρ 44, ρ 45, ρ 46, ρ 47, ρ 48, ρ 49, ρ 50, ρ 51, ρ 52, ρ 53, ρ 54] (γ 0) 0 0 (γ 2)
  refine Eq.symm ?_
  show fn257 [] (γ 0) = _
  unfold fn257
  refine (zLet_eq m4).trans ?_
  refine (zLet_eq m13).trans ?_
  refine (zLet_eq m19).trans ?_
  refine (if_neg w_0).trans ?_
  refine (zLet_eq (show fn132 [ρ 4, 2] (γ 0) = (0, 9 * ρ 4 + 3, γ 1) from l0.symm)).trans ?_
  refine (zLet_eq (show _ = γ 1 from rfl)).trans ?_
  refine (if_pos w_1).trans ?_
  refine (if_neg w_2).trans ?_
  refine (if_pos w_3).trans ?_
  refine (zLet_eq (show fn229 [9 * ρ 4 + 3] (γ 1) = (0, 0, γ 2) from l1.symm)).trans ?_
  refine (zLet_eq (show _ = γ 2 from rfl)).trans ?_
  refine (if_neg zQ0_).trans ?_
  rfl
theorem vn257_11 {S : Nat → zSpc} (hS132 : ∀ x g o v gz, S 132 x g o v gz → sn132 x g o v gz) (hS228 : ∀ x g o v gz, S 228 x g o v gz → sn228 x g o v gz) (hS229 : ∀ x g o v gz, S 229 x g o v gz → sn229 x g o v gz) (hS230 : ∀ x g o v gz, S 230 x g o v gz → sn230 x g o v gz) (hS231 : ∀ x g o v gz, S 231 x g o v gz → sn231 x g o v gz) (hS244 : ∀ x g o v gz, S 244 x g o v gz → sn244 x g o v gz) (hS255 : ∀ x g o v gz, S 255 x g o v gz → sn255 x g o v gz) (hS256 : ∀ x g o v gz, S 256 x g o v gz → sn256 x g o v gz) {a : List Int} {g : rHp} : ∀ (ρ : Nat → Int) (γ : Nat → rHp), zO 55 S a g q257_11 ρ γ → zGl (fun _ _ _ => True) (sn257 a g) q257_11 ρ γ := by
  intro ρ γ h
  obtain ⟨ha, hg, hr, hf, hm, hc, hl⟩ := h
  have ha : a = [ρ 0, ρ 1, ρ 2, ρ 3, ρ 4, ρ 5, ρ 6, ρ 7, ρ 8, ρ 9, ρ 10, ρ 11, ρ 12, ρ 13, ρ 14, ρ 15, ρ 16, ρ 17, ρ 18, ρ 19, ρ 20, ρ 21, ρ 22, ρ 23, ρ 24, ρ 25, ρ 26, ρ 27, ρ 28, ρ 29, ρ 30, ρ 31, ρ 32, ρ 33, ρ 34, ρ 35, ρ 36, ρ 37, ρ 38, ρ 39, ρ 40, ρ 41, ρ 42, ρ 43, ρ 44, ρ 45, ρ 46, ρ 47, ρ 48, ρ 49, ρ 50, ρ 51, ρ 52, ρ 53, ρ 54] := ha
  subst ha
  subst hg
  obtain ⟨-, -, -, -, -, -, -, -, -, -, -, -, -, r13, -, -, -, -, -, r19, -⟩ := hr
  have r13 : (3 : Int) ≤ ρ 13 ∧ ρ 13 ≤ 8 := r13
  have r19 : (4 : Int) ≤ ρ 19 ∧ ρ 19 ≤ 5 := r19
  obtain ⟨w_0, w_1, w_2, w_3⟩ : (¬ (2 ≥ ρ 13)) ∧ (ρ 19 ≠ 1) ∧ (¬ (0 ≤ -ρ 19 + 3)) ∧ (0 ≤ -ρ 19 + 5) := ⟨by omega, by omega, by omega, by omega⟩
  obtain ⟨-, -, -, -, m4, -, -, -, -, -, -, -, -, m13, -, -, -, -, -, m19, -⟩ := hm
  have m4 : γ 0 6 0 7 = ρ 4 := m4
  have m13 : γ 0 9 (ρ 4) 2 = ρ 13 := m13
  have m19 : γ 0 10 (9 * ρ 4 + 3) 4 = ρ 19 := m19
  obtain ⟨l0, l1, l2, -⟩ := hl
  have l0 : sn132 [ρ 4, 2] (γ 0) 0 (9 * ρ 4 + 3) (γ 1) := hS132 _ _ _ _ _ l0
  have l1 : sn229 [9 * ρ 4 + 3, ρ 19] (γ 1) 0 1 (γ 2) := hS229 _ _ _ _ _ l1
  have l2 : sn255 [ρ 0, ρ 1, ρ 2, ρ 3, ρ 4, ρ 5, ρ 6, ρ 7, ρ 8, ρ 9, ρ 10, ρ 11, ρ 12, ρ 13, ρ 14, ρ 15, ρ 16, ρ 17, ρ 18, ρ 25, ρ 26, ρ 27, ρ 28, ρ 29, ρ 30, ρ 31, ρ 32, ρ 33, ρ 34, ρ 35, ρ 36, ρ 37, ρ 38, ρ 39, ρ 40, ρ 41, ρ 42, ρ 43, ρ 44, ρ 45, ρ 46, ρ 47, ρ 48, ρ 49, ρ 50, ρ 51, ρ 52, ρ 53, ρ 54] (γ 2) 0 0 (γ 3) := hS255 _ _ _ _ _ l2
  show sn257 [ρ 0, ρ 1, ρ 2, ρ 3, ρ 4, ρ 5, ρ 6, ρ 7, ρ 8, ρ 9, ρ 10, ρ 11, ρ 12, ρ 13, ρ 14, ρ 15, ρ 16, ρ 17, ρ 18, ρ 19, ρ 20, ρ 21, ρ 22, ρ 23, ρ 24, ρ 25, ρ 26, ρ 27, ρ 28, ρ 29, ρ 30, ρ 31, ρ 32, ρ 33, ρ 34, ρ 35, ρ 36, ρ 37, ρ 38, ρ 39, ρ 40, ρ 41, ρ 42, ρ 43, ρ 44, ρ 45, ρ 46, ρ 47, ρ 48, ρ 49, ρ 50, ρ 51, ρ 52, ρ 53, ρ 54] (γ 0) 0 0 (γ 3)
  refine Eq.symm ?_
  show fn257 [] (γ 0) = _
  unfold fn257
  refine (zLet_eq m4).trans ?_
  refine (zLet_eq m13).trans ?_
  refine (zLet_eq m19).trans ?_
  refine (if_neg w_0).trans ?_
  refine (zLet_eq (show fn132 [ρ 4, 2] (γ 0) = (0, 9 * ρ 4 + 3, γ 1) from l0.symm)).trans ?_
  refine (zLet_eq (show _ = γ 1 from rfl)).trans ?_
  refine (if_pos w_1).trans ?_
  refine (if_neg w_2).trans ?_
  refine (if_pos w_3).trans ?_
  refine (zLet_eq (show fn229 [9 * ρ 4 + 3] (γ 1) = (0, 1, γ 2) from l1.symm)).trans ?_
  refine (zLet_eq (show _ = γ 2 from rfl)).trans ?_
  refine (if_pos zQ1_).trans ?_
  refine (zLet_eq (show fn255 [] (γ 2) = (0, 0, γ 3) from l2.symm)).trans ?_
  refine (zLet_eq (show _ = γ 3 from rfl)).trans ?_
  refine (if_pos (show (0 : Nat) = 0 by decide)).trans ?_
  rfl
theorem vn257_12 {S : Nat → zSpc} (hS132 : ∀ x g o v gz, S 132 x g o v gz → sn132 x g o v gz) (hS228 : ∀ x g o v gz, S 228 x g o v gz → sn228 x g o v gz) (hS229 : ∀ x g o v gz, S 229 x g o v gz → sn229 x g o v gz) (hS230 : ∀ x g o v gz, S 230 x g o v gz → sn230 x g o v gz) (hS231 : ∀ x g o v gz, S 231 x g o v gz → sn231 x g o v gz) (hS244 : ∀ x g o v gz, S 244 x g o v gz → sn244 x g o v gz) (hS255 : ∀ x g o v gz, S 255 x g o v gz → sn255 x g o v gz) (hS256 : ∀ x g o v gz, S 256 x g o v gz → sn256 x g o v gz) {a : List Int} {g : rHp} : ∀ (ρ : Nat → Int) (γ : Nat → rHp), zO 55 S a g q257_12 ρ γ → zGl (fun _ _ _ => True) (sn257 a g) q257_12 ρ γ := by
  intro ρ γ h
  obtain ⟨ha, hg, hr, hf, hm, hc, hl⟩ := h
  have ha : a = [ρ 0, ρ 1, ρ 2, ρ 3, ρ 4, ρ 5, ρ 6, ρ 7, ρ 8, ρ 9, ρ 10, ρ 11, ρ 12, ρ 13, ρ 14, ρ 15, ρ 16, ρ 17, ρ 18, ρ 19, ρ 20, ρ 21, ρ 22, ρ 23, ρ 24, ρ 25, ρ 26, ρ 27, ρ 28, ρ 29, ρ 30, ρ 31, ρ 32, ρ 33, ρ 34, ρ 35, ρ 36, ρ 37, ρ 38, ρ 39, ρ 40, ρ 41, ρ 42, ρ 43, ρ 44, ρ 45, ρ 46, ρ 47, ρ 48, ρ 49, ρ 50, ρ 51, ρ 52, ρ 53, ρ 54] := ha
  subst ha
  subst hg
  obtain ⟨-, -, -, -, -, -, -, -, -, -, -, -, -, r13, -, -, -, -, -, r19, -⟩ := hr
  have r13 : (3 : Int) ≤ ρ 13 ∧ ρ 13 ≤ 8 := r13
  have r19 : (4 : Int) ≤ ρ 19 ∧ ρ 19 ≤ 5 := r19
  obtain ⟨w_0, w_1, w_2, w_3⟩ : (¬ (2 ≥ ρ 13)) ∧ (ρ 19 ≠ 1) ∧ (¬ (0 ≤ -ρ 19 + 3)) ∧ (0 ≤ -ρ 19 + 5) := ⟨by omega, by omega, by omega, by omega⟩
  obtain ⟨-, -, -, -, m4, -, -, -, -, -, -, -, -, m13, -, -, -, -, -, m19, -⟩ := hm
  have m4 : γ 0 6 0 7 = ρ 4 := m4
  have m13 : γ 0 9 (ρ 4) 2 = ρ 13 := m13
  have m19 : γ 0 10 (9 * ρ 4 + 3) 4 = ρ 19 := m19
  obtain ⟨l0, l1, l2, -⟩ := hl
  have l0 : sn132 [ρ 4, 2] (γ 0) 0 (9 * ρ 4 + 3) (γ 1) := hS132 _ _ _ _ _ l0
  have l1 : sn229 [9 * ρ 4 + 3, ρ 19] (γ 1) 0 1 (γ 2) := hS229 _ _ _ _ _ l1
  have l2 : sn255 [ρ 0, ρ 1, ρ 2, ρ 3, ρ 4, ρ 5, ρ 6, ρ 7, ρ 8, ρ 9, ρ 10, ρ 11, ρ 12, ρ 13, ρ 14, ρ 15, ρ 16, ρ 17, ρ 18, ρ 25, ρ 26, ρ 27, ρ 28, ρ 29, ρ 30, ρ 31, ρ 32, ρ 33, ρ 34, ρ 35, ρ 36, ρ 37, ρ 38, ρ 39, ρ 40, ρ 41, ρ 42, ρ 43, ρ 44, ρ 45, ρ 46, ρ 47, ρ 48, ρ 49, ρ 50, ρ 51, ρ 52, ρ 53, ρ 54] (γ 2) 1 0 (γ 3) := hS255 _ _ _ _ _ l2
  show sn257 [ρ 0, ρ 1, ρ 2, ρ 3, ρ 4, ρ 5, ρ 6, ρ 7, ρ 8, ρ 9, ρ 10, ρ 11, ρ 12, ρ 13, ρ 14, ρ 15, ρ 16, ρ 17, ρ 18, ρ 19, ρ 20, ρ 21, ρ 22, ρ 23, ρ 24, ρ 25, ρ 26, ρ 27, ρ 28, ρ 29, ρ 30, ρ 31, ρ 32, ρ 33, ρ 34, ρ 35, ρ 36, ρ 37, ρ 38, ρ 39, ρ 40, ρ 41, ρ 42, ρ 43, ρ 44, ρ 45, ρ 46, ρ 47, ρ 48, ρ 49, ρ 50, ρ 51, ρ 52, ρ 53, ρ 54] (γ 0) 1 0 (γ 3)
  refine Eq.symm ?_
  show fn257 [] (γ 0) = _
  unfold fn257
  refine (zLet_eq m4).trans ?_
  refine (zLet_eq m13).trans ?_
  refine (zLet_eq m19).trans ?_
  refine (if_neg w_0).trans ?_
  refine (zLet_eq (show fn132 [ρ 4, 2] (γ 0) = (0, 9 * ρ 4 + 3, γ 1) from l0.symm)).trans ?_
  refine (zLet_eq (show _ = γ 1 from rfl)).trans ?_
  refine (if_pos w_1).trans ?_
  refine (if_neg w_2).trans ?_
  refine (if_pos w_3).trans ?_
  refine (zLet_eq (show fn229 [9 * ρ 4 + 3] (γ 1) = (0, 1, γ 2) from l1.symm)).trans ?_
  refine (zLet_eq (show _ = γ 2 from rfl)).trans ?_
  refine (if_pos zQ1_).trans ?_
  refine (zLet_eq (show fn255 [] (γ 2) = (1, 0, γ 3) from l2.symm)).trans ?_
  refine (zLet_eq (show _ = γ 3 from rfl)).trans ?_
  refine (if_neg (show ¬ (1 : Nat) = 0 by decide)).trans ?_
  refine (if_pos (show (1 : Nat) = 1 by decide)).trans ?_
  rfl
theorem vn257_13 {S : Nat → zSpc} (hS132 : ∀ x g o v gz, S 132 x g o v gz → sn132 x g o v gz) (hS228 : ∀ x g o v gz, S 228 x g o v gz → sn228 x g o v gz) (hS229 : ∀ x g o v gz, S 229 x g o v gz → sn229 x g o v gz) (hS230 : ∀ x g o v gz, S 230 x g o v gz → sn230 x g o v gz) (hS231 : ∀ x g o v gz, S 231 x g o v gz → sn231 x g o v gz) (hS244 : ∀ x g o v gz, S 244 x g o v gz → sn244 x g o v gz) (hS255 : ∀ x g o v gz, S 255 x g o v gz → sn255 x g o v gz) (hS256 : ∀ x g o v gz, S 256 x g o v gz → sn256 x g o v gz) {a : List Int} {g : rHp} : ∀ (ρ : Nat → Int) (γ : Nat → rHp), zO 55 S a g q257_13 ρ γ → zGl (fun _ _ _ => True) (sn257 a g) q257_13 ρ γ := by
  intro ρ γ h
  obtain ⟨ha, hg, hr, hf, hm, hc, hl⟩ := h
  have ha : a = [ρ 0, ρ 1, ρ 2, ρ 3, ρ 4, ρ 5, ρ 6, ρ 7, ρ 8, ρ 9, ρ 10, ρ 11, ρ 12, ρ 13, ρ 14, ρ 15, ρ 16, ρ 17, ρ 18, ρ 19, ρ 20, ρ 21, ρ 22, ρ 23, ρ 24, ρ 25, ρ 26, ρ 27, ρ 28, ρ 29, ρ 30, ρ 31, ρ 32, ρ 33, ρ 34, ρ 35, ρ 36, ρ 37, ρ 38, ρ 39, ρ 40, ρ 41, ρ 42, ρ 43, ρ 44, ρ 45, ρ 46, ρ 47, ρ 48, ρ 49, ρ 50, ρ 51, ρ 52, ρ 53, ρ 54] := ha
  subst ha
  subst hg
  obtain ⟨-, -, -, -, -, -, -, -, -, -, -, -, -, r13, -, -, -, -, -, r19, -⟩ := hr
  have r13 : (4 : Int) ≤ ρ 13 ∧ ρ 13 ≤ 8 := r13
  have r19 : (4 : Int) ≤ ρ 19 ∧ ρ 19 ≤ 5 := r19
  obtain ⟨w_0, w_1, w_2, w_3⟩ : (¬ (2 ≥ ρ 13)) ∧ (ρ 19 ≠ 1) ∧ (¬ (0 ≤ -ρ 19 + 3)) ∧ (0 ≤ -ρ 19 + 5) := ⟨by omega, by omega, by omega, by omega⟩
  obtain ⟨-, -, -, -, m4, -, -, -, -, -, -, -, -, m13, -, -, -, -, -, m19, -⟩ := hm
  have m4 : γ 0 6 0 7 = ρ 4 := m4
  have m13 : γ 0 9 (ρ 4) 2 = ρ 13 := m13
  have m19 : γ 0 10 (9 * ρ 4 + 3) 4 = ρ 19 := m19
  obtain ⟨l0, l1, l2, -⟩ := hl
  have l0 : sn132 [ρ 4, 2] (γ 0) 0 (9 * ρ 4 + 3) (γ 1) := hS132 _ _ _ _ _ l0
  have l1 : sn229 [9 * ρ 4 + 3, ρ 19] (γ 1) 0 1 (γ 2) := hS229 _ _ _ _ _ l1
  have l2 : sn255 [ρ 0, ρ 1, ρ 2, ρ 3, ρ 4, ρ 5, ρ 6, ρ 7, ρ 8, ρ 9, ρ 10, ρ 11, ρ 12, ρ 13, ρ 14, ρ 15, ρ 16, ρ 17, ρ 18, ρ 25, ρ 26, ρ 27, ρ 28, ρ 29, ρ 30, ρ 31, ρ 32, ρ 33, ρ 34, ρ 35, ρ 36, ρ 37, ρ 38, ρ 39, ρ 40, ρ 41, ρ 42, ρ 43, ρ 44, ρ 45, ρ 46, ρ 47, ρ 48, ρ 49, ρ 50, ρ 51, ρ 52, ρ 53, ρ 54] (γ 2) 4 0 (γ 3) := hS255 _ _ _ _ _ l2
  show sn257 [ρ 0, ρ 1, ρ 2, ρ 3, ρ 4, ρ 5, ρ 6, ρ 7, ρ 8, ρ 9, ρ 10, ρ 11, ρ 12, ρ 13, ρ 14, ρ 15, ρ 16, ρ 17, ρ 18, ρ 19, ρ 20, ρ 21, ρ 22, ρ 23, ρ 24, ρ 25, ρ 26, ρ 27, ρ 28, ρ 29, ρ 30, ρ 31, ρ 32, ρ 33, ρ 34, ρ 35, ρ 36, ρ 37, ρ 38, ρ 39, ρ 40, ρ 41, ρ 42, ρ 43, ρ 44, ρ 45, ρ 46, ρ 47, ρ 48, ρ 49, ρ 50, ρ 51, ρ 52, ρ 53, ρ 54] (γ 0) 4 0 (γ 3)
  refine Eq.symm ?_
  show fn257 [] (γ 0) = _
  unfold fn257
  refine (zLet_eq m4).trans ?_
  refine (zLet_eq m13).trans ?_
  refine (zLet_eq m19).trans ?_
  refine (if_neg w_0).trans ?_
  refine (zLet_eq (show fn132 [ρ 4, 2] (γ 0) = (0, 9 * ρ 4 + 3, γ 1) from l0.symm)).trans ?_
  refine (zLet_eq (show _ = γ 1 from rfl)).trans ?_
  refine (if_pos w_1).trans ?_
  refine (if_neg w_2).trans ?_
  refine (if_pos w_3).trans ?_
  refine (zLet_eq (show fn229 [9 * ρ 4 + 3] (γ 1) = (0, 1, γ 2) from l1.symm)).trans ?_
  refine (zLet_eq (show _ = γ 2 from rfl)).trans ?_
  refine (if_pos zQ1_).trans ?_
  refine (zLet_eq (show fn255 [] (γ 2) = (4, 0, γ 3) from l2.symm)).trans ?_
  refine (zLet_eq (show _ = γ 3 from rfl)).trans ?_
  refine (if_neg (show ¬ (4 : Nat) = 0 by decide)).trans ?_
  refine (if_neg (show ¬ (4 : Nat) = 1 by decide)).trans ?_
  rfl
theorem vn257_14 {S : Nat → zSpc} (hS132 : ∀ x g o v gz, S 132 x g o v gz → sn132 x g o v gz) (hS228 : ∀ x g o v gz, S 228 x g o v gz → sn228 x g o v gz) (hS229 : ∀ x g o v gz, S 229 x g o v gz → sn229 x g o v gz) (hS230 : ∀ x g o v gz, S 230 x g o v gz → sn230 x g o v gz) (hS231 : ∀ x g o v gz, S 231 x g o v gz → sn231 x g o v gz) (hS244 : ∀ x g o v gz, S 244 x g o v gz → sn244 x g o v gz) (hS255 : ∀ x g o v gz, S 255 x g o v gz → sn255 x g o v gz) (hS256 : ∀ x g o v gz, S 256 x g o v gz → sn256 x g o v gz) {a : List Int} {g : rHp} : ∀ (ρ : Nat → Int) (γ : Nat → rHp), zO 55 S a g q257_14 ρ γ → zGl (fun _ _ _ => True) (sn257 a g) q257_14 ρ γ := by
  intro ρ γ h
  obtain ⟨ha, hg, hr, hf, hm, hc, hl⟩ := h
  have ha : a = [ρ 0, ρ 1, ρ 2, ρ 3, ρ 4, ρ 5, ρ 6, ρ 7, ρ 8, ρ 9, ρ 10, ρ 11, ρ 12, ρ 13, ρ 14, ρ 15, ρ 16, ρ 17, ρ 18, ρ 19, ρ 20, ρ 21, ρ 22, ρ 23, ρ 24, ρ 25, ρ 26, ρ 27, ρ 28, ρ 29, ρ 30, ρ 31, ρ 32, ρ 33, ρ 34, ρ 35, ρ 36, ρ 37, ρ 38, ρ 39, ρ 40, ρ 41, ρ 42, ρ 43, ρ 44, ρ 45, ρ 46, ρ 47, ρ 48, ρ 49, ρ 50, ρ 51, ρ 52, ρ 53, ρ 54] := ha
  subst ha
  subst hg
  obtain ⟨-, -, -, -, -, -, -, -, -, -, -, -, -, r13, -, -, -, -, -, r19, -⟩ := hr
  have r13 : (3 : Int) ≤ ρ 13 ∧ ρ 13 ≤ 8 := r13
  have r19 : (6 : Int) ≤ ρ 19 ∧ ρ 19 ≤ 8 := r19
  obtain ⟨w_0, w_1, w_2, w_3⟩ : (¬ (2 ≥ ρ 13)) ∧ (ρ 19 ≠ 1) ∧ (¬ (0 ≤ -ρ 19 + 3)) ∧ (¬ (0 ≤ -ρ 19 + 5)) := ⟨by omega, by omega, by omega, by omega⟩
  obtain ⟨-, -, -, -, m4, -, -, -, -, -, -, -, -, m13, -, -, -, -, -, m19, -⟩ := hm
  have m4 : γ 0 6 0 7 = ρ 4 := m4
  have m13 : γ 0 9 (ρ 4) 2 = ρ 13 := m13
  have m19 : γ 0 10 (9 * ρ 4 + 3) 4 = ρ 19 := m19
  obtain ⟨l0, l1, -⟩ := hl
  have l0 : sn132 [ρ 4, 2] (γ 0) 0 (9 * ρ 4 + 3) (γ 1) := hS132 _ _ _ _ _ l0
  have l1 : sn231 [9 * ρ 4 + 3, ρ 19, ρ 24] (γ 1) 0 0 (γ 2) := hS231 _ _ _ _ _ l1
  show sn257 [ρ 0, ρ 1, ρ 2, ρ 3, ρ 4, ρ 5, ρ 6, ρ 7, ρ 8, ρ 9, ρ 10, ρ 11, ρ 12, ρ 13, ρ 14, ρ 15, ρ 16, ρ 17, ρ 18, ρ 19, ρ 20, ρ 21, ρ 22, ρ 23, ρ 24, ρ 25, ρ 26, ρ 27, ρ 28, ρ 29, ρ 30, ρ 31, ρ 32, ρ 33, ρ 34, ρ 35, ρ 36, ρ 37, ρ 38, ρ 39, ρ 40, ρ 41, ρ 42, ρ 43, ρ 44, ρ 45, ρ 46, ρ 47, ρ 48, ρ 49, ρ 50, ρ 51, ρ 52, ρ 53, ρ 54] (γ 0) 0 0 (γ 2)
  refine Eq.symm ?_
  show fn257 [] (γ 0) = _
  unfold fn257
  refine (zLet_eq m4).trans ?_
  refine (zLet_eq m13).trans ?_
  refine (zLet_eq m19).trans ?_
  refine (if_neg w_0).trans ?_
  refine (zLet_eq (show fn132 [ρ 4, 2] (γ 0) = (0, 9 * ρ 4 + 3, γ 1) from l0.symm)).trans ?_
  refine (zLet_eq (show _ = γ 1 from rfl)).trans ?_
  refine (if_pos w_1).trans ?_
  refine (if_neg w_2).trans ?_
  refine (if_neg w_3).trans ?_
  refine (zLet_eq (show fn231 [9 * ρ 4 + 3] (γ 1) = (0, 0, γ 2) from l1.symm)).trans ?_
  refine (zLet_eq (show _ = γ 2 from rfl)).trans ?_
  refine (if_neg zQ0_).trans ?_
  rfl
theorem vn257_15 {S : Nat → zSpc} (hS132 : ∀ x g o v gz, S 132 x g o v gz → sn132 x g o v gz) (hS228 : ∀ x g o v gz, S 228 x g o v gz → sn228 x g o v gz) (hS229 : ∀ x g o v gz, S 229 x g o v gz → sn229 x g o v gz) (hS230 : ∀ x g o v gz, S 230 x g o v gz → sn230 x g o v gz) (hS231 : ∀ x g o v gz, S 231 x g o v gz → sn231 x g o v gz) (hS244 : ∀ x g o v gz, S 244 x g o v gz → sn244 x g o v gz) (hS255 : ∀ x g o v gz, S 255 x g o v gz → sn255 x g o v gz) (hS256 : ∀ x g o v gz, S 256 x g o v gz → sn256 x g o v gz) {a : List Int} {g : rHp} : ∀ (ρ : Nat → Int) (γ : Nat → rHp), zO 55 S a g q257_15 ρ γ → zGl (fun _ _ _ => True) (sn257 a g) q257_15 ρ γ := by
  intro ρ γ h
  obtain ⟨ha, hg, hr, hf, hm, hc, hl⟩ := h
  have ha : a = [ρ 0, ρ 1, ρ 2, ρ 3, ρ 4, ρ 5, ρ 6, ρ 7, ρ 8, ρ 9, ρ 10, ρ 11, ρ 12, ρ 13, ρ 14, ρ 15, ρ 16, ρ 17, ρ 18, ρ 19, ρ 20, ρ 21, ρ 22, ρ 23, ρ 24, ρ 25, ρ 26, ρ 27, ρ 28, ρ 29, ρ 30, ρ 31, ρ 32, ρ 33, ρ 34, ρ 35, ρ 36, ρ 37, ρ 38, ρ 39, ρ 40, ρ 41, ρ 42, ρ 43, ρ 44, ρ 45, ρ 46, ρ 47, ρ 48, ρ 49, ρ 50, ρ 51, ρ 52, ρ 53, ρ 54] := ha
  subst ha
  subst hg
  obtain ⟨-, -, -, -, -, -, -, -, -, -, -, -, -, r13, -, -, -, -, -, r19, -⟩ := hr
  have r13 : (3 : Int) ≤ ρ 13 ∧ ρ 13 ≤ 8 := r13
  have r19 : (6 : Int) ≤ ρ 19 ∧ ρ 19 ≤ 8 := r19
  obtain ⟨w_0, w_1, w_2, w_3⟩ : (¬ (2 ≥ ρ 13)) ∧ (ρ 19 ≠ 1) ∧ (¬ (0 ≤ -ρ 19 + 3)) ∧ (¬ (0 ≤ -ρ 19 + 5)) := ⟨by omega, by omega, by omega, by omega⟩
  obtain ⟨-, -, -, -, m4, -, -, -, -, -, -, -, -, m13, -, -, -, -, -, m19, -⟩ := hm
  have m4 : γ 0 6 0 7 = ρ 4 := m4
  have m13 : γ 0 9 (ρ 4) 2 = ρ 13 := m13
  have m19 : γ 0 10 (9 * ρ 4 + 3) 4 = ρ 19 := m19
  obtain ⟨l0, l1, l2, -⟩ := hl
  have l0 : sn132 [ρ 4, 2] (γ 0) 0 (9 * ρ 4 + 3) (γ 1) := hS132 _ _ _ _ _ l0
  have l1 : sn231 [9 * ρ 4 + 3, ρ 19, ρ 24] (γ 1) 0 1 (γ 2) := hS231 _ _ _ _ _ l1
  have l2 : sn255 [ρ 0, ρ 1, ρ 2, ρ 3, ρ 4, ρ 5, ρ 6, ρ 7, ρ 8, ρ 9, ρ 10, ρ 11, ρ 12, ρ 13, ρ 14, ρ 15, ρ 16, ρ 17, ρ 18, ρ 25, ρ 26, ρ 27, ρ 28, ρ 29, ρ 30, ρ 31, ρ 32, ρ 33, ρ 34, ρ 35, ρ 36, ρ 37, ρ 38, ρ 39, ρ 40, ρ 41, ρ 42, ρ 43, ρ 44, ρ 45, ρ 46, ρ 47, ρ 48, ρ 49, ρ 50, ρ 51, ρ 52, ρ 53, ρ 54] (γ 2) 0 0 (γ 3) := hS255 _ _ _ _ _ l2
  show sn257 [ρ 0, ρ 1, ρ 2, ρ 3, ρ 4, ρ 5, ρ 6, ρ 7, ρ 8, ρ 9, ρ 10, ρ 11, ρ 12, ρ 13, ρ 14, ρ 15, ρ 16, ρ 17, ρ 18, ρ 19, ρ 20, ρ 21, ρ 22, ρ 23, ρ 24, ρ 25, ρ 26, ρ 27, ρ 28, ρ 29, ρ 30, ρ 31, ρ 32, ρ 33, ρ 34, ρ 35, ρ 36, ρ 37, ρ 38, ρ 39, ρ 40, ρ 41, ρ 42, ρ 43, ρ 44, ρ 45, ρ 46, ρ 47, ρ 48, ρ 49, ρ 50, ρ 51, ρ 52, ρ 53, ρ 54] (γ 0) 0 0 (γ 3)
  refine Eq.symm ?_
  show fn257 [] (γ 0) = _
  unfold fn257
  refine (zLet_eq m4).trans ?_
  refine (zLet_eq m13).trans ?_
  refine (zLet_eq m19).trans ?_
  refine (if_neg w_0).trans ?_
  refine (zLet_eq (show fn132 [ρ 4, 2] (γ 0) = (0, 9 * ρ 4 + 3, γ 1) from l0.symm)).trans ?_
  refine (zLet_eq (show _ = γ 1 from rfl)).trans ?_
  refine (if_pos w_1).trans ?_
  refine (if_neg w_2).trans ?_
  refine (if_neg w_3).trans ?_
  refine (zLet_eq (show fn231 [9 * ρ 4 + 3] (γ 1) = (0, 1, γ 2) from l1.symm)).trans ?_
  refine (zLet_eq (show _ = γ 2 from rfl)).trans ?_
  refine (if_pos zQ1_).trans ?_
  refine (zLet_eq (show fn255 [] (γ 2) = (0, 0, γ 3) from l2.symm)).trans ?_
  refine (zLet_eq (show _ = γ 3 from rfl)).trans ?_
  refine (if_pos (show (0 : Nat) = 0 by decide)).trans ?_
  rfl
theorem vn257_16 {S : Nat → zSpc} (hS132 : ∀ x g o v gz, S 132 x g o v gz → sn132 x g o v gz) (hS228 : ∀ x g o v gz, S 228 x g o v gz → sn228 x g o v gz) (hS229 : ∀ x g o v gz, S 229 x g o v gz → sn229 x g o v gz) (hS230 : ∀ x g o v gz, S 230 x g o v gz → sn230 x g o v gz) (hS231 : ∀ x g o v gz, S 231 x g o v gz → sn231 x g o v gz) (hS244 : ∀ x g o v gz, S 244 x g o v gz → sn244 x g o v gz) (hS255 : ∀ x g o v gz, S 255 x g o v gz → sn255 x g o v gz) (hS256 : ∀ x g o v gz, S 256 x g o v gz → sn256 x g o v gz) {a : List Int} {g : rHp} : ∀ (ρ : Nat → Int) (γ : Nat → rHp), zO 55 S a g q257_16 ρ γ → zGl (fun _ _ _ => True) (sn257 a g) q257_16 ρ γ := by
  intro ρ γ h
  obtain ⟨ha, hg, hr, hf, hm, hc, hl⟩ := h
  have ha : a = [ρ 0, ρ 1, ρ 2, ρ 3, ρ 4, ρ 5, ρ 6, ρ 7, ρ 8, ρ 9, ρ 10, ρ 11, ρ 12, ρ 13, ρ 14, ρ 15, ρ 16, ρ 17, ρ 18, ρ 19, ρ 20, ρ 21, ρ 22, ρ 23, ρ 24, ρ 25, ρ 26, ρ 27, ρ 28, ρ 29, ρ 30, ρ 31, ρ 32, ρ 33, ρ 34, ρ 35, ρ 36, ρ 37, ρ 38, ρ 39, ρ 40, ρ 41, ρ 42, ρ 43, ρ 44, ρ 45, ρ 46, ρ 47, ρ 48, ρ 49, ρ 50, ρ 51, ρ 52, ρ 53, ρ 54] := ha
  subst ha
  subst hg
  obtain ⟨-, -, -, -, -, -, -, -, -, -, -, -, -, r13, -, -, -, -, -, r19, -⟩ := hr
  have r13 : (3 : Int) ≤ ρ 13 ∧ ρ 13 ≤ 8 := r13
  have r19 : (6 : Int) ≤ ρ 19 ∧ ρ 19 ≤ 8 := r19
  obtain ⟨w_0, w_1, w_2, w_3⟩ : (¬ (2 ≥ ρ 13)) ∧ (ρ 19 ≠ 1) ∧ (¬ (0 ≤ -ρ 19 + 3)) ∧ (¬ (0 ≤ -ρ 19 + 5)) := ⟨by omega, by omega, by omega, by omega⟩
  obtain ⟨-, -, -, -, m4, -, -, -, -, -, -, -, -, m13, -, -, -, -, -, m19, -⟩ := hm
  have m4 : γ 0 6 0 7 = ρ 4 := m4
  have m13 : γ 0 9 (ρ 4) 2 = ρ 13 := m13
  have m19 : γ 0 10 (9 * ρ 4 + 3) 4 = ρ 19 := m19
  obtain ⟨l0, l1, l2, -⟩ := hl
  have l0 : sn132 [ρ 4, 2] (γ 0) 0 (9 * ρ 4 + 3) (γ 1) := hS132 _ _ _ _ _ l0
  have l1 : sn231 [9 * ρ 4 + 3, ρ 19, ρ 24] (γ 1) 0 1 (γ 2) := hS231 _ _ _ _ _ l1
  have l2 : sn255 [ρ 0, ρ 1, ρ 2, ρ 3, ρ 4, ρ 5, ρ 6, ρ 7, ρ 8, ρ 9, ρ 10, ρ 11, ρ 12, ρ 13, ρ 14, ρ 15, ρ 16, ρ 17, ρ 18, ρ 25, ρ 26, ρ 27, ρ 28, ρ 29, ρ 30, ρ 31, ρ 32, ρ 33, ρ 34, ρ 35, ρ 36, ρ 37, ρ 38, ρ 39, ρ 40, ρ 41, ρ 42, ρ 43, ρ 44, ρ 45, ρ 46, ρ 47, ρ 48, ρ 49, ρ 50, ρ 51, ρ 52, ρ 53, ρ 54] (γ 2) 1 0 (γ 3) := hS255 _ _ _ _ _ l2
  show sn257 [ρ 0, ρ 1, ρ 2, ρ 3, ρ 4, ρ 5, ρ 6, ρ 7, ρ 8, ρ 9, ρ 10, ρ 11, ρ 12, ρ 13, ρ 14, ρ 15, ρ 16, ρ 17, ρ 18, ρ 19, ρ 20, ρ 21, ρ 22, ρ 23, ρ 24, ρ 25, ρ 26, ρ 27, ρ 28, ρ 29, ρ 30, ρ 31, ρ 32, ρ 33, ρ 34, ρ 35, ρ 36, ρ 37, ρ 38, ρ 39, ρ 40, ρ 41, ρ 42, ρ 43, ρ 44, ρ 45, ρ 46, ρ 47, ρ 48, ρ 49, ρ 50, ρ 51, ρ 52, ρ 53, ρ 54] (γ 0) 1 0 (γ 3)
  refine Eq.symm ?_
  show fn257 [] (γ 0) = _
  unfold fn257
  refine (zLet_eq m4).trans ?_
  refine (zLet_eq m13).trans ?_
  refine (zLet_eq m19).trans ?_
  refine (if_neg w_0).trans ?_
  refine (zLet_eq (show fn132 [ρ 4, 2] (γ 0) = (0, 9 * ρ 4 + 3, γ 1) from l0.symm)).trans ?_
  refine (zLet_eq (show _ = γ 1 from rfl)).trans ?_
  refine (if_pos w_1).trans ?_
  refine (if_neg w_2).trans ?_
  refine (if_neg w_3).trans ?_
  refine (zLet_eq (show fn231 [9 * ρ 4 + 3] (γ 1) = (0, 1, γ 2) from l1.symm)).trans ?_
  refine (zLet_eq (show _ = γ 2 from rfl)).trans ?_
  refine (if_pos zQ1_).trans ?_
  refine (zLet_eq (show fn255 [] (γ 2) = (1, 0, γ 3) from l2.symm)).trans ?_
  refine (zLet_eq (show _ = γ 3 from rfl)).trans ?_
  refine (if_neg (show ¬ (1 : Nat) = 0 by decide)).trans ?_
  refine (if_pos (show (1 : Nat) = 1 by decide)).trans ?_
  rfl
theorem vn257_17 {S : Nat → zSpc} (hS132 : ∀ x g o v gz, S 132 x g o v gz → sn132 x g o v gz) (hS228 : ∀ x g o v gz, S 228 x g o v gz → sn228 x g o v gz) (hS229 : ∀ x g o v gz, S 229 x g o v gz → sn229 x g o v gz) (hS230 : ∀ x g o v gz, S 230 x g o v gz → sn230 x g o v gz) (hS231 : ∀ x g o v gz, S 231 x g o v gz → sn231 x g o v gz) (hS244 : ∀ x g o v gz, S 244 x g o v gz → sn244 x g o v gz) (hS255 : ∀ x g o v gz, S 255 x g o v gz → sn255 x g o v gz) (hS256 : ∀ x g o v gz, S 256 x g o v gz → sn256 x g o v gz) {a : List Int} {g : rHp} : ∀ (ρ : Nat → Int) (γ : Nat → rHp), zO 55 S a g q257_17 ρ γ → zGl (fun _ _ _ => True) (sn257 a g) q257_17 ρ γ := by
  intro ρ γ h
  obtain ⟨ha, hg, hr, hf, hm, hc, hl⟩ := h
  have ha : a = [ρ 0, ρ 1, ρ 2, ρ 3, ρ 4, ρ 5, ρ 6, ρ 7, ρ 8, ρ 9, ρ 10, ρ 11, ρ 12, ρ 13, ρ 14, ρ 15, ρ 16, ρ 17, ρ 18, ρ 19, ρ 20, ρ 21, ρ 22, ρ 23, ρ 24, ρ 25, ρ 26, ρ 27, ρ 28, ρ 29, ρ 30, ρ 31, ρ 32, ρ 33, ρ 34, ρ 35, ρ 36, ρ 37, ρ 38, ρ 39, ρ 40, ρ 41, ρ 42, ρ 43, ρ 44, ρ 45, ρ 46, ρ 47, ρ 48, ρ 49, ρ 50, ρ 51, ρ 52, ρ 53, ρ 54] := ha
  subst ha
  subst hg
  obtain ⟨-, -, -, -, -, -, -, -, -, -, -, -, -, r13, -, -, -, -, -, r19, -⟩ := hr
  have r13 : (4 : Int) ≤ ρ 13 ∧ ρ 13 ≤ 8 := r13
  have r19 : (6 : Int) ≤ ρ 19 ∧ ρ 19 ≤ 8 := r19
  obtain ⟨w_0, w_1, w_2, w_3⟩ : (¬ (2 ≥ ρ 13)) ∧ (ρ 19 ≠ 1) ∧ (¬ (0 ≤ -ρ 19 + 3)) ∧ (¬ (0 ≤ -ρ 19 + 5)) := ⟨by omega, by omega, by omega, by omega⟩
  obtain ⟨-, -, -, -, m4, -, -, -, -, -, -, -, -, m13, -, -, -, -, -, m19, -⟩ := hm
  have m4 : γ 0 6 0 7 = ρ 4 := m4
  have m13 : γ 0 9 (ρ 4) 2 = ρ 13 := m13
  have m19 : γ 0 10 (9 * ρ 4 + 3) 4 = ρ 19 := m19
  obtain ⟨l0, l1, l2, -⟩ := hl
  have l0 : sn132 [ρ 4, 2] (γ 0) 0 (9 * ρ 4 + 3) (γ 1) := hS132 _ _ _ _ _ l0
  have l1 : sn231 [9 * ρ 4 + 3, ρ 19, ρ 24] (γ 1) 0 1 (γ 2) := hS231 _ _ _ _ _ l1
  have l2 : sn255 [ρ 0, ρ 1, ρ 2, ρ 3, ρ 4, ρ 5, ρ 6, ρ 7, ρ 8, ρ 9, ρ 10, ρ 11, ρ 12, ρ 13, ρ 14, ρ 15, ρ 16, ρ 17, ρ 18, ρ 25, ρ 26, ρ 27, ρ 28, ρ 29, ρ 30, ρ 31, ρ 32, ρ 33, ρ 34, ρ 35, ρ 36, ρ 37, ρ 38, ρ 39, ρ 40, ρ 41, ρ 42, ρ 43, ρ 44, ρ 45, ρ 46, ρ 47, ρ 48, ρ 49, ρ 50, ρ 51, ρ 52, ρ 53, ρ 54] (γ 2) 4 0 (γ 3) := hS255 _ _ _ _ _ l2
  show sn257 [ρ 0, ρ 1, ρ 2, ρ 3, ρ 4, ρ 5, ρ 6, ρ 7, ρ 8, ρ 9, ρ 10, ρ 11, ρ 12, ρ 13, ρ 14, ρ 15, ρ 16, ρ 17, ρ 18, ρ 19, ρ 20, ρ 21, ρ 22, ρ 23, ρ 24, ρ 25, ρ 26, ρ 27, ρ 28, ρ 29, ρ 30, ρ 31, ρ 32, ρ 33, ρ 34, ρ 35, ρ 36, ρ 37, ρ 38, ρ 39, ρ 40, ρ 41, ρ 42, ρ 43, ρ 44, ρ 45, ρ 46, ρ 47, ρ 48, ρ 49, ρ 50, ρ 51, ρ 52, ρ 53, ρ 54] (γ 0) 4 0 (γ 3)
  refine Eq.symm ?_
  show fn257 [] (γ 0) = _
  unfold fn257
  refine (zLet_eq m4).trans ?_
  refine (zLet_eq m13).trans ?_
  refine (zLet_eq m19).trans ?_
  refine (if_neg w_0).trans ?_
  refine (zLet_eq (show fn132 [ρ 4, 2] (γ 0) = (0, 9 * ρ 4 + 3, γ 1) from l0.symm)).trans ?_
  refine (zLet_eq (show _ = γ 1 from rfl)).trans ?_
  refine (if_pos w_1).trans ?_
  refine (if_neg w_2).trans ?_
  refine (if_neg w_3).trans ?_
  refine (zLet_eq (show fn231 [9 * ρ 4 + 3] (γ 1) = (0, 1, γ 2) from l1.symm)).trans ?_
  refine (zLet_eq (show _ = γ 2 from rfl)).trans ?_
  refine (if_pos zQ1_).trans ?_
  refine (zLet_eq (show fn255 [] (γ 2) = (4, 0, γ 3) from l2.symm)).trans ?_
  refine (zLet_eq (show _ = γ 3 from rfl)).trans ?_
  refine (if_neg (show ¬ (4 : Nat) = 0 by decide)).trans ?_
  refine (if_neg (show ¬ (4 : Nat) = 1 by decide)).trans ?_
  rfl
theorem vn257_18 {S : Nat → zSpc} (hS132 : ∀ x g o v gz, S 132 x g o v gz → sn132 x g o v gz) (hS228 : ∀ x g o v gz, S 228 x g o v gz → sn228 x g o v gz) (hS229 : ∀ x g o v gz, S 229 x g o v gz → sn229 x g o v gz) (hS230 : ∀ x g o v gz, S 230 x g o v gz → sn230 x g o v gz) (hS231 : ∀ x g o v gz, S 231 x g o v gz → sn231 x g o v gz) (hS244 : ∀ x g o v gz, S 244 x g o v gz → sn244 x g o v gz) (hS255 : ∀ x g o v gz, S 255 x g o v gz → sn255 x g o v gz) (hS256 : ∀ x g o v gz, S 256 x g o v gz → sn256 x g o v gz) {a : List Int} {g : rHp} : ∀ (ρ : Nat → Int) (γ : Nat → rHp), zO 55 S a g q257_18 ρ γ → zGl (fun _ _ _ => True) (sn257 a g) q257_18 ρ γ := by
  intro ρ γ h
  obtain ⟨ha, hg, hr, hf, hm, hc, hl⟩ := h
  have ha : a = [ρ 0, ρ 1, ρ 2, ρ 3, ρ 4, ρ 5, ρ 6, ρ 7, ρ 8, ρ 9, ρ 10, ρ 11, ρ 12, ρ 13, ρ 14, ρ 15, ρ 16, ρ 17, ρ 18, ρ 19, ρ 20, ρ 21, ρ 22, ρ 23, ρ 24, ρ 25, ρ 26, ρ 27, ρ 28, ρ 29, ρ 30, ρ 31, ρ 32, ρ 33, ρ 34, ρ 35, ρ 36, ρ 37, ρ 38, ρ 39, ρ 40, ρ 41, ρ 42, ρ 43, ρ 44, ρ 45, ρ 46, ρ 47, ρ 48, ρ 49, ρ 50, ρ 51, ρ 52, ρ 53, ρ 54] := ha
  subst ha
  subst hg
  obtain ⟨-, -, -, -, -, -, -, -, -, -, -, -, -, r13, -, -, -, -, -, r19, -⟩ := hr
  have r13 : (3 : Int) ≤ ρ 13 ∧ ρ 13 ≤ 8 := r13
  have r19 : (1 : Int) ≤ ρ 19 ∧ ρ 19 ≤ 1 := r19
  obtain ⟨w_0, w_1⟩ : (¬ (2 ≥ ρ 13)) ∧ (¬ (ρ 19 ≠ 1)) := ⟨by omega, by omega⟩
  obtain ⟨-, -, -, -, m4, -, -, -, -, -, -, -, -, m13, -, -, -, -, -, m19, -⟩ := hm
  have m4 : γ 0 6 0 7 = ρ 4 := m4
  have m13 : γ 0 9 (ρ 4) 2 = ρ 13 := m13
  have m19 : γ 0 10 (9 * ρ 4 + 3) 4 = ρ 19 := m19
  obtain ⟨l0, l1, -⟩ := hl
  have l0 : sn132 [ρ 4, 2] (γ 0) 0 (9 * ρ 4 + 3) (γ 1) := hS132 _ _ _ _ _ l0
  have l1 : sn256 [ρ 0, ρ 1, ρ 2, ρ 3, ρ 4, ρ 5, ρ 6, ρ 7, ρ 8, ρ 9, ρ 10, ρ 11, ρ 12, ρ 13, ρ 14, ρ 15, ρ 16, ρ 17, ρ 18, ρ 20, ρ 21, ρ 22, ρ 23, ρ 25, ρ 26, ρ 27, ρ 28, ρ 29, ρ 30, ρ 31, ρ 32, ρ 33, ρ 34, ρ 35, ρ 36, ρ 37, ρ 38, ρ 39, ρ 40, ρ 41, ρ 42, ρ 43, ρ 44, ρ 45, ρ 46, ρ 47, ρ 48, ρ 49, ρ 50, ρ 51, ρ 52, ρ 53, ρ 54] (γ 1) 0 0 (γ 2) := hS256 _ _ _ _ _ l1
  show sn257 [ρ 0, ρ 1, ρ 2, ρ 3, ρ 4, ρ 5, ρ 6, ρ 7, ρ 8, ρ 9, ρ 10, ρ 11, ρ 12, ρ 13, ρ 14, ρ 15, ρ 16, ρ 17, ρ 18, ρ 19, ρ 20, ρ 21, ρ 22, ρ 23, ρ 24, ρ 25, ρ 26, ρ 27, ρ 28, ρ 29, ρ 30, ρ 31, ρ 32, ρ 33, ρ 34, ρ 35, ρ 36, ρ 37, ρ 38, ρ 39, ρ 40, ρ 41, ρ 42, ρ 43, ρ 44, ρ 45, ρ 46, ρ 47, ρ 48, ρ 49, ρ 50, ρ 51, ρ 52, ρ 53, ρ 54] (γ 0) 0 0 (γ 2)
  refine Eq.symm ?_
  show fn257 [] (γ 0) = _
  unfold fn257
  refine (zLet_eq m4).trans ?_
  refine (zLet_eq m13).trans ?_
  refine (zLet_eq m19).trans ?_
  refine (if_neg w_0).trans ?_
  refine (zLet_eq (show fn132 [ρ 4, 2] (γ 0) = (0, 9 * ρ 4 + 3, γ 1) from l0.symm)).trans ?_
  refine (zLet_eq (show _ = γ 1 from rfl)).trans ?_
  refine (if_neg w_1).trans ?_
  refine (zLet_eq (show fn256 [] (γ 1) = (0, 0, γ 2) from l1.symm)).trans ?_
  refine (zLet_eq (show _ = γ 2 from rfl)).trans ?_
  refine (if_pos (show (0 : Nat) = 0 by decide)).trans ?_
  rfl
theorem vn257_19 {S : Nat → zSpc} (hS132 : ∀ x g o v gz, S 132 x g o v gz → sn132 x g o v gz) (hS228 : ∀ x g o v gz, S 228 x g o v gz → sn228 x g o v gz) (hS229 : ∀ x g o v gz, S 229 x g o v gz → sn229 x g o v gz) (hS230 : ∀ x g o v gz, S 230 x g o v gz → sn230 x g o v gz) (hS231 : ∀ x g o v gz, S 231 x g o v gz → sn231 x g o v gz) (hS244 : ∀ x g o v gz, S 244 x g o v gz → sn244 x g o v gz) (hS255 : ∀ x g o v gz, S 255 x g o v gz → sn255 x g o v gz) (hS256 : ∀ x g o v gz, S 256 x g o v gz → sn256 x g o v gz) {a : List Int} {g : rHp} : ∀ (ρ : Nat → Int) (γ : Nat → rHp), zO 55 S a g q257_19 ρ γ → zGl (fun _ _ _ => True) (sn257 a g) q257_19 ρ γ := by
  intro ρ γ h
  obtain ⟨ha, hg, hr, hf, hm, hc, hl⟩ := h
  have ha : a = [ρ 0, ρ 1, ρ 2, ρ 3, ρ 4, ρ 5, ρ 6, ρ 7, ρ 8, ρ 9, ρ 10, ρ 11, ρ 12, ρ 13, ρ 14, ρ 15, ρ 16, ρ 17, ρ 18, ρ 19, ρ 20, ρ 21, ρ 22, ρ 23, ρ 24, ρ 25, ρ 26, ρ 27, ρ 28, ρ 29, ρ 30, ρ 31, ρ 32, ρ 33, ρ 34, ρ 35, ρ 36, ρ 37, ρ 38, ρ 39, ρ 40, ρ 41, ρ 42, ρ 43, ρ 44, ρ 45, ρ 46, ρ 47, ρ 48, ρ 49, ρ 50, ρ 51, ρ 52, ρ 53, ρ 54] := ha
  subst ha
  subst hg
  obtain ⟨-, -, -, -, -, -, -, -, -, -, -, -, -, r13, -, -, -, -, -, r19, -⟩ := hr
  have r13 : (3 : Int) ≤ ρ 13 ∧ ρ 13 ≤ 8 := r13
  have r19 : (1 : Int) ≤ ρ 19 ∧ ρ 19 ≤ 1 := r19
  obtain ⟨w_0, w_1⟩ : (¬ (2 ≥ ρ 13)) ∧ (¬ (ρ 19 ≠ 1)) := ⟨by omega, by omega⟩
  obtain ⟨-, -, -, -, m4, -, -, -, -, -, -, -, -, m13, -, -, -, -, -, m19, -⟩ := hm
  have m4 : γ 0 6 0 7 = ρ 4 := m4
  have m13 : γ 0 9 (ρ 4) 2 = ρ 13 := m13
  have m19 : γ 0 10 (9 * ρ 4 + 3) 4 = ρ 19 := m19
  obtain ⟨l0, l1, -⟩ := hl
  have l0 : sn132 [ρ 4, 2] (γ 0) 0 (9 * ρ 4 + 3) (γ 1) := hS132 _ _ _ _ _ l0
  have l1 : sn256 [ρ 0, ρ 1, ρ 2, ρ 3, ρ 4, ρ 5, ρ 6, ρ 7, ρ 8, ρ 9, ρ 10, ρ 11, ρ 12, ρ 13, ρ 14, ρ 15, ρ 16, ρ 17, ρ 18, ρ 20, ρ 21, ρ 22, ρ 23, ρ 25, ρ 26, ρ 27, ρ 28, ρ 29, ρ 30, ρ 31, ρ 32, ρ 33, ρ 34, ρ 35, ρ 36, ρ 37, ρ 38, ρ 39, ρ 40, ρ 41, ρ 42, ρ 43, ρ 44, ρ 45, ρ 46, ρ 47, ρ 48, ρ 49, ρ 50, ρ 51, ρ 52, ρ 53, ρ 54] (γ 1) 1 0 (γ 2) := hS256 _ _ _ _ _ l1
  show sn257 [ρ 0, ρ 1, ρ 2, ρ 3, ρ 4, ρ 5, ρ 6, ρ 7, ρ 8, ρ 9, ρ 10, ρ 11, ρ 12, ρ 13, ρ 14, ρ 15, ρ 16, ρ 17, ρ 18, ρ 19, ρ 20, ρ 21, ρ 22, ρ 23, ρ 24, ρ 25, ρ 26, ρ 27, ρ 28, ρ 29, ρ 30, ρ 31, ρ 32, ρ 33, ρ 34, ρ 35, ρ 36, ρ 37, ρ 38, ρ 39, ρ 40, ρ 41, ρ 42, ρ 43, ρ 44, ρ 45, ρ 46, ρ 47, ρ 48, ρ 49, ρ 50, ρ 51, ρ 52, ρ 53, ρ 54] (γ 0) 1 0 (γ 2)
  refine Eq.symm ?_
  show fn257 [] (γ 0) = _
  unfold fn257
  refine (zLet_eq m4).trans ?_
  refine (zLet_eq m13).trans ?_
  refine (zLet_eq m19).trans ?_
  refine (if_neg w_0).trans ?_
  refine (zLet_eq (show fn132 [ρ 4, 2] (γ 0) = (0, 9 * ρ 4 + 3, γ 1) from l0.symm)).trans ?_
  refine (zLet_eq (show _ = γ 1 from rfl)).trans ?_
  refine (if_neg w_1).trans ?_
  refine (zLet_eq (show fn256 [] (γ 1) = (1, 0, γ 2) from l1.symm)).trans ?_
  refine (zLet_eq (show _ = γ 2 from rfl)).trans ?_
  refine (if_neg (show ¬ (1 : Nat) = 0 by decide)).trans ?_
  refine (if_pos (show (1 : Nat) = 1 by decide)).trans ?_
  rfl
theorem vn257_20 {S : Nat → zSpc} (hS132 : ∀ x g o v gz, S 132 x g o v gz → sn132 x g o v gz) (hS228 : ∀ x g o v gz, S 228 x g o v gz → sn228 x g o v gz) (hS229 : ∀ x g o v gz, S 229 x g o v gz → sn229 x g o v gz) (hS230 : ∀ x g o v gz, S 230 x g o v gz → sn230 x g o v gz) (hS231 : ∀ x g o v gz, S 231 x g o v gz → sn231 x g o v gz) (hS244 : ∀ x g o v gz, S 244 x g o v gz → sn244 x g o v gz) (hS255 : ∀ x g o v gz, S 255 x g o v gz → sn255 x g o v gz) (hS256 : ∀ x g o v gz, S 256 x g o v gz → sn256 x g o v gz) {a : List Int} {g : rHp} : ∀ (ρ : Nat → Int) (γ : Nat → rHp), zO 55 S a g q257_20 ρ γ → zGl (fun _ _ _ => True) (sn257 a g) q257_20 ρ γ := by
  intro ρ γ h
  obtain ⟨ha, hg, hr, hf, hm, hc, hl⟩ := h
  have ha : a = [ρ 0, ρ 1, ρ 2, ρ 3, ρ 4, ρ 5, ρ 6, ρ 7, ρ 8, ρ 9, ρ 10, ρ 11, ρ 12, ρ 13, ρ 14, ρ 15, ρ 16, ρ 17, ρ 18, ρ 19, ρ 20, ρ 21, ρ 22, ρ 23, ρ 24, ρ 25, ρ 26, ρ 27, ρ 28, ρ 29, ρ 30, ρ 31, ρ 32, ρ 33, ρ 34, ρ 35, ρ 36, ρ 37, ρ 38, ρ 39, ρ 40, ρ 41, ρ 42, ρ 43, ρ 44, ρ 45, ρ 46, ρ 47, ρ 48, ρ 49, ρ 50, ρ 51, ρ 52, ρ 53, ρ 54] := ha
  subst ha
  subst hg
  obtain ⟨-, -, -, -, -, -, -, -, -, -, -, -, -, r13, -, -, -, -, -, r19, -⟩ := hr
  have r13 : (3 : Int) ≤ ρ 13 ∧ ρ 13 ≤ 8 := r13
  have r19 : (1 : Int) ≤ ρ 19 ∧ ρ 19 ≤ 1 := r19
  obtain ⟨w_0, w_1⟩ : (¬ (2 ≥ ρ 13)) ∧ (¬ (ρ 19 ≠ 1)) := ⟨by omega, by omega⟩
  obtain ⟨-, -, -, -, m4, -, -, -, -, -, -, -, -, m13, -, -, -, -, -, m19, -⟩ := hm
  have m4 : γ 0 6 0 7 = ρ 4 := m4
  have m13 : γ 0 9 (ρ 4) 2 = ρ 13 := m13
  have m19 : γ 0 10 (9 * ρ 4 + 3) 4 = ρ 19 := m19
  obtain ⟨l0, l1, -⟩ := hl
  have l0 : sn132 [ρ 4, 2] (γ 0) 0 (9 * ρ 4 + 3) (γ 1) := hS132 _ _ _ _ _ l0
  have l1 : sn256 [ρ 0, ρ 1, ρ 2, ρ 3, ρ 4, ρ 5, ρ 6, ρ 7, ρ 8, ρ 9, ρ 10, ρ 11, ρ 12, ρ 13, ρ 14, ρ 15, ρ 16, ρ 17, ρ 18, ρ 20, ρ 21, ρ 22, ρ 23, ρ 25, ρ 26, ρ 27, ρ 28, ρ 29, ρ 30, ρ 31, ρ 32, ρ 33, ρ 34, ρ 35, ρ 36, ρ 37, ρ 38, ρ 39, ρ 40, ρ 41, ρ 42, ρ 43, ρ 44, ρ 45, ρ 46, ρ 47, ρ 48, ρ 49, ρ 50, ρ 51, ρ 52, ρ 53, ρ 54] (γ 1) 4 0 (γ 2) := hS256 _ _ _ _ _ l1
  show sn257 [ρ 0, ρ 1, ρ 2, ρ 3, ρ 4, ρ 5, ρ 6, ρ 7, ρ 8, ρ 9, ρ 10, ρ 11, ρ 12, ρ 13, ρ 14, ρ 15, ρ 16, ρ 17, ρ 18, ρ 19, ρ 20, ρ 21, ρ 22, ρ 23, ρ 24, ρ 25, ρ 26, ρ 27, ρ 28, ρ 29, ρ 30, ρ 31, ρ 32, ρ 33, ρ 34, ρ 35, ρ 36, ρ 37, ρ 38, ρ 39, ρ 40, ρ 41, ρ 42, ρ 43, ρ 44, ρ 45, ρ 46, ρ 47, ρ 48, ρ 49, ρ 50, ρ 51, ρ 52, ρ 53, ρ 54] (γ 0) 4 0 (γ 2)
  refine Eq.symm ?_
  show fn257 [] (γ 0) = _
  unfold fn257
  refine (zLet_eq m4).trans ?_
  refine (zLet_eq m13).trans ?_
  refine (zLet_eq m19).trans ?_
  refine (if_neg w_0).trans ?_
  refine (zLet_eq (show fn132 [ρ 4, 2] (γ 0) = (0, 9 * ρ 4 + 3, γ 1) from l0.symm)).trans ?_
  refine (zLet_eq (show _ = γ 1 from rfl)).trans ?_
  refine (if_neg w_1).trans ?_
  refine (zLet_eq (show fn256 [] (γ 1) = (4, 0, γ 2) from l1.symm)).trans ?_
  refine (zLet_eq (show _ = γ 2 from rfl)).trans ?_
  refine (if_neg (show ¬ (4 : Nat) = 0 by decide)).trans ?_
  refine (if_neg (show ¬ (4 : Nat) = 1 by decide)).trans ?_
  rfl
theorem yn257 {S : Nat → zSpc} (hS132 : ∀ x g o v gz, S 132 x g o v gz → sn132 x g o v gz) (hS228 : ∀ x g o v gz, S 228 x g o v gz → sn228 x g o v gz) (hS229 : ∀ x g o v gz, S 229 x g o v gz → sn229 x g o v gz) (hS230 : ∀ x g o v gz, S 230 x g o v gz → sn230 x g o v gz) (hS231 : ∀ x g o v gz, S 231 x g o v gz → sn231 x g o v gz) (hS244 : ∀ x g o v gz, S 244 x g o v gz → sn244 x g o v gz) (hS255 : ∀ x g o v gz, S 255 x g o v gz → sn255 x g o v gz) (hS256 : ∀ x g o v gz, S 256 x g o v gz → sn256 x g o v gz) : ∀ x g o v gz, zSem uW uT w257_.2.2.2.1 w257_.2.2.1.1.length S q257 (fun i => q257a.getD i []) (zNA a257_) x g o v gz → sn257 x g o v gz := by
  intro a g o v gz h
  exact zSem_all (l0 := q257) (las := q257a) (S := S) (J := (fun _ _ _ => True)) (P := sn257 a g) (fun _ => (show zAll _ [q257_0, q257_1, q257_2, q257_3, q257_4, q257_5, q257_6, q257_7, q257_8, q257_9, q257_10, q257_11, q257_12, q257_13, q257_14, q257_15, q257_16, q257_17, q257_18, q257_19, q257_20] from (zAll_c (vn257_0 hS132 hS228 hS229 hS230 hS231 hS244 hS255 hS256) (zAll_c (vn257_1 hS132 hS228 hS229 hS230 hS231 hS244 hS255 hS256) (zAll_c (vn257_2 hS132 hS228 hS229 hS230 hS231 hS244 hS255 hS256) (zAll_c (vn257_3 hS132 hS228 hS229 hS230 hS231 hS244 hS255 hS256) (zAll_c (vn257_4 hS132 hS228 hS229 hS230 hS231 hS244 hS255 hS256) (zAll_c (vn257_5 hS132 hS228 hS229 hS230 hS231 hS244 hS255 hS256) (zAll_c (vn257_6 hS132 hS228 hS229 hS230 hS231 hS244 hS255 hS256) (zAll_c (vn257_7 hS132 hS228 hS229 hS230 hS231 hS244 hS255 hS256) (zAll_c (vn257_8 hS132 hS228 hS229 hS230 hS231 hS244 hS255 hS256) (zAll_c (vn257_9 hS132 hS228 hS229 hS230 hS231 hS244 hS255 hS256) (zAll_c (vn257_10 hS132 hS228 hS229 hS230 hS231 hS244 hS255 hS256) (zAll_c (vn257_11 hS132 hS228 hS229 hS230 hS231 hS244 hS255 hS256) (zAll_c (vn257_12 hS132 hS228 hS229 hS230 hS231 hS244 hS255 hS256) (zAll_c (vn257_13 hS132 hS228 hS229 hS230 hS231 hS244 hS255 hS256) (zAll_c (vn257_14 hS132 hS228 hS229 hS230 hS231 hS244 hS255 hS256) (zAll_c (vn257_15 hS132 hS228 hS229 hS230 hS231 hS244 hS255 hS256) (zAll_c (vn257_16 hS132 hS228 hS229 hS230 hS231 hS244 hS255 hS256) (zAll_c (vn257_17 hS132 hS228 hS229 hS230 hS231 hS244 hS255 hS256) (zAll_c (vn257_18 hS132 hS228 hS229 hS230 hS231 hS244 hS255 hS256) (zAll_c (vn257_19 hS132 hS228 hS229 hS230 hS231 hS244 hS255 hS256) (zAll_c (vn257_20 hS132 hS228 hS229 hS230 hS231 hS244 hS255 hS256) zAll_n))))))))))))))))))))))) (fun _ => (show zAllI _ 0 [] from trivial)) h
