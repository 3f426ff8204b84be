/-! ===== the runs are the functions ===== -/
theorem vn250_0 {S : Nat → zSpc} (hS225 : ∀ x g o v gz, S 225 x g o v gz → sn225 x g o v gz) (hS226 : ∀ x g o v gz, S 226 x g o v gz → sn226 x g o v gz) (hS227 : ∀ x g o v gz, S 227 x g o v gz → sn227 x g o v gz) (hS232 : ∀ x g o v gz, S 232 x g o v gz → sn232 x g o v gz) (hS249 : ∀ x g o v gz, S 249 x g o v gz → sn249 x g o v gz) {a : List Int} {g : rHp} : ∀ (ρ : Nat → Int) (γ : Nat → rHp), zO 35 S a g q250_0 ρ γ → zGl (fun i vs g1 => jn250 a g i vs g1) (sn250 a g) q250_0 ρ γ := by
  intro ρ γ h
  obtain ⟨ha, hg, hr, hf, hm, hc, hl⟩ := h
  have ha : a = [ρ 0, ρ 1, ρ 2, ρ 3, ρ 4, ρ 5, ρ 6, ρ 7, ρ 8, ρ 9, ρ 10, ρ 11, ρ 12, ρ 13, ρ 14, ρ 15, ρ 16, ρ 17, ρ 18, ρ 19, ρ 20, ρ 21, ρ 22, ρ 23, ρ 24, ρ 25, ρ 26, ρ 27, ρ 28, ρ 29, ρ 30, ρ 31, ρ 32, ρ 33, ρ 34] := ha
  subst ha
  subst hg
  obtain ⟨-, -, -, -, -, -, -, -, -, r9, -⟩ := hr
  have r9 : ((-2147483648) : Int) ≤ ρ 9 ∧ ρ 9 ≤ 1 := r9
  have w_0 : ρ 9 ≤ 1 := by omega
  obtain ⟨-, -, -, -, m4, -, -, -, -, m9, -, m11, m12, -, m14, -, -, -, -, -, -, -, m22, -⟩ := hm
  have m4 : γ 0 6 0 7 = ρ 4 := m4
  have m9 : γ 0 6 0 10 = ρ 9 := m9
  have m11 : γ 0 6 0 12 = ρ 11 := m11
  have m12 : γ 0 6 0 13 = ρ 12 := m12
  have m14 : γ 0 9 (ρ 4) 3 = ρ 14 := m14
  have m22 : γ 0 10 (9 * ρ 4 + 6) 10 = ρ 22 := m22
  obtain ⟨l0, -⟩ := hl
  have l0 : sn226 [9 * ρ 4 + 6, 0, ρ 6, ρ 20, ρ 21] (γ 0) 0 (ρ 35) (γ 1) := hS226 _ _ _ _ _ l0
  show jn250 [ρ 0, ρ 1, ρ 2, ρ 3, ρ 4, ρ 5, ρ 6, ρ 7, ρ 8, ρ 9, ρ 10, ρ 11, ρ 12, ρ 13, ρ 14, ρ 15, ρ 16, ρ 17, ρ 18, ρ 19, ρ 20, ρ 21, ρ 22, ρ 23, ρ 24, ρ 25, ρ 26, ρ 27, ρ 28, ρ 29, ρ 30, ρ 31, ρ 32, ρ 33, ρ 34] (γ 0) 0 [ρ 0, ρ 1, ρ 2, ρ 3, ρ 4, ρ 5, ρ 6, ρ 7, ρ 8, ρ 9, ρ 10, ρ 11, ρ 12, ρ 13, ρ 14, ρ 15, ρ 16, ρ 17, ρ 18, ρ 19, ρ 20, ρ 21, ρ 22, ρ 23, ρ 24, ρ 25, ρ 26, ρ 27, ρ 28, ρ 29, ρ 30, ρ 31, ρ 32, ρ 33, ρ 34, 0, ρ 35, 0, 0, ρ 0, ρ 3, ρ 6, ρ 7, ρ 12] (γ 1)
  have hD : dn250 [] (γ 0) = .inl (0, [0, ρ 35, 0, 0], γ 1) := by
    unfold dn250
    refine (zLet_eq m4).trans ?_
    refine (zLet_eq m9).trans ?_
    refine (zLet_eq m11).trans ?_
    refine (zLet_eq m12).trans ?_
    refine (zLet_eq m14).trans ?_
    refine (zLet_eq m22).trans ?_
    refine (if_pos w_0).trans ?_
    refine (zLet_eq (show fn226 [9 * ρ 4 + 6, 0] (γ 0) = (0, ρ 35, γ 1) from l0.symm)).trans ?_
    refine (zLet_eq (show _ = γ 1 from rfl)).trans ?_
    refine (zLet_eq (show _ = ρ 35 from rfl)).trans ?_
    rfl
  exact zGoo_to hD
theorem vn250_1 {S : Nat → zSpc} (hS225 : ∀ x g o v gz, S 225 x g o v gz → sn225 x g o v gz) (hS226 : ∀ x g o v gz, S 226 x g o v gz → sn226 x g o v gz) (hS227 : ∀ x g o v gz, S 227 x g o v gz → sn227 x g o v gz) (hS232 : ∀ x g o v gz, S 232 x g o v gz → sn232 x g o v gz) (hS249 : ∀ x g o v gz, S 249 x g o v gz → sn249 x g o v gz) {a : List Int} {g : rHp} : ∀ (ρ : Nat → Int) (γ : Nat → rHp), zO 35 S a g q250_1 ρ γ → zGl (fun i vs g1 => jn250 a g i vs g1) (sn250 a g) q250_1 ρ γ := by
  intro ρ γ h
  obtain ⟨ha, hg, hr, hf, hm, hc, hl⟩ := h
  have ha : a = [ρ 0, ρ 1, ρ 2, ρ 3, ρ 4, ρ 5, ρ 6, ρ 7, ρ 8, ρ 9, ρ 10, ρ 11, ρ 12, ρ 13, ρ 14, ρ 15, ρ 16, ρ 17, ρ 18, ρ 19, ρ 20, ρ 21, ρ 22, ρ 23, ρ 24, ρ 25, ρ 26, ρ 27, ρ 28, ρ 29, ρ 30, ρ 31, ρ 32, ρ 33, ρ 34] := ha
  subst ha
  subst hg
  obtain ⟨-, -, -, -, -, -, -, -, -, r9, -, -, r12, -⟩ := hr
  have r9 : (2 : Int) ≤ ρ 9 ∧ ρ 9 ≤ 2147483647 := r9
  have r12 : ((-2147483648) : Int) ≤ ρ 12 ∧ ρ 12 ≤ 2147483647 := r12
  have w_0 : ¬ (ρ 9 ≤ 1) := by omega
  obtain ⟨-, -, -, -, m4, -, -, -, -, m9, -, m11, m12, -, m14, -, -, -, -, -, -, -, m22, -⟩ := hm
  have m4 : γ 0 6 0 7 = ρ 4 := m4
  have m9 : γ 0 6 0 10 = ρ 9 := m9
  have m11 : γ 0 6 0 12 = ρ 11 := m11
  have m12 : γ 0 6 0 13 = ρ 12 := m12
  have m14 : γ 0 9 (ρ 4) 3 = ρ 14 := m14
  have m22 : γ 0 10 (9 * ρ 4 + 6) 10 = ρ 22 := m22
  obtain ⟨l0, l1, -⟩ := hl
  have l0 : ρ 12 ≠ 0 := l0
  have l1 : sn226 [9 * ρ 4 + 6, 0, ρ 6, ρ 20, ρ 21] (γ 0) 0 (ρ 35) (γ 1) := hS226 _ _ _ _ _ l1
  have wl_0 : ρ 12 ≠ 0 := by omega
  show jn250 [ρ 0, ρ 1, ρ 2, ρ 3, ρ 4, ρ 5, ρ 6, ρ 7, ρ 8, ρ 9, ρ 10, ρ 11, ρ 12, ρ 13, ρ 14, ρ 15, ρ 16, ρ 17, ρ 18, ρ 19, ρ 20, ρ 21, ρ 22, ρ 23, ρ 24, ρ 25, ρ 26, ρ 27, ρ 28, ρ 29, ρ 30, ρ 31, ρ 32, ρ 33, ρ 34] (γ 0) 0 [ρ 0, ρ 1, ρ 2, ρ 3, ρ 4, ρ 5, ρ 6, ρ 7, ρ 8, ρ 9, ρ 10, ρ 11, ρ 12, ρ 13, ρ 14, ρ 15, ρ 16, ρ 17, ρ 18, ρ 19, ρ 20, ρ 21, ρ 22, ρ 23, ρ 24, ρ 25, ρ 26, ρ 27, ρ 28, ρ 29, ρ 30, ρ 31, ρ 32, ρ 33, ρ 34, 0, ρ 35, 0, 0, ρ 0, ρ 3, ρ 6, ρ 7, ρ 12] (γ 1)
  have hD : dn250 [] (γ 0) = .inl (0, [0, ρ 35, 0, 0], γ 1) := by
    unfold dn250
    refine (zLet_eq m4).trans ?_
    refine (zLet_eq m9).trans ?_
    refine (zLet_eq m11).trans ?_
    refine (zLet_eq m12).trans ?_
    refine (zLet_eq m14).trans ?_
    refine (zLet_eq m22).trans ?_
    refine (if_neg w_0).trans ?_
    refine (if_pos wl_0).trans ?_
    refine (zLet_eq (show fn226 [9 * ρ 4 + 6, 0] (γ 0) = (0, ρ 35, γ 1) from l1.symm)).trans ?_
    refine (zLet_eq (show _ = γ 1 from rfl)).trans ?_
    refine (zLet_eq (show _ = ρ 35 from rfl)).trans ?_
    rfl
  exact zGoo_to hD
theorem vn250_2 {S : Nat → zSpc} (hS225 : ∀ x g o v gz, S 225 x g o v gz → sn225 x g o v gz) (hS226 : ∀ x g o v gz, S 226 x g o v gz → sn226 x g o v gz) (hS227 : ∀ x g o v gz, S 227 x g o v gz → sn227 x g o v gz) (hS232 : ∀ x g o v gz, S 232 x g o v gz → sn232 x g o v gz) (hS249 : ∀ x g o v gz, S 249 x g o v gz → sn249 x g o v gz) {a : List Int} {g : rHp} : ∀ (ρ : Nat → Int) (γ : Nat → rHp), zO 35 S a g q250_2 ρ γ → zGl (fun i vs g1 => jn250 a g i vs g1) (sn250 a g) q250_2 ρ γ := by
  intro ρ γ h
  obtain ⟨ha, hg, hr, hf, hm, hc, hl⟩ := h
  have ha : a = [ρ 0, ρ 1, ρ 2, ρ 3, ρ 4, ρ 5, ρ 6, ρ 7, ρ 8, ρ 9, ρ 10, ρ 11, ρ 12, ρ 13, ρ 14, ρ 15, ρ 16, ρ 17, ρ 18, ρ 19, ρ 20, ρ 21, ρ 22, ρ 23, ρ 24, ρ 25, ρ 26, ρ 27, ρ 28, ρ 29, ρ 30, ρ 31, ρ 32, ρ 33, ρ 34] := ha
  subst ha
  subst hg
  obtain ⟨-, -, -, -, -, -, -, -, -, r9, -, -, r12, -, r14, -, -, -, -, -, -, -, r22, -⟩ := hr
  have r9 : (2 : Int) ≤ ρ 9 ∧ ρ 9 ≤ 2147483647 := r9
  have r12 : (0 : Int) ≤ ρ 12 ∧ ρ 12 ≤ 0 := r12
  have r14 : (0 : Int) ≤ ρ 14 ∧ ρ 14 ≤ 8 := r14
  have r22 : (0 : Int) ≤ ρ 22 ∧ ρ 22 ≤ 7 := r22
  obtain ⟨w_0, w_1⟩ : (¬ (ρ 9 ≤ 1)) ∧ (¬ (ρ 12 ≠ 0)) := ⟨by omega, by omega⟩
  obtain ⟨-, -, -, -, m4, -, -, -, -, m9, -, m11, m12, -, m14, -, -, -, -, -, -, -, m22, -⟩ := hm
  have m4 : γ 0 6 0 7 = ρ 4 := m4
  have m9 : γ 0 6 0 10 = ρ 9 := m9
  have m11 : γ 0 6 0 12 = ρ 11 := m11
  have m12 : γ 0 6 0 13 = ρ 12 := m12
  have m14 : γ 0 9 (ρ 4) 3 = ρ 14 := m14
  have m22 : γ 0 10 (9 * ρ 4 + 6) 10 = ρ 22 := m22
  obtain ⟨l0, l1, -⟩ := hl
  have l0 : ρ 22 ≠ ρ 14 + (-1) := l0
  have l1 : sn226 [9 * ρ 4 + 6, 0, ρ 6, ρ 20, ρ 21] (γ 0) 0 (ρ 35) (γ 1) := hS226 _ _ _ _ _ l1
  have wl_0 : ρ 22 ≠ ρ 14 + (-1) := by omega
  show jn250 [ρ 0, ρ 1, ρ 2, ρ 3, ρ 4, ρ 5, ρ 6, ρ 7, ρ 8, ρ 9, ρ 10, ρ 11, ρ 12, ρ 13, ρ 14, ρ 15, ρ 16, ρ 17, ρ 18, ρ 19, ρ 20, ρ 21, ρ 22, ρ 23, ρ 24, ρ 25, ρ 26, ρ 27, ρ 28, ρ 29, ρ 30, ρ 31, ρ 32, ρ 33, ρ 34] (γ 0) 0 [ρ 0, ρ 1, ρ 2, ρ 3, ρ 4, ρ 5, ρ 6, ρ 7, ρ 8, ρ 9, ρ 10, ρ 11, ρ 12, ρ 13, ρ 14, ρ 15, ρ 16, ρ 17, ρ 18, ρ 19, ρ 20, ρ 21, ρ 22, ρ 23, ρ 24, ρ 25, ρ 26, ρ 27, ρ 28, ρ 29, ρ 30, ρ 31, ρ 32, ρ 33, ρ 34, 0, ρ 35, 0, 0, ρ 0, ρ 3, ρ 6, ρ 7, ρ 12] (γ 1)
  have hD : dn250 [] (γ 0) = .inl (0, [0, ρ 35, 0, 0], γ 1) := by
    unfold dn250
    refine (zLet_eq m4).trans ?_
    refine (zLet_eq m9).trans ?_
    refine (zLet_eq m11).trans ?_
    refine (zLet_eq m12).trans ?_
    refine (zLet_eq m14).trans ?_
    refine (zLet_eq m22).trans ?_
    refine (if_neg w_0).trans ?_
    refine (if_neg w_1).trans ?_
    refine (if_pos wl_0).trans ?_
    refine (zLet_eq (show fn226 [9 * ρ 4 + 6, 0] (γ 0) = (0, ρ 35, γ 1) from l1.symm)).trans ?_
    refine (zLet_eq (show _ = γ 1 from rfl)).trans ?_
    refine (zLet_eq (show _ = ρ 35 from rfl)).trans ?_
    rfl
  exact zGoo_to hD
theorem vn250_3 {S : Nat → zSpc} (hS225 : ∀ x g o v gz, S 225 x g o v gz → sn225 x g o v gz) (hS226 : ∀ x g o v gz, S 226 x g o v gz → sn226 x g o v gz) (hS227 : ∀ x g o v gz, S 227 x g o v gz → sn227 x g o v gz) (hS232 : ∀ x g o v gz, S 232 x g o v gz → sn232 x g o v gz) (hS249 : ∀ x g o v gz, S 249 x g o v gz → sn249 x g o v gz) {a : List Int} {g : rHp} : ∀ (ρ : Nat → Int) (γ : Nat → rHp), zO 35 S a g q250_3 ρ γ → zGl (fun i vs g1 => jn250 a g i vs g1) (sn250 a g) q250_3 ρ γ := by
  intro ρ γ h
  obtain ⟨ha, hg, hr, hf, hm, hc, hl⟩ := h
  have ha : a = [ρ 0, ρ 1, ρ 2, ρ 3, ρ 4, ρ 5, ρ 6, ρ 7, ρ 8, ρ 9, ρ 10, ρ 11, ρ 12, ρ 13, ρ 14, ρ 15, ρ 16, ρ 17, ρ 18, ρ 19, ρ 20, ρ 21, ρ 22, ρ 23, ρ 24, ρ 25, ρ 26, ρ 27, ρ 28, ρ 29, ρ 30, ρ 31, ρ 32, ρ 33, ρ 34] := ha
  subst ha
  subst hg
  obtain ⟨-, -, -, -, -, -, -, -, -, r9, -, -, r12, -⟩ := hr
  have r9 : (2 : Int) ≤ ρ 9 ∧ ρ 9 ≤ 2147483647 := r9
  have r12 : (0 : Int) ≤ ρ 12 ∧ ρ 12 ≤ 0 := r12
  obtain ⟨f0, f1, -⟩ := hf
  have f0 : (0 : Int) ≤ -ρ 22 + ρ 14 + (-1) := f0
  have f1 : (0 : Int) ≤ ρ 22 + -ρ 14 + 1 := f1
  obtain ⟨w_0, w_1, w_2⟩ : (¬ (ρ 9 ≤ 1)) ∧ (¬ (ρ 12 ≠ 0)) ∧ (¬ (ρ 22 ≠ ρ 14 + (-1))) := ⟨by omega, by omega, by omega⟩
  obtain ⟨-, -, -, -, m4, -, -, -, -, m9, -, m11, m12, -, m14, -, -, -, -, -, -, -, m22, -⟩ := hm
  have m4 : γ 0 6 0 7 = ρ 4 := m4
  have m9 : γ 0 6 0 10 = ρ 9 := m9
  have m11 : γ 0 6 0 12 = ρ 11 := m11
  have m12 : γ 0 6 0 13 = ρ 12 := m12
  have m14 : γ 0 9 (ρ 4) 3 = ρ 14 := m14
  have m22 : γ 0 10 (9 * ρ 4 + 6) 10 = ρ 22 := m22
  obtain ⟨l0, -⟩ := hl
  have l0 : sn226 [9 * ρ 4 + 6, ρ 11, ρ 6, ρ 20, ρ 21] (γ 0) 0 (ρ 35) (γ 1) := hS226 _ _ _ _ _ l0
  show jn250 [ρ 0, ρ 1, ρ 2, ρ 3, ρ 4, ρ 5, ρ 6, ρ 7, ρ 8, ρ 9, ρ 10, ρ 11, ρ 12, ρ 13, ρ 14, ρ 15, ρ 16, ρ 17, ρ 18, ρ 19, ρ 20, ρ 21, ρ 22, ρ 23, ρ 24, ρ 25, ρ 26, ρ 27, ρ 28, ρ 29, ρ 30, ρ 31, ρ 32, ρ 33, ρ 34] (γ 0) 0 [ρ 0, ρ 1, ρ 2, ρ 3, ρ 4, ρ 5, ρ 6, ρ 7, ρ 8, ρ 9, ρ 10, ρ 11, ρ 12, ρ 13, ρ 14, ρ 15, ρ 16, ρ 17, ρ 18, ρ 19, ρ 20, ρ 21, ρ 22, ρ 23, ρ 24, ρ 25, ρ 26, ρ 27, ρ 28, ρ 29, ρ 30, ρ 31, ρ 32, ρ 33, ρ 34, 0, ρ 35, ρ 11, 1, ρ 0, ρ 3, ρ 6, ρ 7, ρ 12] (γ 1)
  have hD : dn250 [] (γ 0) = .inl (0, [0, ρ 35, ρ 11, 1], γ 1) := by
    unfold dn250
    refine (zLet_eq m4).trans ?_
    refine (zLet_eq m9).trans ?_
    refine (zLet_eq m11).trans ?_
    refine (zLet_eq m12).trans ?_
    refine (zLet_eq m14).trans ?_
    refine (zLet_eq m22).trans ?_
    refine (if_neg w_0).trans ?_
    refine (if_neg w_1).trans ?_
    refine (if_neg w_2).trans ?_
    refine (zLet_eq (show fn226 [9 * ρ 4 + 6, ρ 11] (γ 0) = (0, ρ 35, γ 1) from l0.symm)).trans ?_
    refine (zLet_eq (show _ = γ 1 from rfl)).trans ?_
    refine (zLet_eq (show _ = ρ 35 from rfl)).trans ?_
    rfl
  exact zGoo_to hD
theorem vn250a0_0 {S : Nat → zSpc} (hS225 : ∀ x g o v gz, S 225 x g o v gz → sn225 x g o v gz) (hS226 : ∀ x g o v gz, S 226 x g o v gz → sn226 x g o v gz) (hS227 : ∀ x g o v gz, S 227 x g o v gz → sn227 x g o v gz) (hS232 : ∀ x g o v gz, S 232 x g o v gz → sn232 x g o v gz) (hS249 : ∀ x g o v gz, S 249 x g o v gz → sn249 x g o v gz) {a : List Int} {g : rHp} : ∀ (ρ : Nat → Int) (γ : Nat → rHp), jn250 a g 0 (zAg (zNA a250_ 0) ρ) (γ 1) → zO 35 S a g q250a0_0 ρ γ → zGl (fun i vs g1 => jn250 a g i vs g1) (sn250 a g) q250a0_0 ρ γ := by
  intro ρ γ hJ h
  obtain ⟨ha, hg, hr, hf, hm, hc, hl⟩ := h
  have ha : a = [ρ 0, ρ 1, ρ 2, ρ 3, ρ 4, ρ 5, ρ 6, ρ 7, ρ 8, ρ 9, ρ 10, ρ 11, ρ 12, ρ 13, ρ 14, ρ 15, ρ 16, ρ 17, ρ 18, ρ 19, ρ 20, ρ 21, ρ 22, ρ 23, ρ 24, ρ 25, ρ 26, ρ 27, ρ 28, ρ 29, ρ 30, ρ 31, ρ 32, ρ 33, ρ 34] := ha
  subst ha
  subst hg
  have hJ : jn250 [ρ 0, ρ 1, ρ 2, ρ 3, ρ 4, ρ 5, ρ 6, ρ 7, ρ 8, ρ 9, ρ 10, ρ 11, ρ 12, ρ 13, ρ 14, ρ 15, ρ 16, ρ 17, ρ 18, ρ 19, ρ 20, ρ 21, ρ 22, ρ 23, ρ 24, ρ 25, ρ 26, ρ 27, ρ 28, ρ 29, ρ 30, ρ 31, ρ 32, ρ 33, ρ 34] (γ 0) 0 [ρ 0, ρ 1, ρ 2, ρ 3, ρ 4, ρ 5, ρ 6, ρ 7, ρ 8, ρ 9, ρ 10, ρ 11, ρ 12, ρ 13, ρ 14, ρ 15, ρ 16, ρ 17, ρ 18, ρ 19, ρ 20, ρ 21, ρ 22, ρ 23, ρ 24, ρ 25, ρ 26, ρ 27, ρ 28, ρ 29, ρ 30, ρ 31, ρ 32, ρ 33, ρ 34, ρ 35, ρ 36, ρ 37, ρ 38, ρ 39, ρ 40, ρ 41, ρ 42, ρ 43] (γ 1) := hJ
  obtain ⟨-, -, -, -, -, -, -, -, -, -, -, -, -, -, -, -, -, -, -, -, -, -, -, -, -, -, -, -, -, -, -, -, -, -, -, -, r36, -⟩ := hr
  have r36 : ((-1) : Int) ≤ ρ 36 ∧ ρ 36 ≤ (-1) := r36
  have w_0 : ρ 36 < 0 := by omega
  obtain ⟨-, -, -, -, m4, -, -, -, -, -, m10, m11, -, -, -, -, -, -, -, -, -, -, -, -, -, -, -, -, -, -, -, -, -, -, -, -, -, -, -, m39, -⟩ := hm
  have m4 : γ 0 6 0 7 = ρ 4 := m4
  have m10 : γ 0 6 0 11 = ρ 10 := m10
  have m11 : γ 0 6 0 12 = ρ 11 := m11
  have m39 : γ 1 6 0 13 = ρ 43 := m39
  show sn250 [ρ 0, ρ 1, ρ 2, ρ 3, ρ 4, ρ 5, ρ 6, ρ 7, ρ 8, ρ 9, ρ 10, ρ 11, ρ 12, ρ 13, ρ 14, ρ 15, ρ 16, ρ 17, ρ 18, ρ 19, ρ 20, ρ 21, ρ 22, ρ 23, ρ 24, ρ 25, ρ 26, ρ 27, ρ 28, ρ 29, ρ 30, ρ 31, ρ 32, ρ 33, ρ 34] (γ 0) 0 0 (γ 1)
  have hD : en250 (γ 0) (0, [ρ 35, ρ 36, ρ 37, ρ 38], γ 1) = .inr (0, 0, γ 1) := by
    unfold en250
    refine (if_pos (show (0 : Nat) = 0 by decide)).trans ?_
    refine (zLet_eq (show _ = γ 1 from rfl)).trans ?_
    refine (zLet_eq (show _ = ρ 35 from rfl)).trans ?_
    refine (zLet_eq (show _ = ρ 36 from rfl)).trans ?_
    refine (zLet_eq (show _ = ρ 37 from rfl)).trans ?_
    refine (zLet_eq (show _ = ρ 38 from rfl)).trans ?_
    refine (zLet_eq m4).trans ?_
    refine (zLet_eq m10).trans ?_
    refine (zLet_eq m11).trans ?_
    refine (zLet_eq m39).trans ?_
    refine (if_pos w_0).trans ?_
    rfl
  exact zGoo_aend hJ hD
theorem vn250a0_1 {S : Nat → zSpc} (hS225 : ∀ x g o v gz, S 225 x g o v gz → sn225 x g o v gz) (hS226 : ∀ x g o v gz, S 226 x g o v gz → sn226 x g o v gz) (hS227 : ∀ x g o v gz, S 227 x g o v gz → sn227 x g o v gz) (hS232 : ∀ x g o v gz, S 232 x g o v gz → sn232 x g o v gz) (hS249 : ∀ x g o v gz, S 249 x g o v gz → sn249 x g o v gz) {a : List Int} {g : rHp} : ∀ (ρ : Nat → Int) (γ : Nat → rHp), jn250 a g 0 (zAg (zNA a250_ 0) ρ) (γ 1) → zO 35 S a g q250a0_1 ρ γ → zGl (fun i vs g1 => jn250 a g i vs g1) (sn250 a g) q250a0_1 ρ γ := by
  intro ρ γ hJ h
  obtain ⟨ha, hg, hr, hf, hm, hc, hl⟩ := h
  have ha : a = [ρ 0, ρ 1, ρ 2, ρ 3, ρ 4, ρ 5, ρ 6, ρ 7, ρ 8, ρ 9, ρ 10, ρ 11, ρ 12, ρ 13, ρ 14, ρ 15, ρ 16, ρ 17, ρ 18, ρ 19, ρ 20, ρ 21, ρ 22, ρ 23, ρ 24, ρ 25, ρ 26, ρ 27, ρ 28, ρ 29, ρ 30, ρ 31, ρ 32, ρ 33, ρ 34] := ha
  subst ha
  subst hg
  have hJ : jn250 [ρ 0, ρ 1, ρ 2, ρ 3, ρ 4, ρ 5, ρ 6, ρ 7, ρ 8, ρ 9, ρ 10, ρ 11, ρ 12, ρ 13, ρ 14, ρ 15, ρ 16, ρ 17, ρ 18, ρ 19, ρ 20, ρ 21, ρ 22, ρ 23, ρ 24, ρ 25, ρ 26, ρ 27, ρ 28, ρ 29, ρ 30, ρ 31, ρ 32, ρ 33, ρ 34] (γ 0) 0 [ρ 0, ρ 1, ρ 2, ρ 3, ρ 4, ρ 5, ρ 6, ρ 7, ρ 8, ρ 9, ρ 10, ρ 11, ρ 12, ρ 13, ρ 14, ρ 15, ρ 16, ρ 17, ρ 18, ρ 19, ρ 20, ρ 21, ρ 22, ρ 23, ρ 24, ρ 25, ρ 26, ρ 27, ρ 28, ρ 29, ρ 30, ρ 31, ρ 32, ρ 33, ρ 34, ρ 35, ρ 36, ρ 37, ρ 38, ρ 39, ρ 40, ρ 41, ρ 42, ρ 43] (γ 1) := hJ
  obtain ⟨-, -, -, -, -, -, -, -, -, -, -, -, -, -, -, -, -, -, -, -, -, -, -, -, -, -, -, -, -, -, -, -, -, -, -, -, r36, -⟩ := hr
  have r36 : (0 : Int) ≤ ρ 36 ∧ ρ 36 ≤ 2000 := r36
  obtain ⟨f0, -⟩ := hf
  have f0 : (0 : Int) ≤ ρ 36 + -ρ 10 := f0
  obtain ⟨w_0, w_1⟩ : (¬ (ρ 36 < 0)) ∧ (ρ 36 ≥ ρ 10) := ⟨by omega, by omega⟩
  obtain ⟨-, -, -, -, m4, -, -, -, -, -, m10, m11, -, -, -, -, -, -, -, -, -, -, -, -, -, -, -, -, -, -, -, -, -, -, -, -, -, -, -, m39, -⟩ := hm
  have m4 : γ 0 6 0 7 = ρ 4 := m4
  have m10 : γ 0 6 0 11 = ρ 10 := m10
  have m11 : γ 0 6 0 12 = ρ 11 := m11
  have m39 : γ 1 6 0 13 = ρ 43 := m39
  show sn250 [ρ 0, ρ 1, ρ 2, ρ 3, ρ 4, ρ 5, ρ 6, ρ 7, ρ 8, ρ 9, ρ 10, ρ 11, ρ 12, ρ 13, ρ 14, ρ 15, ρ 16, ρ 17, ρ 18, ρ 19, ρ 20, ρ 21, ρ 22, ρ 23, ρ 24, ρ 25, ρ 26, ρ 27, ρ 28, ρ 29, ρ 30, ρ 31, ρ 32, ρ 33, ρ 34] (γ 0) 0 0 (γ 1)
  have hD : en250 (γ 0) (0, [ρ 35, ρ 36, ρ 37, ρ 38], γ 1) = .inr (0, 0, γ 1) := by
    unfold en250
    refine (if_pos (show (0 : Nat) = 0 by decide)).trans ?_
    refine (zLet_eq (show _ = γ 1 from rfl)).trans ?_
    refine (zLet_eq (show _ = ρ 35 from rfl)).trans ?_
    refine (zLet_eq (show _ = ρ 36 from rfl)).trans ?_
    refine (zLet_eq (show _ = ρ 37 from rfl)).trans ?_
    refine (zLet_eq (show _ = ρ 38 from rfl)).trans ?_
    refine (zLet_eq m4).trans ?_
    refine (zLet_eq m10).trans ?_
    refine (zLet_eq m11).trans ?_
    refine (zLet_eq m39).trans ?_
    refine (if_neg w_0).trans ?_
    refine (if_pos w_1).trans ?_
    rfl
  exact zGoo_aend hJ hD
theorem vn250a0_2 {S : Nat → zSpc} (hS225 : ∀ x g o v gz, S 225 x g o v gz → sn225 x g o v gz) (hS226 : ∀ x g o v gz, S 226 x g o v gz → sn226 x g o v gz) (hS227 : ∀ x g o v gz, S 227 x g o v gz → sn227 x g o v gz) (hS232 : ∀ x g o v gz, S 232 x g o v gz → sn232 x g o v gz) (hS249 : ∀ x g o v gz, S 249 x g o v gz → sn249 x g o v gz) {a : List Int} {g : rHp} : ∀ (ρ : Nat → Int) (γ : Nat → rHp), jn250 a g 0 (zAg (zNA a250_ 0) ρ) (γ 1) → zO 35 S a g q250a0_2 ρ γ → zGl (fun i vs g1 => jn250 a g i vs g1) (sn250 a g) q250a0_2 ρ γ := by
  intro ρ γ hJ h
  obtain ⟨ha, hg, hr, hf, hm, hc, hl⟩ := h
  have ha : a = [ρ 0, ρ 1, ρ 2, ρ 3, ρ 4, ρ 5, ρ 6, ρ 7, ρ 8, ρ 9, ρ 10, ρ 11, ρ 12, ρ 13, ρ 14, ρ 15, ρ 16, ρ 17, ρ 18, ρ 19, ρ 20, ρ 21, ρ 22, ρ 23, ρ 24, ρ 25, ρ 26, ρ 27, ρ 28, ρ 29, ρ 30, ρ 31, ρ 32, ρ 33, ρ 34] := ha
  subst ha
  subst hg
  have hJ : jn250 [ρ 0, ρ 1, ρ 2, ρ 3, ρ 4, ρ 5, ρ 6, ρ 7, ρ 8, ρ 9, ρ 10, ρ 11, ρ 12, ρ 13, ρ 14, ρ 15, ρ 16, ρ 17, ρ 18, ρ 19, ρ 20, ρ 21, ρ 22, ρ 23, ρ 24, ρ 25, ρ 26, ρ 27, ρ 28, ρ 29, ρ 30, ρ 31, ρ 32, ρ 33, ρ 34] (γ 0) 0 [ρ 0, ρ 1, ρ 2, ρ 3, ρ 4, ρ 5, ρ 6, ρ 7, ρ 8, ρ 9, ρ 10, ρ 11, ρ 12, ρ 13, ρ 14, ρ 15, ρ 16, ρ 17, ρ 18, ρ 19, ρ 20, ρ 21, ρ 22, ρ 23, ρ 24, ρ 25, ρ 26, ρ 27, ρ 28, ρ 29, ρ 30, ρ 31, ρ 32, ρ 33, ρ 34, ρ 35, ρ 36, ρ 37, ρ 38, ρ 39, ρ 40, ρ 41, ρ 42, ρ 43] (γ 1) := hJ
  obtain ⟨-, -, -, -, -, -, -, -, -, -, -, -, -, -, -, -, -, -, -, -, -, -, -, -, -, -, -, -, -, -, -, -, -, -, -, r35, r36, -⟩ := hr
  have r35 : (2000 : Int) ≤ ρ 35 ∧ ρ 35 ≤ 2000 := r35
  have r36 : (0 : Int) ≤ ρ 36 ∧ ρ 36 ≤ 2000 := r36
  obtain ⟨f0, -⟩ := hf
  have f0 : (0 : Int) ≤ -ρ 36 + ρ 10 + (-1) := f0
  obtain ⟨w_0, w_1, w_2⟩ : (¬ (ρ 36 < 0)) ∧ (¬ (ρ 36 ≥ ρ 10)) ∧ (ρ 35 ≥ 2000) := ⟨by omega, by omega, by omega⟩
  obtain ⟨-, -, -, -, m4, -, -, -, -, -, m10, m11, -, -, -, -, -, -, -, -, -, -, -, -, -, -, -, -, -, -, -, -, -, -, -, -, -, -, -, m39, -⟩ := hm
  have m4 : γ 0 6 0 7 = ρ 4 := m4
  have m10 : γ 0 6 0 11 = ρ 10 := m10
  have m11 : γ 0 6 0 12 = ρ 11 := m11
  have m39 : γ 1 6 0 13 = ρ 43 := m39
  show sn250 [ρ 0, ρ 1, ρ 2, ρ 3, ρ 4, ρ 5, ρ 6, ρ 7, ρ 8, ρ 9, ρ 10, ρ 11, ρ 12, ρ 13, ρ 14, ρ 15, ρ 16, ρ 17, ρ 18, ρ 19, ρ 20, ρ 21, ρ 22, ρ 23, ρ 24, ρ 25, ρ 26, ρ 27, ρ 28, ρ 29, ρ 30, ρ 31, ρ 32, ρ 33, ρ 34] (γ 0) 0 0 (γ 1)
  have hD : en250 (γ 0) (0, [ρ 35, ρ 36, ρ 37, ρ 38], γ 1) = .inr (0, 0, γ 1) := by
    unfold en250
    refine (if_pos (show (0 : Nat) = 0 by decide)).trans ?_
    refine (zLet_eq (show _ = γ 1 from rfl)).trans ?_
    refine (zLet_eq (show _ = ρ 35 from rfl)).trans ?_
    refine (zLet_eq (show _ = ρ 36 from rfl)).trans ?_
    refine (zLet_eq (show _ = ρ 37 from rfl)).trans ?_
    refine (zLet_eq (show _ = ρ 38 from rfl)).trans ?_
    refine (zLet_eq m4).trans ?_
    refine (zLet_eq m10).trans ?_
    refine (zLet_eq m11).trans ?_
    refine (zLet_eq m39).trans ?_
    refine (if_neg w_0).trans ?_
    refine (if_neg w_1).trans ?_
    refine (if_pos w_2).trans ?_
    rfl
  exact zGoo_aend hJ hD
theorem vn250a0_3 {S : Nat → zSpc} (hS225 : ∀ x g o v gz, S 225 x g o v gz → sn225 x g o v gz) (hS226 : ∀ x g o v gz, S 226 x g o v gz → sn226 x g o v gz) (hS227 : ∀ x g o v gz, S 227 x g o v gz → sn227 x g o v gz) (hS232 : ∀ x g o v gz, S 232 x g o v gz → sn232 x g o v gz) (hS249 : ∀ x g o v gz, S 249 x g o v gz → sn249 x g o v gz) {a : List Int} {g : rHp} : ∀ (ρ : Nat → Int) (γ : Nat → rHp), jn250 a g 0 (zAg (zNA a250_ 0) ρ) (γ 1) → zO 35 S a g q250a0_3 ρ γ → zGl (fun i vs g1 => jn250 a g i vs g1) (sn250 a g) q250a0_3 ρ γ := by
  intro ρ γ hJ h
  obtain ⟨ha, hg, hr, hf, hm, hc, hl⟩ := h
  have ha : a = [ρ 0, ρ 1, ρ 2, ρ 3, ρ 4, ρ 5, ρ 6, ρ 7, ρ 8, ρ 9, ρ 10, ρ 11, ρ 12, ρ 13, ρ 14, ρ 15, ρ 16, ρ 17, ρ 18, ρ 19, ρ 20, ρ 21, ρ 22, ρ 23, ρ 24, ρ 25, ρ 26, ρ 27, ρ 28, ρ 29, ρ 30, ρ 31, ρ 32, ρ 33, ρ 34] := ha
  subst ha
  subst hg
  have hJ : jn250 [ρ 0, ρ 1, ρ 2, ρ 3, ρ 4, ρ 5, ρ 6, ρ 7, ρ 8, ρ 9, ρ 10, ρ 11, ρ 12, ρ 13, ρ 14, ρ 15, ρ 16, ρ 17, ρ 18, ρ 19, ρ 20, ρ 21, ρ 22, ρ 23, ρ 24, ρ 25, ρ 26, ρ 27, ρ 28, ρ 29, ρ 30, ρ 31, ρ 32, ρ 33, ρ 34] (γ 0) 0 [ρ 0, ρ 1, ρ 2, ρ 3, ρ 4, ρ 5, ρ 6, ρ 7, ρ 8, ρ 9, ρ 10, ρ 11, ρ 12, ρ 13, ρ 14, ρ 15, ρ 16, ρ 17, ρ 18, ρ 19, ρ 20, ρ 21, ρ 22, ρ 23, ρ 24, ρ 25, ρ 26, ρ 27, ρ 28, ρ 29, ρ 30, ρ 31, ρ 32, ρ 33, ρ 34, ρ 35, ρ 36, ρ 37, ρ 38, ρ 39, ρ 40, ρ 41, ρ 42, ρ 43] (γ 1) := hJ
  obtain ⟨-, -, -, -, -, -, -, -, -, -, -, -, -, -, -, -, -, -, -, -, -, -, -, -, -, -, -, -, -, -, -, -, -, -, -, r35, r36, -⟩ := hr
  have r35 : (0 : Int) ≤ ρ 35 ∧ ρ 35 ≤ 1999 := r35
  have r36 : (0 : Int) ≤ ρ 36 ∧ ρ 36 ≤ 2000 := r36
  obtain ⟨f0, f1, -⟩ := hf
  have f0 : (0 : Int) ≤ ρ 37 + -ρ 36 + (-1) := f0
  have f1 : (0 : Int) ≤ -ρ 36 + ρ 10 + (-1) := f1
  obtain ⟨w_0, w_1, w_2, w_3⟩ : (¬ (ρ 36 < 0)) ∧ (¬ (ρ 36 ≥ ρ 10)) ∧ (¬ (ρ 35 ≥ 2000)) ∧ (ρ 36 < ρ 37) := ⟨by omega, by omega, by omega, by omega⟩
  obtain ⟨-, -, -, -, m4, -, -, -, -, -, m10, m11, -, -, -, -, -, -, -, -, -, -, -, -, -, -, -, -, -, -, -, -, -, -, -, -, -, -, -, m39, -⟩ := hm
  have m4 : γ 0 6 0 7 = ρ 4 := m4
  have m10 : γ 0 6 0 11 = ρ 10 := m10
  have m11 : γ 0 6 0 12 = ρ 11 := m11
  have m39 : γ 1 6 0 13 = ρ 43 := m39
  obtain ⟨l0, -⟩ := hl
  have l0 : sn227 [9 * ρ 4 + 6, ρ 36, ρ 21] (γ 1) 0 (ρ 44) (γ 2) := hS227 _ _ _ _ _ l0
  show jn250 [ρ 0, ρ 1, ρ 2, ρ 3, ρ 4, ρ 5, ρ 6, ρ 7, ρ 8, ρ 9, ρ 10, ρ 11, ρ 12, ρ 13, ρ 14, ρ 15, ρ 16, ρ 17, ρ 18, ρ 19, ρ 20, ρ 21, ρ 22, ρ 23, ρ 24, ρ 25, ρ 26, ρ 27, ρ 28, ρ 29, ρ 30, ρ 31, ρ 32, ρ 33, ρ 34] (γ 0) 0 [ρ 0, ρ 1, ρ 2, ρ 3, ρ 4, ρ 5, ρ 6, ρ 7, ρ 8, ρ 9, ρ 10, ρ 11, ρ 12, ρ 13, ρ 14, ρ 15, ρ 16, ρ 17, ρ 18, ρ 19, ρ 20, ρ 21, ρ 22, ρ 23, ρ 24, ρ 25, ρ 26, ρ 27, ρ 28, ρ 29, ρ 30, ρ 31, ρ 32, ρ 33, ρ 34, ρ 35 + 1, ρ 44, ρ 37, ρ 38, ρ 39, ρ 40, ρ 41, ρ 42, ρ 43] (γ 2)
  have hD : en250 (γ 0) (0, [ρ 35, ρ 36, ρ 37, ρ 38], γ 1) = .inl (0, [ρ 35 + 1, ρ 44, ρ 37, ρ 38], γ 2) := by
    unfold en250
    refine (if_pos (show (0 : Nat) = 0 by decide)).trans ?_
    refine (zLet_eq (show _ = γ 1 from rfl)).trans ?_
    refine (zLet_eq (show _ = ρ 35 from rfl)).trans ?_
    refine (zLet_eq (show _ = ρ 36 from rfl)).trans ?_
    refine (zLet_eq (show _ = ρ 37 from rfl)).trans ?_
    refine (zLet_eq (show _ = ρ 38 from rfl)).trans ?_
    refine (zLet_eq m4).trans ?_
    refine (zLet_eq m10).trans ?_
    refine (zLet_eq m11).trans ?_
    refine (zLet_eq m39).trans ?_
    refine (if_neg w_0).trans ?_
    refine (if_neg w_1).trans ?_
    refine (if_neg w_2).trans ?_
    refine (if_pos w_3).trans ?_
    refine (zLet_eq (show fn227 [9 * ρ 4 + 6, ρ 36] (γ 1) = (0, ρ 44, γ 2) from l0.symm)).trans ?_
    refine (zLet_eq (show _ = γ 2 from rfl)).trans ?_
    refine (zLet_eq (show _ = ρ 44 from rfl)).trans ?_
    rfl
  exact zGoo_ato hJ hD
theorem vn250a0_4 {S : Nat → zSpc} (hS225 : ∀ x g o v gz, S 225 x g o v gz → sn225 x g o v gz) (hS226 : ∀ x g o v gz, S 226 x g o v gz → sn226 x g o v gz) (hS227 : ∀ x g o v gz, S 227 x g o v gz → sn227 x g o v gz) (hS232 : ∀ x g o v gz, S 232 x g o v gz → sn232 x g o v gz) (hS249 : ∀ x g o v gz, S 249 x g o v gz → sn249 x g o v gz) {a : List Int} {g : rHp} : ∀ (ρ : Nat → Int) (γ : Nat → rHp), jn250 a g 0 (zAg (zNA a250_ 0) ρ) (γ 1) → zO 35 S a g q250a0_4 ρ γ → zGl (fun i vs g1 => jn250 a g i vs g1) (sn250 a g) q250a0_4 ρ γ := by
  intro ρ γ hJ h
  obtain ⟨ha, hg, hr, hf, hm, hc, hl⟩ := h
  have ha : a = [ρ 0, ρ 1, ρ 2, ρ 3, ρ 4, ρ 5, ρ 6, ρ 7, ρ 8, ρ 9, ρ 10, ρ 11, ρ 12, ρ 13, ρ 14, ρ 15, ρ 16, ρ 17, ρ 18, ρ 19, ρ 20, ρ 21, ρ 22, ρ 23, ρ 24, ρ 25, ρ 26, ρ 27, ρ 28, ρ 29, ρ 30, ρ 31, ρ 32, ρ 33, ρ 34] := ha
  subst ha
  subst hg
  have hJ : jn250 [ρ 0, ρ 1, ρ 2, ρ 3, ρ 4, ρ 5, ρ 6, ρ 7, ρ 8, ρ 9, ρ 10, ρ 11, ρ 12, ρ 13, ρ 14, ρ 15, ρ 16, ρ 17, ρ 18, ρ 19, ρ 20, ρ 21, ρ 22, ρ 23, ρ 24, ρ 25, ρ 26, ρ 27, ρ 28, ρ 29, ρ 30, ρ 31, ρ 32, ρ 33, ρ 34] (γ 0) 0 [ρ 0, ρ 1, ρ 2, ρ 3, ρ 4, ρ 5, ρ 6, ρ 7, ρ 8, ρ 9, ρ 10, ρ 11, ρ 12, ρ 13, ρ 14, ρ 15, ρ 16, ρ 17, ρ 18, ρ 19, ρ 20, ρ 21, ρ 22, ρ 23, ρ 24, ρ 25, ρ 26, ρ 27, ρ 28, ρ 29, ρ 30, ρ 31, ρ 32, ρ 33, ρ 34, ρ 35, ρ 36, ρ 37, ρ 38, ρ 39, ρ 40, ρ 41, ρ 42, ρ 43] (γ 1) := hJ
  obtain ⟨-, -, -, -, -, -, -, -, -, -, -, -, -, -, -, -, -, -, -, -, -, -, -, -, -, -, -, -, -, -, -, -, -, -, -, r35, r36, -⟩ := hr
  have r35 : (0 : Int) ≤ ρ 35 ∧ ρ 35 ≤ 1999 := r35
  have r36 : (0 : Int) ≤ ρ 36 ∧ ρ 36 ≤ 2000 := r36
  obtain ⟨f0, f1, -⟩ := hf
  have f0 : (0 : Int) ≤ -ρ 37 + ρ 36 := f0
  have f1 : (0 : Int) ≤ -ρ 36 + ρ 10 + (-1) := f1
  obtain ⟨w_0, w_1, w_2, w_3⟩ : (¬ (ρ 36 < 0)) ∧ (¬ (ρ 36 ≥ ρ 10)) ∧ (¬ (ρ 35 ≥ 2000)) ∧ (¬ (ρ 36 < ρ 37)) := ⟨by omega, by omega, by omega, by omega⟩
  obtain ⟨-, -, -, -, m4, -, -, -, -, -, m10, m11, -, -, -, -, -, -, -, -, -, -, -, -, -, -, -, -, -, -, -, -, -, -, -, -, -, -, -, m39, -⟩ := hm
  have m4 : γ 0 6 0 7 = ρ 4 := m4
  have m10 : γ 0 6 0 11 = ρ 10 := m10
  have m11 : γ 0 6 0 12 = ρ 11 := m11
  have m39 : γ 1 6 0 13 = ρ 43 := m39
  obtain ⟨l0, l1, -⟩ := hl
  have l0 : sn225 [9 * ρ 4 + 6, ρ 36, ρ 19, ρ 20] (γ 1) 0 0 (γ 2) := hS225 _ _ _ _ _ l0
  have l1 : sn227 [9 * ρ 4 + 6, ρ 36, ρ 21] (γ 2) 0 (ρ 44) (γ 3) := hS227 _ _ _ _ _ l1
  show jn250 [ρ 0, ρ 1, ρ 2, ρ 3, ρ 4, ρ 5, ρ 6, ρ 7, ρ 8, ρ 9, ρ 10, ρ 11, ρ 12, ρ 13, ρ 14, ρ 15, ρ 16, ρ 17, ρ 18, ρ 19, ρ 20, ρ 21, ρ 22, ρ 23, ρ 24, ρ 25, ρ 26, ρ 27, ρ 28, ρ 29, ρ 30, ρ 31, ρ 32, ρ 33, ρ 34] (γ 0) 0 [ρ 0, ρ 1, ρ 2, ρ 3, ρ 4, ρ 5, ρ 6, ρ 7, ρ 8, ρ 9, ρ 10, ρ 11, ρ 12, ρ 13, ρ 14, ρ 15, ρ 16, ρ 17, ρ 18, ρ 19, ρ 20, ρ 21, ρ 22, ρ 23, ρ 24, ρ 25, ρ 26, ρ 27, ρ 28, ρ 29, ρ 30, ρ 31, ρ 32, ρ 33, ρ 34, ρ 35 + 1, ρ 44, ρ 37, ρ 38, ρ 39, ρ 40, ρ 41, ρ 42, ρ 43] (γ 3)
  have hD : en250 (γ 0) (0, [ρ 35, ρ 36, ρ 37, ρ 38], γ 1) = .inl (0, [ρ 35 + 1, ρ 44, ρ 37, ρ 38], γ 3) := by
    unfold en250
    refine (if_pos (show (0 : Nat) = 0 by decide)).trans ?_
    refine (zLet_eq (show _ = γ 1 from rfl)).trans ?_
    refine (zLet_eq (show _ = ρ 35 from rfl)).trans ?_
    refine (zLet_eq (show _ = ρ 36 from rfl)).trans ?_
    refine (zLet_eq (show _ = ρ 37 from rfl)).trans ?_
    refine (zLet_eq (show _ = ρ 38 from rfl)).trans ?_
    refine (zLet_eq m4).trans ?_
    refine (zLet_eq m10).trans ?_
    refine (zLet_eq m11).trans ?_
    refine (zLet_eq m39).trans ?_
    refine (if_neg w_0).trans ?_
    refine (if_neg w_1).trans ?_
    refine (if_neg w_2).trans ?_
    refine (if_neg w_3).trans ?_
    refine (zLet_eq (show fn225 [9 * ρ 4 + 6, ρ 36] (γ 1) = (0, 0, γ 2) from l0.symm)).trans ?_
    refine (zLet_eq (show _ = γ 2 from rfl)).trans ?_
    refine (if_neg zQ0_).trans ?_
    refine (zLet_eq (show fn227 [9 * ρ 4 + 6, ρ 36] (γ 2) = (0, ρ 44, γ 3) from l1.symm)).trans ?_
    refine (zLet_eq (show _ = γ 3 from rfl)).trans ?_
    refine (zLet_eq (show _ = ρ 44 from rfl)).trans ?_
    rfl
  exact zGoo_ato hJ hD
theorem vn250a0_5 {S : Nat → zSpc} (hS225 : ∀ x g o v gz, S 225 x g o v gz → sn225 x g o v gz) (hS226 : ∀ x g o v gz, S 226 x g o v gz → sn226 x g o v gz) (hS227 : ∀ x g o v gz, S 227 x g o v gz → sn227 x g o v gz) (hS232 : ∀ x g o v gz, S 232 x g o v gz → sn232 x g o v gz) (hS249 : ∀ x g o v gz, S 249 x g o v gz → sn249 x g o v gz) {a : List Int} {g : rHp} : ∀ (ρ : Nat → Int) (γ : Nat → rHp), jn250 a g 0 (zAg (zNA a250_ 0) ρ) (γ 1) → zO 35 S a g q250a0_5 ρ γ → zGl (fun i vs g1 => jn250 a g i vs g1) (sn250 a g) q250a0_5 ρ γ := by
  intro ρ γ hJ h
  obtain ⟨ha, hg, hr, hf, hm, hc, hl⟩ := h
  have ha : a = [ρ 0, ρ 1, ρ 2, ρ 3, ρ 4, ρ 5, ρ 6, ρ 7, ρ 8, ρ 9, ρ 10, ρ 11, ρ 12, ρ 13, ρ 14, ρ 15, ρ 16, ρ 17, ρ 18, ρ 19, ρ 20, ρ 21, ρ 22, ρ 23, ρ 24, ρ 25, ρ 26, ρ 27, ρ 28, ρ 29, ρ 30, ρ 31, ρ 32, ρ 33, ρ 34] := ha
  subst ha
  subst hg
  have hJ : jn250 [ρ 0, ρ 1, ρ 2, ρ 3, ρ 4, ρ 5, ρ 6, ρ 7, ρ 8, ρ 9, ρ 10, ρ 11, ρ 12, ρ 13, ρ 14, ρ 15, ρ 16, ρ 17, ρ 18, ρ 19, ρ 20, ρ 21, ρ 22, ρ 23, ρ 24, ρ 25, ρ 26, ρ 27, ρ 28, ρ 29, ρ 30, ρ 31, ρ 32, ρ 33, ρ 34] (γ 0) 0 [ρ 0, ρ 1, ρ 2, ρ 3, ρ 4, ρ 5, ρ 6, ρ 7, ρ 8, ρ 9, ρ 10, ρ 11, ρ 12, ρ 13, ρ 14, ρ 15, ρ 16, ρ 17, ρ 18, ρ 19, ρ 20, ρ 21, ρ 22, ρ 23, ρ 24, ρ 25, ρ 26, ρ 27, ρ 28, ρ 29, ρ 30, ρ 31, ρ 32, ρ 33, ρ 34, ρ 35, ρ 36, ρ 37, ρ 38, ρ 39, ρ 40, ρ 41, ρ 42, ρ 43] (γ 1) := hJ
  obtain ⟨-, -, -, -, -, -, -, -, -, -, -, -, -, -, -, -, -, -, -, -, -, -, -, -, -, -, -, -, -, -, -, -, -, -, -, r35, r36, -⟩ := hr
  have r35 : (0 : Int) ≤ ρ 35 ∧ ρ 35 ≤ 1999 := r35
  have r36 : (0 : Int) ≤ ρ 36 ∧ ρ 36 ≤ 2000 := r36
  obtain ⟨-, -, -, -, -, -, f6, f7, f8, -⟩ := hf
  have f6 : (0 : Int) ≤ -ρ 36 + ρ 11 + (-1) := f6
  have f7 : (0 : Int) ≤ -ρ 37 + ρ 36 := f7
  have f8 : (0 : Int) ≤ -ρ 36 + ρ 10 + (-1) := f8
  obtain ⟨w_0, w_1, w_2, w_3, w_4⟩ : (¬ (ρ 36 < 0)) ∧ (¬ (ρ 36 ≥ ρ 10)) ∧ (¬ (ρ 35 ≥ 2000)) ∧ (¬ (ρ 36 < ρ 37)) ∧ (ρ 36 < ρ 11) := ⟨by omega, by omega, by omega, by omega, by omega⟩
  obtain ⟨-, -, -, -, m4, -, -, -, -, -, m10, m11, -, -, -, -, -, -, -, -, -, -, -, -, -, -, -, -, -, -, -, -, -, -, -, -, -, -, -, m39, -, -, -, -, -, m45, -⟩ := hm
  have m4 : γ 0 6 0 7 = ρ 4 := m4
  have m10 : γ 0 6 0 11 = ρ 10 := m10
  have m11 : γ 0 6 0 12 = ρ 11 := m11
  have m39 : γ 1 6 0 13 = ρ 43 := m39
  have m45 : γ 5 6 0 13 = ρ 48 := m45
  obtain ⟨⟨⟨⟨-, c4⟩, -⟩, c6⟩, -⟩ := hc
  have c4 : γ 4 = rUp (γ 3) 6 0 13 (ρ 43) := c4
  have c6 : γ 6 = rUp (γ 5) 6 0 13 (ρ 48) := c6
  obtain ⟨l0, l1, l2, l3, -⟩ := hl
  have l0 : sn225 [9 * ρ 4 + 6, ρ 36, ρ 19, ρ 20] (γ 1) 0 1 (γ 2) := hS225 _ _ _ _ _ l0
  have l1 : sn232 [9 * ρ 4 + 6, ρ 36, ρ 39, ρ 22] (γ 2) 0 0 (γ 3) := hS232 _ _ _ _ _ l1
  have l2 : sn249 [ρ 39 + 1, ρ 1, ρ 2, ρ 40, ρ 4, ρ 5, ρ 41, ρ 42, ρ 8, ρ 9, ρ 10, ρ 11, ρ 43, ρ 13, ρ 14, ρ 15, ρ 16, ρ 17, ρ 18, ρ 23, ρ 24, ρ 25, ρ 26, ρ 27, ρ 28, ρ 29, ρ 30, ρ 31, ρ 32, ρ 33, ρ 34] (γ 4) 0 0 (γ 5) := hS249 _ _ _ _ _ l2
  have l3 : sn227 [9 * ρ 4 + 6, ρ 36, ρ 21] (γ 6) 0 (ρ 49) (γ 7) := hS227 _ _ _ _ _ l3
  show jn250 [ρ 0, ρ 1, ρ 2, ρ 3, ρ 4, ρ 5, ρ 6, ρ 7, ρ 8, ρ 9, ρ 10, ρ 11, ρ 12, ρ 13, ρ 14, ρ 15, ρ 16, ρ 17, ρ 18, ρ 19, ρ 20, ρ 21, ρ 22, ρ 23, ρ 24, ρ 25, ρ 26, ρ 27, ρ 28, ρ 29, ρ 30, ρ 31, ρ 32, ρ 33, ρ 34] (γ 0) 0 [ρ 0, ρ 1, ρ 2, ρ 3, ρ 4, ρ 5, ρ 6, ρ 7, ρ 8, ρ 9, ρ 10, ρ 11, ρ 12, ρ 13, ρ 14, ρ 15, ρ 16, ρ 17, ρ 18, ρ 19, ρ 20, ρ 21, ρ 22, ρ 23, ρ 24, ρ 25, ρ 26, ρ 27, ρ 28, ρ 29, ρ 30, ρ 31, ρ 32, ρ 33, ρ 34, ρ 35 + 1, ρ 49, ρ 37, ρ 38, ρ 44, ρ 45, ρ 46, ρ 47, ρ 48] (γ 7)
  have hD : en250 (γ 0) (0, [ρ 35, ρ 36, ρ 37, ρ 38], γ 1) = .inl (0, [ρ 35 + 1, ρ 49, ρ 37, ρ 38], γ 7) := by
    unfold en250
    refine (if_pos (show (0 : Nat) = 0 by decide)).trans ?_
    refine (zLet_eq (show _ = γ 1 from rfl)).trans ?_
    refine (zLet_eq (show _ = ρ 35 from rfl)).trans ?_
    refine (zLet_eq (show _ = ρ 36 from rfl)).trans ?_
    refine (zLet_eq (show _ = ρ 37 from rfl)).trans ?_
    refine (zLet_eq (show _ = ρ 38 from rfl)).trans ?_
    refine (zLet_eq m4).trans ?_
    refine (zLet_eq m10).trans ?_
    refine (zLet_eq m11).trans ?_
    refine (zLet_eq m39).trans ?_
    refine (if_neg w_0).trans ?_
    refine (if_neg w_1).trans ?_
    refine (if_neg w_2).trans ?_
    refine (if_neg w_3).trans ?_
    refine (zLet_eq (show fn225 [9 * ρ 4 + 6, ρ 36] (γ 1) = (0, 1, γ 2) from l0.symm)).trans ?_
    refine (zLet_eq (show _ = γ 2 from rfl)).trans ?_
    refine (if_pos zQ1_).trans ?_
    refine (zLet_eq (show fn232 [9 * ρ 4 + 6, ρ 36] (γ 2) = (0, 0, γ 3) from l1.symm)).trans ?_
    refine (zLet_eq (show _ = γ 3 from rfl)).trans ?_
    refine (if_pos (show (0 : Nat) = 0 by decide)).trans ?_
    refine (if_pos w_4).trans ?_
    refine (zLet_eq c4.symm).trans ?_
    refine (zLet_eq (show fn249 [] (γ 4) = (0, 0, γ 5) from l2.symm)).trans ?_
    refine (zLet_eq (show _ = γ 5 from rfl)).trans ?_
    refine (if_pos (show (0 : Nat) = 0 by decide)).trans ?_
    refine (zLet_eq m45).trans ?_
    refine (zLet_eq c6.symm).trans ?_
    refine (zLet_eq (show fn227 [9 * ρ 4 + 6, ρ 36] (γ 6) = (0, ρ 49, γ 7) from l3.symm)).trans ?_
    refine (zLet_eq (show _ = γ 7 from rfl)).trans ?_
    refine (zLet_eq (show _ = ρ 49 from rfl)).trans ?_
    rfl
  exact zGoo_ato hJ hD
theorem vn250a0_6 {S : Nat → zSpc} (hS225 : ∀ x g o v gz, S 225 x g o v gz → sn225 x g o v gz) (hS226 : ∀ x g o v gz, S 226 x g o v gz → sn226 x g o v gz) (hS227 : ∀ x g o v gz, S 227 x g o v gz → sn227 x g o v gz) (hS232 : ∀ x g o v gz, S 232 x g o v gz → sn232 x g o v gz) (hS249 : ∀ x g o v gz, S 249 x g o v gz → sn249 x g o v gz) {a : List Int} {g : rHp} : ∀ (ρ : Nat → Int) (γ : Nat → rHp), jn250 a g 0 (zAg (zNA a250_ 0) ρ) (γ 1) → zO 35 S a g q250a0_6 ρ γ → zGl (fun i vs g1 => jn250 a g i vs g1) (sn250 a g) q250a0_6 ρ γ := by
  intro ρ γ hJ h
  obtain ⟨ha, hg, hr, hf, hm, hc, hl⟩ := h
  have ha : a = [ρ 0, ρ 1, ρ 2, ρ 3, ρ 4, ρ 5, ρ 6, ρ 7, ρ 8, ρ 9, ρ 10, ρ 11, ρ 12, ρ 13, ρ 14, ρ 15, ρ 16, ρ 17, ρ 18, ρ 19, ρ 20, ρ 21, ρ 22, ρ 23, ρ 24, ρ 25, ρ 26, ρ 27, ρ 28, ρ 29, ρ 30, ρ 31, ρ 32, ρ 33, ρ 34] := ha
  subst ha
  subst hg
  have hJ : jn250 [ρ 0, ρ 1, ρ 2, ρ 3, ρ 4, ρ 5, ρ 6, ρ 7, ρ 8, ρ 9, ρ 10, ρ 11, ρ 12, ρ 13, ρ 14, ρ 15, ρ 16, ρ 17, ρ 18, ρ 19, ρ 20, ρ 21, ρ 22, ρ 23, ρ 24, ρ 25, ρ 26, ρ 27, ρ 28, ρ 29, ρ 30, ρ 31, ρ 32, ρ 33, ρ 34] (γ 0) 0 [ρ 0, ρ 1, ρ 2, ρ 3, ρ 4, ρ 5, ρ 6, ρ 7, ρ 8, ρ 9, ρ 10, ρ 11, ρ 12, ρ 13, ρ 14, ρ 15, ρ 16, ρ 17, ρ 18, ρ 19, ρ 20, ρ 21, ρ 22, ρ 23, ρ 24, ρ 25, ρ 26, ρ 27, ρ 28, ρ 29, ρ 30, ρ 31, ρ 32, ρ 33, ρ 34, ρ 35, ρ 36, ρ 37, ρ 38, ρ 39, ρ 40, ρ 41, ρ 42, ρ 43] (γ 1) := hJ
  obtain ⟨-, -, -, -, -, -, -, -, -, -, -, -, -, -, -, -, -, -, -, -, -, -, -, -, -, -, -, -, -, -, -, -, -, -, -, r35, r36, -⟩ := hr
  have r35 : (0 : Int) ≤ ρ 35 ∧ ρ 35 ≤ 1999 := r35
  have r36 : (0 : Int) ≤ ρ 36 ∧ ρ 36 ≤ 2000 := r36
  obtain ⟨-, -, -, -, -, f5, f6, f7, -⟩ := hf
  have f5 : (0 : Int) ≤ -ρ 36 + ρ 11 + (-1) := f5
  have f6 : (0 : Int) ≤ -ρ 37 + ρ 36 := f6
  have f7 : (0 : Int) ≤ -ρ 36 + ρ 10 + (-1) := f7
  obtain ⟨w_0, w_1, w_2, w_3, w_4⟩ : (¬ (ρ 36 < 0)) ∧ (¬ (ρ 36 ≥ ρ 10)) ∧ (¬ (ρ 35 ≥ 2000)) ∧ (¬ (ρ 36 < ρ 37)) ∧ (ρ 36 < ρ 11) := ⟨by omega, by omega, by omega, by omega, by omega⟩
  obtain ⟨-, -, -, -, m4, -, -, -, -, -, m10, m11, -, -, -, -, -, -, -, -, -, -, -, -, -, -, -, -, -, -, -, -, -, -, -, -, -, -, -, m39, -⟩ := hm
  have m4 : γ 0 6 0 7 = ρ 4 := m4
  have m10 : γ 0 6 0 11 = ρ 10 := m10
  have m11 : γ 0 6 0 12 = ρ 11 := m11
  have m39 : γ 1 6 0 13 = ρ 43 := m39
  obtain ⟨⟨-, c4⟩, -⟩ := hc
  have c4 : γ 4 = rUp (γ 3) 6 0 13 (ρ 43) := c4
  obtain ⟨l0, l1, l2, -⟩ := hl
  have l0 : sn225 [9 * ρ 4 + 6, ρ 36, ρ 19, ρ 20] (γ 1) 0 1 (γ 2) := hS225 _ _ _ _ _ l0
  have l1 : sn232 [9 * ρ 4 + 6, ρ 36, ρ 39, ρ 22] (γ 2) 0 0 (γ 3) := hS232 _ _ _ _ _ l1
  have l2 : sn249 [ρ 39 + 1, ρ 1, ρ 2, ρ 40, ρ 4, ρ 5, ρ 41, ρ 42, ρ 8, ρ 9, ρ 10, ρ 11, ρ 43, ρ 13, ρ 14, ρ 15, ρ 16, ρ 17, ρ 18, ρ 23, ρ 24, ρ 25, ρ 26, ρ 27, ρ 28, ρ 29, ρ 30, ρ 31, ρ 32, ρ 33, ρ 34] (γ 4) 1 0 (γ 5) := hS249 _ _ _ _ _ l2
  show sn250 [ρ 0, ρ 1, ρ 2, ρ 3, ρ 4, ρ 5, ρ 6, ρ 7, ρ 8, ρ 9, ρ 10, ρ 11, ρ 12, ρ 13, ρ 14, ρ 15, ρ 16, ρ 17, ρ 18, ρ 19, ρ 20, ρ 21, ρ 22, ρ 23, ρ 24, ρ 25, ρ 26, ρ 27, ρ 28, ρ 29, ρ 30, ρ 31, ρ 32, ρ 33, ρ 34] (γ 0) 1 0 (γ 5)
  have hD : en250 (γ 0) (0, [ρ 35, ρ 36, ρ 37, ρ 38], γ 1) = .inr (1, 0, γ 5) := by
    unfold en250
    refine (if_pos (show (0 : Nat) = 0 by decide)).trans ?_
    refine (zLet_eq (show _ = γ 1 from rfl)).trans ?_
    refine (zLet_eq (show _ = ρ 35 from rfl)).trans ?_
    refine (zLet_eq (show _ = ρ 36 from rfl)).trans ?_
    refine (zLet_eq (show _ = ρ 37 from rfl)).trans ?_
    refine (zLet_eq (show _ = ρ 38 from rfl)).trans ?_
    refine (zLet_eq m4).trans ?_
    refine (zLet_eq m10).trans ?_
    refine (zLet_eq m11).trans ?_
    refine (zLet_eq m39).trans ?_
    refine (if_neg w_0).trans ?_
    refine (if_neg w_1).trans ?_
    refine (if_neg w_2).trans ?_
    refine (if_neg w_3).trans ?_
    refine (zLet_eq (show fn225 [9 * ρ 4 + 6, ρ 36] (γ 1) = (0, 1, γ 2) from l0.symm)).trans ?_
    refine (zLet_eq (show _ = γ 2 from rfl)).trans ?_
    refine (if_pos zQ1_).trans ?_
    refine (zLet_eq (show fn232 [9 * ρ 4 + 6, ρ 36] (γ 2) = (0, 0, γ 3) from l1.symm)).trans ?_
    refine (zLet_eq (show _ = γ 3 from rfl)).trans ?_
    refine (if_pos (show (0 : Nat) = 0 by decide)).trans ?_
    refine (if_pos w_4).trans ?_
    refine (zLet_eq c4.symm).trans ?_
    refine (zLet_eq (show fn249 [] (γ 4) = (1, 0, γ 5) from l2.symm)).trans ?_
    refine (zLet_eq (show _ = γ 5 from rfl)).trans ?_
    refine (if_neg (show ¬ (1 : Nat) = 0 by decide)).trans ?_
    refine (if_pos (show (1 : Nat) = 1 by decide)).trans ?_
    rfl
  exact zGoo_aend hJ hD
theorem vn250a0_7 {S : Nat → zSpc} (hS225 : ∀ x g o v gz, S 225 x g o v gz → sn225 x g o v gz) (hS226 : ∀ x g o v gz, S 226 x g o v gz → sn226 x g o v gz) (hS227 : ∀ x g o v gz, S 227 x g o v gz → sn227 x g o v gz) (hS232 : ∀ x g o v gz, S 232 x g o v gz → sn232 x g o v gz) (hS249 : ∀ x g o v gz, S 249 x g o v gz → sn249 x g o v gz) {a : List Int} {g : rHp} : ∀ (ρ : Nat → Int) (γ : Nat → rHp), jn250 a g 0 (zAg (zNA a250_ 0) ρ) (γ 1) → zO 35 S a g q250a0_7 ρ γ → zGl (fun i vs g1 => jn250 a g i vs g1) (sn250 a g) q250a0_7 ρ γ := by
  intro ρ γ hJ h
  obtain ⟨ha, hg, hr, hf, hm, hc, hl⟩ := h
  have ha : a = [ρ 0, ρ 1, ρ 2, ρ 3, ρ 4, ρ 5, ρ 6, ρ 7, ρ 8, ρ 9, ρ 10, ρ 11, ρ 12, ρ 13, ρ 14, ρ 15, ρ 16, ρ 17, ρ 18, ρ 19, ρ 20, ρ 21, ρ 22, ρ 23, ρ 24, ρ 25, ρ 26, ρ 27, ρ 28, ρ 29, ρ 30, ρ 31, ρ 32, ρ 33, ρ 34] := ha
  subst ha
  subst hg
  have hJ : jn250 [ρ 0, ρ 1, ρ 2, ρ 3, ρ 4, ρ 5, ρ 6, ρ 7, ρ 8, ρ 9, ρ 10, ρ 11, ρ 12, ρ 13, ρ 14, ρ 15, ρ 16, ρ 17, ρ 18, ρ 19, ρ 20, ρ 21, ρ 22, ρ 23, ρ 24, ρ 25, ρ 26, ρ 27, ρ 28, ρ 29, ρ 30, ρ 31, ρ 32, ρ 33, ρ 34] (γ 0) 0 [ρ 0, ρ 1, ρ 2, ρ 3, ρ 4, ρ 5, ρ 6, ρ 7, ρ 8, ρ 9, ρ 10, ρ 11, ρ 12, ρ 13, ρ 14, ρ 15, ρ 16, ρ 17, ρ 18, ρ 19, ρ 20, ρ 21, ρ 22, ρ 23, ρ 24, ρ 25, ρ 26, ρ 27, ρ 28, ρ 29, ρ 30, ρ 31, ρ 32, ρ 33, ρ 34, ρ 35, ρ 36, ρ 37, ρ 38, ρ 39, ρ 40, ρ 41, ρ 42, ρ 43] (γ 1) := hJ
  obtain ⟨-, -, -, -, -, -, -, -, -, -, -, -, -, -, -, -, -, -, -, -, -, -, -, -, -, -, -, -, -, -, -, -, -, -, -, r35, r36, -⟩ := hr
  have r35 : (0 : Int) ≤ ρ 35 ∧ ρ 35 ≤ 1999 := r35
  have r36 : (0 : Int) ≤ ρ 36 ∧ ρ 36 ≤ 2000 := r36
  obtain ⟨-, -, -, -, -, -, f6, f7, f8, -⟩ := hf
  have f6 : (0 : Int) ≤ -ρ 36 + ρ 11 + (-1) := f6
  have f7 : (0 : Int) ≤ -ρ 37 + ρ 36 := f7
  have f8 : (0 : Int) ≤ -ρ 36 + ρ 10 + (-1) := f8
  obtain ⟨w_0, w_1, w_2, w_3, w_4⟩ : (¬ (ρ 36 < 0)) ∧ (¬ (ρ 36 ≥ ρ 10)) ∧ (¬ (ρ 35 ≥ 2000)) ∧ (¬ (ρ 36 < ρ 37)) ∧ (ρ 36 < ρ 11) := ⟨by omega, by omega, by omega, by omega, by omega⟩
  obtain ⟨-, -, -, -, m4, -, -, -, -, -, m10, m11, -, -, -, -, -, -, -, -, -, -, -, -, -, -, -, -, -, -, -, -, -, -, -, -, -, -, -, m39, -⟩ := hm
  have m4 : γ 0 6 0 7 = ρ 4 := m4
  have m10 : γ 0 6 0 11 = ρ 10 := m10
  have m11 : γ 0 6 0 12 = ρ 11 := m11
  have m39 : γ 1 6 0 13 = ρ 43 := m39
  obtain ⟨⟨-, c4⟩, -⟩ := hc
  have c4 : γ 4 = rUp (γ 3) 6 0 13 (ρ 43) := c4
  obtain ⟨l0, l1, l2, -⟩ := hl
  have l0 : sn225 [9 * ρ 4 + 6, ρ 36, ρ 19, ρ 20] (γ 1) 0 1 (γ 2) := hS225 _ _ _ _ _ l0
  have l1 : sn232 [9 * ρ 4 + 6, ρ 36, ρ 39, ρ 22] (γ 2) 0 0 (γ 3) := hS232 _ _ _ _ _ l1
  have l2 : sn249 [ρ 39 + 1, ρ 1, ρ 2, ρ 40, ρ 4, ρ 5, ρ 41, ρ 42, ρ 8, ρ 9, ρ 10, ρ 11, ρ 43, ρ 13, ρ 14, ρ 15, ρ 16, ρ 17, ρ 18, ρ 23, ρ 24, ρ 25, ρ 26, ρ 27, ρ 28, ρ 29, ρ 30, ρ 31, ρ 32, ρ 33, ρ 34] (γ 4) 4 0 (γ 5) := hS249 _ _ _ _ _ l2
  show sn250 [ρ 0, ρ 1, ρ 2, ρ 3, ρ 4, ρ 5, ρ 6, ρ 7, ρ 8, ρ 9, ρ 10, ρ 11, ρ 12, ρ 13, ρ 14, ρ 15, ρ 16, ρ 17, ρ 18, ρ 19, ρ 20, ρ 21, ρ 22, ρ 23, ρ 24, ρ 25, ρ 26, ρ 27, ρ 28, ρ 29, ρ 30, ρ 31, ρ 32, ρ 33, ρ 34] (γ 0) 4 0 (γ 5)
  have hD : en250 (γ 0) (0, [ρ 35, ρ 36, ρ 37, ρ 38], γ 1) = .inr (4, 0, γ 5) := by
    unfold en250
    refine (if_pos (show (0 : Nat) = 0 by decide)).trans ?_
    refine (zLet_eq (show _ = γ 1 from rfl)).trans ?_
    refine (zLet_eq (show _ = ρ 35 from rfl)).trans ?_
    refine (zLet_eq (show _ = ρ 36 from rfl)).trans ?_
    refine (zLet_eq (show _ = ρ 37 from rfl)).trans ?_
    refine (zLet_eq (show _ = ρ 38 from rfl)).trans ?_
    refine (zLet_eq m4).trans ?_
    refine (zLet_eq m10).trans ?_
    refine (zLet_eq m11).trans ?_
    refine (zLet_eq m39).trans ?_
    refine (if_neg w_0).trans ?_
    refine (if_neg w_1).trans ?_
    refine (if_neg w_2).trans ?_
    refine (if_neg w_3).trans ?_
    refine (zLet_eq (show fn225 [9 * ρ 4 + 6, ρ 36] (γ 1) = (0, 1, γ 2) from l0.symm)).trans ?_
    refine (zLet_eq (show _ = γ 2 from rfl)).trans ?_
    refine (if_pos zQ1_).trans ?_
    refine (zLet_eq (show fn232 [9 * ρ 4 + 6, ρ 36] (γ 2) = (0, 0, γ 3) from l1.symm)).trans ?_
    refine (zLet_eq (show _ = γ 3 from rfl)).trans ?_
    refine (if_pos (show (0 : Nat) = 0 by decide)).trans ?_
    refine (if_pos w_4).trans ?_
    refine (zLet_eq c4.symm).trans ?_
    refine (zLet_eq (show fn249 [] (γ 4) = (4, 0, γ 5) from l2.symm)).trans ?_
    refine (zLet_eq (show _ = γ 5 from rfl)).trans ?_
    refine (if_neg (show ¬ (4 : Nat) = 0 by decide)).trans ?_
    refine (if_neg (show ¬ (4 : Nat) = 1 by decide)).trans ?_
    rfl
  exact zGoo_aend hJ hD
theorem vn250a0_8 {S : Nat → zSpc} (hS225 : ∀ x g o v gz, S 225 x g o v gz → sn225 x g o v gz) (hS226 : ∀ x g o v gz, S 226 x g o v gz → sn226 x g o v gz) (hS227 : ∀ x g o v gz, S 227 x g o v gz → sn227 x g o v gz) (hS232 : ∀ x g o v gz, S 232 x g o v gz → sn232 x g o v gz) (hS249 : ∀ x g o v gz, S 249 x g o v gz → sn249 x g o v gz) {a : List Int} {g : rHp} : ∀ (ρ : Nat → Int) (γ : Nat → rHp), jn250 a g 0 (zAg (zNA a250_ 0) ρ) (γ 1) → zO 35 S a g q250a0_8 ρ γ → zGl (fun i vs g1 => jn250 a g i vs g1) (sn250 a g) q250a0_8 ρ γ := by
  intro ρ γ hJ h
  obtain ⟨ha, hg, hr, hf, hm, hc, hl⟩ := h
  have ha : a = [ρ 0, ρ 1, ρ 2, ρ 3, ρ 4, ρ 5, ρ 6, ρ 7, ρ 8, ρ 9, ρ 10, ρ 11, ρ 12, ρ 13, ρ 14, ρ 15, ρ 16, ρ 17, ρ 18, ρ 19, ρ 20, ρ 21, ρ 22, ρ 23, ρ 24, ρ 25, ρ 26, ρ 27, ρ 28, ρ 29, ρ 30, ρ 31, ρ 32, ρ 33, ρ 34] := ha
  subst ha
  subst hg
  have hJ : jn250 [ρ 0, ρ 1, ρ 2, ρ 3, ρ 4, ρ 5, ρ 6, ρ 7, ρ 8, ρ 9, ρ 10, ρ 11, ρ 12, ρ 13, ρ 14, ρ 15, ρ 16, ρ 17, ρ 18, ρ 19, ρ 20, ρ 21, ρ 22, ρ 23, ρ 24, ρ 25, ρ 26, ρ 27, ρ 28, ρ 29, ρ 30, ρ 31, ρ 32, ρ 33, ρ 34] (γ 0) 0 [ρ 0, ρ 1, ρ 2, ρ 3, ρ 4, ρ 5, ρ 6, ρ 7, ρ 8, ρ 9, ρ 10, ρ 11, ρ 12, ρ 13, ρ 14, ρ 15, ρ 16, ρ 17, ρ 18, ρ 19, ρ 20, ρ 21, ρ 22, ρ 23, ρ 24, ρ 25, ρ 26, ρ 27, ρ 28, ρ 29, ρ 30, ρ 31, ρ 32, ρ 33, ρ 34, ρ 35, ρ 36, ρ 37, ρ 38, ρ 39, ρ 40, ρ 41, ρ 42, ρ 43] (γ 1) := hJ
  obtain ⟨-, -, -, -, -, -, -, -, -, -, -, -, -, -, -, -, -, -, -, -, -, -, -, -, -, -, -, -, -, -, -, -, -, -, -, r35, r36, -⟩ := hr
  have r35 : (0 : Int) ≤ ρ 35 ∧ ρ 35 ≤ 1999 := r35
  have r36 : (0 : Int) ≤ ρ 36 ∧ ρ 36 ≤ 2000 := r36
  obtain ⟨-, -, -, -, -, -, f6, f7, f8, -⟩ := hf
  have f6 : (0 : Int) ≤ ρ 36 + -ρ 11 := f6
  have f7 : (0 : Int) ≤ -ρ 37 + ρ 36 := f7
  have f8 : (0 : Int) ≤ -ρ 36 + ρ 10 + (-1) := f8
  obtain ⟨w_0, w_1, w_2, w_3, w_4⟩ : (¬ (ρ 36 < 0)) ∧ (¬ (ρ 36 ≥ ρ 10)) ∧ (¬ (ρ 35 ≥ 2000)) ∧ (¬ (ρ 36 < ρ 37)) ∧ (¬ (ρ 36 < ρ 11)) := ⟨by omega, by omega, by omega, by omega, by omega⟩
  obtain ⟨-, -, -, -, m4, -, -, -, -, -, m10, m11, -, -, -, -, -, -, -, -, -, -, -, -, -, -, -, -, -, -, -, -, -, -, -, -, -, -, -, m39, -, -, -, -, -, m45, -⟩ := hm
  have m4 : γ 0 6 0 7 = ρ 4 := m4
  have m10 : γ 0 6 0 11 = ρ 10 := m10
  have m11 : γ 0 6 0 12 = ρ 11 := m11
  have m39 : γ 1 6 0 13 = ρ 43 := m39
  have m45 : γ 5 6 0 13 = ρ 49 := m45
  obtain ⟨⟨⟨⟨-, c4⟩, -⟩, c6⟩, -⟩ := hc
  have c4 : γ 4 = rUp (γ 3) 6 0 13 (ρ 44) := c4
  have c6 : γ 6 = rUp (γ 5) 6 0 13 (ρ 50) := c6
  obtain ⟨l0, l1, l2, l3, l4, l5, -⟩ := hl
  have l0 : sn225 [9 * ρ 4 + 6, ρ 36, ρ 19, ρ 20] (γ 1) 0 1 (γ 2) := hS225 _ _ _ _ _ l0
  have l1 : sn232 [9 * ρ 4 + 6, ρ 36, ρ 39, ρ 22] (γ 2) 0 0 (γ 3) := hS232 _ _ _ _ _ l1
  have l2 : zOpP (.iadd) (γ 0) (γ 1) [ρ 43, 1] (ρ 44) := l2
  have l3 : sn249 [ρ 39 + 1, ρ 1, ρ 2, ρ 40, ρ 4, ρ 5, ρ 41, ρ 42, ρ 8, ρ 9, ρ 10, ρ 11, ρ 44, ρ 13, ρ 14, ρ 15, ρ 16, ρ 17, ρ 18, ρ 23, ρ 24, ρ 25, ρ 26, ρ 27, ρ 28, ρ 29, ρ 30, ρ 31, ρ 32, ρ 33, ρ 34] (γ 4) 0 0 (γ 5) := hS249 _ _ _ _ _ l3
  have l4 : zOpP (.isub) (γ 0) (γ 1) [ρ 49, 1] (ρ 50) := l4
  have l5 : sn227 [9 * ρ 4 + 6, ρ 36, ρ 21] (γ 6) 0 (ρ 51) (γ 7) := hS227 _ _ _ _ _ l5
  show jn250 [ρ 0, ρ 1, ρ 2, ρ 3, ρ 4, ρ 5, ρ 6, ρ 7, ρ 8, ρ 9, ρ 10, ρ 11, ρ 12, ρ 13, ρ 14, ρ 15, ρ 16, ρ 17, ρ 18, ρ 19, ρ 20, ρ 21, ρ 22, ρ 23, ρ 24, ρ 25, ρ 26, ρ 27, ρ 28, ρ 29, ρ 30, ρ 31, ρ 32, ρ 33, ρ 34] (γ 0) 0 [ρ 0, ρ 1, ρ 2, ρ 3, ρ 4, ρ 5, ρ 6, ρ 7, ρ 8, ρ 9, ρ 10, ρ 11, ρ 12, ρ 13, ρ 14, ρ 15, ρ 16, ρ 17, ρ 18, ρ 19, ρ 20, ρ 21, ρ 22, ρ 23, ρ 24, ρ 25, ρ 26, ρ 27, ρ 28, ρ 29, ρ 30, ρ 31, ρ 32, ρ 33, ρ 34, ρ 35 + 1, ρ 51, ρ 37, ρ 38, ρ 45, ρ 46, ρ 47, ρ 48, ρ 50] (γ 7)
  have hD : en250 (γ 0) (0, [ρ 35, ρ 36, ρ 37, ρ 38], γ 1) = .inl (0, [ρ 35 + 1, ρ 51, ρ 37, ρ 38], γ 7) := by
    unfold en250
    refine (if_pos (show (0 : Nat) = 0 by decide)).trans ?_
    refine (zLet_eq (show _ = γ 1 from rfl)).trans ?_
    refine (zLet_eq (show _ = ρ 35 from rfl)).trans ?_
    refine (zLet_eq (show _ = ρ 36 from rfl)).trans ?_
    refine (zLet_eq (show _ = ρ 37 from rfl)).trans ?_
    refine (zLet_eq (show _ = ρ 38 from rfl)).trans ?_
    refine (zLet_eq m4).trans ?_
    refine (zLet_eq m10).trans ?_
    refine (zLet_eq m11).trans ?_
    refine (zLet_eq m39).trans ?_
    refine (if_neg w_0).trans ?_
    refine (if_neg w_1).trans ?_
    refine (if_neg w_2).trans ?_
    refine (if_neg w_3).trans ?_
    refine (zLet_eq (show fn225 [9 * ρ 4 + 6, ρ 36] (γ 1) = (0, 1, γ 2) from l0.symm)).trans ?_
    refine (zLet_eq (show _ = γ 2 from rfl)).trans ?_
    refine (if_pos zQ1_).trans ?_
    refine (zLet_eq (show fn232 [9 * ρ 4 + 6, ρ 36] (γ 2) = (0, 0, γ 3) from l1.symm)).trans ?_
    refine (zLet_eq (show _ = γ 3 from rfl)).trans ?_
    refine (if_pos (show (0 : Nat) = 0 by decide)).trans ?_
    refine (if_neg w_4).trans ?_
    refine (zLet_eq (zF2_ok l2)).trans ?_
    refine (zLet_eq c4.symm).trans ?_
    refine (zLet_eq (show fn249 [] (γ 4) = (0, 0, γ 5) from l3.symm)).trans ?_
    refine (zLet_eq (show _ = γ 5 from rfl)).trans ?_
    refine (if_pos (show (0 : Nat) = 0 by decide)).trans ?_
    refine (zLet_eq m45).trans ?_
    refine (zLet_eq (zF2_ok l4)).trans ?_
    refine (zLet_eq c6.symm).trans ?_
    refine (zLet_eq (show fn227 [9 * ρ 4 + 6, ρ 36] (γ 6) = (0, ρ 51, γ 7) from l5.symm)).trans ?_
    refine (zLet_eq (show _ = γ 7 from rfl)).trans ?_
    refine (zLet_eq (show _ = ρ 51 from rfl)).trans ?_
    rfl
  exact zGoo_ato hJ hD
theorem vn250a0_9 {S : Nat → zSpc} (hS225 : ∀ x g o v gz, S 225 x g o v gz → sn225 x g o v gz) (hS226 : ∀ x g o v gz, S 226 x g o v gz → sn226 x g o v gz) (hS227 : ∀ x g o v gz, S 227 x g o v gz → sn227 x g o v gz) (hS232 : ∀ x g o v gz, S 232 x g o v gz → sn232 x g o v gz) (hS249 : ∀ x g o v gz, S 249 x g o v gz → sn249 x g o v gz) {a : List Int} {g : rHp} : ∀ (ρ : Nat → Int) (γ : Nat → rHp), jn250 a g 0 (zAg (zNA a250_ 0) ρ) (γ 1) → zO 35 S a g q250a0_9 ρ γ → zGl (fun i vs g1 => jn250 a g i vs g1) (sn250 a g) q250a0_9 ρ γ := by
  intro ρ γ hJ h
  obtain ⟨ha, hg, hr, hf, hm, hc, hl⟩ := h
  have ha : a = [ρ 0, ρ 1, ρ 2, ρ 3, ρ 4, ρ 5, ρ 6, ρ 7, ρ 8, ρ 9, ρ 10, ρ 11, ρ 12, ρ 13, ρ 14, ρ 15, ρ 16, ρ 17, ρ 18, ρ 19, ρ 20, ρ 21, ρ 22, ρ 23, ρ 24, ρ 25, ρ 26, ρ 27, ρ 28, ρ 29, ρ 30, ρ 31, ρ 32, ρ 33, ρ 34] := ha
  subst ha
  subst hg
  have hJ : jn250 [ρ 0, ρ 1, ρ 2, ρ 3, ρ 4, ρ 5, ρ 6, ρ 7, ρ 8, ρ 9, ρ 10, ρ 11, ρ 12, ρ 13, ρ 14, ρ 15, ρ 16, ρ 17, ρ 18, ρ 19, ρ 20, ρ 21, ρ 22, ρ 23, ρ 24, ρ 25, ρ 26, ρ 27, ρ 28, ρ 29, ρ 30, ρ 31, ρ 32, ρ 33, ρ 34] (γ 0) 0 [ρ 0, ρ 1, ρ 2, ρ 3, ρ 4, ρ 5, ρ 6, ρ 7, ρ 8, ρ 9, ρ 10, ρ 11, ρ 12, ρ 13, ρ 14, ρ 15, ρ 16, ρ 17, ρ 18, ρ 19, ρ 20, ρ 21, ρ 22, ρ 23, ρ 24, ρ 25, ρ 26, ρ 27, ρ 28, ρ 29, ρ 30, ρ 31, ρ 32, ρ 33, ρ 34, ρ 35, ρ 36, ρ 37, ρ 38, ρ 39, ρ 40, ρ 41, ρ 42, ρ 43] (γ 1) := hJ
  obtain ⟨-, -, -, -, -, -, -, -, -, -, -, -, -, -, -, -, -, -, -, -, -, -, -, -, -, -, -, -, -, -, -, -, -, -, -, r35, r36, -⟩ := hr
  have r35 : (0 : Int) ≤ ρ 35 ∧ ρ 35 ≤ 1999 := r35
  have r36 : (0 : Int) ≤ ρ 36 ∧ ρ 36 ≤ 2000 := r36
  obtain ⟨-, -, -, -, -, f5, f6, f7, -⟩ := hf
  have f5 : (0 : Int) ≤ ρ 36 + -ρ 11 := f5
  have f6 : (0 : Int) ≤ -ρ 37 + ρ 36 := f6
  have f7 : (0 : Int) ≤ -ρ 36 + ρ 10 + (-1) := f7
  obtain ⟨w_0, w_1, w_2, w_3, w_4⟩ : (¬ (ρ 36 < 0)) ∧ (¬ (ρ 36 ≥ ρ 10)) ∧ (¬ (ρ 35 ≥ 2000)) ∧ (¬ (ρ 36 < ρ 37)) ∧ (¬ (ρ 36 < ρ 11)) := ⟨by omega, by omega, by omega, by omega, by omega⟩
  obtain ⟨-, -, -, -, m4, -, -, -, -, -, m10, m11, -, -, -, -, -, -, -, -, -, -, -, -, -, -, -, -, -, -, -, -, -, -, -, -, -, -, -, m39, -⟩ := hm
  have m4 : γ 0 6 0 7 = ρ 4 := m4
  have m10 : γ 0 6 0 11 = ρ 10 := m10
  have m11 : γ 0 6 0 12 = ρ 11 := m11
  have m39 : γ 1 6 0 13 = ρ 43 := m39
  obtain ⟨⟨-, c4⟩, -⟩ := hc
  have c4 : γ 4 = rUp (γ 3) 6 0 13 (ρ 44) := c4
  obtain ⟨l0, l1, l2, l3, -⟩ := hl
  have l0 : sn225 [9 * ρ 4 + 6, ρ 36, ρ 19, ρ 20] (γ 1) 0 1 (γ 2) := hS225 _ _ _ _ _ l0
  have l1 : sn232 [9 * ρ 4 + 6, ρ 36, ρ 39, ρ 22] (γ 2) 0 0 (γ 3) := hS232 _ _ _ _ _ l1
  have l2 : zOpP (.iadd) (γ 0) (γ 1) [ρ 43, 1] (ρ 44) := l2
  have l3 : sn249 [ρ 39 + 1, ρ 1, ρ 2, ρ 40, ρ 4, ρ 5, ρ 41, ρ 42, ρ 8, ρ 9, ρ 10, ρ 11, ρ 44, ρ 13, ρ 14, ρ 15, ρ 16, ρ 17, ρ 18, ρ 23, ρ 24, ρ 25, ρ 26, ρ 27, ρ 28, ρ 29, ρ 30, ρ 31, ρ 32, ρ 33, ρ 34] (γ 4) 1 0 (γ 5) := hS249 _ _ _ _ _ l3
  show sn250 [ρ 0, ρ 1, ρ 2, ρ 3, ρ 4, ρ 5, ρ 6, ρ 7, ρ 8, ρ 9, ρ 10, ρ 11, ρ 12, ρ 13, ρ 14, ρ 15, ρ 16, ρ 17, ρ 18, ρ 19, ρ 20, ρ 21, ρ 22, ρ 23, ρ 24, ρ 25, ρ 26, ρ 27, ρ 28, ρ 29, ρ 30, ρ 31, ρ 32, ρ 33, ρ 34] (γ 0) 1 0 (γ 5)
  have hD : en250 (γ 0) (0, [ρ 35, ρ 36, ρ 37, ρ 38], γ 1) = .inr (1, 0, γ 5) := by
    unfold en250
    refine (if_pos (show (0 : Nat) = 0 by decide)).trans ?_
    refine (zLet_eq (show _ = γ 1 from rfl)).trans ?_
    refine (zLet_eq (show _ = ρ 35 from rfl)).trans ?_
    refine (zLet_eq (show _ = ρ 36 from rfl)).trans ?_
    refine (zLet_eq (show _ = ρ 37 from rfl)).trans ?_
    refine (zLet_eq (show _ = ρ 38 from rfl)).trans ?_
    refine (zLet_eq m4).trans ?_
    refine (zLet_eq m10).trans ?_
    refine (zLet_eq m11).trans ?_
    refine (zLet_eq m39).trans ?_
    refine (if_neg w_0).trans ?_
    refine (if_neg w_1).trans ?_
    refine (if_neg w_2).trans ?_
    refine (if_neg w_3).trans ?_
    refine (zLet_eq (show fn225 [9 * ρ 4 + 6, ρ 36] (γ 1) = (0, 1, γ 2) from l0.symm)).trans ?_
    refine (zLet_eq (show _ = γ 2 from rfl)).trans ?_
    refine (if_pos zQ1_).trans ?_
    refine (zLet_eq (show fn232 [9 * ρ 4 + 6, ρ 36] (γ 2) = (0, 0, γ 3) from l1.symm)).trans ?_
    refine (zLet_eq (show _ = γ 3 from rfl)).trans ?_
    refine (if_pos (show (0 : Nat) = 0 by decide)).trans ?_
    refine (if_neg w_4).trans ?_
    refine (zLet_eq (zF2_ok l2)).trans ?_
    refine (zLet_eq c4.symm).trans ?_
    refine (zLet_eq (show fn249 [] (γ 4) = (1, 0, γ 5) from l3.symm)).trans ?_
    refine (zLet_eq (show _ = γ 5 from rfl)).trans ?_
    refine (if_neg (show ¬ (1 : Nat) = 0 by decide)).trans ?_
    refine (if_pos (show (1 : Nat) = 1 by decide)).trans ?_
    rfl
  exact zGoo_aend hJ hD
theorem vn250a0_10 {S : Nat → zSpc} (hS225 : ∀ x g o v gz, S 225 x g o v gz → sn225 x g o v gz) (hS226 : ∀ x g o v gz, S 226 x g o v gz → sn226 x g o v gz) (hS227 : ∀ x g o v gz, S 227 x g o v gz → sn227 x g o v gz) (hS232 : ∀ x g o v gz, S 232 x g o v gz → sn232 x g o v gz) (hS249 : ∀ x g o v gz, S 249 x g o v gz → sn249 x g o v gz) {a : List Int} {g : rHp} : ∀ (ρ : Nat → Int) (γ : Nat → rHp), jn250 a g 0 (zAg (zNA a250_ 0) ρ) (γ 1) → zO 35 S a g q250a0_10 ρ γ → zGl (fun i vs g1 => jn250 a g i vs g1) (sn250 a g) q250a0_10 ρ γ := by
  intro ρ γ hJ h
  obtain ⟨ha, hg, hr, hf, hm, hc, hl⟩ := h
  have ha : a = [ρ 0, ρ 1, ρ 2, ρ 3, ρ 4, ρ 5, ρ 6, ρ 7, ρ 8, ρ 9, ρ 10, ρ 11, ρ 12, ρ 13, ρ 14, ρ 15, ρ 16, ρ 17, ρ 18, ρ 19, ρ 20, ρ 21, ρ 22, ρ 23, ρ 24, ρ 25, ρ 26, ρ 27, ρ 28, ρ 29, ρ 30, ρ 31, ρ 32, ρ 33, ρ 34] := ha
  subst ha
  subst hg
  have hJ : jn250 [ρ 0, ρ 1, ρ 2, ρ 3, ρ 4, ρ 5, ρ 6, ρ 7, ρ 8, ρ 9, ρ 10, ρ 11, ρ 12, ρ 13, ρ 14, ρ 15, ρ 16, ρ 17, ρ 18, ρ 19, ρ 20, ρ 21, ρ 22, ρ 23, ρ 24, ρ 25, ρ 26, ρ 27, ρ 28, ρ 29, ρ 30, ρ 31, ρ 32, ρ 33, ρ 34] (γ 0) 0 [ρ 0, ρ 1, ρ 2, ρ 3, ρ 4, ρ 5, ρ 6, ρ 7, ρ 8, ρ 9, ρ 10, ρ 11, ρ 12, ρ 13, ρ 14, ρ 15, ρ 16, ρ 17, ρ 18, ρ 19, ρ 20, ρ 21, ρ 22, ρ 23, ρ 24, ρ 25, ρ 26, ρ 27, ρ 28, ρ 29, ρ 30, ρ 31, ρ 32, ρ 33, ρ 34, ρ 35, ρ 36, ρ 37, ρ 38, ρ 39, ρ 40, ρ 41, ρ 42, ρ 43] (γ 1) := hJ
  obtain ⟨-, -, -, -, -, -, -, -, -, -, -, -, -, -, -, -, -, -, -, -, -, -, -, -, -, -, -, -, -, -, -, -, -, -, -, r35, r36, -⟩ := hr
  have r35 : (0 : Int) ≤ ρ 35 ∧ ρ 35 ≤ 1999 := r35
  have r36 : (0 : Int) ≤ ρ 36 ∧ ρ 36 ≤ 2000 := r36
  obtain ⟨-, -, -, -, -, -, f6, f7, f8, -⟩ := hf
  have f6 : (0 : Int) ≤ ρ 36 + -ρ 11 := f6
  have f7 : (0 : Int) ≤ -ρ 37 + ρ 36 := f7
  have f8 : (0 : Int) ≤ -ρ 36 + ρ 10 + (-1) := f8
  obtain ⟨w_0, w_1, w_2, w_3, w_4⟩ : (¬ (ρ 36 < 0)) ∧ (¬ (ρ 36 ≥ ρ 10)) ∧ (¬ (ρ 35 ≥ 2000)) ∧ (¬ (ρ 36 < ρ 37)) ∧ (¬ (ρ 36 < ρ 11)) := ⟨by omega, by omega, by omega, by omega, by omega⟩
  obtain ⟨-, -, -, -, m4, -, -, -, -, -, m10, m11, -, -, -, -, -, -, -, -, -, -, -, -, -, -, -, -, -, -, -, -, -, -, -, -, -, -, -, m39, -⟩ := hm
  have m4 : γ 0 6 0 7 = ρ 4 := m4
  have m10 : γ 0 6 0 11 = ρ 10 := m10
  have m11 : γ 0 6 0 12 = ρ 11 := m11
  have m39 : γ 1 6 0 13 = ρ 43 := m39
  obtain ⟨⟨-, c4⟩, -⟩ := hc
  have c4 : γ 4 = rUp (γ 3) 6 0 13 (ρ 44) := c4
  obtain ⟨l0, l1, l2, l3, -⟩ := hl
  have l0 : sn225 [9 * ρ 4 + 6, ρ 36, ρ 19, ρ 20] (γ 1) 0 1 (γ 2) := hS225 _ _ _ _ _ l0
  have l1 : sn232 [9 * ρ 4 + 6, ρ 36, ρ 39, ρ 22] (γ 2) 0 0 (γ 3) := hS232 _ _ _ _ _ l1
  have l2 : zOpP (.iadd) (γ 0) (γ 1) [ρ 43, 1] (ρ 44) := l2
  have l3 : sn249 [ρ 39 + 1, ρ 1, ρ 2, ρ 40, ρ 4, ρ 5, ρ 41, ρ 42, ρ 8, ρ 9, ρ 10, ρ 11, ρ 44, ρ 13, ρ 14, ρ 15, ρ 16, ρ 17, ρ 18, ρ 23, ρ 24, ρ 25, ρ 26, ρ 27, ρ 28, ρ 29, ρ 30, ρ 31, ρ 32, ρ 33, ρ 34] (γ 4) 4 0 (γ 5) := hS249 _ _ _ _ _ l3
  show sn250 [ρ 0, ρ 1, ρ 2, ρ 3, ρ 4, ρ 5, ρ 6, ρ 7, ρ 8, ρ 9, ρ 10, ρ 11, ρ 12, ρ 13, ρ 14, ρ 15, ρ 16, ρ 17, ρ 18, ρ 19, ρ 20, ρ 21, ρ 22, ρ 23, ρ 24, ρ 25, ρ 26, ρ 27, ρ 28, ρ 29, ρ 30, ρ 31, ρ 32, ρ 33, ρ 34] (γ 0) 4 0 (γ 5)
  have hD : en250 (γ 0) (0, [ρ 35, ρ 36, ρ 37, ρ 38], γ 1) = .inr (4, 0, γ 5) := by
    unfold en250
    refine (if_pos (show (0 : Nat) = 0 by decide)).trans ?_
    refine (zLet_eq (show _ = γ 1 from rfl)).trans ?_
    refine (zLet_eq (show _ = ρ 35 from rfl)).trans ?_
    refine (zLet_eq (show _ = ρ 36 from rfl)).trans ?_
    refine (zLet_eq (show _ = ρ 37 from rfl)).trans ?_
    refine (zLet_eq (show _ = ρ 38 from rfl)).trans ?_
    refine (zLet_eq m4).trans ?_
    refine (zLet_eq m10).trans ?_
    refine (zLet_eq m11).trans ?_
    refine (zLet_eq m39).trans ?_
    refine (if_neg w_0).trans ?_
    refine (if_neg w_1).trans ?_
    refine (if_neg w_2).trans ?_
    refine (if_neg w_3).trans ?_
    refine (zLet_eq (show fn225 [9 * ρ 4 + 6, ρ 36] (γ 1) = (0, 1, γ 2) from l0.symm)).trans ?_
    refine (zLet_eq (show _ = γ 2 from rfl)).trans ?_
    refine (if_pos zQ1_).trans ?_
    refine (zLet_eq (show fn232 [9 * ρ 4 + 6, ρ 36] (γ 2) = (0, 0, γ 3) from l1.symm)).trans ?_
    refine (zLet_eq (show _ = γ 3 from rfl)).trans ?_
    refine (if_pos (show (0 : Nat) = 0 by decide)).trans ?_
    refine (if_neg w_4).trans ?_
    refine (zLet_eq (zF2_ok l2)).trans ?_
    refine (zLet_eq c4.symm).trans ?_
    refine (zLet_eq (show fn249 [] (γ 4) = (4, 0, γ 5) from l3.symm)).trans ?_
    refine (zLet_eq (show _ = γ 5 from rfl)).trans ?_
    refine (if_neg (show ¬ (4 : Nat) = 0 by decide)).trans ?_
    refine (if_neg (show ¬ (4 : Nat) = 1 by decide)).trans ?_
    rfl
  exact zGoo_aend hJ hD
theorem vn250a0_11 {S : Nat → zSpc} (hS225 : ∀ x g o v gz, S 225 x g o v gz → sn225 x g o v gz) (hS226 : ∀ x g o v gz, S 226 x g o v gz → sn226 x g o v gz) (hS227 : ∀ x g o v gz, S 227 x g o v gz → sn227 x g o v gz) (hS232 : ∀ x g o v gz, S 232 x g o v gz → sn232 x g o v gz) (hS249 : ∀ x g o v gz, S 249 x g o v gz → sn249 x g o v gz) {a : List Int} {g : rHp} : ∀ (ρ : Nat → Int) (γ : Nat → rHp), jn250 a g 0 (zAg (zNA a250_ 0) ρ) (γ 1) → zO 35 S a g q250a0_11 ρ γ → zGl (fun i vs g1 => jn250 a g i vs g1) (sn250 a g) q250a0_11 ρ γ := by
  intro ρ γ hJ h
  obtain ⟨ha, hg, hr, hf, hm, hc, hl⟩ := h
  have ha : a = [ρ 0, ρ 1, ρ 2, ρ 3, ρ 4, ρ 5, ρ 6, ρ 7, ρ 8, ρ 9, ρ 10, ρ 11, ρ 12, ρ 13, ρ 14, ρ 15, ρ 16, ρ 17, ρ 18, ρ 19, ρ 20, ρ 21, ρ 22, ρ 23, ρ 24, ρ 25, ρ 26, ρ 27, ρ 28, ρ 29, ρ 30, ρ 31, ρ 32, ρ 33, ρ 34] := ha
  subst ha
  subst hg
  have hJ : jn250 [ρ 0, ρ 1, ρ 2, ρ 3, ρ 4, ρ 5, ρ 6, ρ 7, ρ 8, ρ 9, ρ 10, ρ 11, ρ 12, ρ 13, ρ 14, ρ 15, ρ 16, ρ 17, ρ 18, ρ 19, ρ 20, ρ 21, ρ 22, ρ 23, ρ 24, ρ 25, ρ 26, ρ 27, ρ 28, ρ 29, ρ 30, ρ 31, ρ 32, ρ 33, ρ 34] (γ 0) 0 [ρ 0, ρ 1, ρ 2, ρ 3, ρ 4, ρ 5, ρ 6, ρ 7, ρ 8, ρ 9, ρ 10, ρ 11, ρ 12, ρ 13, ρ 14, ρ 15, ρ 16, ρ 17, ρ 18, ρ 19, ρ 20, ρ 21, ρ 22, ρ 23, ρ 24, ρ 25, ρ 26, ρ 27, ρ 28, ρ 29, ρ 30, ρ 31, ρ 32, ρ 33, ρ 34, ρ 35, ρ 36, ρ 37, ρ 38, ρ 39, ρ 40, ρ 41, ρ 42, ρ 43] (γ 1) := hJ
  obtain ⟨-, -, -, -, -, -, -, -, -, -, -, -, -, -, -, -, -, -, -, -, -, -, -, -, -, -, -, -, -, -, -, -, -, -, -, r35, r36, -⟩ := hr
  have r35 : (0 : Int) ≤ ρ 35 ∧ ρ 35 ≤ 1999 := r35
  have r36 : (0 : Int) ≤ ρ 36 ∧ ρ 36 ≤ 2000 := r36
  obtain ⟨f0, f1, -⟩ := hf
  have f0 : (0 : Int) ≤ -ρ 37 + ρ 36 := f0
  have f1 : (0 : Int) ≤ -ρ 36 + ρ 10 + (-1) := f1
  obtain ⟨w_0, w_1, w_2, w_3⟩ : (¬ (ρ 36 < 0)) ∧ (¬ (ρ 36 ≥ ρ 10)) ∧ (¬ (ρ 35 ≥ 2000)) ∧ (¬ (ρ 36 < ρ 37)) := ⟨by omega, by omega, by omega, by omega⟩
  obtain ⟨-, -, -, -, m4, -, -, -, -, -, m10, m11, -, -, -, -, -, -, -, -, -, -, -, -, -, -, -, -, -, -, -, -, -, -, -, -, -, -, -, m39, -⟩ := hm
  have m4 : γ 0 6 0 7 = ρ 4 := m4
  have m10 : γ 0 6 0 11 = ρ 10 := m10
  have m11 : γ 0 6 0 12 = ρ 11 := m11
  have m39 : γ 1 6 0 13 = ρ 43 := m39
  obtain ⟨l0, l1, -⟩ := hl
  have l0 : sn225 [9 * ρ 4 + 6, ρ 36, ρ 19, ρ 20] (γ 1) 0 1 (γ 2) := hS225 _ _ _ _ _ l0
  have l1 : sn232 [9 * ρ 4 + 6, ρ 36, ρ 39, ρ 22] (γ 2) 4 0 (γ 3) := hS232 _ _ _ _ _ l1
  show sn250 [ρ 0, ρ 1, ρ 2, ρ 3, ρ 4, ρ 5, ρ 6, ρ 7, ρ 8, ρ 9, ρ 10, ρ 11, ρ 12, ρ 13, ρ 14, ρ 15, ρ 16, ρ 17, ρ 18, ρ 19, ρ 20, ρ 21, ρ 22, ρ 23, ρ 24, ρ 25, ρ 26, ρ 27, ρ 28, ρ 29, ρ 30, ρ 31, ρ 32, ρ 33, ρ 34] (γ 0) 4 0 (γ 3)
  have hD : en250 (γ 0) (0, [ρ 35, ρ 36, ρ 37, ρ 38], γ 1) = .inr (4, 0, γ 3) := by
    unfold en250
    refine (if_pos (show (0 : Nat) = 0 by decide)).trans ?_
    refine (zLet_eq (show _ = γ 1 from rfl)).trans ?_
    refine (zLet_eq (show _ = ρ 35 from rfl)).trans ?_
    refine (zLet_eq (show _ = ρ 36 from rfl)).trans ?_
    refine (zLet_eq (show _ = ρ 37 from rfl)).trans ?_
    refine (zLet_eq (show _ = ρ 38 from rfl)).trans ?_
    refine (zLet_eq m4).trans ?_
    refine (zLet_eq m10).trans ?_
    refine (zLet_eq m11).trans ?_
    refine (zLet_eq m39).trans ?_
    refine (if_neg w_0).trans ?_
    refine (if_neg w_1).trans ?_
    refine (if_neg w_2).trans ?_
    refine (if_neg w_3).trans ?_
    refine (zLet_eq (show fn225 [9 * ρ 4 + 6, ρ 36] (γ 1) = (0, 1, γ 2) from l0.symm)).trans ?_
    refine (zLet_eq (show _ = γ 2 from rfl)).trans ?_
    refine (if_pos zQ1_).trans ?_
    refine (zLet_eq (show fn232 [9 * ρ 4 + 6, ρ 36] (γ 2) = (4, 0, γ 3) from l1.symm)).trans ?_
    refine (zLet_eq (show _ = γ 3 from rfl)).trans ?_
    refine (if_neg (show ¬ (4 : Nat) = 0 by decide)).trans ?_
    rfl
  exact zGoo_aend hJ hD
theorem yn250 {S : Nat → zSpc} (hS225 : ∀ x g o v gz, S 225 x g o v gz → sn225 x g o v gz) (hS226 : ∀ x g o v gz, S 226 x g o v gz → sn226 x g o v gz) (hS227 : ∀ x g o v gz, S 227 x g o v gz → sn227 x g o v gz) (hS232 : ∀ x g o v gz, S 232 x g o v gz → sn232 x g o v gz) (hS249 : ∀ x g o v gz, S 249 x g o v gz → sn249 x g o v gz) : ∀ x g o v gz, zSem uW uT w250_.2.2.2.1 w250_.2.2.1.1.length S q250 (fun i => q250a.getD i []) (zNA a250_) x g o v gz → sn250 x g o v gz := by
  intro a g o v gz h
  exact zSem_all (l0 := q250) (las := q250a) (S := S) (J := (fun i vs g1 => jn250 a g i vs g1)) (P := sn250 a g) (fun _ => (show zAll _ [q250_0, q250_1, q250_2, q250_3] from (zAll_c (vn250_0 hS225 hS226 hS227 hS232 hS249) (zAll_c (vn250_1 hS225 hS226 hS227 hS232 hS249) (zAll_c (vn250_2 hS225 hS226 hS227 hS232 hS249) (zAll_c (vn250_3 hS225 hS226 hS227 hS232 hS249) zAll_n)))))) (fun _ => (show zAllI _ 0 [q250a0] from ⟨(show zAll _ [q250a0_0, q250a0_1, q250a0_2, q250a0_3, q250a0_4, q250a0_5, q250a0_6, q250a0_7, q250a0_8, q250a0_9, q250a0_10, q250a0_11] from (zAll_c (vn250a0_0 hS225 hS226 hS227 hS232 hS249) (zAll_c (vn250a0_1 hS225 hS226 hS227 hS232 hS249) (zAll_c (vn250a0_2 hS225 hS226 hS227 hS232 hS249) (zAll_c (vn250a0_3 hS225 hS226 hS227 hS232 hS249) (zAll_c (vn250a0_4 hS225 hS226 hS227 hS232 hS249) (zAll_c (vn250a0_5 hS225 hS226 hS227 hS232 hS249) (zAll_c (vn250a0_6 hS225 hS226 hS227 hS232 hS249) (zAll_c (vn250a0_7 hS225 hS226 hS227 hS232 hS249) (zAll_c (vn250a0_8 hS225 hS226 hS227 hS232 hS249) (zAll_c (vn250a0_9 hS225 hS226 hS227 hS232 hS249) (zAll_c (vn250a0_10 hS225 hS226 hS227 hS232 hS249) (zAll_c (vn250a0_11 hS225 hS226 hS227 hS232 hS249) zAll_n))))))))))))), trivial⟩)) h
theorem vn251_0 {S : Nat → zSpc} (hS132 : ∀ x g o v gz, S 132 x g o v gz → sn132 x g o v gz) (hS228 : ∀ x g o v gz, S 228 x g o v gz → sn228 x g o v gz) (hS229 : ∀ x g o v gz, S 229 x g o v gz → sn229 x g o v gz) (hS230 : ∀ x g o v gz, S 230 x g o v gz → sn230 x g o v gz) (hS231 : ∀ x g o v gz, S 231 x g o v gz → sn231 x g o v gz) (hS244 : ∀ x g o v gz, S 244 x g o v gz → sn244 x g o v gz) (hS249 : ∀ x g o v gz, S 249 x g o v gz → sn249 x g o v gz) (hS250 : ∀ x g o v gz, S 250 x g o v gz → sn250 x g o v gz) {a : List Int} {g : rHp} : ∀ (ρ : Nat → Int) (γ : Nat → rHp), zO 37 S a g q251_0 ρ γ → zGl (fun _ _ _ => True) (sn251 a g) q251_0 ρ γ := by
  intro ρ γ h
  obtain ⟨ha, hg, hr, hf, hm, hc, hl⟩ := h
  have ha : a = [ρ 0, ρ 1, ρ 2, ρ 3, ρ 4, ρ 5, ρ 6, ρ 7, ρ 8, ρ 9, ρ 10, ρ 11, ρ 12, ρ 13, ρ 14, ρ 15, ρ 16, ρ 17, ρ 18, ρ 19, ρ 20, ρ 21, ρ 22, ρ 23, ρ 24, ρ 25, ρ 26, ρ 27, ρ 28, ρ 29, ρ 30, ρ 31, ρ 32, ρ 33, ρ 34, ρ 35, ρ 36] := ha
  subst ha
  subst hg
  obtain ⟨-, -, -, -, -, -, -, -, -, -, -, -, -, r13, -⟩ := hr
  have r13 : (0 : Int) ≤ ρ 13 ∧ ρ 13 ≤ 5 := r13
  have w_0 : 5 ≥ ρ 13 := by omega
  obtain ⟨-, -, -, -, m4, -, -, -, -, -, -, -, -, m13, -, -, -, -, -, m19, -⟩ := hm
  have m4 : γ 0 6 0 7 = ρ 4 := m4
  have m13 : γ 0 9 (ρ 4) 2 = ρ 13 := m13
  have m19 : γ 0 10 (9 * ρ 4 + 6) 4 = ρ 19 := m19
  obtain ⟨l0, -⟩ := hl
  have l0 : sn244 [ρ 0, ρ 1, ρ 2, ρ 3, ρ 4, ρ 6, ρ 7, ρ 8, ρ 9, ρ 14, ρ 15, ρ 16, ρ 17, ρ 18] (γ 0) 0 0 (γ 1) := hS244 _ _ _ _ _ l0
  show sn251 [ρ 0, ρ 1, ρ 2, ρ 3, ρ 4, ρ 5, ρ 6, ρ 7, ρ 8, ρ 9, ρ 10, ρ 11, ρ 12, ρ 13, ρ 14, ρ 15, ρ 16, ρ 17, ρ 18, ρ 19, ρ 20, ρ 21, ρ 22, ρ 23, ρ 24, ρ 25, ρ 26, ρ 27, ρ 28, ρ 29, ρ 30, ρ 31, ρ 32, ρ 33, ρ 34, ρ 35, ρ 36] (γ 0) 0 0 (γ 1)
  refine Eq.symm ?_
  show fn251 [] (γ 0) = _
  unfold fn251
  refine (zLet_eq m4).trans ?_
  refine (zLet_eq m13).trans ?_
  refine (zLet_eq m19).trans ?_
  refine (if_pos w_0).trans ?_
  refine (zLet_eq (show fn244 [] (γ 0) = (0, 0, γ 1) from l0.symm)).trans ?_
  refine (zLet_eq (show _ = γ 1 from rfl)).trans ?_
  refine (if_pos (show (0 : Nat) = 0 by decide)).trans ?_
  rfl
theorem vn251_1 {S : Nat → zSpc} (hS132 : ∀ x g o v gz, S 132 x g o v gz → sn132 x g o v gz) (hS228 : ∀ x g o v gz, S 228 x g o v gz → sn228 x g o v gz) (hS229 : ∀ x g o v gz, S 229 x g o v gz → sn229 x g o v gz) (hS230 : ∀ x g o v gz, S 230 x g o v gz → sn230 x g o v gz) (hS231 : ∀ x g o v gz, S 231 x g o v gz → sn231 x g o v gz) (hS244 : ∀ x g o v gz, S 244 x g o v gz → sn244 x g o v gz) (hS249 : ∀ x g o v gz, S 249 x g o v gz → sn249 x g o v gz) (hS250 : ∀ x g o v gz, S 250 x g o v gz → sn250 x g o v gz) {a : List Int} {g : rHp} : ∀ (ρ : Nat → Int) (γ : Nat → rHp), zO 37 S a g q251_1 ρ γ → zGl (fun _ _ _ => True) (sn251 a g) q251_1 ρ γ := by
  intro ρ γ h
  obtain ⟨ha, hg, hr, hf, hm, hc, hl⟩ := h
  have ha : a = [ρ 0, ρ 1, ρ 2, ρ 3, ρ 4, ρ 5, ρ 6, ρ 7, ρ 8, ρ 9, ρ 10, ρ 11, ρ 12, ρ 13, ρ 14, ρ 15, ρ 16, ρ 17, ρ 18, ρ 19, ρ 20, ρ 21, ρ 22, ρ 23, ρ 24, ρ 25, ρ 26, ρ 27, ρ 28, ρ 29, ρ 30, ρ 31, ρ 32, ρ 33, ρ 34, ρ 35, ρ 36] := ha
  subst ha
  subst hg
  obtain ⟨-, -, -, -, -, -, -, -, -, -, -, -, -, r13, -⟩ := hr
  have r13 : (0 : Int) ≤ ρ 13 ∧ ρ 13 ≤ 5 := r13
  have w_0 : 5 ≥ ρ 13 := by omega
  obtain ⟨-, -, -, -, m4, -, -, -, -, -, -, -, -, m13, -, -, -, -, -, m19, -⟩ := hm
  have m4 : γ 0 6 0 7 = ρ 4 := m4
  have m13 : γ 0 9 (ρ 4) 2 = ρ 13 := m13
  have m19 : γ 0 10 (9 * ρ 4 + 6) 4 = ρ 19 := m19
  obtain ⟨l0, -⟩ := hl
  have l0 : sn244 [ρ 0, ρ 1, ρ 2, ρ 3, ρ 4, ρ 6, ρ 7, ρ 8, ρ 9, ρ 14, ρ 15, ρ 16, ρ 17, ρ 18] (γ 0) 1 0 (γ 1) := hS244 _ _ _ _ _ l0
  show sn251 [ρ 0, ρ 1, ρ 2, ρ 3, ρ 4, ρ 5, ρ 6, ρ 7, ρ 8, ρ 9, ρ 10, ρ 11, ρ 12, ρ 13, ρ 14, ρ 15, ρ 16, ρ 17, ρ 18, ρ 19, ρ 20, ρ 21, ρ 22, ρ 23, ρ 24, ρ 25, ρ 26, ρ 27, ρ 28, ρ 29, ρ 30, ρ 31, ρ 32, ρ 33, ρ 34, ρ 35, ρ 36] (γ 0) 1 0 (γ 1)
  refine Eq.symm ?_
  show fn251 [] (γ 0) = _
  unfold fn251
  refine (zLet_eq m4).trans ?_
  refine (zLet_eq m13).trans ?_
  refine (zLet_eq m19).trans ?_
  refine (if_pos w_0).trans ?_
  refine (zLet_eq (show fn244 [] (γ 0) = (1, 0, γ 1) from l0.symm)).trans ?_
  refine (zLet_eq (show _ = γ 1 from rfl)).trans ?_
  refine (if_neg (show ¬ (1 : Nat) = 0 by decide)).trans ?_
  rfl
theorem vn251_2 {S : Nat → zSpc} (hS132 : ∀ x g o v gz, S 132 x g o v gz → sn132 x g o v gz) (hS228 : ∀ x g o v gz, S 228 x g o v gz → sn228 x g o v gz) (hS229 : ∀ x g o v gz, S 229 x g o v gz → sn229 x g o v gz) (hS230 : ∀ x g o v gz, S 230 x g o v gz → sn230 x g o v gz) (hS231 : ∀ x g o v gz, S 231 x g o v gz → sn231 x g o v gz) (hS244 : ∀ x g o v gz, S 244 x g o v gz → sn244 x g o v gz) (hS249 : ∀ x g o v gz, S 249 x g o v gz → sn249 x g o v gz) (hS250 : ∀ x g o v gz, S 250 x g o v gz → sn250 x g o v gz) {a : List Int} {g : rHp} : ∀ (ρ : Nat → Int) (γ : Nat → rHp), zO 37 S a g q251_2 ρ γ → zGl (fun _ _ _ => True) (sn251 a g) q251_2 ρ γ := by
  intro ρ γ h
  obtain ⟨ha, hg, hr, hf, hm, hc, hl⟩ := h
  have ha : a = [ρ 0, ρ 1, ρ 2, ρ 3, ρ 4, ρ 5, ρ 6, ρ 7, ρ 8, ρ 9, ρ 10, ρ 11, ρ 12, ρ 13, ρ 14, ρ 15, ρ 16, ρ 17, ρ 18, ρ 19, ρ 20, ρ 21, ρ 22, ρ 23, ρ 24, ρ 25, ρ 26, ρ 27, ρ 28, ρ 29, ρ 30, ρ 31, ρ 32, ρ 33, ρ 34, ρ 35, ρ 36] := ha
  subst ha
  subst hg
  obtain ⟨-, -, -, -, -, -, -, -, -, -, -, -, -, r13, -, -, -, -, -, r19, -⟩ := hr
  have r13 : (6 : Int) ≤ ρ 13 ∧ ρ 13 ≤ 8 := r13
  have r19 : (3 : Int) ≤ ρ 19 ∧ ρ 19 ≤ 3 := r19
  obtain ⟨w_0, w_1, w_2, w_3⟩ : (¬ (5 ≥ ρ 13)) ∧ (ρ 19 ≠ 1) ∧ (0 ≤ -ρ 19 + 3) ∧ (ρ 19 ≠ 2) := ⟨by omega, by omega, by omega, by omega⟩
  obtain ⟨-, -, -, -, m4, -, -, -, -, -, -, -, -, m13, -, -, -, -, -, m19, -⟩ := hm
  have m4 : γ 0 6 0 7 = ρ 4 := m4
  have m13 : γ 0 9 (ρ 4) 2 = ρ 13 := m13
  have m19 : γ 0 10 (9 * ρ 4 + 6) 4 = ρ 19 := m19
  obtain ⟨l0, l1, -⟩ := hl
  have l0 : sn132 [ρ 4, 5] (γ 0) 0 (9 * ρ 4 + 6) (γ 1) := hS132 _ _ _ _ _ l0
  have l1 : sn230 [9 * ρ 4 + 6, ρ 19] (γ 1) 0 0 (γ 2) := hS230 _ _ _ _ _ l1
  show sn251 [ρ 0, ρ 1, ρ 2, ρ 3, ρ 4, ρ 5, ρ 6, ρ 7, ρ 8, ρ 9, ρ 10, ρ 11, ρ 12, ρ 13, ρ 14, ρ 15, ρ 16, ρ 17, ρ 18, ρ 19, ρ 20, ρ 21, ρ 22, ρ 23, ρ 24, ρ 25, ρ 26, ρ 27, ρ 28, ρ 29, ρ 30, ρ 31, ρ 32, ρ 33, ρ 34, ρ 35, ρ 36] (γ 0) 0 0 (γ 2)
  refine Eq.symm ?_
  show fn251 [] (γ 0) = _
  unfold fn251
  refine (zLet_eq m4).trans ?_
  refine (zLet_eq m13).trans ?_
  refine (zLet_eq m19).trans ?_
  refine (if_neg w_0).trans ?_
  refine (zLet_eq (show fn132 [ρ 4, 5] (γ 0) = (0, 9 * ρ 4 + 6, γ 1) from l0.symm)).trans ?_
  refine (zLet_eq (show _ = γ 1 from rfl)).trans ?_
  refine (if_pos w_1).trans ?_
  refine (if_pos w_2).trans ?_
  refine (if_pos w_3).trans ?_
  refine (zLet_eq (show fn230 [9 * ρ 4 + 6] (γ 1) = (0, 0, γ 2) from l1.symm)).trans ?_
  refine (zLet_eq (show _ = γ 2 from rfl)).trans ?_
  refine (if_neg zQ0_).trans ?_
  rfl
theorem vn251_3 {S : Nat → zSpc} (hS132 : ∀ x g o v gz, S 132 x g o v gz → sn132 x g o v gz) (hS228 : ∀ x g o v gz, S 228 x g o v gz → sn228 x g o v gz) (hS229 : ∀ x g o v gz, S 229 x g o v gz → sn229 x g o v gz) (hS230 : ∀ x g o v gz, S 230 x g o v gz → sn230 x g o v gz) (hS231 : ∀ x g o v gz, S 231 x g o v gz → sn231 x g o v gz) (hS244 : ∀ x g o v gz, S 244 x g o v gz → sn244 x g o v gz) (hS249 : ∀ x g o v gz, S 249 x g o v gz → sn249 x g o v gz) (hS250 : ∀ x g o v gz, S 250 x g o v gz → sn250 x g o v gz) {a : List Int} {g : rHp} : ∀ (ρ : Nat → Int) (γ : Nat → rHp), zO 37 S a g q251_3 ρ γ → zGl (fun _ _ _ => True) (sn251 a g) q251_3 ρ γ := by
  intro ρ γ h
  obtain ⟨ha, hg, hr, hf, hm, hc, hl⟩ := h
  have ha : a = [ρ 0, ρ 1, ρ 2, ρ 3, ρ 4, ρ 5, ρ 6, ρ 7, ρ 8, ρ 9, ρ 10, ρ 11, ρ 12, ρ 13, ρ 14, ρ 15, ρ 16, ρ 17, ρ 18, ρ 19, ρ 20, ρ 21, ρ 22, ρ 23, ρ 24, ρ 25, ρ 26, ρ 27, ρ 28, ρ 29, ρ 30, ρ 31, ρ 32, ρ 33, ρ 34, ρ 35, ρ 36] := ha
  subst ha
  subst hg
  obtain ⟨-, -, -, -, -, -, -, -, -, -, -, -, -, r13, -, -, -, -, -, r19, -⟩ := hr
  have r13 : (6 : Int) ≤ ρ 13 ∧ ρ 13 ≤ 8 := r13
  have r19 : (3 : Int) ≤ ρ 19 ∧ ρ 19 ≤ 3 := r19
  obtain ⟨w_0, w_1, w_2, w_3⟩ : (¬ (5 ≥ ρ 13)) ∧ (ρ 19 ≠ 1) ∧ (0 ≤ -ρ 19 + 3) ∧ (ρ 19 ≠ 2) := ⟨by omega, by omega, by omega, by omega⟩
  obtain ⟨-, -, -, -, m4, -, -, -, -, -, -, -, -, m13, -, -, -, -, -, m19, -⟩ := hm
  have m4 : γ 0 6 0 7 = ρ 4 := m4
  have m13 : γ 0 9 (ρ 4) 2 = ρ 13 := m13
  have m19 : γ 0 10 (9 * ρ 4 + 6) 4 = ρ 19 := m19
  obtain ⟨l0, l1, l2, -⟩ := hl
  have l0 : sn132 [ρ 4, 5] (γ 0) 0 (9 * ρ 4 + 6) (γ 1) := hS132 _ _ _ _ _ l0
  have l1 : sn230 [9 * ρ 4 + 6, ρ 19] (γ 1) 0 1 (γ 2) := hS230 _ _ _ _ _ l1
  have l2 : sn249 [ρ 0, ρ 1, ρ 2, ρ 3, ρ 4, ρ 5, ρ 6, ρ 7, ρ 8, ρ 9, ρ 10, ρ 11, ρ 12, ρ 13, ρ 14, ρ 15, ρ 16, ρ 17, ρ 18, ρ 25, ρ 26, ρ 27, ρ 28, ρ 29, ρ 30, ρ 31, ρ 32, ρ 33, ρ 34, ρ 35, ρ 36] (γ 2) 0 0 (γ 3) := hS249 _ _ _ _ _ l2
  show sn251 [ρ 0, ρ 1, ρ 2, ρ 3, ρ 4, ρ 5, ρ 6, ρ 7, ρ 8, ρ 9, ρ 10, ρ 11, ρ 12, ρ 13, ρ 14, ρ 15, ρ 16, ρ 17, ρ 18, ρ 19, ρ 20, ρ 21, ρ 22, ρ 23, ρ 24, ρ 25, ρ 26, ρ 27, ρ 28, ρ 29, ρ 30, ρ 31, ρ 32, ρ 33, ρ 34, ρ 35, ρ 36] (γ 0) 0 0 (γ 3)
  refine Eq.symm ?_
  show fn251 [] (γ 0) = _
  unfold fn251
  refine (zLet_eq m4).trans ?_
  refine (zLet_eq m13).trans ?_
  refine (zLet_eq m19).trans ?_
  refine (if_neg w_0).trans ?_
  refine (zLet_eq (show fn132 [ρ 4, 5] (γ 0) = (0, 9 * ρ 4 + 6, γ 1) from l0.symm)).trans ?_
  refine (zLet_eq (show _ = γ 1 from rfl)).trans ?_
  refine (if_pos w_1).trans ?_
  refine (if_pos w_2).trans ?_
  refine (if_pos w_3).trans ?_
  refine (zLet_eq (show fn230 [9 * ρ 4 + 6] (γ 1) = (0, 1, γ 2) from l1.symm)).trans ?_
  refine (zLet_eq (show _ = γ 2 from rfl)).trans ?_
  refine (if_pos zQ1_).trans ?_
  refine (zLet_eq (show fn249 [] (γ 2) = (0, 0, γ 3) from l2.symm)).trans ?_
  refine (zLet_eq (show _ = γ 3 from rfl)).trans ?_
  refine (if_pos (show (0 : Nat) = 0 by decide)).trans ?_
  rfl
theorem vn251_4 {S : Nat → zSpc} (hS132 : ∀ x g o v gz, S 132 x g o v gz → sn132 x g o v gz) (hS228 : ∀ x g o v gz, S 228 x g o v gz → sn228 x g o v gz) (hS229 : ∀ x g o v gz, S 229 x g o v gz → sn229 x g o v gz) (hS230 : ∀ x g o v gz, S 230 x g o v gz → sn230 x g o v gz) (hS231 : ∀ x g o v gz, S 231 x g o v gz → sn231 x g o v gz) (hS244 : ∀ x g o v gz, S 244 x g o v gz → sn244 x g o v gz) (hS249 : ∀ x g o v gz, S 249 x g o v gz → sn249 x g o v gz) (hS250 : ∀ x g o v gz, S 250 x g o v gz → sn250 x g o v gz) {a : List Int} {g : rHp} : ∀ (ρ : Nat → Int) (γ : Nat → rHp), zO 37 S a g q251_4 ρ γ → zGl (fun _ _ _ => True) (sn251 a g) q251_4 ρ γ := by
  intro ρ γ h
  obtain ⟨ha, hg, hr, hf, hm, hc, hl⟩ := h
  have ha : a = [ρ 0, ρ 1, ρ 2, ρ 3, ρ 4, ρ 5, ρ 6, ρ 7, ρ 8, ρ 9, ρ 10, ρ 11, ρ 12, ρ 13, ρ 14, ρ 15, ρ 16, ρ 17, ρ 18, ρ 19, ρ 20, ρ 21, ρ 22, ρ 23, ρ 24, ρ 25, ρ 26, ρ 27, ρ 28, ρ 29, ρ 30, ρ 31, ρ 32, ρ 33, ρ 34, ρ 35, ρ 36] := ha
  subst ha
  subst hg
  obtain ⟨-, -, -, -, -, -, -, -, -, -, -, -, -, r13, -, -, -, -, -, r19, -⟩ := hr
  have r13 : (6 : Int) ≤ ρ 13 ∧ ρ 13 ≤ 8 := r13
  have r19 : (3 : Int) ≤ ρ 19 ∧ ρ 19 ≤ 3 := r19
  obtain ⟨w_0, w_1, w_2, w_3⟩ : (¬ (5 ≥ ρ 13)) ∧ (ρ 19 ≠ 1) ∧ (0 ≤ -ρ 19 + 3) ∧ (ρ 19 ≠ 2) := ⟨by omega, by omega, by omega, by omega⟩
  obtain ⟨-, -, -, -, m4, -, -, -, -, -, -, -, -, m13, -, -, -, -, -, m19, -⟩ := hm
  have m4 : γ 0 6 0 7 = ρ 4 := m4
  have m13 : γ 0 9 (ρ 4) 2 = ρ 13 := m13
  have m19 : γ 0 10 (9 * ρ 4 + 6) 4 = ρ 19 := m19
  obtain ⟨l0, l1, l2, -⟩ := hl
  have l0 : sn132 [ρ 4, 5] (γ 0) 0 (9 * ρ 4 + 6) (γ 1) := hS132 _ _ _ _ _ l0
  have l1 : sn230 [9 * ρ 4 + 6, ρ 19] (γ 1) 0 1 (γ 2) := hS230 _ _ _ _ _ l1
  have l2 : sn249 [ρ 0, ρ 1, ρ 2, ρ 3, ρ 4, ρ 5, ρ 6, ρ 7, ρ 8, ρ 9, ρ 10, ρ 11, ρ 12, ρ 13, ρ 14, ρ 15, ρ 16, ρ 17, ρ 18, ρ 25, ρ 26, ρ 27, ρ 28, ρ 29, ρ 30, ρ 31, ρ 32, ρ 33, ρ 34, ρ 35, ρ 36] (γ 2) 1 0 (γ 3) := hS249 _ _ _ _ _ l2
  show sn251 [ρ 0, ρ 1, ρ 2, ρ 3, ρ 4, ρ 5, ρ 6, ρ 7, ρ 8, ρ 9, ρ 10, ρ 11, ρ 12, ρ 13, ρ 14, ρ 15, ρ 16, ρ 17, ρ 18, ρ 19, ρ 20, ρ 21, ρ 22, ρ 23, ρ 24, ρ 25, ρ 26, ρ 27, ρ 28, ρ 29, ρ 30, ρ 31, ρ 32, ρ 33, ρ 34, ρ 35, ρ 36] (γ 0) 1 0 (γ 3)
  refine Eq.symm ?_
  show fn251 [] (γ 0) = _
  unfold fn251
  refine (zLet_eq m4).trans ?_
  refine (zLet_eq m13).trans ?_
  refine (zLet_eq m19).trans ?_
  refine (if_neg w_0).trans ?_
  refine (zLet_eq (show fn132 [ρ 4, 5] (γ 0) = (0, 9 * ρ 4 + 6, γ 1) from l0.symm)).trans ?_
  refine (zLet_eq (show _ = γ 1 from rfl)).trans ?_
  refine (if_pos w_1).trans ?_
  refine (if_pos w_2).trans ?_
  refine (if_pos w_3).trans ?_
  refine (zLet_eq (show fn230 [9 * ρ 4 + 6] (γ 1) = (0, 1, γ 2) from l1.symm)).trans ?_
  refine (zLet_eq (show _ = γ 2 from rfl)).trans ?_
  refine (if_pos zQ1_).trans ?_
  refine (zLet_eq (show fn249 [] (γ 2) = (1, 0, γ 3) from l2.symm)).trans ?_
  refine (zLet_eq (show _ = γ 3 from rfl)).trans ?_
  refine (if_neg (show ¬ (1 : Nat) = 0 by decide)).trans ?_
  refine (if_pos (show (1 : Nat) = 1 by decide)).trans ?_
  rfl
theorem vn251_5 {S : Nat → zSpc} (hS132 : ∀ x g o v gz, S 132 x g o v gz → sn132 x g o v gz) (hS228 : ∀ x g o v gz, S 228 x g o v gz → sn228 x g o v gz) (hS229 : ∀ x g o v gz, S 229 x g o v gz → sn229 x g o v gz) (hS230 : ∀ x g o v gz, S 230 x g o v gz → sn230 x g o v gz) (hS231 : ∀ x g o v gz, S 231 x g o v gz → sn231 x g o v gz) (hS244 : ∀ x g o v gz, S 244 x g o v gz → sn244 x g o v gz) (hS249 : ∀ x g o v gz, S 249 x g o v gz → sn249 x g o v gz) (hS250 : ∀ x g o v gz, S 250 x g o v gz → sn250 x g o v gz) {a : List Int} {g : rHp} : ∀ (ρ : Nat → Int) (γ : Nat → rHp), zO 37 S a g q251_5 ρ γ → zGl (fun _ _ _ => True) (sn251 a g) q251_5 ρ γ := by
  intro ρ γ h
  obtain ⟨ha, hg, hr, hf, hm, hc, hl⟩ := h
  have ha : a = [ρ 0, ρ 1, ρ 2, ρ 3, ρ 4, ρ 5, ρ 6, ρ 7, ρ 8, ρ 9, ρ 10, ρ 11, ρ 12, ρ 13, ρ 14, ρ 15, ρ 16, ρ 17, ρ 18, ρ 19, ρ 20, ρ 21, ρ 22, ρ 23, ρ 24, ρ 25, ρ 26, ρ 27, ρ 28, ρ 29, ρ 30, ρ 31, ρ 32, ρ 33, ρ 34, ρ 35, ρ 36] := ha
  subst ha
  subst hg
  obtain ⟨-, -, -, -, -, -, -, -, -, -, -, -, -, r13, -, -, -, -, -, r19, -⟩ := hr
  have r13 : (7 : Int) ≤ ρ 13 ∧ ρ 13 ≤ 8 := r13
  have r19 : (3 : Int) ≤ ρ 19 ∧ ρ 19 ≤ 3 := r19
  obtain ⟨w_0, w_1, w_2, w_3⟩ : (¬ (5 ≥ ρ 13)) ∧ (ρ 19 ≠ 1) ∧ (0 ≤ -ρ 19 + 3) ∧ (ρ 19 ≠ 2) := ⟨by omega, by omega, by omega, by omega⟩
  obtain ⟨-, -, -, -, m4, -, -, -, -, -, -, -, -, m13, -, -, -, -, -, m19, -⟩ := hm
  have m4 : γ 0 6 0 7 = ρ 4 := m4
  have m13 : γ 0 9 (ρ 4) 2 = ρ 13 := m13
  have m19 : γ 0 10 (9 * ρ 4 + 6) 4 = ρ 19 := m19
  obtain ⟨l0, l1, l2, -⟩ := hl
  have l0 : sn132 [ρ 4, 5] (γ 0) 0 (9 * ρ 4 + 6) (γ 1) := hS132 _ _ _ _ _ l0
  have l1 : sn230 [9 * ρ 4 + 6, ρ 19] (γ 1) 0 1 (γ 2) := hS230 _ _ _ _ _ l1
  have l2 : sn249 [ρ 0, ρ 1, ρ 2, ρ 3, ρ 4, ρ 5, ρ 6, ρ 7, ρ 8, ρ 9, ρ 10, ρ 11, ρ 12, ρ 13, ρ 14, ρ 15, ρ 16, ρ 17, ρ 18, ρ 25, ρ 26, ρ 27, ρ 28, ρ 29, ρ 30, ρ 31, ρ 32, ρ 33, ρ 34, ρ 35, ρ 36] (γ 2) 4 0 (γ 3) := hS249 _ _ _ _ _ l2
  show sn251 [ρ 0, ρ 1, ρ 2, ρ 3, ρ 4, ρ 5, ρ 6, ρ 7, ρ 8, ρ 9, ρ 10, ρ 11, ρ 12, ρ 13, ρ 14, ρ 15, ρ 16, ρ 17, ρ 18, ρ 19, ρ 20, ρ 21, ρ 22, ρ 23, ρ 24, ρ 25, ρ 26, ρ 27, ρ 28, ρ 29, ρ 30, ρ 31, ρ 32, ρ 33, ρ 34, ρ 35, ρ 36] (γ 0) 4 0 (γ 3)
  refine Eq.symm ?_
  show fn251 [] (γ 0) = _
  unfold fn251
  refine (zLet_eq m4).trans ?_
  refine (zLet_eq m13).trans ?_
  refine (zLet_eq m19).trans ?_
  refine (if_neg w_0).trans ?_
  refine (zLet_eq (show fn132 [ρ 4, 5] (γ 0) = (0, 9 * ρ 4 + 6, γ 1) from l0.symm)).trans ?_
  refine (zLet_eq (show _ = γ 1 from rfl)).trans ?_
  refine (if_pos w_1).trans ?_
  refine (if_pos w_2).trans ?_
  refine (if_pos w_3).trans ?_
  refine (zLet_eq (show fn230 [9 * ρ 4 + 6] (γ 1) = (0, 1, γ 2) from l1.symm)).trans ?_
  refine (zLet_eq (show _ = γ 2 from rfl)).trans ?_
  refine (if_pos zQ1_).trans ?_
  refine (zLet_eq (show fn249 [] (γ 2) = (4, 0, γ 3) from l2.symm)).trans ?_
  refine (zLet_eq (show _ = γ 3 from rfl)).trans ?_
  refine (if_neg (show ¬ (4 : Nat) = 0 by decide)).trans ?_
  refine (if_neg (show ¬ (4 : Nat) = 1 by decide)).trans ?_
  rfl
theorem vn251_6 {S : Nat → zSpc} (hS132 : ∀ x g o v gz, S 132 x g o v gz → sn132 x g o v gz) (hS228 : ∀ x g o v gz, S 228 x g o v gz → sn228 x g o v gz) (hS229 : ∀ x g o v gz, S 229 x g o v gz → sn229 x g o v gz) (hS230 : ∀ x g o v gz, S 230 x g o v gz → sn230 x g o v gz) (hS231 : ∀ x g o v gz, S 231 x g o v gz → sn231 x g o v gz) (hS244 : ∀ x g o v gz, S 244 x g o v gz → sn244 x g o v gz) (hS249 : ∀ x g o v gz, S 249 x g o v gz → sn249 x g o v gz) (hS250 : ∀ x g o v gz, S 250 x g o v gz → sn250 x g o v gz) {a : List Int} {g : rHp} : ∀ (ρ : Nat → Int) (γ : Nat → rHp), zO 37 S a g q251_6 ρ γ → zGl (fun _ _ _ => True) (sn251 a g) q251_6 ρ γ := by
  intro ρ γ h
  obtain ⟨ha, hg, hr, hf, hm, hc, hl⟩ := h
  have ha : a = [ρ 0, ρ 1, ρ 2, ρ 3, ρ 4, ρ 5, ρ 6, ρ 7, ρ 8, ρ 9, ρ 10, ρ 11, ρ 12, ρ 13, ρ 14, ρ 15, ρ 16, ρ 17, ρ 18, ρ 19, ρ 20, ρ 21, ρ 22, ρ 23, ρ 24, ρ 25, ρ 26, ρ 27, ρ 28, ρ 29, ρ 30, ρ 31, ρ 32, ρ 33, ρ 34, ρ 35, ρ 36] := ha
  subst ha
  subst hg
  obtain ⟨-, -, -, -, -, -, -, -, -, -, -, -, -, r13, -, -, -, -, -, r19, -⟩ := hr
  have r13 : (6 : Int) ≤ ρ 13 ∧ ρ 13 ≤ 8 := r13
  have r19 : (2 : Int) ≤ ρ 19 ∧ ρ 19 ≤ 2 := r19
  obtain ⟨w_0, w_1, w_2, w_3⟩ : (¬ (5 ≥ ρ 13)) ∧ (ρ 19 ≠ 1) ∧ (0 ≤ -ρ 19 + 3) ∧ (¬ (ρ 19 ≠ 2)) := ⟨by omega, by omega, by omega, by omega⟩
  obtain ⟨-, -, -, -, m4, -, -, -, -, -, -, -, -, m13, -, -, -, -, -, m19, -⟩ := hm
  have m4 : γ 0 6 0 7 = ρ 4 := m4
  have m13 : γ 0 9 (ρ 4) 2 = ρ 13 := m13
  have m19 : γ 0 10 (9 * ρ 4 + 6) 4 = ρ 19 := m19
  obtain ⟨l0, l1, l2, -⟩ := hl
  have l0 : sn132 [ρ 4, 5] (γ 0) 0 (9 * ρ 4 + 6) (γ 1) := hS132 _ _ _ _ _ l0
  have l1 : sn228 [9 * ρ 4 + 6, ρ 6, ρ 10, ρ 20, ρ 21, ρ 22] (γ 1) 0 0 (γ 2) := hS228 _ _ _ _ _ l1
  have l2 : sn249 [ρ 0, ρ 1, ρ 2, ρ 3, ρ 4, ρ 5, ρ 6, ρ 7, ρ 8, ρ 9, ρ 10, ρ 11, ρ 12, ρ 13, ρ 14, ρ 15, ρ 16, ρ 17, ρ 18, ρ 25, ρ 26, ρ 27, ρ 28, ρ 29, ρ 30, ρ 31, ρ 32, ρ 33, ρ 34, ρ 35, ρ 36] (γ 2) 0 0 (γ 3) := hS249 _ _ _ _ _ l2
  show sn251 [ρ 0, ρ 1, ρ 2, ρ 3, ρ 4, ρ 5, ρ 6, ρ 7, ρ 8, ρ 9, ρ 10, ρ 11, ρ 12, ρ 13, ρ 14, ρ 15, ρ 16, ρ 17, ρ 18, ρ 19, ρ 20, ρ 21, ρ 22, ρ 23, ρ 24, ρ 25, ρ 26, ρ 27, ρ 28, ρ 29, ρ 30, ρ 31, ρ 32, ρ 33, ρ 34, ρ 35, ρ 36] (γ 0) 0 0 (γ 3)
  refine Eq.symm ?_
  show fn251 [] (γ 0) = _
  unfold fn251
  refine (zLet_eq m4).trans ?_
  refine (zLet_eq m13).trans ?_
  refine (zLet_eq m19).trans ?_
  refine (if_neg w_0).trans ?_
  refine (zLet_eq (show fn132 [ρ 4, 5] (γ 0) = (0, 9 * ρ 4 + 6, γ 1) from l0.symm)).trans ?_
  refine (zLet_eq (show _ = γ 1 from rfl)).trans ?_
  refine (if_pos w_1).trans ?_
  refine (if_pos w_2).trans ?_
  refine (if_neg w_3).trans ?_
  refine (zLet_eq (show fn228 [9 * ρ 4 + 6] (γ 1) = (0, 0, γ 2) from l1.symm)).trans ?_
  refine (zLet_eq (show _ = γ 2 from rfl)).trans ?_
  refine (if_neg zQ0_).trans ?_
  refine (zLet_eq (show fn249 [] (γ 2) = (0, 0, γ 3) from l2.symm)).trans ?_
  refine (zLet_eq (show _ = γ 3 from rfl)).trans ?_
  refine (if_pos (show (0 : Nat) = 0 by decide)).trans ?_
  rfl
theorem vn251_7 {S : Nat → zSpc} (hS132 : ∀ x g o v gz, S 132 x g o v gz → sn132 x g o v gz) (hS228 : ∀ x g o v gz, S 228 x g o v gz → sn228 x g o v gz) (hS229 : ∀ x g o v gz, S 229 x g o v gz → sn229 x g o v gz) (hS230 : ∀ x g o v gz, S 230 x g o v gz → sn230 x g o v gz) (hS231 : ∀ x g o v gz, S 231 x g o v gz → sn231 x g o v gz) (hS244 : ∀ x g o v gz, S 244 x g o v gz → sn244 x g o v gz) (hS249 : ∀ x g o v gz, S 249 x g o v gz → sn249 x g o v gz) (hS250 : ∀ x g o v gz, S 250 x g o v gz → sn250 x g o v gz) {a : List Int} {g : rHp} : ∀ (ρ : Nat → Int) (γ : Nat → rHp), zO 37 S a g q251_7 ρ γ → zGl (fun _ _ _ => True) (sn251 a g) q251_7 ρ γ := by
  intro ρ γ h
  obtain ⟨ha, hg, hr, hf, hm, hc, hl⟩ := h
  have ha : a = [ρ 0, ρ 1, ρ 2, ρ 3, ρ 4, ρ 5, ρ 6, ρ 7, ρ 8, ρ 9, ρ 10, ρ 11, ρ 12, ρ 13, ρ 14, ρ 15, ρ 16, ρ 17, ρ 18, ρ 19, ρ 20, ρ 21, ρ 22, ρ 23, ρ 24, ρ 25, ρ 26, ρ 27, ρ 28, ρ 29, ρ 30, ρ 31, ρ 32, ρ 33, ρ 34, ρ 35, ρ 36] := ha
  subst ha
  subst hg
  obtain ⟨-, -, -, -, -, -, -, -, -, -, -, -, -, r13, -, -, -, -, -, r19, -⟩ := hr
  have r13 : (6 : Int) ≤ ρ 13 ∧ ρ 13 ≤ 8 := r13
  have r19 : (2 : Int) ≤ ρ 19 ∧ ρ 19 ≤ 2 := r19
  obtain ⟨w_0, w_1, w_2, w_3⟩ : (¬ (5 ≥ ρ 13)) ∧ (ρ 19 ≠ 1) ∧ (0 ≤ -ρ 19 + 3) ∧ (¬ (ρ 19 ≠ 2)) := ⟨by omega, by omega, by omega, by omega⟩
  obtain ⟨-, -, -, -, m4, -, -, -, -, -, -, -, -, m13, -, -, -, -, -, m19, -⟩ := hm
  have m4 : γ 0 6 0 7 = ρ 4 := m4
  have m13 : γ 0 9 (ρ 4) 2 = ρ 13 := m13
  have m19 : γ 0 10 (9 * ρ 4 + 6) 4 = ρ 19 := m19
  obtain ⟨l0, l1, l2, -⟩ := hl
  have l0 : sn132 [ρ 4, 5] (γ 0) 0 (9 * ρ 4 + 6) (γ 1) := hS132 _ _ _ _ _ l0
  have l1 : sn228 [9 * ρ 4 + 6, ρ 6, ρ 10, ρ 20, ρ 21, ρ 22] (γ 1) 0 0 (γ 2) := hS228 _ _ _ _ _ l1
  have l2 : sn249 [ρ 0, ρ 1, ρ 2, ρ 3, ρ 4, ρ 5, ρ 6, ρ 7, ρ 8, ρ 9, ρ 10, ρ 11, ρ 12, ρ 13, ρ 14, ρ 15, ρ 16, ρ 17, ρ 18, ρ 25, ρ 26, ρ 27, ρ 28, ρ 29, ρ 30, ρ 31, ρ 32, ρ 33, ρ 34, ρ 35, ρ 36] (γ 2) 1 0 (γ 3) := hS249 _ _ _ _ _ l2
  show sn251 [ρ 0, ρ 1, ρ 2, ρ 3, ρ 4, ρ 5, ρ 6, ρ 7, ρ 8, ρ 9, ρ 10, ρ 11, ρ 12, ρ 13, ρ 14, ρ 15, ρ 16, ρ 17, ρ 18, ρ 19, ρ 20, ρ 21, ρ 22, ρ 23, ρ 24, ρ 25, ρ 26, ρ 27, ρ 28, ρ 29, ρ 30, ρ 31, ρ 32, ρ 33, ρ 34, ρ 35, ρ 36] (γ 0) 1 0 (γ 3)
  refine Eq.symm ?_
  show fn251 [] (γ 0) = _
  unfold fn251
  refine (zLet_eq m4).trans ?_
  refine (zLet_eq m13).trans ?_
  refine (zLet_eq m19).trans ?_
  refine (if_neg w_0).trans ?_
  refine (zLet_eq (show fn132 [ρ 4, 5] (γ 0) = (0, 9 * ρ 4 + 6, γ 1) from l0.symm)).trans ?_
  refine (zLet_eq (show _ = γ 1 from rfl)).trans ?_
  refine (if_pos w_1).trans ?_
  refine (if_pos w_2).trans ?_
  refine (if_neg w_3).trans ?_
  refine (zLet_eq (show fn228 [9 * ρ 4 + 6] (γ 1) = (0, 0, γ 2) from l1.symm)).trans ?_
  refine (zLet_eq (show _ = γ 2 from rfl)).trans ?_
  refine (if_neg zQ0_).trans ?_
  refine (zLet_eq (show fn249 [] (γ 2) = (1, 0, γ 3) from l2.symm)).trans ?_
  refine (zLet_eq (show _ = γ 3 from rfl)).trans ?_
  refine (if_neg (show ¬ (1 : Nat) = 0 by decide)).trans ?_
  refine (if_pos (show (1 : Nat) = 1 by decide)).trans ?_
  rfl
theorem vn251_8 {S : Nat → zSpc} (hS132 : ∀ x g o v gz, S 132 x g o v gz → sn132 x g o v gz) (hS228 : ∀ x g o v gz, S 228 x g o v gz → sn228 x g o v gz) (hS229 : ∀ x g o v gz, S 229 x g o v gz → sn229 x g o v gz) (hS230 : ∀ x g o v gz, S 230 x g o v gz → sn230 x g o v gz) (hS231 : ∀ x g o v gz, S 231 x g o v gz → sn231 x g o v gz) (hS244 : ∀ x g o v gz, S 244 x g o v gz → sn244 x g o v gz) (hS249 : ∀ x g o v gz, S 249 x g o v gz → sn249 x g o v gz) (hS250 : ∀ x g o v gz, S 250 x g o v gz → sn250 x g o v gz) {a : List Int} {g : rHp} : ∀ (ρ : Nat → Int) (γ : Nat → rHp), zO 37 S a g q251_8 ρ γ → zGl (fun _ _ _ => True) (sn251 a g) q251_8 ρ γ := by
  intro ρ γ h
  obtain ⟨ha, hg, hr, hf, hm, hc, hl⟩ := h
  have ha : a = [ρ 0, ρ 1, ρ 2, ρ 3, ρ 4, ρ 5, ρ 6, ρ 7, ρ 8, ρ 9, ρ 10, ρ 11, ρ 12, ρ 13, ρ 14, ρ 15, ρ 16, ρ 17, ρ 18, ρ 19, ρ 20, ρ 21, ρ 22, ρ 23, ρ 24, ρ 25, ρ 26, ρ 27, ρ 28, ρ 29, ρ 30, ρ 31, ρ 32, ρ 33, ρ 34, ρ 35, ρ 36] := ha
  subst ha
  subst hg
  obtain ⟨-, -, -, -, -, -, -, -, -, -, -, -, -, r13, -, -, -, -, -, r19, -⟩ := hr
  have r13 : (7 : Int) ≤ ρ 13 ∧ ρ 13 ≤ 8 := r13
  have r19 : (2 : Int) ≤ ρ 19 ∧ ρ 19 ≤ 2 := r19
  obtain ⟨w_0, w_1, w_2, w_3⟩ : (¬ (5 ≥ ρ 13)) ∧ (ρ 19 ≠ 1) ∧ (0 ≤ -ρ 19 + 3) ∧ (¬ (ρ 19 ≠ 2)) := ⟨by omega, by omega, by omega, by omega⟩
  obtain ⟨-, -, -, -, m4, -, -, -, -, -, -, -, -, m13, -, -, -, -, -, m19, -⟩ := hm
  have m4 : γ 0 6 0 7 = ρ 4 := m4
  have m13 : γ 0 9 (ρ 4) 2 = ρ 13 := m13
  have m19 : γ 0 10 (9 * ρ 4 + 6) 4 = ρ 19 := m19
  obtain ⟨l0, l1, l2, -⟩ := hl
  have l0 : sn132 [ρ 4, 5] (γ 0) 0 (9 * ρ 4 + 6) (γ 1) := hS132 _ _ _ _ _ l0
  have l1 : sn228 [9 * ρ 4 + 6, ρ 6, ρ 10, ρ 20, ρ 21, ρ 22] (γ 1) 0 0 (γ 2) := hS228 _ _ _ _ _ l1
  have l2 : sn249 [ρ 0, ρ 1, ρ 2, ρ 3, ρ 4, ρ 5, ρ 6, ρ 7, ρ 8, ρ 9, ρ 10, ρ 11, ρ 12, ρ 13, ρ 14, ρ 15, ρ 16, ρ 17, ρ 18, ρ 25, ρ 26, ρ 27, ρ 28, ρ 29, ρ 30, ρ 31, ρ 32, ρ 33, ρ 34, ρ 35, ρ 36] (γ 2) 4 0 (γ 3) := hS249 _ _ _ _ _ l2
  show sn251 [ρ 0, ρ 1, ρ 2, ρ 3, ρ 4, ρ 5, ρ 6, ρ 7, ρ 8, ρ 9, ρ 10, ρ 11, ρ 12, ρ 13, ρ 14, ρ 15, ρ 16, ρ 17, ρ 18, ρ 19, ρ 20, ρ 21, ρ 22, ρ 23, ρ 24, ρ 25, ρ 26, ρ 27, ρ 28, ρ 29, ρ 30, ρ 31, ρ 32, ρ 33, ρ 34, ρ 35, ρ 36] (γ 0) 4 0 (γ 3)
  refine Eq.symm ?_
  show fn251 [] (γ 0) = _
  unfold fn251
  refine (zLet_eq m4).trans ?_
  refine (zLet_eq m13).trans ?_
  refine (zLet_eq m19).trans ?_
  refine (if_neg w_0).trans ?_
  refine (zLet_eq (show fn132 [ρ 4, 5] (γ 0) = (0, 9 * ρ 4 + 6, γ 1) from l0.symm)).trans ?_
  refine (zLet_eq (show _ = γ 1 from rfl)).trans ?_
  refine (if_pos w_1).trans ?_
  refine (if_pos w_2).trans ?_
  refine (if_neg w_3).trans ?_
  refine (zLet_eq (show fn228 [9 * ρ 4 + 6] (γ 1) = (0, 0, γ 2) from l1.symm)).trans ?_
  refine (zLet_eq (show _ = γ 2 from rfl)).trans ?_
  refine (if_neg zQ0_).trans ?_
  refine (zLet_eq (show fn249 [] (γ 2) = (4, 0, γ 3) from l2.symm)).trans ?_
  refine (zLet_eq (show _ = γ 3 from rfl)).trans ?_
  refine (if_neg (show ¬ (4 : Nat) = 0 by decide)).trans ?_
  refine (if_neg (show ¬ (4 : Nat) = 1 by decide)).trans ?_
  rfl
theorem vn251_9 {S : Nat → zSpc} (hS132 : ∀ x g o v gz, S 132 x g o v gz → sn132 x g o v gz) (hS228 : ∀ x g o v gz, S 228 x g o v gz → sn228 x g o v gz) (hS229 : ∀ x g o v gz, S 229 x g o v gz → sn229 x g o v gz) (hS230 : ∀ x g o v gz, S 230 x g o v gz → sn230 x g o v gz) (hS231 : ∀ x g o v gz, S 231 x g o v gz → sn231 x g o v gz) (hS244 : ∀ x g o v gz, S 244 x g o v gz → sn244 x g o v gz) (hS249 : ∀ x g o v gz, S 249 x g o v gz → sn249 x g o v gz) (hS250 : ∀ x g o v gz, S 250 x g o v gz → sn250 x g o v gz) {a : List Int} {g : rHp} : ∀ (ρ : Nat → Int) (γ : Nat → rHp), zO 37 S a g q251_9 ρ γ → zGl (fun _ _ _ => True) (sn251 a g) q251_9 ρ γ := by
  intro ρ γ h
  obtain ⟨ha, hg, hr, hf, hm, hc, hl⟩ := h
  have ha : a = [ρ 0, ρ 1, ρ 2, ρ 3, ρ 4, ρ 5, ρ 6, ρ 7, ρ 8, ρ 9, ρ 10, ρ 11, ρ 12, ρ 13, ρ 14, ρ 15, ρ 16, ρ 17, ρ 18, ρ 19, ρ 20, ρ 21, ρ 22, ρ 23, ρ 24, ρ 25, ρ 26, ρ 27, ρ 28, ρ 29, ρ 30, ρ 31, ρ 32, ρ 33, ρ 34, ρ 35, ρ 36] := ha
  subst ha
  subst hg
  obtain ⟨-, -, -, -, -, -, -, -, -, -, -, -, -, r13, -, -, -, -, -, r19, -⟩ := hr
  have r13 : (6 : Int) ≤ ρ 13 ∧ ρ 13 ≤ 8 := r13
  have r19 : (2 : Int) ≤ ρ 19 ∧ ρ 19 ≤ 2 := r19
  obtain ⟨w_0, w_1, w_2, w_3⟩ : (¬ (5 ≥ ρ 13)) ∧ (ρ 19 ≠ 1) ∧ (0 ≤ -ρ 19 + 3) ∧ (¬ (ρ 19 ≠ 2)) := ⟨by omega, by omega, by omega, by omega⟩
  obtain ⟨-, -, -, -, m4, -, -, -, -, -, -, -, -, m13, -, -, -, -, -, m19, -⟩ := hm
  have m4 : γ 0 6 0 7 = ρ 4 := m4
  have m13 : γ 0 9 (ρ 4) 2 = ρ 13 := m13
  have m19 : γ 0 10 (9 * ρ 4 + 6) 4 = ρ 19 := m19
  obtain ⟨l0, l1, -⟩ := hl
  have l0 : sn132 [ρ 4, 5] (γ 0) 0 (9 * ρ 4 + 6) (γ 1) := hS132 _ _ _ _ _ l0
  have l1 : sn228 [9 * ρ 4 + 6, ρ 6, ρ 10, ρ 20, ρ 21, ρ 22] (γ 1) 0 1 (γ 2) := hS228 _ _ _ _ _ l1
  show sn251 [ρ 0, ρ 1, ρ 2, ρ 3, ρ 4, ρ 5, ρ 6, ρ 7, ρ 8, ρ 9, ρ 10, ρ 11, ρ 12, ρ 13, ρ 14, ρ 15, ρ 16, ρ 17, ρ 18, ρ 19, ρ 20, ρ 21, ρ 22, ρ 23, ρ 24, ρ 25, ρ 26, ρ 27, ρ 28, ρ 29, ρ 30, ρ 31, ρ 32, ρ 33, ρ 34, ρ 35, ρ 36] (γ 0) 0 0 (γ 2)
  refine Eq.symm ?_
  show fn251 [] (γ 0) = _
  unfold fn251
  refine (zLet_eq m4).trans ?_
  refine (zLet_eq m13).trans ?_
  refine (zLet_eq m19).trans ?_
  refine (if_neg w_0).trans ?_
  refine (zLet_eq (show fn132 [ρ 4, 5] (γ 0) = (0, 9 * ρ 4 + 6, γ 1) from l0.symm)).trans ?_
  refine (zLet_eq (show _ = γ 1 from rfl)).trans ?_
  refine (if_pos w_1).trans ?_
  refine (if_pos w_2).trans ?_
  refine (if_neg w_3).trans ?_
  refine (zLet_eq (show fn228 [9 * ρ 4 + 6] (γ 1) = (0, 1, γ 2) from l1.symm)).trans ?_
  refine (zLet_eq (show _ = γ 2 from rfl)).trans ?_
  refine (if_pos zQ1_).trans ?_
  rfl
theorem vn251_10 {S : Nat → zSpc} (hS132 : ∀ x g o v gz, S 132 x g o v gz → sn132 x g o v gz) (hS228 : ∀ x g o v gz, S 228 x g o v gz → sn228 x g o v gz) (hS229 : ∀ x g o v gz, S 229 x g o v gz → sn229 x g o v gz) (hS230 : ∀ x g o v gz, S 230 x g o v gz → sn230 x g o v gz) (hS231 : ∀ x g o v gz, S 231 x g o v gz → sn231 x g o v gz) (hS244 : ∀ x g o v gz, S 244 x g o v gz → sn244 x g o v gz) (hS249 : ∀ x g o v gz, S 249 x g o v gz → sn249 x g o v gz) (hS250 : ∀ x g o v gz, S 250 x g o v gz → sn250 x g o v gz) {a : List Int} {g : rHp} : ∀ (ρ : Nat → Int) (γ : Nat → rHp), zO 37 S a g q251_10 ρ γ → zGl (fun _ _ _ => True) (sn251 a g) q251_10 ρ γ := by
  intro ρ γ h
  obtain ⟨ha, hg, hr, hf, hm, hc, hl⟩ := h
  have ha : a = [ρ 0, ρ 1, ρ 2, ρ 3, ρ 4, ρ 5, ρ 6, ρ 7, ρ 8, ρ 9, ρ 10, ρ 11, ρ 12, ρ 13, ρ 14, ρ 15, ρ 16, ρ 17, ρ 18, ρ 19, ρ 20, ρ 21, ρ 22, ρ 23, ρ 24, ρ 25, ρ 26, ρ 27, ρ 28, ρ 29, ρ 30, ρ 31, ρ 32, ρ 33, ρ 34, ρ 35, ρ 36] := ha
  subst ha
  subst hg
  obtain ⟨-, -, -, -, -, -, -, -, -, -, -, -, -, r13, -, -, -, -, -, r19, -⟩ := hr
  have r13 : (6 : Int) ≤ ρ 13 ∧ ρ 13 ≤ 8 := r13
  have r19 : (4 : Int) ≤ ρ 19 ∧ ρ 19 ≤ 5 := r19
  obtain ⟨w_0, w_1, w_2, w_3⟩ : (¬ (5 ≥ ρ 13)) ∧ (ρ 19 ≠ 1) ∧ (¬ (0 ≤ -ρ 19 + 3)) ∧ (0 ≤ -ρ 19 + 5) := ⟨by omega, by omega, by omega, by omega⟩
  obtain ⟨-, -, -, -, m4, -, -, -, -, -, -, -, -, m13, -, -, -, -, -, m19, -⟩ := hm
  have m4 : γ 0 6 0 7 = ρ 4 := m4
  have m13 : γ 0 9 (ρ 4) 2 = ρ 13 := m13
  have m19 : γ 0 10 (9 * ρ 4 + 6) 4 = ρ 19 := m19
  obtain ⟨l0, l1, -⟩ := hl
  have l0 : sn132 [ρ 4, 5] (γ 0) 0 (9 * ρ 4 + 6) (γ 1) := hS132 _ _ _ _ _ l0
  have l1 : sn229 [9 * ρ 4 + 6, ρ 19] (γ 1) 0 0 (γ 2) := hS229 _ _ _ _ _ l1
  show sn251 [ρ 0, ρ 1, ρ 2, ρ 3, ρ 4, ρ 5, ρ 6, ρ 7, ρ 8, ρ 9, ρ 10, ρ 11, ρ 12, ρ 13, ρ 14, ρ 15, ρ 16, ρ 17, ρ 18, ρ 19, ρ 20, ρ 21, ρ 22, ρ 23, ρ 24, ρ 25, ρ 26, ρ 27, ρ 28, ρ 29, ρ 30, ρ 31, ρ 32, ρ 33, ρ 34, ρ 35, ρ 36] (γ 0) 0 0 (γ 2)
  refine Eq.symm ?_
  show fn251 [] (γ 0) = _
  unfold fn251
  refine (zLet_eq m4).trans ?_
  refine (zLet_eq m13).trans ?_
  refine (zLet_eq m19).trans ?_
  refine (if_neg w_0).trans ?_
  refine (zLet_eq (show fn132 [ρ 4, 5] (γ 0) = (0, 9 * ρ 4 + 6, γ 1) from l0.symm)).trans ?_
  refine (zLet_eq (show _ = γ 1 from rfl)).trans ?_
  refine (if_pos w_1).trans ?_
  refine (if_neg w_2).trans ?_
  refine (if_pos w_3).trans ?_
  refine (zLet_eq (show fn229 [9 * ρ 4 + 6] (γ 1) = (0, 0, γ 2) from l1.symm)).trans ?_
  refine (zLet_eq (show _ = γ 2 from rfl)).trans ?_
  refine (if_neg zQ0_).trans ?_
  rfl
theorem vn251_11 {S : Nat → zSpc} (hS132 : ∀ x g o v gz, S 132 x g o v gz → sn132 x g o v gz) (hS228 : ∀ x g o v gz, S 228 x g o v gz → sn228 x g o v gz) (hS229 : ∀ x g o v gz, S 229 x g o v gz → sn229 x g o v gz) (hS230 : ∀ x g o v gz, S 230 x g o v gz → sn230 x g o v gz) (hS231 : ∀ x g o v gz, S 231 x g o v gz → sn231 x g o v gz) (hS244 : ∀ x g o v gz, S 244 x g o v gz → sn244 x g o v gz) (hS249 : ∀ x g o v gz, S 249 x g o v gz → sn249 x g o v gz) (hS250 : ∀ x g o v gz, S 250 x g o v gz → sn250 x g o v gz) {a : List Int} {g : rHp} : ∀ (ρ : Nat → Int) (γ : Nat → rHp), zO 37 S a g q251_11 ρ γ → zGl (fun _ _ _ => True) (sn251 a g) q251_11 ρ γ := by
  intro ρ γ h
  obtain ⟨ha, hg, hr, hf, hm, hc, hl⟩ := h
  have ha : a = [ρ 0, ρ 1, ρ 2, ρ 3, ρ 4, ρ 5, ρ 6, ρ 7, ρ 8, ρ 9, ρ 10, ρ 11, ρ 12, ρ 13, ρ 14, ρ 15, ρ 16, ρ 17, ρ 18, ρ 19, ρ 20, ρ 21, ρ 22, ρ 23, ρ 24, ρ 25, ρ 26, ρ 27, ρ 28, ρ 29, ρ 30, ρ 31, ρ 32, ρ 33, ρ 34, ρ 35, ρ 36] := ha
  subst ha
  subst hg
  obtain ⟨-, -, -, -, -, -, -, -, -, -, -, -, -, r13, -, -, -, -, -, r19, -⟩ := hr
  have r13 : (6 : Int) ≤ ρ 13 ∧ ρ 13 ≤ 8 := r13
  have r19 : (4 : Int) ≤ ρ 19 ∧ ρ 19 ≤ 5 := r19
  obtain ⟨w_0, w_1, w_2, w_3⟩ : (¬ (5 ≥ ρ 13)) ∧ (ρ 19 ≠ 1) ∧ (¬ (0 ≤ -ρ 19 + 3)) ∧ (0 ≤ -ρ 19 + 5) := ⟨by omega, by omega, by omega, by omega⟩
  obtain ⟨-, -, -, -, m4, -, -, -, -, -, -, -, -, m13, -, -, -, -, -, m19, -⟩ := hm
  have m4 : γ 0 6 0 7 = ρ 4 := m4
  have m13 : γ 0 9 (ρ 4) 2 = ρ 13 := m13
  have m19 : γ 0 10 (9 * ρ 4 + 6) 4 = ρ 19 := m19
  obtain ⟨l0, l1, l2, -⟩ := hl
  have l0 : sn132 [ρ 4, 5] (γ 0) 0 (9 * ρ 4 + 6) (γ 1) := hS132 _ _ _ _ _ l0
  have l1 : sn229 [9 * ρ 4 + 6, ρ 19] (γ 1) 0 1 (γ 2) := hS229 _ _ _ _ _ l1
  have l2 : sn249 [ρ 0, ρ 1, ρ 2, ρ 3, ρ 4, ρ 5, ρ 6, ρ 7, ρ 8, ρ 9, ρ 10, ρ 11, ρ 12, ρ 13, ρ 14, ρ 15, ρ 16, ρ 17, ρ 18, ρ 25, ρ 26, ρ 27, ρ 28, ρ 29, ρ 30, ρ 31, ρ 32, ρ 33, ρ 34, ρ 35, ρ 36] (γ 2) 0 0 (γ 3) := hS249 _ _ _ _ _ l2
  show sn251 [ρ 0, ρ 1, ρ 2, ρ 3, ρ 4, ρ 5, ρ 6, ρ 7, ρ 8, ρ 9, ρ 10, ρ 11, ρ 12, ρ 13, ρ 14, ρ 15, ρ 16, ρ 17, ρ 18, ρ 19, ρ 20, ρ 21, ρ 22, ρ 23, ρ 24, ρ 25, ρ 26, ρ 27, ρ 28, ρ 29, ρ 30, ρ 31, ρ 32, ρ 33, ρ 34, ρ 35, ρ 36] (γ 0) 0 0 (γ 3)
  refine Eq.symm ?_
  show fn251 [] (γ 0) = _
  unfold fn251
  refine (zLet_eq m4).trans ?_
  refine (zLet_eq m13).trans ?_
  refine (zLet_eq m19).trans ?_
  refine (if_neg w_0).trans ?_
  refine (zLet_eq (show fn132 [ρ 4, 5] (γ 0) = (0, 9 * ρ 4 + 6, γ 1) from l0.symm)).trans ?_
  refine (zLet_eq (show _ = γ 1 from rfl)).trans ?_
  refine (if_pos w_1).trans ?_
  refine (if_neg w_2).trans ?_
  refine (if_pos w_3).trans ?_
  refine (zLet_eq (show fn229 [9 * ρ 4 + 6] (γ 1) = (0, 1, γ 2) from l1.symm)).trans ?_
  refine (zLet_eq (show _ = γ 2 from rfl)).trans ?_
  refine (if_pos zQ1_).trans ?_
  refine (zLet_eq (show fn249 [] (γ 2) = (0, 0, γ 3) from l2.symm)).trans ?_
  refine (zLet_eq (show _ = γ 3 from rfl)).trans ?_
  refine (if_pos (show (0 : Nat) = 0 by decide)).trans ?_
  rfl
theorem vn251_12 {S : Nat → zSpc} (hS132 : ∀ x g o v gz, S 132 x g o v gz → sn132 x g o v gz) (hS228 : ∀ x g o v gz, S 228 x g o v gz → sn228 x g o v gz) (hS229 : ∀ x g o v gz, S 229 x g o v gz → sn229 x g o v gz) (hS230 : ∀ x g o v gz, S 230 x g o v gz → sn230 x g o v gz) (hS231 : ∀ x g o v gz, S 231 x g o v gz → sn231 x g o v gz) (hS244 : ∀ x g o v gz, S 244 x g o v gz → sn244 x g o v gz) (hS249 : ∀ x g o v gz, S 249 x g o v gz → sn249 x g o v gz) (hS250 : ∀ x g o v gz, S 250 x g o v gz → sn250 x g o v gz) {a : List Int} {g : rHp} : ∀ (ρ : Nat → Int) (γ : Nat → rHp), zO 37 S a g q251_12 ρ γ → zGl (fun _ _ _ => True) (sn251 a g) q251_12 ρ γ := by
  intro ρ γ h
  obtain ⟨ha, hg, hr, hf, hm, hc, hl⟩ := h
  have ha : a = [ρ 0, ρ 1, ρ 2, ρ 3, ρ 4, ρ 5, ρ 6, ρ 7, ρ 8, ρ 9, ρ 10, ρ 11, ρ 12, ρ 13, ρ 14, ρ 15, ρ 16, ρ 17, ρ 18, ρ 19, ρ 20, ρ 21, ρ 22, ρ 23, ρ 24, ρ 25, ρ 26, ρ 27, ρ 28, ρ 29, ρ 30, ρ 31, ρ 32, ρ 33, ρ 34, ρ 35, ρ 36] := ha
  subst ha
  subst hg
  obtain ⟨-, -, -, -, -, -, -, -, -, -, -, -, -, r13, -, -, -, -, -, r19, -⟩ := hr
  have r13 : (6 : Int) ≤ ρ 13 ∧ ρ 13 ≤ 8 := r13
  have r19 : (4 : Int) ≤ ρ 19 ∧ ρ 19 ≤ 5 := r19
  obtain ⟨w_0, w_1, w_2, w_3⟩ : (¬ (5 ≥ ρ 13)) ∧ (ρ 19 ≠ 1) ∧ (¬ (0 ≤ -ρ 19 + 3)) ∧ (0 ≤ -ρ 19 + 5) := ⟨by omega, by omega, by omega, by omega⟩
  obtain ⟨-, -, -, -, m4, -, -, -, -, -, -, -, -, m13, -, -, -, -, -, m19, -⟩ := hm
  have m4 : γ 0 6 0 7 = ρ 4 := m4
  have m13 : γ 0 9 (ρ 4) 2 = ρ 13 := m13
  have m19 : γ 0 10 (9 * ρ 4 + 6) 4 = ρ 19 := m19
  obtain ⟨l0, l1, l2, -⟩ := hl
  have l0 : sn132 [ρ 4, 5] (γ 0) 0 (9 * ρ 4 + 6) (γ 1) := hS132 _ _ _ _ _ l0
  have l1 : sn229 [9 * ρ 4 + 6, ρ 19] (γ 1) 0 1 (γ 2) := hS229 _ _ _ _ _ l1
  have l2 : sn249 [ρ 0, ρ 1, ρ 2, ρ 3, ρ 4, ρ 5, ρ 6, ρ 7, ρ 8, ρ 9, ρ 10, ρ 11, ρ 12, ρ 13, ρ 14, ρ 15, ρ 16, ρ 17, ρ 18, ρ 25, ρ 26, ρ 27, ρ 28, ρ 29, ρ 30, ρ 31, ρ 32, ρ 33, ρ 34, ρ 35, ρ 36] (γ 2) 1 0 (γ 3) := hS249 _ _ _ _ _ l2
  show sn251 [ρ 0, ρ 1, ρ 2, ρ 3, ρ 4, ρ 5, ρ 6, ρ 7, ρ 8, ρ 9, ρ 10, ρ 11, ρ 12, ρ 13, ρ 14, ρ 15, ρ 16, ρ 17, ρ 18, ρ 19, ρ 20, ρ 21, ρ 22, ρ 23, ρ 24, ρ 25, ρ 26, ρ 27, ρ 28, ρ 29, ρ 30, ρ 31, ρ 32, ρ 33, ρ 34, ρ 35, ρ 36] (γ 0) 1 0 (γ 3)
  refine Eq.symm ?_
  show fn251 [] (γ 0) = _
  unfold fn251
  refine (zLet_eq m4).trans ?_
  refine (zLet_eq m13).trans ?_
  refine (zLet_eq m19).trans ?_
  refine (if_neg w_0).trans ?_
  refine (zLet_eq (show fn132 [ρ 4, 5] (γ 0) = (0, 9 * ρ 4 + 6, γ 1) from l0.symm)).trans ?_
  refine (zLet_eq (show _ = γ 1 from rfl)).trans ?_
  refine (if_pos w_1).trans ?_
  refine (if_neg w_2).trans ?_
  refine (if_pos w_3).trans ?_
  refine (zLet_eq (show fn229 [9 * ρ 4 + 6] (γ 1) = (0, 1, γ 2) from l1.symm)).trans ?_
  refine (zLet_eq (show _ = γ 2 from rfl)).trans ?_
  refine (if_pos zQ1_).trans ?_
  refine (zLet_eq (show fn249 [] (γ 2) = (1, 0, γ 3) from l2.symm)).trans ?_
  refine (zLet_eq (show _ = γ 3 from rfl)).trans ?_
  refine (if_neg (show ¬ (1 : Nat) = 0 by decide)).trans ?_
  refine (if_pos (show (1 : Nat) = 1 by decide)).trans ?_
  rfl
theorem vn251_13 {S : Nat → zSpc} (hS132 : ∀ x g o v gz, S 132 x g o v gz → sn132 x g o v gz) (hS228 : ∀ x g o v gz, S 228 x g o v gz → sn228 x g o v gz) (hS229 : ∀ x g o v gz, S 229 x g o v gz → sn229 x g o v gz) (hS230 : ∀ x g o v gz, S 230 x g o v gz → sn230 x g o v gz) (hS231 : ∀ x g o v gz, S 231 x g o v gz → sn231 x g o v gz) (hS244 : ∀ x g o v gz, S 244 x g o v gz → sn244 x g o v gz) (hS249 : ∀ x g o v gz, S 249 x g o v gz → sn249 x g o v gz) (hS250 : ∀ x g o v gz, S 250 x g o v gz → sn250 x g o v gz) {a : List Int} {g : rHp} : ∀ (ρ : Nat → Int) (γ : Nat → rHp), zO 37 S a g q251_13 ρ γ → zGl (fun _ _ _ => True) (sn251 a g) q251_13 ρ γ := by
  intro ρ γ h
  obtain ⟨ha, hg, hr, hf, hm, hc, hl⟩ := h
  have ha : a = [ρ 0, ρ 1, ρ 2, ρ 3, ρ 4, ρ 5, ρ 6, ρ 7, ρ 8, ρ 9, ρ 10, ρ 11, ρ 12, ρ 13, ρ 14, ρ 15, ρ 16, ρ 17, ρ 18, ρ 19, ρ 20, ρ 21, ρ 22, ρ 23, ρ 24, ρ 25, ρ 26, ρ 27, ρ 28, ρ 29, ρ 30, ρ 31, ρ 32, ρ 33, ρ 34, ρ 35, ρ 36] := ha
  subst ha
  subst hg
  obtain ⟨-, -, -, -, -, -, -, -, -, -, -, -, -, r13, -, -, -, -, -, r19, -⟩ := hr
  have r13 : (7 : Int) ≤ ρ 13 ∧ ρ 13 ≤ 8 := r13
  have r19 : (4 : Int) ≤ ρ 19 ∧ ρ 19 ≤ 5 := r19
  obtain ⟨w_0, w_1, w_2, w_3⟩ : (¬ (5 ≥ ρ 13)) ∧ (ρ 19 ≠ 1) ∧ (¬ (0 ≤ -ρ 19 + 3)) ∧ (0 ≤ -ρ 19 + 5) := ⟨by omega, by omega, by omega, by omega⟩
  obtain ⟨-, -, -, -, m4, -, -, -, -, -, -, -, -, m13, -, -, -, -, -, m19, -⟩ := hm
  have m4 : γ 0 6 0 7 = ρ 4 := m4
  have m13 : γ 0 9 (ρ 4) 2 = ρ 13 := m13
  have m19 : γ 0 10 (9 * ρ 4 + 6) 4 = ρ 19 := m19
  obtain ⟨l0, l1, l2, -⟩ := hl
  have l0 : sn132 [ρ 4, 5] (γ 0) 0 (9 * ρ 4 + 6) (γ 1) := hS132 _ _ _ _ _ l0
  have l1 : sn229 [9 * ρ 4 + 6, ρ 19] (γ 1) 0 1 (γ 2) := hS229 _ _ _ _ _ l1
  have l2 : sn249 [ρ 0, ρ 1, ρ 2, ρ 3, ρ 4, ρ 5, ρ 6, ρ 7, ρ 8, ρ 9, ρ 10, ρ 11, ρ 12, ρ 13, ρ 14, ρ 15, ρ 16, ρ 17, ρ 18, ρ 25, ρ 26, ρ 27, ρ 28, ρ 29, ρ 30, ρ 31, ρ 32, ρ 33, ρ 34, ρ 35, ρ 36] (γ 2) 4 0 (γ 3) := hS249 _ _ _ _ _ l2
  show sn251 [ρ 0, ρ 1, ρ 2, ρ 3, ρ 4, ρ 5, ρ 6, ρ 7, ρ 8, ρ 9, ρ 10, ρ 11, ρ 12, ρ 13, ρ 14, ρ 15, ρ 16, ρ 17, ρ 18, ρ 19, ρ 20, ρ 21, ρ 22, ρ 23, ρ 24, ρ 25, ρ 26, ρ 27, ρ 28, ρ 29, ρ 30, ρ 31, ρ 32, ρ 33, ρ 34, ρ 35, ρ 36] (γ 0) 4 0 (γ 3)
  refine Eq.symm ?_
  show fn251 [] (γ 0) = _
  unfold fn251
  refine (zLet_eq m4).trans ?_
  refine (zLet_eq m13).trans ?_
  refine (zLet_eq m19).trans ?_
  refine (if_neg w_0).trans ?_
  refine (zLet_eq (show fn132 [ρ 4, 5] (γ 0) = (0, 9 * ρ 4 + 6, γ 1) from l0.symm)).trans ?_
  refine (zLet_eq (show _ = γ 1 from rfl)).trans ?_
  refine (if_pos w_1).trans ?_
  refine (if_neg w_2).trans ?_
  refine (if_pos w_3).trans ?_
  refine (zLet_eq (show fn229 [9 * ρ 4 + 6] (γ 1) = (0, 1, γ 2) from l1.symm)).trans ?_
  refine (zLet_eq (show _ = γ 2 from rfl)).trans ?_
  refine (if_pos zQ1_).trans ?_
  refine (zLet_eq (show fn249 [] (γ 2) = (4, 0, γ 3) from l2.symm)).trans ?_
  refine (zLet_eq (show _ = γ 3 from rfl)).trans ?_
  refine (if_neg (show ¬ (4 : Nat) = 0 by decide)).trans ?_
  refine (if_neg (show ¬ (4 : Nat) = 1 by decide)).trans ?_
  rfl
theorem vn251_14 {S : Nat → zSpc} (hS132 : ∀ x g o v gz, S 132 x g o v gz → sn132 x g o v gz) (hS228 : ∀ x g o v gz, S 228 x g o v gz → sn228 x g o v gz) (hS229 : ∀ x g o v gz, S 229 x g o v gz → sn229 x g o v gz) (hS230 : ∀ x g o v gz, S 230 x g o v gz → sn230 x g o v gz) (hS231 : ∀ x g o v gz, S 231 x g o v gz → sn231 x g o v gz) (hS244 : ∀ x g o v gz, S 244 x g o v gz → sn244 x g o v gz) (hS249 : ∀ x g o v gz, S 249 x g o v gz → sn249 x g o v gz) (hS250 : ∀ x g o v gz, S 250 x g o v gz → sn250 x g o v gz) {a : List Int} {g : rHp} : ∀ (ρ : Nat → Int) (γ : Nat → rHp), zO 37 S a g q251_14 ρ γ → zGl (fun _ _ _ => True) (sn251 a g) q251_14 ρ γ := by
  intro ρ γ h
  obtain ⟨ha, hg, hr, hf, hm, hc, hl⟩ := h
  have ha : a = [ρ 0, ρ 1, ρ 2, ρ 3, ρ 4, ρ 5, ρ 6, ρ 7, ρ 8, ρ 9, ρ 10, ρ 11, ρ 12, ρ 13, ρ 14, ρ 15, ρ 16, ρ 17, ρ 18, ρ 19, ρ 20, ρ 21, ρ 22, ρ 23, ρ 24, ρ 25, ρ 26, ρ 27, ρ 28, ρ 29, ρ 30, ρ 31, ρ 32, ρ 33, ρ 34, ρ 35, ρ 36] := ha
  subst ha
  subst hg
  obtain ⟨-, -, -, -, -, -, -, -, -, -, -, -, -, r13, -, -, -, -, -, r19, -⟩ := hr
  have r13 : (6 : Int) ≤ ρ 13 ∧ ρ 13 ≤ 8 := r13
  have r19 : (6 : Int) ≤ ρ 19 ∧ ρ 19 ≤ 8 := r19
  obtain ⟨w_0, w_1, w_2, w_3⟩ : (¬ (5 ≥ ρ 13)) ∧ (ρ 19 ≠ 1) ∧ (¬ (0 ≤ -ρ 19 + 3)) ∧ (¬ (0 ≤ -ρ 19 + 5)) := ⟨by omega, by omega, by omega, by omega⟩
  obtain ⟨-, -, -, -, m4, -, -, -, -, -, -, -, -, m13, -, -, -, -, -, m19, -⟩ := hm
  have m4 : γ 0 6 0 7 = ρ 4 := m4
  have m13 : γ 0 9 (ρ 4) 2 = ρ 13 := m13
  have m19 : γ 0 10 (9 * ρ 4 + 6) 4 = ρ 19 := m19
  obtain ⟨l0, l1, -⟩ := hl
  have l0 : sn132 [ρ 4, 5] (γ 0) 0 (9 * ρ 4 + 6) (γ 1) := hS132 _ _ _ _ _ l0
  have l1 : sn231 [9 * ρ 4 + 6, ρ 19, ρ 24] (γ 1) 0 0 (γ 2) := hS231 _ _ _ _ _ l1
  show sn251 [ρ 0, ρ 1, ρ 2, ρ 3, ρ 4, ρ 5, ρ 6, ρ 7, ρ 8, ρ 9, ρ 10, ρ 11, ρ 12, ρ 13, ρ 14, ρ 15, ρ 16, ρ 17, ρ 18, ρ 19, ρ 20, ρ 21, ρ 22, ρ 23, ρ 24, ρ 25, ρ 26, ρ 27, ρ 28, ρ 29, ρ 30, ρ 31, ρ 32, ρ 33, ρ 34, ρ 35, ρ 36] (γ 0) 0 0 (γ 2)
  refine Eq.symm ?_
  show fn251 [] (γ 0) = _
  unfold fn251
  refine (zLet_eq m4).trans ?_
  refine (zLet_eq m13).trans ?_
  refine (zLet_eq m19).trans ?_
  refine (if_neg w_0).trans ?_
  refine (zLet_eq (show fn132 [ρ 4, 5] (γ 0) = (0, 9 * ρ 4 + 6, γ 1) from l0.symm)).trans ?_
  refine (zLet_eq (show _ = γ 1 from rfl)).trans ?_
  refine (if_pos w_1).trans ?_
  refine (if_neg w_2).trans ?_
  refine (if_neg w_3).trans ?_
  refine (zLet_eq (show fn231 [9 * ρ 4 + 6] (γ 1) = (0, 0, γ 2) from l1.symm)).trans ?_
  refine (zLet_eq (show _ = γ 2 from rfl)).trans ?_
  refine (if_neg zQ0_).trans ?_
  rfl
theorem vn251_15 {S : Nat → zSpc} (hS132 : ∀ x g o v gz, S 132 x g o v gz → sn132 x g o v gz) (hS228 : ∀ x g o v gz, S 228 x g o v gz → sn228 x g o v gz) (hS229 : ∀ x g o v gz, S 229 x g o v gz → sn229 x g o v gz) (hS230 : ∀ x g o v gz, S 230 x g o v gz → sn230 x g o v gz) (hS231 : ∀ x g o v gz, S 231 x g o v gz → sn231 x g o v gz) (hS244 : ∀ x g o v gz, S 244 x g o v gz → sn244 x g o v gz) (hS249 : ∀ x g o v gz, S 249 x g o v gz → sn249 x g o v gz) (hS250 : ∀ x g o v gz, S 250 x g o v gz → sn250 x g o v gz) {a : List Int} {g : rHp} : ∀ (ρ : Nat → Int) (γ : Nat → rHp), zO 37 S a g q251_15 ρ γ → zGl (fun _ _ _ => True) (sn251 a g) q251_15 ρ γ := by
  intro ρ γ h
  obtain ⟨ha, hg, hr, hf, hm, hc, hl⟩ := h
  have ha : a = [ρ 0, ρ 1, ρ 2, ρ 3, ρ 4, ρ 5, ρ 6, ρ 7, ρ 8, ρ 9, ρ 10, ρ 11, ρ 12, ρ 13, ρ 14, ρ 15, ρ 16, ρ 17, ρ 18, ρ 19, ρ 20, ρ 21, ρ 22, ρ 23, ρ 24, ρ 25, ρ 26, ρ 27, ρ 28, ρ 29, ρ 30, ρ 31, ρ 32, ρ 33, ρ 34, ρ 35, ρ 36] := ha
  subst ha
  subst hg
  obtain ⟨-, -, -, -, -, -, -, -, -, -, -, -, -, r13, -, -, -, -, -, r19, -⟩ := hr
  have r13 : (6 : Int) ≤ ρ 13 ∧ ρ 13 ≤ 8 := r13
  have r19 : (6 : Int) ≤ ρ 19 ∧ ρ 19 ≤ 8 := r19
  obtain ⟨w_0, w_1, w_2, w_3⟩ : (¬ (5 ≥ ρ 13)) ∧ (ρ 19 ≠ 1) ∧ (¬ (0 ≤ -ρ 19 + 3)) ∧ (¬ (0 ≤ -ρ 19 + 5)) := ⟨by omega, by omega, by omega, by omega⟩
  obtain ⟨-, -, -, -, m4, -, -, -, -, -, -, -, -, m13, -, -, -, -, -, m19, -⟩ := hm
  have m4 : γ 0 6 0 7 = ρ 4 := m4
  have m13 : γ 0 9 (ρ 4) 2 = ρ 13 := m13
  have m19 : γ 0 10 (9 * ρ 4 + 6) 4 = ρ 19 := m19
  obtain ⟨l0, l1, l2, -⟩ := hl
  have l0 : sn132 [ρ 4, 5] (γ 0) 0 (9 * ρ 4 + 6) (γ 1) := hS132 _ _ _ _ _ l0
  have l1 : sn231 [9 * ρ 4 + 6, ρ 19, ρ 24] (γ 1) 0 1 (γ 2) := hS231 _ _ _ _ _ l1
  have l2 : sn249 [ρ 0, ρ 1, ρ 2, ρ 3, ρ 4, ρ 5, ρ 6, ρ 7, ρ 8, ρ 9, ρ 10, ρ 11, ρ 12, ρ 13, ρ 14, ρ 15, ρ 16, ρ 17, ρ 18, ρ 25, ρ 26, ρ 27, ρ 28, ρ 29, ρ 30, ρ 31, ρ 32, ρ 33, ρ 34, ρ 35, ρ 36] (γ 2) 0 0 (γ 3) := hS249 _ _ _ _ _ l2
  show sn251 [ρ 0, ρ 1, ρ 2, ρ 3, ρ 4, ρ 5, ρ 6, ρ 7, ρ 8, ρ 9, ρ 10, ρ 11, ρ 12, ρ 13, ρ 14, ρ 15, ρ 16, ρ 17, ρ 18, ρ 19, ρ 20, ρ 21, ρ 22, ρ 23, ρ 24, ρ 25, ρ 26, ρ 27, ρ 28, ρ 29, ρ 30, ρ 31, ρ 32, ρ 33, ρ 34, ρ 35, ρ 36] (γ 0) 0 0 (γ 3)
  refine Eq.symm ?_
  show fn251 [] (γ 0) = _
  unfold fn251
  refine (zLet_eq m4).trans ?_
  refine (zLet_eq m13).trans ?_
  refine (zLet_eq m19).trans ?_
  refine (if_neg w_0).trans ?_
  refine (zLet_eq (show fn132 [ρ 4, 5] (γ 0) = (0, 9 * ρ 4 + 6, γ 1) from l0.symm)).trans ?_
  refine (zLet_eq (show _ = γ 1 from rfl)).trans ?_
  refine (if_pos w_1).trans ?_
  refine (if_neg w_2).trans ?_
  refine (if_neg w_3).trans ?_
  refine (zLet_eq (show fn231 [9 * ρ 4 + 6] (γ 1) = (0, 1, γ 2) from l1.symm)).trans ?_
  refine (zLet_eq (show _ = γ 2 from rfl)).trans ?_
  refine (if_pos zQ1_).trans ?_
  refine (zLet_eq (show fn249 [] (γ 2) = (0, 0, γ 3) from l2.symm)).trans ?_
  refine (zLet_eq (show _ = γ 3 from rfl)).trans ?_
  refine (if_pos (show (0 : Nat) = 0 by decide)).trans ?_
  rfl
theorem vn251_16 {S : Nat → zSpc} (hS132 : ∀ x g o v gz, S 132 x g o v gz → sn132 x g o v gz) (hS228 : ∀ x g o v gz, S 228 x g o v gz → sn228 x g o v gz) (hS229 : ∀ x g o v gz, S 229 x g o v gz → sn229 x g o v gz) (hS230 : ∀ x g o v gz, S 230 x g o v gz → sn230 x g o v gz) (hS231 : ∀ x g o v gz, S 231 x g o v gz → sn231 x g o v gz) (hS244 : ∀ x g o v gz, S 244 x g o v gz → sn244 x g o v gz) (hS249 : ∀ x g o v gz, S 249 x g o v gz → sn249 x g o v gz) (hS250 : ∀ x g o v gz, S 250 x g o v gz → sn250 x g o v gz) {a : List Int} {g : rHp} : ∀ (ρ : Nat → Int) (γ : Nat → rHp), zO 37 S a g q251_16 ρ γ → zGl (fun _ _ _ => True) (sn251 a g) q251_16 ρ γ := by
  intro ρ γ h
  obtain ⟨ha, hg, hr, hf, hm, hc, hl⟩ := h
  have ha : a = [ρ 0, ρ 1, ρ 2, ρ 3, ρ 4, ρ 5, ρ 6, ρ 7, ρ 8, ρ 9, ρ 10, ρ 11, ρ 12, ρ 13, ρ 14, ρ 15, ρ 16, ρ 17, ρ 18, ρ 19, ρ 20, ρ 21, ρ 22, ρ 23, ρ 24, ρ 25, ρ 26, ρ 27, ρ 28, ρ 29, ρ 30, ρ 31, ρ 32, ρ 33, ρ 34, ρ 35, ρ 36] := ha
  subst ha
  subst hg
  obtain ⟨-, -, -, -, -, -, -, -, -, -, -, -, -, r13, -, -, -, -, -, r19, -⟩ := hr
  have r13 : (6 : Int) ≤ ρ 13 ∧ ρ 13 ≤ 8 := r13
  have r19 : (6 : Int) ≤ ρ 19 ∧ ρ 19 ≤ 8 := r19
  obtain ⟨w_0, w_1, w_2, w_3⟩ : (¬ (5 ≥ ρ 13)) ∧ (ρ 19 ≠ 1) ∧ (¬ (0 ≤ -ρ 19 + 3)) ∧ (¬ (0 ≤ -ρ 19 + 5)) := ⟨by omega, by omega, by omega, by omega⟩
  obtain ⟨-, -, -, -, m4, -, -, -, -, -, -, -, -, m13, -, -, -, -, -, m19, -⟩ := hm
  have m4 : γ 0 6 0 7 = ρ 4 := m4
  have m13 : γ 0 9 (ρ 4) 2 = ρ 13 := m13
  have m19 : γ 0 10 (9 * ρ 4 + 6) 4 = ρ 19 := m19
  obtain ⟨l0, l1, l2, -⟩ := hl
  have l0 : sn132 [ρ 4, 5] (γ 0) 0 (9 * ρ 4 + 6) (γ 1) := hS132 _ _ _ _ _ l0
  have l1 : sn231 [9 * ρ 4 + 6, ρ 19, ρ 24] (γ 1) 0 1 (γ 2) := hS231 _ _ _ _ _ l1
  have l2 : sn249 [ρ 0, ρ 1, ρ 2, ρ 3, ρ 4, ρ 5, ρ 6, ρ 7, ρ 8, ρ 9, ρ 10, ρ 11, ρ 12, ρ 13, ρ 14, ρ 15, ρ 16, ρ 17, ρ 18, ρ 25, ρ 26, ρ 27, ρ 28, ρ 29, ρ 30, ρ 31, ρ 32, ρ 33, ρ 34, ρ 35, ρ 36] (γ 2) 1 0 (γ 3) := hS249 _ _ _ _ _ l2
  show sn251 [ρ 0, ρ 1, ρ 2, ρ 3, ρ 4, ρ 5, ρ 6, ρ 7, ρ 8, ρ 9, ρ 10, ρ 11, ρ 12, ρ 13, ρ 14, ρ 15, ρ 16, ρ 17, ρ 18, ρ 19, ρ 20, ρ 21, ρ 22, ρ 23, ρ 24, ρ 25, ρ 26, ρ 27, ρ 28, ρ 29, ρ 30, ρ 31, ρ 32, ρ 33, ρ 34, ρ 35, ρ 36] (γ 0) 1 0 (γ 3)
  refine Eq.symm ?_
  show fn251 [] (γ 0) = _
  unfold fn251
  refine (zLet_eq m4).trans ?_
  refine (zLet_eq m13).trans ?_
  refine (zLet_eq m19).trans ?_
  refine (if_neg w_0).trans ?_
  refine (zLet_eq (show fn132 [ρ 4, 5] (γ 0) = (0, 9 * ρ 4 + 6, γ 1) from l0.symm)).trans ?_
  refine (zLet_eq (show _ = γ 1 from rfl)).trans ?_
  refine (if_pos w_1).trans ?_
  refine (if_neg w_2).trans ?_
  refine (if_neg w_3).trans ?_
  refine (zLet_eq (show fn231 [9 * ρ 4 + 6] (γ 1) = (0, 1, γ 2) from l1.symm)).trans ?_
  refine (zLet_eq (show _ = γ 2 from rfl)).trans ?_
  refine (if_pos zQ1_).trans ?_
  refine (zLet_eq (show fn249 [] (γ 2) = (1, 0, γ 3) from l2.symm)).trans ?_
  refine (zLet_eq (show _ = γ 3 from rfl)).trans ?_
  refine (if_neg (show ¬ (1 : Nat) = 0 by decide)).trans ?_
  refine (if_pos (show (1 : Nat) = 1 by decide)).trans ?_
  rfl
theorem vn251_17 {S : Nat → zSpc} (hS132 : ∀ x g o v gz, S 132 x g o v gz → sn132 x g o v gz) (hS228 : ∀ x g o v gz, S 228 x g o v gz → sn228 x g o v gz) (hS229 : ∀ x g o v gz, S 229 x g o v gz → sn229 x g o v gz) (hS230 : ∀ x g o v gz, S 230 x g o v gz → sn230 x g o v gz) (hS231 : ∀ x g o v gz, S 231 x g o v gz → sn231 x g o v gz) (hS244 : ∀ x g o v gz, S 244 x g o v gz → sn244 x g o v gz) (hS249 : ∀ x g o v gz, S 249 x g o v gz → sn249 x g o v gz) (hS250 : ∀ x g o v gz, S 250 x g o v gz → sn250 x g o v gz) {a : List Int} {g : rHp} : ∀ (ρ : Nat → Int) (γ : Nat → rHp), zO 37 S a g q251_17 ρ γ → zGl (fun _ _ _ => True) (sn251 a g) q251_17 ρ γ := by
  intro ρ γ h
  obtain ⟨ha, hg, hr, hf, hm, hc, hl⟩ := h
  have ha : a = [ρ 0, ρ 1, ρ 2, ρ 3, ρ 4, ρ 5, ρ 6, ρ 7, ρ 8, ρ 9, ρ 10, ρ 11, ρ 12, ρ 13, ρ 14, ρ 15, ρ 16, ρ 17, ρ 18, ρ 19, ρ 20, ρ 21, ρ 22, ρ 23, ρ 24, ρ 25, ρ 26, ρ 27, ρ 28, ρ 29, ρ 30, ρ 31, ρ 32, ρ 33, ρ 34, ρ 35, ρ 36] := ha
  subst ha
  subst hg
  obtain ⟨-, -, -, -, -, -, -, -, -, -, -, -, -, r13, -, -, -, -, -, r19, -⟩ := hr
  have r13 : (7 : Int) ≤ ρ 13 ∧ ρ 13 ≤ 8 := r13
  have r19 : (6 : Int) ≤ ρ 19 ∧ ρ 19 ≤ 8 := r19
  obtain ⟨w_0, w_1, w_2, w_3⟩ : (¬ (5 ≥ ρ 13)) ∧ (ρ 19 ≠ 1) ∧ (¬ (0 ≤ -ρ 19 + 3)) ∧ (¬ (0 ≤ -ρ 19 + 5)) := ⟨by omega, by omega, by omega, by omega⟩
  obtain ⟨-, -, -, -, m4, -, -, -, -, -, -, -, -, m13, -, -, -, -, -, m19, -⟩ := hm
  have m4 : γ 0 6 0 7 = ρ 4 := m4
  have m13 : γ 0 9 (ρ 4) 2 = ρ 13 := m13
  have m19 : γ 0 10 (9 * ρ 4 + 6) 4 = ρ 19 := m19
  obtain ⟨l0, l1, l2, -⟩ := hl
  have l0 : sn132 [ρ 4, 5] (γ 0) 0 (9 * ρ 4 + 6) (γ 1) := hS132 _ _ _ _ _ l0
  have l1 : sn231 [9 * ρ 4 + 6, ρ 19, ρ 24] (γ 1) 0 1 (γ 2) := hS231 _ _ _ _ _ l1
  have l2 : sn249 [ρ 0, ρ 1, ρ 2, ρ 3, ρ 4, ρ 5, ρ 6, ρ 7, ρ 8, ρ 9, ρ 10, ρ 11, ρ 12, ρ 13, ρ 14, ρ 15, ρ 16, ρ 17, ρ 18, ρ 25, ρ 26, ρ 27, ρ 28, ρ 29, ρ 30, ρ 31, ρ 32, ρ 33, ρ 34, ρ 35, ρ 36] (γ 2) 4 0 (γ 3) := hS249 _ _ _ _ _ l2
  show sn251 [ρ 0, ρ 1, ρ 2, ρ 3, ρ 4, ρ 5, ρ 6, ρ 7, ρ 8, ρ 9, ρ 10, ρ 11, ρ 12, ρ 13, ρ 14, ρ 15, ρ 16, ρ 17, ρ 18, ρ 19, ρ 20, ρ 21, ρ 22, ρ 23, ρ 24, ρ 25, ρ 26, ρ 27, ρ 28, ρ 29, ρ 30, ρ 31, ρ 32, ρ 33, ρ 34, ρ 35, ρ 36] (γ 0) 4 0 (γ 3)
  refine Eq.symm ?_
  show fn251 [] (γ 0) = _
  unfold fn251
  refine (zLet_eq m4).trans ?_
  refine (zLet_eq m13).trans ?_
  refine (zLet_eq m19).trans ?_
  refine (if_neg w_0).trans ?_
  refine (zLet_eq (show fn132 [ρ 4, 5] (γ 0) = (0, 9 * ρ 4 + 6, γ 1) from l0.symm)).trans ?_
  refine (zLet_eq (show _ = γ 1 from rfl)).trans ?_
  refine (if_pos w_1).trans ?_
  refine (if_neg w_2).trans ?_
  refine (if_neg w_3).trans ?_
  refine (zLet_eq (show fn231 [9 * ρ 4 + 6] (γ 1) = (0, 1, γ 2) from l1.symm)).trans ?_
  refine (zLet_eq (show _ = γ 2 from rfl)).trans ?_
  refine (if_pos zQ1_).trans ?_
  refine (zLet_eq (show fn249 [] (γ 2) = (4, 0, γ 3) from l2.symm)).trans ?_
  refine (zLet_eq (show _ = γ 3 from rfl)).trans ?_
  refine (if_neg (show ¬ (4 : Nat) = 0 by decide)).trans ?_
  refine (if_neg (show ¬ (4 : Nat) = 1 by decide)).trans ?_
  rfl
theorem vn251_18 {S : Nat → zSpc} (hS132 : ∀ x g o v gz, S 132 x g o v gz → sn132 x g o v gz) (hS228 : ∀ x g o v gz, S 228 x g o v gz → sn228 x g o v gz) (hS229 : ∀ x g o v gz, S 229 x g o v gz → sn229 x g o v gz) (hS230 : ∀ x g o v gz, S 230 x g o v gz → sn230 x g o v gz) (hS231 : ∀ x g o v gz, S 231 x g o v gz → sn231 x g o v gz) (hS244 : ∀ x g o v gz, S 244 x g o v gz → sn244 x g o v gz) (hS249 : ∀ x g o v gz, S 249 x g o v gz → sn249 x g o v gz) (hS250 : ∀ x g o v gz, S 250 x g o v gz → sn250 x g o v gz) {a : List Int} {g : rHp} : ∀ (ρ : Nat → Int) (γ : Nat → rHp), zO 37 S a g q251_18 ρ γ → zGl (fun _ _ _ => True) (sn251 a g) q251_18 ρ γ := by
  intro ρ γ h
  obtain ⟨ha, hg, hr, hf, hm, hc, hl⟩ := h
  have ha : a = [ρ 0, ρ 1, ρ 2, ρ 3, ρ 4, ρ 5, ρ 6, ρ 7, ρ 8, ρ 9, ρ 10, ρ 11, ρ 12, ρ 13, ρ 14, ρ 15, ρ 16, ρ 17, ρ 18, ρ 19, ρ 20, ρ 21, ρ 22, ρ 23, ρ 24, ρ 25, ρ 26, ρ 27, ρ 28, ρ 29, ρ 30, ρ 31, ρ 32, ρ 33, ρ 34, ρ 35, ρ 36] := ha
  subst ha
  subst hg
  obtain ⟨-, -, -, -, -, -, -, -, -, -, -, -, -, r13, -, -, -, -, -, r19, -⟩ := hr
  have r13 : (6 : Int) ≤ ρ 13 ∧ ρ 13 ≤ 8 := r13
  have r19 : (1 : Int) ≤ ρ 19 ∧ ρ 19 ≤ 1 := r19
  obtain ⟨w_0, w_1⟩ : (¬ (5 ≥ ρ 13)) ∧ (¬ (ρ 19 ≠ 1)) := ⟨by omega, by omega⟩
  obtain ⟨-, -, -, -, m4, -, -, -, -, -, -, -, -, m13, -, -, -, -, -, m19, -⟩ := hm
  have m4 : γ 0 6 0 7 = ρ 4 := m4
  have m13 : γ 0 9 (ρ 4) 2 = ρ 13 := m13
  have m19 : γ 0 10 (9 * ρ 4 + 6) 4 = ρ 19 := m19
  obtain ⟨l0, l1, -⟩ := hl
  have l0 : sn132 [ρ 4, 5] (γ 0) 0 (9 * ρ 4 + 6) (γ 1) := hS132 _ _ _ _ _ l0
  have l1 : sn250 [ρ 0, ρ 1, ρ 2, ρ 3, ρ 4, ρ 5, ρ 6, ρ 7, ρ 8, ρ 9, ρ 10, ρ 11, ρ 12, ρ 13, ρ 14, ρ 15, ρ 16, ρ 17, ρ 18, ρ 20, ρ 21, ρ 22, ρ 23, ρ 25, ρ 26, ρ 27, ρ 28, ρ 29, ρ 30, ρ 31, ρ 32, ρ 33, ρ 34, ρ 35, ρ 36] (γ 1) 0 0 (γ 2) := hS250 _ _ _ _ _ l1
  show sn251 [ρ 0, ρ 1, ρ 2, ρ 3, ρ 4, ρ 5, ρ 6, ρ 7, ρ 8, ρ 9, ρ 10, ρ 11, ρ 12, ρ 13, ρ 14, ρ 15, ρ 16, ρ 17, ρ 18, ρ 19, ρ 20, ρ 21, ρ 22, ρ 23, ρ 24, ρ 25, ρ 26, ρ 27, ρ 28, ρ 29, ρ 30, ρ 31, ρ 32, ρ 33, ρ 34, ρ 35, ρ 36] (γ 0) 0 0 (γ 2)
  refine Eq.symm ?_
  show fn251 [] (γ 0) = _
  unfold fn251
  refine (zLet_eq m4).trans ?_
  refine (zLet_eq m13).trans ?_
  refine (zLet_eq m19).trans ?_
  refine (if_neg w_0).trans ?_
  refine (zLet_eq (show fn132 [ρ 4, 5] (γ 0) = (0, 9 * ρ 4 + 6, γ 1) from l0.symm)).trans ?_
  refine (zLet_eq (show _ = γ 1 from rfl)).trans ?_
  refine (if_neg w_1).trans ?_
  refine (zLet_eq (show fn250 [] (γ 1) = (0, 0, γ 2) from l1.symm)).trans ?_
  refine (zLet_eq (show _ = γ 2 from rfl)).trans ?_
  refine (if_pos (show (0 : Nat) = 0 by decide)).trans ?_
  rfl
theorem vn251_19 {S : Nat → zSpc} (hS132 : ∀ x g o v gz, S 132 x g o v gz → sn132 x g o v gz) (hS228 : ∀ x g o v gz, S 228 x g o v gz → sn228 x g o v gz) (hS229 : ∀ x g o v gz, S 229 x g o v gz → sn229 x g o v gz) (hS230 : ∀ x g o v gz, S 230 x g o v gz → sn230 x g o v gz) (hS231 : ∀ x g o v gz, S 231 x g o v gz → sn231 x g o v gz) (hS244 : ∀ x g o v gz, S 244 x g o v gz → sn244 x g o v gz) (hS249 : ∀ x g o v gz, S 249 x g o v gz → sn249 x g o v gz) (hS250 : ∀ x g o v gz, S 250 x g o v gz → sn250 x g o v gz) {a : List Int} {g : rHp} : ∀ (ρ : Nat → Int) (γ : Nat → rHp), zO 37 S a g q251_19 ρ γ → zGl (fun _ _ _ => True) (sn251 a g) q251_19 ρ γ := by
  intro ρ γ h
  obtain ⟨ha, hg, hr, hf, hm, hc, hl⟩ := h
  have ha : a = [ρ 0, ρ 1, ρ 2, ρ 3, ρ 4, ρ 5, ρ 6, ρ 7, ρ 8, ρ 9, ρ 10, ρ 11, ρ 12, ρ 13, ρ 14, ρ 15, ρ 16, ρ 17, ρ 18, ρ 19, ρ 20, ρ 21, ρ 22, ρ 23, ρ 24, ρ 25, ρ 26, ρ 27, ρ 28, ρ 29, ρ 30, ρ 31, ρ 32, ρ 33, ρ 34, ρ 35, ρ 36] := ha
  subst ha
  subst hg
  obtain ⟨-, -, -, -, -, -, -, -, -, -, -, -, -, r13, -, -, -, -, -, r19, -⟩ := hr
  have r13 : (6 : Int) ≤ ρ 13 ∧ ρ 13 ≤ 8 := r13
  have r19 : (1 : Int) ≤ ρ 19 ∧ ρ 19 ≤ 1 := r19
  obtain ⟨w_0, w_1⟩ : (¬ (5 ≥ ρ 13)) ∧ (¬ (ρ 19 ≠ 1)) := ⟨by omega, by omega⟩
  obtain ⟨-, -, -, -, m4, -, -, -, -, -, -, -, -, m13, -, -, -, -, -, m19, -⟩ := hm
  have m4 : γ 0 6 0 7 = ρ 4 := m4
  have m13 : γ 0 9 (ρ 4) 2 = ρ 13 := m13
  have m19 : γ 0 10 (9 * ρ 4 + 6) 4 = ρ 19 := m19
  obtain ⟨l0, l1, -⟩ := hl
  have l0 : sn132 [ρ 4, 5] (γ 0) 0 (9 * ρ 4 + 6) (γ 1) := hS132 _ _ _ _ _ l0
  have l1 : sn250 [ρ 0, ρ 1, ρ 2, ρ 3, ρ 4, ρ 5, ρ 6, ρ 7, ρ 8, ρ 9, ρ 10, ρ 11, ρ 12, ρ 13, ρ 14, ρ 15, ρ 16, ρ 17, ρ 18, ρ 20, ρ 21, ρ 22, ρ 23, ρ 25, ρ 26, ρ 27, ρ 28, ρ 29, ρ 30, ρ 31, ρ 32, ρ 33, ρ 34, ρ 35, ρ 36] (γ 1) 1 0 (γ 2) := hS250 _ _ _ _ _ l1
  show sn251 [ρ 0, ρ 1, ρ 2, ρ 3, ρ 4, ρ 5, ρ 6, ρ 7, ρ 8, ρ 9, ρ 10, ρ 11, ρ 12, ρ 13, ρ 14, ρ 15, ρ 16, ρ 17, ρ 18, ρ 19, ρ 20, ρ 21, ρ 22, ρ 23, ρ 24, ρ 25, ρ 26, ρ 27, ρ 28, ρ 29, ρ 30, ρ 31, ρ 32, ρ 33, ρ 34, ρ 35, ρ 36] (γ 0) 1 0 (γ 2)
  refine Eq.symm ?_
  show fn251 [] (γ 0) = _
  unfold fn251
  refine (zLet_eq m4).trans ?_
  refine (zLet_eq m13).trans ?_
  refine (zLet_eq m19).trans ?_
  refine (if_neg w_0).trans ?_
  refine (zLet_eq (show fn132 [ρ 4, 5] (γ 0) = (0, 9 * ρ 4 + 6, γ 1) from l0.symm)).trans ?_
  refine (zLet_eq (show _ = γ 1 from rfl)).trans ?_
  refine (if_neg w_1).trans ?_
  refine (zLet_eq (show fn250 [] (γ 1) = (1, 0, γ 2) from l1.symm)).trans ?_
  refine (zLet_eq (show _ = γ 2 from rfl)).trans ?_
  refine (if_neg (show ¬ (1 : Nat) = 0 by decide)).trans ?_
  refine (if_pos (show (1 : Nat) = 1 by decide)).trans ?_
  rfl
theorem vn251_20 {S : Nat → zSpc} (hS132 : ∀ x g o v gz, S 132 x g o v gz → sn132 x g o v gz) (hS228 : ∀ x g o v gz, S 228 x g o v gz → sn228 x g o v gz) (hS229 : ∀ x g o v gz, S 229 x g o v gz → sn229 x g o v gz) (hS230 : ∀ x g o v gz, S 230 x g o v gz → sn230 x g o v gz) (hS231 : ∀ x g o v gz, S 231 x g o v gz → sn231 x g o v gz) (hS244 : ∀ x g o v gz, S 244 x g o v gz → sn244 x g o v gz) (hS249 : ∀ x g o v gz, S 249 x g o v gz → sn249 x g o v gz) (hS250 : ∀ x g o v gz, S 250 x g o v gz → sn250 x g o v gz) {a : List Int} {g : rHp} : ∀ (ρ : Nat → Int) (γ : Nat → rHp), zO 37 S a g q251_20 ρ γ → zGl (fun _ _ _ => True) (sn251 a g) q251_20 ρ γ := by
  intro ρ γ h
  obtain ⟨ha, hg, hr, hf, hm, hc, hl⟩ := h
  have ha : a = [ρ 0, ρ 1, ρ 2, ρ 3, ρ 4, ρ 5, ρ 6, ρ 7, ρ 8, ρ 9, ρ 10, ρ 11, ρ 12, ρ 13, ρ 14, ρ 15, ρ 16, ρ 17, ρ 18, ρ 19, ρ 20, ρ 21, ρ 22, ρ 23, ρ 24, ρ 25, ρ 26, ρ 27, ρ 28, ρ 29, ρ 30, ρ 31, ρ 32, ρ 33, ρ 34, ρ 35, ρ 36] := ha
  subst ha
  subst hg
  obtain ⟨-, -, -, -, -, -, -, -, -, -, -, -, -, r13, -, -, -, -, -, r19, -⟩ := hr
  have r13 : (6 : Int) ≤ ρ 13 ∧ ρ 13 ≤ 8 := r13
  have r19 : (1 : Int) ≤ ρ 19 ∧ ρ 19 ≤ 1 := r19
  obtain ⟨w_0, w_1⟩ : (¬ (5 ≥ ρ 13)) ∧ (¬ (ρ 19 ≠ 1)) := ⟨by omega, by omega⟩
  obtain ⟨-, -, -, -, m4, -, -, -, -, -, -, -, -, m13, -, -, -, -, -, m19, -⟩ := hm
  have m4 : γ 0 6 0 7 = ρ 4 := m4
  have m13 : γ 0 9 (ρ 4) 2 = ρ 13 := m13
  have m19 : γ 0 10 (9 * ρ 4 + 6) 4 = ρ 19 := m19
  obtain ⟨l0, l1, -⟩ := hl
  have l0 : sn132 [ρ 4, 5] (γ 0) 0 (9 * ρ 4 + 6) (γ 1) := hS132 _ _ _ _ _ l0
  have l1 : sn250 [ρ 0, ρ 1, ρ 2, ρ 3, ρ 4, ρ 5, ρ 6, ρ 7, ρ 8, ρ 9, ρ 10, ρ 11, ρ 12, ρ 13, ρ 14, ρ 15, ρ 16, ρ 17, ρ 18, ρ 20, ρ 21, ρ 22, ρ 23, ρ 25, ρ 26, ρ 27, ρ 28, ρ 29, ρ 30, ρ 31, ρ 32, ρ 33, ρ 34, ρ 35, ρ 36] (γ 1) 4 0 (γ 2) := hS250 _ _ _ _ _ l1
  show sn251 [ρ 0, ρ 1, ρ 2, ρ 3, ρ 4, ρ 5, ρ 6, ρ 7, ρ 8, ρ 9, ρ 10, ρ 11, ρ 12, ρ 13, ρ 14, ρ 15, ρ 16, ρ 17, ρ 18, ρ 19, ρ 20, ρ 21, ρ 22, ρ 23, ρ 24, ρ 25, ρ 26, ρ 27, ρ 28, ρ 29, ρ 30, ρ 31, ρ 32, ρ 33, ρ 34, ρ 35, ρ 36] (γ 0) 4 0 (γ 2)
  refine Eq.symm ?_
  show fn251 [] (γ 0) = _
  unfold fn251
  refine (zLet_eq m4).trans ?_
  refine (zLet_eq m13).trans ?_
  refine (zLet_eq m19).trans ?_
  refine (if_neg w_0).trans ?_
  refine (zLet_eq (show fn132 [ρ 4, 5] (γ 0) = (0, 9 * ρ 4 + 6, γ 1) from l0.symm)).trans ?_
  refine (zLet_eq (show _ = γ 1 from rfl)).trans ?_
  refine (if_neg w_1).trans ?_
  refine (zLet_eq (show fn250 [] (γ 1) = (4, 0, γ 2) from l1.symm)).trans ?_
  refine (zLet_eq (show _ = γ 2 from rfl)).trans ?_
  refine (if_neg (show ¬ (4 : Nat) = 0 by decide)).trans ?_
  refine (if_neg (show ¬ (4 : Nat) = 1 by decide)).trans ?_
  rfl
theorem yn251 {S : Nat → zSpc} (hS132 : ∀ x g o v gz, S 132 x g o v gz → sn132 x g o v gz) (hS228 : ∀ x g o v gz, S 228 x g o v gz → sn228 x g o v gz) (hS229 : ∀ x g o v gz, S 229 x g o v gz → sn229 x g o v gz) (hS230 : ∀ x g o v gz, S 230 x g o v gz → sn230 x g o v gz) (hS231 : ∀ x g o v gz, S 231 x g o v gz → sn231 x g o v gz) (hS244 : ∀ x g o v gz, S 244 x g o v gz → sn244 x g o v gz) (hS249 : ∀ x g o v gz, S 249 x g o v gz → sn249 x g o v gz) (hS250 : ∀ x g o v gz, S 250 x g o v gz → sn250 x g o v gz) : ∀ x g o v gz, zSem uW uT w251_.2.2.2.1 w251_.2.2.1.1.length S q251 (fun i => q251a.getD i []) (zNA a251_) x g o v gz → sn251 x g o v gz := by
  intro a g o v gz h
  exact zSem_all (l0 := q251) (las := q251a) (S := S) (J := (fun _ _ _ => True)) (P := sn251 a g) (fun _ => (show zAll _ [q251_0, q251_1, q251_2, q251_3, q251_4, q251_5, q251_6, q251_7, q251_8, q251_9, q251_10, q251_11, q251_12, q251_13, q251_14, q251_15, q251_16, q251_17, q251_18, q251_19, q251_20] from (zAll_c (vn251_0 hS132 hS228 hS229 hS230 hS231 hS244 hS249 hS250) (zAll_c (vn251_1 hS132 hS228 hS229 hS230 hS231 hS244 hS249 hS250) (zAll_c (vn251_2 hS132 hS228 hS229 hS230 hS231 hS244 hS249 hS250) (zAll_c (vn251_3 hS132 hS228 hS229 hS230 hS231 hS244 hS249 hS250) (zAll_c (vn251_4 hS132 hS228 hS229 hS230 hS231 hS244 hS249 hS250) (zAll_c (vn251_5 hS132 hS228 hS229 hS230 hS231 hS244 hS249 hS250) (zAll_c (vn251_6 hS132 hS228 hS229 hS230 hS231 hS244 hS249 hS250) (zAll_c (vn251_7 hS132 hS228 hS229 hS230 hS231 hS244 hS249 hS250) (zAll_c (vn251_8 hS132 hS228 hS229 hS230 hS231 hS244 hS249 hS250) (zAll_c (vn251_9 hS132 hS228 hS229 hS230 hS231 hS244 hS249 hS250) (zAll_c (vn251_10 hS132 hS228 hS229 hS230 hS231 hS244 hS249 hS250) (zAll_c (vn251_11 hS132 hS228 hS229 hS230 hS231 hS244 hS249 hS250) (zAll_c (vn251_12 hS132 hS228 hS229 hS230 hS231 hS244 hS249 hS250) (zAll_c (vn251_13 hS132 hS228 hS229 hS230 hS231 hS244 hS249 hS250) (zAll_c (vn251_14 hS132 hS228 hS229 hS230 hS231 hS244 hS249 hS250) (zAll_c (vn251_15 hS132 hS228 hS229 hS230 hS231 hS244 hS249 hS250) (zAll_c (vn251_16 hS132 hS228 hS229 hS230 hS231 hS244 hS249 hS250) (zAll_c (vn251_17 hS132 hS228 hS229 hS230 hS231 hS244 hS249 hS250) (zAll_c (vn251_18 hS132 hS228 hS229 hS230 hS231 hS244 hS249 hS250) (zAll_c (vn251_19 hS132 hS228 hS229 hS230 hS231 hS244 hS249 hS250) (zAll_c (vn251_20 hS132 hS228 hS229 hS230 hS231 hS244 hS249 hS250) zAll_n))))))))))))))))))))))) (fun _ => (show zAllI _ 0 [] from trivial)) h
