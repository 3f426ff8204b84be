/-! ===== the runs are the functions ===== -/
theorem vn49_0 {S : Nat → zSpc} (hS6 : ∀ x g o v gz, S 6 x g o v gz → sn6 x g o v gz) (hS7 : ∀ x g o v gz, S 7 x g o v gz → sn7 x g o v gz) (hS8 : ∀ x g o v gz, S 8 x g o v gz → sn8 x g o v gz) (hS21 : ∀ x g o v gz, S 21 x g o v gz → sn21 x g o v gz) (hS25 : ∀ x g o v gz, S 25 x g o v gz → sn25 x g o v gz) (hS27 : ∀ x g o v gz, S 27 x g o v gz → sn27 x g o v gz) (hS28 : ∀ x g o v gz, S 28 x g o v gz → sn28 x g o v gz) (hS30 : ∀ x g o v gz, S 30 x g o v gz → sn30 x g o v gz) (hS31 : ∀ x g o v gz, S 31 x g o v gz → sn31 x g o v gz) (hS39 : ∀ x g o v gz, S 39 x g o v gz → sn39 x g o v gz) (hS43 : ∀ x g o v gz, S 43 x g o v gz → sn43 x g o v gz) (hS44 : ∀ x g o v gz, S 44 x g o v gz → sn44 x g o v gz) (hS45 : ∀ x g o v gz, S 45 x g o v gz → sn45 x g o v gz) (hS46 : ∀ x g o v gz, S 46 x g o v gz → sn46 x g o v gz) (hS47 : ∀ x g o v gz, S 47 x g o v gz → sn47 x g o v gz) {a : List Int} {g : rHp} : ∀ (ρ : Nat → Int) (γ : Nat → rHp), zO 23 S a g q49_0 ρ γ → zGl (fun i vs g1 => jn49 a g i vs g1) (sn49 a g) q49_0 ρ γ := by
  intro ρ γ h
  obtain ⟨ha, hg, hr, hf, hm, hc, hl⟩ := h
  have ha : a = [ρ 0, ρ 1, ρ 2, ρ 3, ρ 4, ρ 5, ρ 6, ρ 7, ρ 8, ρ 9, ρ 10, ρ 11, ρ 12, ρ 13, ρ 14, ρ 15, ρ 16, ρ 17, ρ 18, ρ 19, ρ 20, ρ 21, ρ 22] := ha
  subst ha
  subst hg
  obtain ⟨-, -, -, -, m4, m5, -⟩ := hm
  have m4 : γ 0 15 0 32 = ρ 4 := m4
  have m5 : γ 0 15 0 33 = ρ 5 := m5
  obtain ⟨l0, l1, -⟩ := hl
  have l0 : sn47 [ρ 5 + ρ 4, ρ 11, ρ 4, ρ 5, ρ 10, ρ 19, ρ 9] (γ 0) 0 0 (γ 1) := hS47 _ _ _ _ _ l0
  have l1 : sn27 [ρ 0, ρ 1, ρ 2, ρ 3, 0, ρ 12, ρ 13, ρ 15, ρ 16, ρ 17, ρ 18, ρ 5 + ρ 4, 0, ρ 20, ρ 21, ρ 22] (γ 1) 0 0 (γ 2) := hS27 _ _ _ _ _ l1
  show sn49 [ρ 0, ρ 1, ρ 2, ρ 3, ρ 4, ρ 5, ρ 6, ρ 7, ρ 8, ρ 9, ρ 10, ρ 11, ρ 12, ρ 13, ρ 14, ρ 15, ρ 16, ρ 17, ρ 18, ρ 19, ρ 20, ρ 21, ρ 22] (γ 0) 0 0 (γ 2)
  have hD : dn49 [] (γ 0) = .inr (0, 0, γ 2) := by
    unfold dn49
    refine (zLet_eq m4).trans ?_
    refine (zLet_eq m5).trans ?_
    refine (zLet_eq (show fn47 [ρ 5 + ρ 4] (γ 0) = (0, 0, γ 1) from l0.symm)).trans ?_
    refine (zLet_eq (show _ = γ 1 from rfl)).trans ?_
    refine (zLet_eq (show fn27 [] (γ 1) = (0, 0, γ 2) from l1.symm)).trans ?_
    refine (zLet_eq (show _ = γ 2 from rfl)).trans ?_
    refine (if_neg zQ0_).trans ?_
    rfl
  exact zGoo_end hD
theorem vn49_1 {S : Nat → zSpc} (hS6 : ∀ x g o v gz, S 6 x g o v gz → sn6 x g o v gz) (hS7 : ∀ x g o v gz, S 7 x g o v gz → sn7 x g o v gz) (hS8 : ∀ x g o v gz, S 8 x g o v gz → sn8 x g o v gz) (hS21 : ∀ x g o v gz, S 21 x g o v gz → sn21 x g o v gz) (hS25 : ∀ x g o v gz, S 25 x g o v gz → sn25 x g o v gz) (hS27 : ∀ x g o v gz, S 27 x g o v gz → sn27 x g o v gz) (hS28 : ∀ x g o v gz, S 28 x g o v gz → sn28 x g o v gz) (hS30 : ∀ x g o v gz, S 30 x g o v gz → sn30 x g o v gz) (hS31 : ∀ x g o v gz, S 31 x g o v gz → sn31 x g o v gz) (hS39 : ∀ x g o v gz, S 39 x g o v gz → sn39 x g o v gz) (hS43 : ∀ x g o v gz, S 43 x g o v gz → sn43 x g o v gz) (hS44 : ∀ x g o v gz, S 44 x g o v gz → sn44 x g o v gz) (hS45 : ∀ x g o v gz, S 45 x g o v gz → sn45 x g o v gz) (hS46 : ∀ x g o v gz, S 46 x g o v gz → sn46 x g o v gz) (hS47 : ∀ x g o v gz, S 47 x g o v gz → sn47 x g o v gz) {a : List Int} {g : rHp} : ∀ (ρ : Nat → Int) (γ : Nat → rHp), zO 23 S a g q49_1 ρ γ → zGl (fun i vs g1 => jn49 a g i vs g1) (sn49 a g) q49_1 ρ γ := by
  intro ρ γ h
  obtain ⟨ha, hg, hr, hf, hm, hc, hl⟩ := h
  have ha : a = [ρ 0, ρ 1, ρ 2, ρ 3, ρ 4, ρ 5, ρ 6, ρ 7, ρ 8, ρ 9, ρ 10, ρ 11, ρ 12, ρ 13, ρ 14, ρ 15, ρ 16, ρ 17, ρ 18, ρ 19, ρ 20, ρ 21, ρ 22] := ha
  subst ha
  subst hg
  obtain ⟨-, -, -, -, m4, m5, -⟩ := hm
  have m4 : γ 0 15 0 32 = ρ 4 := m4
  have m5 : γ 0 15 0 33 = ρ 5 := m5
  obtain ⟨l0, l1, -⟩ := hl
  have l0 : sn47 [ρ 5 + ρ 4, ρ 11, ρ 4, ρ 5, ρ 10, ρ 19, ρ 9] (γ 0) 0 0 (γ 1) := hS47 _ _ _ _ _ l0
  have l1 : sn27 [ρ 0, ρ 1, ρ 2, ρ 3, 0, ρ 12, ρ 13, ρ 15, ρ 16, ρ 17, ρ 18, ρ 5 + ρ 4, 0, ρ 20, ρ 21, ρ 22] (γ 1) 0 1 (γ 2) := hS27 _ _ _ _ _ l1
  show jn49 [ρ 0, ρ 1, ρ 2, ρ 3, ρ 4, ρ 5, ρ 6, ρ 7, ρ 8, ρ 9, ρ 10, ρ 11, ρ 12, ρ 13, ρ 14, ρ 15, ρ 16, ρ 17, ρ 18, ρ 19, ρ 20, ρ 21, ρ 22] (γ 0) 0 [ρ 0, ρ 1, ρ 2, ρ 3, ρ 4, ρ 5, ρ 6, ρ 7, ρ 8, ρ 9, ρ 10, ρ 11, ρ 12, ρ 13, ρ 14, ρ 15, ρ 16, ρ 17, ρ 18, ρ 19, ρ 20, ρ 21, ρ 22, 0, ρ 23, ρ 24, ρ 25, ρ 26, ρ 5 + ρ 4, ρ 27, ρ 28, ρ 29, ρ 30, ρ 31, 0, ρ 32, ρ 33, ρ 34, 0] (γ 2)
  have hD : dn49 [] (γ 0) = .inl (0, [0], γ 2) := by
    unfold dn49
    refine (zLet_eq m4).trans ?_
    refine (zLet_eq m5).trans ?_
    refine (zLet_eq (show fn47 [ρ 5 + ρ 4] (γ 0) = (0, 0, γ 1) from l0.symm)).trans ?_
    refine (zLet_eq (show _ = γ 1 from rfl)).trans ?_
    refine (zLet_eq (show fn27 [] (γ 1) = (0, 1, γ 2) from l1.symm)).trans ?_
    refine (zLet_eq (show _ = γ 2 from rfl)).trans ?_
    refine (if_pos zQ1_).trans ?_
    rfl
  exact zGoo_to hD
theorem vn49a0_0 {S : Nat → zSpc} (hS6 : ∀ x g o v gz, S 6 x g o v gz → sn6 x g o v gz) (hS7 : ∀ x g o v gz, S 7 x g o v gz → sn7 x g o v gz) (hS8 : ∀ x g o v gz, S 8 x g o v gz → sn8 x g o v gz) (hS21 : ∀ x g o v gz, S 21 x g o v gz → sn21 x g o v gz) (hS25 : ∀ x g o v gz, S 25 x g o v gz → sn25 x g o v gz) (hS27 : ∀ x g o v gz, S 27 x g o v gz → sn27 x g o v gz) (hS28 : ∀ x g o v gz, S 28 x g o v gz → sn28 x g o v gz) (hS30 : ∀ x g o v gz, S 30 x g o v gz → sn30 x g o v gz) (hS31 : ∀ x g o v gz, S 31 x g o v gz → sn31 x g o v gz) (hS39 : ∀ x g o v gz, S 39 x g o v gz → sn39 x g o v gz) (hS43 : ∀ x g o v gz, S 43 x g o v gz → sn43 x g o v gz) (hS44 : ∀ x g o v gz, S 44 x g o v gz → sn44 x g o v gz) (hS45 : ∀ x g o v gz, S 45 x g o v gz → sn45 x g o v gz) (hS46 : ∀ x g o v gz, S 46 x g o v gz → sn46 x g o v gz) (hS47 : ∀ x g o v gz, S 47 x g o v gz → sn47 x g o v gz) {a : List Int} {g : rHp} : ∀ (ρ : Nat → Int) (γ : Nat → rHp), jn49 a g 0 (zAg (zNA a49_ 0) ρ) (γ 1) → zO 23 S a g q49a0_0 ρ γ → zGl (fun i vs g1 => jn49 a g i vs g1) (sn49 a g) q49a0_0 ρ γ := by
  intro ρ γ hJ h
  obtain ⟨ha, hg, hr, hf, hm, hc, hl⟩ := h
  have ha : a = [ρ 0, ρ 1, ρ 2, ρ 3, ρ 4, ρ 5, ρ 6, ρ 7, ρ 8, ρ 9, ρ 10, ρ 11, ρ 12, ρ 13, ρ 14, ρ 15, ρ 16, ρ 17, ρ 18, ρ 19, ρ 20, ρ 21, ρ 22] := ha
  subst ha
  subst hg
  have hJ : jn49 [ρ 0, ρ 1, ρ 2, ρ 3, ρ 4, ρ 5, ρ 6, ρ 7, ρ 8, ρ 9, ρ 10, ρ 11, ρ 12, ρ 13, ρ 14, ρ 15, ρ 16, ρ 17, ρ 18, ρ 19, ρ 20, ρ 21, ρ 22] (γ 0) 0 [ρ 0, ρ 1, ρ 2, ρ 3, ρ 4, ρ 5, ρ 6, ρ 7, ρ 8, ρ 9, ρ 10, ρ 11, ρ 12, ρ 13, ρ 14, ρ 15, ρ 16, ρ 17, ρ 18, ρ 19, ρ 20, ρ 21, ρ 22, ρ 23, ρ 24, ρ 25, ρ 26, ρ 27, ρ 28, ρ 29, ρ 30, ρ 31, ρ 32, ρ 33, ρ 34, ρ 35, ρ 36, ρ 37, ρ 38] (γ 1) := hJ
  obtain ⟨-, -, -, -, -, -, -, -, -, -, -, -, -, -, -, -, -, -, -, -, -, -, -, -, -, -, -, -, -, -, -, -, -, -, -, -, -, -, -, r39, -, r41, r42, r43, -⟩ := hr
  have r39 : (0 : Int) ≤ ρ 39 ∧ ρ 39 ≤ 19 := r39
  have r41 : ((-128) : Int) ≤ ρ 41 ∧ ρ 41 ≤ 127 := r41
  have r42 : (58 : Int) ≤ ρ 42 ∧ ρ 42 ≤ 58 := r42
  have r43 : (45 : Int) ≤ ρ 43 ∧ ρ 43 ≤ 45 := r43
  obtain ⟨f0, f1, -, -, -, -, -, -, f8, -⟩ := hf
  have f0 : (0 : Int) ≤ -ρ 5 + -ρ 4 + 59 := f0
  have f1 : (0 : Int) ≤ -ρ 40 + ρ 1 + (-2) := f1
  have f8 : (0 : Int) ≤ -ρ 37 + ρ 23 := f8
  obtain ⟨w_0, w_1, w_2, w_3, w_4, w_5, w_6⟩ : (ρ 23 ≥ ρ 37) ∧ (ρ 39 ≥ 0) ∧ (0 ≤ -ρ 40 + ρ 1 + (-1)) ∧ (ρ 42 = 58) ∧ (0 ≤ -ρ 40 + ρ 1 + (-2)) ∧ (ρ 43 = 45) ∧ (ρ 5 + ρ 4 ≠ 60) := ⟨by omega, by omega, by omega, by omega, by omega, by omega, by omega⟩
  obtain ⟨-, m1, -, -, m4, m5, m6, m7, m8, -, -, -, -, -, -, -, -, -, -, -, -, -, -, -, -, -, -, m27, m28, m29, -, -, -, -, -, m35, m36, m37, -, m39, -⟩ := hm
  have m1 : γ 0 15 0 34 = ρ 1 := m1
  have m4 : γ 0 15 0 32 = ρ 4 := m4
  have m5 : γ 0 15 0 33 = ρ 5 := m5
  have m6 : γ 0 15 0 17 = ρ 6 := m6
  have m7 : γ 0 15 0 18 = ρ 7 := m7
  have m8 : γ 0 15 0 14 = ρ 8 := m8
  have m27 : γ 1 15 0 44 = ρ 28 := m27
  have m28 : γ 1 15 0 49 = ρ 29 := m28
  have m29 : γ 1 15 0 50 = ρ 30 := m29
  have m35 : γ 1 15 0 46 = ρ 35 := m35
  have m36 : γ 1 15 0 47 = ρ 36 := m36
  have m37 : γ 1 15 0 48 = ρ 37 := m37
  have m39 : γ 3 15 0 35 = ρ 40 := m39
  obtain ⟨⟨⟨⟨-, c7⟩, c8⟩, c9⟩, c10⟩ := hc
  have c7 : γ 7 = rUp (γ 6) 15 0 35 (ρ 40 + 2) := c7
  have c8 : γ 8 = rUp (γ 7) 69 0 (ρ 28) (ρ 39) := c8
  have c9 : γ 9 = rUp (γ 8) 71 0 (ρ 28) (ρ 29) := c9
  have c10 : γ 10 = rUp (γ 9) 72 0 (ρ 28) (ρ 30) := c10
  obtain ⟨l0, l1, l2, l3, l4, l5, -⟩ := hl
  have l0 : sn21 [ρ 35, ρ 36, ρ 37, ρ 8] (γ 1) 0 (ρ 39) (γ 2) := hS21 _ _ _ _ _ l0
  have l1 : sn7 [ρ 24, ρ 1] (γ 2) 0 0 (γ 3) := hS7 _ _ _ _ _ l1
  have l2 : sn6 [ρ 40, ρ 1] (γ 3) 0 (ρ 41) (γ 4) := hS6 _ _ _ _ _ l2
  have l3 : ρ 41 ≠ 46 := l3
  have l4 : sn6 [ρ 40, ρ 1] (γ 4) 0 (ρ 42) (γ 5) := hS6 _ _ _ _ _ l4
  have l5 : sn6 [ρ 40 + 1, ρ 1] (γ 5) 0 (ρ 43) (γ 6) := hS6 _ _ _ _ _ l5
  have wl_0 : ρ 41 ≠ 46 := by omega
  show jn49 [ρ 0, ρ 1, ρ 2, ρ 3, ρ 4, ρ 5, ρ 6, ρ 7, ρ 8, ρ 9, ρ 10, ρ 11, ρ 12, ρ 13, ρ 14, ρ 15, ρ 16, ρ 17, ρ 18, ρ 19, ρ 20, ρ 21, ρ 22] (γ 0) 1 [ρ 0, ρ 1, ρ 2, ρ 3, ρ 4, ρ 5, ρ 6, ρ 7, ρ 8, ρ 9, ρ 10, ρ 11, ρ 12, ρ 13, ρ 14, ρ 15, ρ 16, ρ 17, ρ 18, ρ 19, ρ 20, ρ 21, ρ 22, 0, ρ 35, ρ 39, ρ 40 + 2, ρ 25, ρ 26, ρ 8, ρ 27, ρ 28, ρ 29, ρ 30, ρ 31, ρ 32, ρ 33, ρ 34, ρ 35, ρ 36, ρ 37, ρ 38, ρ 39] (γ 10)
  have hD : en49 (γ 0) (0, [ρ 23], γ 1) = .inl (1, [0, ρ 35, ρ 39], γ 10) := by
    unfold en49
    refine (if_pos (show (0 : Nat) = 0 by decide)).trans ?_
    refine (zLet_eq (show _ = γ 1 from rfl)).trans ?_
    refine (zLet_eq (show _ = ρ 23 from rfl)).trans ?_
    refine (zLet_eq m1).trans ?_
    refine (zLet_eq m4).trans ?_
    refine (zLet_eq m5).trans ?_
    refine (zLet_eq m6).trans ?_
    refine (zLet_eq m7).trans ?_
    refine (zLet_eq m8).trans ?_
    refine (zLet_eq m27).trans ?_
    refine (zLet_eq m28).trans ?_
    refine (zLet_eq m29).trans ?_
    refine (zLet_eq m35).trans ?_
    refine (zLet_eq m36).trans ?_
    refine (zLet_eq m37).trans ?_
    refine (if_pos w_0).trans ?_
    refine (zLet_eq (show fn21 [ρ 35, ρ 36, ρ 37] (γ 1) = (0, ρ 39, γ 2) from l0.symm)).trans ?_
    refine (zLet_eq (show _ = γ 2 from rfl)).trans ?_
    refine (zLet_eq (show _ = ρ 39 from rfl)).trans ?_
    refine (if_pos w_1).trans ?_
    refine (zLet_eq (show fn7 [] (γ 2) = (0, 0, γ 3) from l1.symm)).trans ?_
    refine (zLet_eq (show _ = γ 3 from rfl)).trans ?_
    refine (zLet_eq m39).trans ?_
    refine (zLet_eq (show fn6 [ρ 40] (γ 3) = (0, ρ 41, γ 4) from l2.symm)).trans ?_
    refine (zLet_eq (show _ = γ 4 from rfl)).trans ?_
    refine (if_pos w_2).trans ?_
    refine (zLet_eq (show _ = ρ 41 from rfl)).trans ?_
    refine (if_pos wl_0).trans ?_
    refine (zLet_eq (show fn6 [ρ 40] (γ 4) = (0, ρ 42, γ 5) from l4.symm)).trans ?_
    refine (zLet_eq (show _ = γ 5 from rfl)).trans ?_
    refine (zLet_eq (show _ = ρ 42 from rfl)).trans ?_
    refine (if_pos w_3).trans ?_
    refine (zLet_eq (show fn6 [ρ 40 + 1] (γ 5) = (0, ρ 43, γ 6) from l5.symm)).trans ?_
    refine (zLet_eq (show _ = γ 6 from rfl)).trans ?_
    refine (if_pos w_4).trans ?_
    refine (zLet_eq (show _ = ρ 43 from rfl)).trans ?_
    refine (if_pos w_5).trans ?_
    refine (zLet_eq c7.symm).trans ?_
    refine (if_pos w_6).trans ?_
    refine (zLet_eq c8.symm).trans ?_
    refine (zLet_eq c9.symm).trans ?_
    refine (zLet_eq c10.symm).trans ?_
    rfl
  exact zGoo_ato hJ hD
theorem vn49a0_1 {S : Nat → zSpc} (hS6 : ∀ x g o v gz, S 6 x g o v gz → sn6 x g o v gz) (hS7 : ∀ x g o v gz, S 7 x g o v gz → sn7 x g o v gz) (hS8 : ∀ x g o v gz, S 8 x g o v gz → sn8 x g o v gz) (hS21 : ∀ x g o v gz, S 21 x g o v gz → sn21 x g o v gz) (hS25 : ∀ x g o v gz, S 25 x g o v gz → sn25 x g o v gz) (hS27 : ∀ x g o v gz, S 27 x g o v gz → sn27 x g o v gz) (hS28 : ∀ x g o v gz, S 28 x g o v gz → sn28 x g o v gz) (hS30 : ∀ x g o v gz, S 30 x g o v gz → sn30 x g o v gz) (hS31 : ∀ x g o v gz, S 31 x g o v gz → sn31 x g o v gz) (hS39 : ∀ x g o v gz, S 39 x g o v gz → sn39 x g o v gz) (hS43 : ∀ x g o v gz, S 43 x g o v gz → sn43 x g o v gz) (hS44 : ∀ x g o v gz, S 44 x g o v gz → sn44 x g o v gz) (hS45 : ∀ x g o v gz, S 45 x g o v gz → sn45 x g o v gz) (hS46 : ∀ x g o v gz, S 46 x g o v gz → sn46 x g o v gz) (hS47 : ∀ x g o v gz, S 47 x g o v gz → sn47 x g o v gz) {a : List Int} {g : rHp} : ∀ (ρ : Nat → Int) (γ : Nat → rHp), jn49 a g 0 (zAg (zNA a49_ 0) ρ) (γ 1) → zO 23 S a g q49a0_1 ρ γ → zGl (fun i vs g1 => jn49 a g i vs g1) (sn49 a g) q49a0_1 ρ γ := by
  intro ρ γ hJ h
  obtain ⟨ha, hg, hr, hf, hm, hc, hl⟩ := h
  have ha : a = [ρ 0, ρ 1, ρ 2, ρ 3, ρ 4, ρ 5, ρ 6, ρ 7, ρ 8, ρ 9, ρ 10, ρ 11, ρ 12, ρ 13, ρ 14, ρ 15, ρ 16, ρ 17, ρ 18, ρ 19, ρ 20, ρ 21, ρ 22] := ha
  subst ha
  subst hg
  have hJ : jn49 [ρ 0, ρ 1, ρ 2, ρ 3, ρ 4, ρ 5, ρ 6, ρ 7, ρ 8, ρ 9, ρ 10, ρ 11, ρ 12, ρ 13, ρ 14, ρ 15, ρ 16, ρ 17, ρ 18, ρ 19, ρ 20, ρ 21, ρ 22] (γ 0) 0 [ρ 0, ρ 1, ρ 2, ρ 3, ρ 4, ρ 5, ρ 6, ρ 7, ρ 8, ρ 9, ρ 10, ρ 11, ρ 12, ρ 13, ρ 14, ρ 15, ρ 16, ρ 17, ρ 18, ρ 19, ρ 20, ρ 21, ρ 22, ρ 23, ρ 24, ρ 25, ρ 26, ρ 27, ρ 28, ρ 29, ρ 30, ρ 31, ρ 32, ρ 33, ρ 34, ρ 35, ρ 36, ρ 37, ρ 38] (γ 1) := hJ
  obtain ⟨-, -, -, -, -, -, -, -, -, -, -, -, -, -, -, -, -, -, -, -, -, -, -, -, -, -, -, -, -, -, -, -, -, -, -, -, -, -, -, r39, -, r41, r42, r43, -⟩ := hr
  have r39 : (0 : Int) ≤ ρ 39 ∧ ρ 39 ≤ 19 := r39
  have r41 : ((-128) : Int) ≤ ρ 41 ∧ ρ 41 ≤ 127 := r41
  have r42 : (58 : Int) ≤ ρ 42 ∧ ρ 42 ≤ 58 := r42
  have r43 : (45 : Int) ≤ ρ 43 ∧ ρ 43 ≤ 45 := r43
  obtain ⟨-, -, f2, f3, f4, -, -, -, -, -, -, f11, -⟩ := hf
  have f2 : (0 : Int) ≤ -ρ 5 + -ρ 4 + 60 := f2
  have f3 : (0 : Int) ≤ ρ 5 + ρ 4 + (-60) := f3
  have f4 : (0 : Int) ≤ -ρ 40 + ρ 1 + (-2) := f4
  have f11 : (0 : Int) ≤ -ρ 37 + ρ 23 := f11
  obtain ⟨w_0, w_1, w_2, w_3, w_4, w_5, w_6⟩ : (ρ 23 ≥ ρ 37) ∧ (ρ 39 ≥ 0) ∧ (0 ≤ -ρ 40 + ρ 1 + (-1)) ∧ (ρ 42 = 58) ∧ (0 ≤ -ρ 40 + ρ 1 + (-2)) ∧ (ρ 43 = 45) ∧ (¬ (ρ 5 + ρ 4 ≠ 60)) := ⟨by omega, by omega, by omega, by omega, by omega, by omega, by omega⟩
  obtain ⟨-, m1, -, -, m4, m5, m6, m7, m8, -, -, -, -, -, -, -, -, -, -, -, -, -, -, -, -, -, -, m27, m28, m29, -, -, -, -, -, m35, m36, m37, -, m39, -⟩ := hm
  have m1 : γ 0 15 0 34 = ρ 1 := m1
  have m4 : γ 0 15 0 32 = ρ 4 := m4
  have m5 : γ 0 15 0 33 = ρ 5 := m5
  have m6 : γ 0 15 0 17 = ρ 6 := m6
  have m7 : γ 0 15 0 18 = ρ 7 := m7
  have m8 : γ 0 15 0 14 = ρ 8 := m8
  have m27 : γ 1 15 0 44 = ρ 28 := m27
  have m28 : γ 1 15 0 49 = ρ 29 := m28
  have m29 : γ 1 15 0 50 = ρ 30 := m29
  have m35 : γ 1 15 0 46 = ρ 35 := m35
  have m36 : γ 1 15 0 47 = ρ 36 := m36
  have m37 : γ 1 15 0 48 = ρ 37 := m37
  have m39 : γ 3 15 0 35 = ρ 40 := m39
  obtain ⟨⟨-, c7⟩, -⟩ := hc
  have c7 : γ 7 = rUp (γ 6) 15 0 35 (ρ 40 + 2) := c7
  obtain ⟨l0, l1, l2, l3, l4, l5, l6, -⟩ := hl
  have l0 : sn21 [ρ 35, ρ 36, ρ 37, ρ 8] (γ 1) 0 (ρ 39) (γ 2) := hS21 _ _ _ _ _ l0
  have l1 : sn7 [ρ 24, ρ 1] (γ 2) 0 0 (γ 3) := hS7 _ _ _ _ _ l1
  have l2 : sn6 [ρ 40, ρ 1] (γ 3) 0 (ρ 41) (γ 4) := hS6 _ _ _ _ _ l2
  have l3 : ρ 41 ≠ 46 := l3
  have l4 : sn6 [ρ 40, ρ 1] (γ 4) 0 (ρ 42) (γ 5) := hS6 _ _ _ _ _ l4
  have l5 : sn6 [ρ 40 + 1, ρ 1] (γ 5) 0 (ρ 43) (γ 6) := hS6 _ _ _ _ _ l5
  have l6 : sn8 [ρ 35, ρ 1, ρ 15] (γ 7) 0 0 (γ 8) := hS8 _ _ _ _ _ l6
  have wl_0 : ρ 41 ≠ 46 := by omega
  show sn49 [ρ 0, ρ 1, ρ 2, ρ 3, ρ 4, ρ 5, ρ 6, ρ 7, ρ 8, ρ 9, ρ 10, ρ 11, ρ 12, ρ 13, ρ 14, ρ 15, ρ 16, ρ 17, ρ 18, ρ 19, ρ 20, ρ 21, ρ 22] (γ 0) 0 0 (γ 8)
  have hD : en49 (γ 0) (0, [ρ 23], γ 1) = .inr (0, 0, γ 8) := by
    unfold en49
    refine (if_pos (show (0 : Nat) = 0 by decide)).trans ?_
    refine (zLet_eq (show _ = γ 1 from rfl)).trans ?_
    refine (zLet_eq (show _ = ρ 23 from rfl)).trans ?_
    refine (zLet_eq m1).trans ?_
    refine (zLet_eq m4).trans ?_
    refine (zLet_eq m5).trans ?_
    refine (zLet_eq m6).trans ?_
    refine (zLet_eq m7).trans ?_
    refine (zLet_eq m8).trans ?_
    refine (zLet_eq m27).trans ?_
    refine (zLet_eq m28).trans ?_
    refine (zLet_eq m29).trans ?_
    refine (zLet_eq m35).trans ?_
    refine (zLet_eq m36).trans ?_
    refine (zLet_eq m37).trans ?_
    refine (if_pos w_0).trans ?_
    refine (zLet_eq (show fn21 [ρ 35, ρ 36, ρ 37] (γ 1) = (0, ρ 39, γ 2) from l0.symm)).trans ?_
    refine (zLet_eq (show _ = γ 2 from rfl)).trans ?_
    refine (zLet_eq (show _ = ρ 39 from rfl)).trans ?_
    refine (if_pos w_1).trans ?_
    refine (zLet_eq (show fn7 [] (γ 2) = (0, 0, γ 3) from l1.symm)).trans ?_
    refine (zLet_eq (show _ = γ 3 from rfl)).trans ?_
    refine (zLet_eq m39).trans ?_
    refine (zLet_eq (show fn6 [ρ 40] (γ 3) = (0, ρ 41, γ 4) from l2.symm)).trans ?_
    refine (zLet_eq (show _ = γ 4 from rfl)).trans ?_
    refine (if_pos w_2).trans ?_
    refine (zLet_eq (show _ = ρ 41 from rfl)).trans ?_
    refine (if_pos wl_0).trans ?_
    refine (zLet_eq (show fn6 [ρ 40] (γ 4) = (0, ρ 42, γ 5) from l4.symm)).trans ?_
    refine (zLet_eq (show _ = γ 5 from rfl)).trans ?_
    refine (zLet_eq (show _ = ρ 42 from rfl)).trans ?_
    refine (if_pos w_3).trans ?_
    refine (zLet_eq (show fn6 [ρ 40 + 1] (γ 5) = (0, ρ 43, γ 6) from l5.symm)).trans ?_
    refine (zLet_eq (show _ = γ 6 from rfl)).trans ?_
    refine (if_pos w_4).trans ?_
    refine (zLet_eq (show _ = ρ 43 from rfl)).trans ?_
    refine (if_pos w_5).trans ?_
    refine (zLet_eq c7.symm).trans ?_
    refine (if_neg w_6).trans ?_
    refine (zLet_eq (show fn8 [ρ 35] (γ 7) = (0, 0, γ 8) from l6.symm)).trans ?_
    refine (zLet_eq (show _ = γ 8 from rfl)).trans ?_
    rfl
  exact zGoo_aend hJ hD
theorem vn49a0_2 {S : Nat → zSpc} (hS6 : ∀ x g o v gz, S 6 x g o v gz → sn6 x g o v gz) (hS7 : ∀ x g o v gz, S 7 x g o v gz → sn7 x g o v gz) (hS8 : ∀ x g o v gz, S 8 x g o v gz → sn8 x g o v gz) (hS21 : ∀ x g o v gz, S 21 x g o v gz → sn21 x g o v gz) (hS25 : ∀ x g o v gz, S 25 x g o v gz → sn25 x g o v gz) (hS27 : ∀ x g o v gz, S 27 x g o v gz → sn27 x g o v gz) (hS28 : ∀ x g o v gz, S 28 x g o v gz → sn28 x g o v gz) (hS30 : ∀ x g o v gz, S 30 x g o v gz → sn30 x g o v gz) (hS31 : ∀ x g o v gz, S 31 x g o v gz → sn31 x g o v gz) (hS39 : ∀ x g o v gz, S 39 x g o v gz → sn39 x g o v gz) (hS43 : ∀ x g o v gz, S 43 x g o v gz → sn43 x g o v gz) (hS44 : ∀ x g o v gz, S 44 x g o v gz → sn44 x g o v gz) (hS45 : ∀ x g o v gz, S 45 x g o v gz → sn45 x g o v gz) (hS46 : ∀ x g o v gz, S 46 x g o v gz → sn46 x g o v gz) (hS47 : ∀ x g o v gz, S 47 x g o v gz → sn47 x g o v gz) {a : List Int} {g : rHp} : ∀ (ρ : Nat → Int) (γ : Nat → rHp), jn49 a g 0 (zAg (zNA a49_ 0) ρ) (γ 1) → zO 23 S a g q49a0_2 ρ γ → zGl (fun i vs g1 => jn49 a g i vs g1) (sn49 a g) q49a0_2 ρ γ := by
  intro ρ γ hJ h
  obtain ⟨ha, hg, hr, hf, hm, hc, hl⟩ := h
  have ha : a = [ρ 0, ρ 1, ρ 2, ρ 3, ρ 4, ρ 5, ρ 6, ρ 7, ρ 8, ρ 9, ρ 10, ρ 11, ρ 12, ρ 13, ρ 14, ρ 15, ρ 16, ρ 17, ρ 18, ρ 19, ρ 20, ρ 21, ρ 22] := ha
  subst ha
  subst hg
  have hJ : jn49 [ρ 0, ρ 1, ρ 2, ρ 3, ρ 4, ρ 5, ρ 6, ρ 7, ρ 8, ρ 9, ρ 10, ρ 11, ρ 12, ρ 13, ρ 14, ρ 15, ρ 16, ρ 17, ρ 18, ρ 19, ρ 20, ρ 21, ρ 22] (γ 0) 0 [ρ 0, ρ 1, ρ 2, ρ 3, ρ 4, ρ 5, ρ 6, ρ 7, ρ 8, ρ 9, ρ 10, ρ 11, ρ 12, ρ 13, ρ 14, ρ 15, ρ 16, ρ 17, ρ 18, ρ 19, ρ 20, ρ 21, ρ 22, ρ 23, ρ 24, ρ 25, ρ 26, ρ 27, ρ 28, ρ 29, ρ 30, ρ 31, ρ 32, ρ 33, ρ 34, ρ 35, ρ 36, ρ 37, ρ 38] (γ 1) := hJ
  obtain ⟨-, -, -, -, -, -, -, -, -, -, -, -, -, -, -, -, -, -, -, -, -, -, -, -, -, -, -, -, -, -, -, -, -, -, -, -, -, -, -, r39, -, r41, r42, r43, -⟩ := hr
  have r39 : (0 : Int) ≤ ρ 39 ∧ ρ 39 ≤ 19 := r39
  have r41 : ((-128) : Int) ≤ ρ 41 ∧ ρ 41 ≤ 127 := r41
  have r42 : (58 : Int) ≤ ρ 42 ∧ ρ 42 ≤ 58 := r42
  have r43 : ((-128) : Int) ≤ ρ 43 ∧ ρ 43 ≤ 127 := r43
  obtain ⟨-, -, f2, -, -, -, -, -, -, f9, -⟩ := hf
  have f2 : (0 : Int) ≤ -ρ 40 + ρ 1 + (-2) := f2
  have f9 : (0 : Int) ≤ -ρ 37 + ρ 23 := f9
  obtain ⟨w_0, w_1, w_2, w_3, w_4⟩ : (ρ 23 ≥ ρ 37) ∧ (ρ 39 ≥ 0) ∧ (0 ≤ -ρ 40 + ρ 1 + (-1)) ∧ (ρ 42 = 58) ∧ (0 ≤ -ρ 40 + ρ 1 + (-2)) := ⟨by omega, by omega, by omega, by omega, by omega⟩
  obtain ⟨-, m1, -, -, m4, m5, m6, m7, m8, -, -, -, -, -, -, -, -, -, -, -, -, -, -, -, -, -, -, m27, m28, m29, -, -, -, -, -, m35, m36, m37, -, m39, -⟩ := hm
  have m1 : γ 0 15 0 34 = ρ 1 := m1
  have m4 : γ 0 15 0 32 = ρ 4 := m4
  have m5 : γ 0 15 0 33 = ρ 5 := m5
  have m6 : γ 0 15 0 17 = ρ 6 := m6
  have m7 : γ 0 15 0 18 = ρ 7 := m7
  have m8 : γ 0 15 0 14 = ρ 8 := m8
  have m27 : γ 1 15 0 44 = ρ 28 := m27
  have m28 : γ 1 15 0 49 = ρ 29 := m28
  have m29 : γ 1 15 0 50 = ρ 30 := m29
  have m35 : γ 1 15 0 46 = ρ 35 := m35
  have m36 : γ 1 15 0 47 = ρ 36 := m36
  have m37 : γ 1 15 0 48 = ρ 37 := m37
  have m39 : γ 3 15 0 35 = ρ 40 := m39
  obtain ⟨l0, l1, l2, l3, l4, l5, l6, l7, -⟩ := hl
  have l0 : sn21 [ρ 35, ρ 36, ρ 37, ρ 8] (γ 1) 0 (ρ 39) (γ 2) := hS21 _ _ _ _ _ l0
  have l1 : sn7 [ρ 24, ρ 1] (γ 2) 0 0 (γ 3) := hS7 _ _ _ _ _ l1
  have l2 : sn6 [ρ 40, ρ 1] (γ 3) 0 (ρ 41) (γ 4) := hS6 _ _ _ _ _ l2
  have l3 : ρ 41 ≠ 46 := l3
  have l4 : sn6 [ρ 40, ρ 1] (γ 4) 0 (ρ 42) (γ 5) := hS6 _ _ _ _ _ l4
  have l5 : sn6 [ρ 40 + 1, ρ 1] (γ 5) 0 (ρ 43) (γ 6) := hS6 _ _ _ _ _ l5
  have l6 : ρ 43 ≠ 45 := l6
  have l7 : sn8 [ρ 40 + 1, ρ 1, ρ 15] (γ 6) 0 0 (γ 7) := hS8 _ _ _ _ _ l7
  obtain ⟨wl_0, wl_1⟩ : (ρ 41 ≠ 46) ∧ (¬ (ρ 43 = 45)) := ⟨by omega, by omega⟩
  show sn49 [ρ 0, ρ 1, ρ 2, ρ 3, ρ 4, ρ 5, ρ 6, ρ 7, ρ 8, ρ 9, ρ 10, ρ 11, ρ 12, ρ 13, ρ 14, ρ 15, ρ 16, ρ 17, ρ 18, ρ 19, ρ 20, ρ 21, ρ 22] (γ 0) 0 0 (γ 7)
  have hD : en49 (γ 0) (0, [ρ 23], γ 1) = .inr (0, 0, γ 7) := by
    unfold en49
    refine (if_pos (show (0 : Nat) = 0 by decide)).trans ?_
    refine (zLet_eq (show _ = γ 1 from rfl)).trans ?_
    refine (zLet_eq (show _ = ρ 23 from rfl)).trans ?_
    refine (zLet_eq m1).trans ?_
    refine (zLet_eq m4).trans ?_
    refine (zLet_eq m5).trans ?_
    refine (zLet_eq m6).trans ?_
    refine (zLet_eq m7).trans ?_
    refine (zLet_eq m8).trans ?_
    refine (zLet_eq m27).trans ?_
    refine (zLet_eq m28).trans ?_
    refine (zLet_eq m29).trans ?_
    refine (zLet_eq m35).trans ?_
    refine (zLet_eq m36).trans ?_
    refine (zLet_eq m37).trans ?_
    refine (if_pos w_0).trans ?_
    refine (zLet_eq (show fn21 [ρ 35, ρ 36, ρ 37] (γ 1) = (0, ρ 39, γ 2) from l0.symm)).trans ?_
    refine (zLet_eq (show _ = γ 2 from rfl)).trans ?_
    refine (zLet_eq (show _ = ρ 39 from rfl)).trans ?_
    refine (if_pos w_1).trans ?_
    refine (zLet_eq (show fn7 [] (γ 2) = (0, 0, γ 3) from l1.symm)).trans ?_
    refine (zLet_eq (show _ = γ 3 from rfl)).trans ?_
    refine (zLet_eq m39).trans ?_
    refine (zLet_eq (show fn6 [ρ 40] (γ 3) = (0, ρ 41, γ 4) from l2.symm)).trans ?_
    refine (zLet_eq (show _ = γ 4 from rfl)).trans ?_
    refine (if_pos w_2).trans ?_
    refine (zLet_eq (show _ = ρ 41 from rfl)).trans ?_
    refine (if_pos wl_0).trans ?_
    refine (zLet_eq (show fn6 [ρ 40] (γ 4) = (0, ρ 42, γ 5) from l4.symm)).trans ?_
    refine (zLet_eq (show _ = γ 5 from rfl)).trans ?_
    refine (zLet_eq (show _ = ρ 42 from rfl)).trans ?_
    refine (if_pos w_3).trans ?_
    refine (zLet_eq (show fn6 [ρ 40 + 1] (γ 5) = (0, ρ 43, γ 6) from l5.symm)).trans ?_
    refine (zLet_eq (show _ = γ 6 from rfl)).trans ?_
    refine (if_pos w_4).trans ?_
    refine (zLet_eq (show _ = ρ 43 from rfl)).trans ?_
    refine (if_neg wl_1).trans ?_
    refine (zLet_eq (show fn8 [ρ 40 + 1] (γ 6) = (0, 0, γ 7) from l7.symm)).trans ?_
    refine (zLet_eq (show _ = γ 7 from rfl)).trans ?_
    rfl
  exact zGoo_aend hJ hD
theorem vn49a0_3 {S : Nat → zSpc} (hS6 : ∀ x g o v gz, S 6 x g o v gz → sn6 x g o v gz) (hS7 : ∀ x g o v gz, S 7 x g o v gz → sn7 x g o v gz) (hS8 : ∀ x g o v gz, S 8 x g o v gz → sn8 x g o v gz) (hS21 : ∀ x g o v gz, S 21 x g o v gz → sn21 x g o v gz) (hS25 : ∀ x g o v gz, S 25 x g o v gz → sn25 x g o v gz) (hS27 : ∀ x g o v gz, S 27 x g o v gz → sn27 x g o v gz) (hS28 : ∀ x g o v gz, S 28 x g o v gz → sn28 x g o v gz) (hS30 : ∀ x g o v gz, S 30 x g o v gz → sn30 x g o v gz) (hS31 : ∀ x g o v gz, S 31 x g o v gz → sn31 x g o v gz) (hS39 : ∀ x g o v gz, S 39 x g o v gz → sn39 x g o v gz) (hS43 : ∀ x g o v gz, S 43 x g o v gz → sn43 x g o v gz) (hS44 : ∀ x g o v gz, S 44 x g o v gz → sn44 x g o v gz) (hS45 : ∀ x g o v gz, S 45 x g o v gz → sn45 x g o v gz) (hS46 : ∀ x g o v gz, S 46 x g o v gz → sn46 x g o v gz) (hS47 : ∀ x g o v gz, S 47 x g o v gz → sn47 x g o v gz) {a : List Int} {g : rHp} : ∀ (ρ : Nat → Int) (γ : Nat → rHp), jn49 a g 0 (zAg (zNA a49_ 0) ρ) (γ 1) → zO 23 S a g q49a0_3 ρ γ → zGl (fun i vs g1 => jn49 a g i vs g1) (sn49 a g) q49a0_3 ρ γ := by
  intro ρ γ hJ h
  obtain ⟨ha, hg, hr, hf, hm, hc, hl⟩ := h
  have ha : a = [ρ 0, ρ 1, ρ 2, ρ 3, ρ 4, ρ 5, ρ 6, ρ 7, ρ 8, ρ 9, ρ 10, ρ 11, ρ 12, ρ 13, ρ 14, ρ 15, ρ 16, ρ 17, ρ 18, ρ 19, ρ 20, ρ 21, ρ 22] := ha
  subst ha
  subst hg
  have hJ : jn49 [ρ 0, ρ 1, ρ 2, ρ 3, ρ 4, ρ 5, ρ 6, ρ 7, ρ 8, ρ 9, ρ 10, ρ 11, ρ 12, ρ 13, ρ 14, ρ 15, ρ 16, ρ 17, ρ 18, ρ 19, ρ 20, ρ 21, ρ 22] (γ 0) 0 [ρ 0, ρ 1, ρ 2, ρ 3, ρ 4, ρ 5, ρ 6, ρ 7, ρ 8, ρ 9, ρ 10, ρ 11, ρ 12, ρ 13, ρ 14, ρ 15, ρ 16, ρ 17, ρ 18, ρ 19, ρ 20, ρ 21, ρ 22, ρ 23, ρ 24, ρ 25, ρ 26, ρ 27, ρ 28, ρ 29, ρ 30, ρ 31, ρ 32, ρ 33, ρ 34, ρ 35, ρ 36, ρ 37, ρ 38] (γ 1) := hJ
  obtain ⟨-, -, -, -, -, -, -, -, -, -, -, -, -, -, -, -, -, -, -, -, -, -, -, -, -, -, -, -, -, -, -, -, -, -, -, -, -, -, -, r39, -, r41, r42, -⟩ := hr
  have r39 : (0 : Int) ≤ ρ 39 ∧ ρ 39 ≤ 19 := r39
  have r41 : ((-128) : Int) ≤ ρ 41 ∧ ρ 41 ≤ 127 := r41
  have r42 : (58 : Int) ≤ ρ 42 ∧ ρ 42 ≤ 58 := r42
  obtain ⟨-, -, f2, f3, -, -, -, -, -, f9, -⟩ := hf
  have f2 : (0 : Int) ≤ ρ 40 + -ρ 1 + 1 := f2
  have f3 : (0 : Int) ≤ -ρ 40 + ρ 1 + (-1) := f3
  have f9 : (0 : Int) ≤ -ρ 37 + ρ 23 := f9
  obtain ⟨w_0, w_1, w_2, w_3, w_4⟩ : (ρ 23 ≥ ρ 37) ∧ (ρ 39 ≥ 0) ∧ (0 ≤ -ρ 40 + ρ 1 + (-1)) ∧ (ρ 42 = 58) ∧ (¬ (0 ≤ -ρ 40 + ρ 1 + (-2))) := ⟨by omega, by omega, by omega, by omega, by omega⟩
  obtain ⟨-, m1, -, -, m4, m5, m6, m7, m8, -, -, -, -, -, -, -, -, -, -, -, -, -, -, -, -, -, -, m27, m28, m29, -, -, -, -, -, m35, m36, m37, -, m39, -⟩ := hm
  have m1 : γ 0 15 0 34 = ρ 1 := m1
  have m4 : γ 0 15 0 32 = ρ 4 := m4
  have m5 : γ 0 15 0 33 = ρ 5 := m5
  have m6 : γ 0 15 0 17 = ρ 6 := m6
  have m7 : γ 0 15 0 18 = ρ 7 := m7
  have m8 : γ 0 15 0 14 = ρ 8 := m8
  have m27 : γ 1 15 0 44 = ρ 28 := m27
  have m28 : γ 1 15 0 49 = ρ 29 := m28
  have m29 : γ 1 15 0 50 = ρ 30 := m29
  have m35 : γ 1 15 0 46 = ρ 35 := m35
  have m36 : γ 1 15 0 47 = ρ 36 := m36
  have m37 : γ 1 15 0 48 = ρ 37 := m37
  have m39 : γ 3 15 0 35 = ρ 40 := m39
  obtain ⟨l0, l1, l2, l3, l4, l5, l6, -⟩ := hl
  have l0 : sn21 [ρ 35, ρ 36, ρ 37, ρ 8] (γ 1) 0 (ρ 39) (γ 2) := hS21 _ _ _ _ _ l0
  have l1 : sn7 [ρ 24, ρ 1] (γ 2) 0 0 (γ 3) := hS7 _ _ _ _ _ l1
  have l2 : sn6 [ρ 40, ρ 1] (γ 3) 0 (ρ 41) (γ 4) := hS6 _ _ _ _ _ l2
  have l3 : ρ 41 ≠ 46 := l3
  have l4 : sn6 [ρ 40, ρ 1] (γ 4) 0 (ρ 42) (γ 5) := hS6 _ _ _ _ _ l4
  have l5 : sn6 [ρ 40 + 1, ρ 1] (γ 5) 0 (-1) (γ 6) := hS6 _ _ _ _ _ l5
  have l6 : sn8 [ρ 40 + 1, ρ 1, ρ 15] (γ 6) 0 0 (γ 7) := hS8 _ _ _ _ _ l6
  have wl_0 : ρ 41 ≠ 46 := by omega
  show sn49 [ρ 0, ρ 1, ρ 2, ρ 3, ρ 4, ρ 5, ρ 6, ρ 7, ρ 8, ρ 9, ρ 10, ρ 11, ρ 12, ρ 13, ρ 14, ρ 15, ρ 16, ρ 17, ρ 18, ρ 19, ρ 20, ρ 21, ρ 22] (γ 0) 0 0 (γ 7)
  have hD : en49 (γ 0) (0, [ρ 23], γ 1) = .inr (0, 0, γ 7) := by
    unfold en49
    refine (if_pos (show (0 : Nat) = 0 by decide)).trans ?_
    refine (zLet_eq (show _ = γ 1 from rfl)).trans ?_
    refine (zLet_eq (show _ = ρ 23 from rfl)).trans ?_
    refine (zLet_eq m1).trans ?_
    refine (zLet_eq m4).trans ?_
    refine (zLet_eq m5).trans ?_
    refine (zLet_eq m6).trans ?_
    refine (zLet_eq m7).trans ?_
    refine (zLet_eq m8).trans ?_
    refine (zLet_eq m27).trans ?_
    refine (zLet_eq m28).trans ?_
    refine (zLet_eq m29).trans ?_
    refine (zLet_eq m35).trans ?_
    refine (zLet_eq m36).trans ?_
    refine (zLet_eq m37).trans ?_
    refine (if_pos w_0).trans ?_
    refine (zLet_eq (show fn21 [ρ 35, ρ 36, ρ 37] (γ 1) = (0, ρ 39, γ 2) from l0.symm)).trans ?_
    refine (zLet_eq (show _ = γ 2 from rfl)).trans ?_
    refine (zLet_eq (show _ = ρ 39 from rfl)).trans ?_
    refine (if_pos w_1).trans ?_
    refine (zLet_eq (show fn7 [] (γ 2) = (0, 0, γ 3) from l1.symm)).trans ?_
    refine (zLet_eq (show _ = γ 3 from rfl)).trans ?_
    refine (zLet_eq m39).trans ?_
    refine (zLet_eq (show fn6 [ρ 40] (γ 3) = (0, ρ 41, γ 4) from l2.symm)).trans ?_
    refine (zLet_eq (show _ = γ 4 from rfl)).trans ?_
    refine (if_pos w_2).trans ?_
    refine (zLet_eq (show _ = ρ 41 from rfl)).trans ?_
    refine (if_pos wl_0).trans ?_
    refine (zLet_eq (show fn6 [ρ 40] (γ 4) = (0, ρ 42, γ 5) from l4.symm)).trans ?_
    refine (zLet_eq (show _ = γ 5 from rfl)).trans ?_
    refine (zLet_eq (show _ = ρ 42 from rfl)).trans ?_
    refine (if_pos w_3).trans ?_
    refine (zLet_eq (show fn6 [ρ 40 + 1] (γ 5) = (0, (-1), γ 6) from l5.symm)).trans ?_
    refine (zLet_eq (show _ = γ 6 from rfl)).trans ?_
    refine (if_neg w_4).trans ?_
    refine (zLet_eq (show fn8 [ρ 40 + 1] (γ 6) = (0, 0, γ 7) from l6.symm)).trans ?_
    refine (zLet_eq (show _ = γ 7 from rfl)).trans ?_
    rfl
  exact zGoo_aend hJ hD
theorem vn49a0_4 {S : Nat → zSpc} (hS6 : ∀ x g o v gz, S 6 x g o v gz → sn6 x g o v gz) (hS7 : ∀ x g o v gz, S 7 x g o v gz → sn7 x g o v gz) (hS8 : ∀ x g o v gz, S 8 x g o v gz → sn8 x g o v gz) (hS21 : ∀ x g o v gz, S 21 x g o v gz → sn21 x g o v gz) (hS25 : ∀ x g o v gz, S 25 x g o v gz → sn25 x g o v gz) (hS27 : ∀ x g o v gz, S 27 x g o v gz → sn27 x g o v gz) (hS28 : ∀ x g o v gz, S 28 x g o v gz → sn28 x g o v gz) (hS30 : ∀ x g o v gz, S 30 x g o v gz → sn30 x g o v gz) (hS31 : ∀ x g o v gz, S 31 x g o v gz → sn31 x g o v gz) (hS39 : ∀ x g o v gz, S 39 x g o v gz → sn39 x g o v gz) (hS43 : ∀ x g o v gz, S 43 x g o v gz → sn43 x g o v gz) (hS44 : ∀ x g o v gz, S 44 x g o v gz → sn44 x g o v gz) (hS45 : ∀ x g o v gz, S 45 x g o v gz → sn45 x g o v gz) (hS46 : ∀ x g o v gz, S 46 x g o v gz → sn46 x g o v gz) (hS47 : ∀ x g o v gz, S 47 x g o v gz → sn47 x g o v gz) {a : List Int} {g : rHp} : ∀ (ρ : Nat → Int) (γ : Nat → rHp), jn49 a g 0 (zAg (zNA a49_ 0) ρ) (γ 1) → zO 23 S a g q49a0_4 ρ γ → zGl (fun i vs g1 => jn49 a g i vs g1) (sn49 a g) q49a0_4 ρ γ := by
  intro ρ γ hJ h
  obtain ⟨ha, hg, hr, hf, hm, hc, hl⟩ := h
  have ha : a = [ρ 0, ρ 1, ρ 2, ρ 3, ρ 4, ρ 5, ρ 6, ρ 7, ρ 8, ρ 9, ρ 10, ρ 11, ρ 12, ρ 13, ρ 14, ρ 15, ρ 16, ρ 17, ρ 18, ρ 19, ρ 20, ρ 21, ρ 22] := ha
  subst ha
  subst hg
  have hJ : jn49 [ρ 0, ρ 1, ρ 2, ρ 3, ρ 4, ρ 5, ρ 6, ρ 7, ρ 8, ρ 9, ρ 10, ρ 11, ρ 12, ρ 13, ρ 14, ρ 15, ρ 16, ρ 17, ρ 18, ρ 19, ρ 20, ρ 21, ρ 22] (γ 0) 0 [ρ 0, ρ 1, ρ 2, ρ 3, ρ 4, ρ 5, ρ 6, ρ 7, ρ 8, ρ 9, ρ 10, ρ 11, ρ 12, ρ 13, ρ 14, ρ 15, ρ 16, ρ 17, ρ 18, ρ 19, ρ 20, ρ 21, ρ 22, ρ 23, ρ 24, ρ 25, ρ 26, ρ 27, ρ 28, ρ 29, ρ 30, ρ 31, ρ 32, ρ 33, ρ 34, ρ 35, ρ 36, ρ 37, ρ 38] (γ 1) := hJ
  obtain ⟨-, -, -, -, -, -, -, -, -, -, -, -, -, -, -, -, -, -, -, -, -, -, -, -, -, -, -, -, -, -, -, -, -, -, -, -, -, -, -, r39, -, r41, r42, -⟩ := hr
  have r39 : (0 : Int) ≤ ρ 39 ∧ ρ 39 ≤ 19 := r39
  have r41 : ((-128) : Int) ≤ ρ 41 ∧ ρ 41 ≤ 127 := r41
  have r42 : ((-128) : Int) ≤ ρ 42 ∧ ρ 42 ≤ 127 := r42
  obtain ⟨-, -, f2, -, -, -, -, -, f8, -⟩ := hf
  have f2 : (0 : Int) ≤ -ρ 40 + ρ 1 + (-1) := f2
  have f8 : (0 : Int) ≤ -ρ 37 + ρ 23 := f8
  obtain ⟨w_0, w_1, w_2⟩ : (ρ 23 ≥ ρ 37) ∧ (ρ 39 ≥ 0) ∧ (0 ≤ -ρ 40 + ρ 1 + (-1)) := ⟨by omega, by omega, by omega⟩
  obtain ⟨-, m1, -, -, m4, m5, m6, m7, m8, -, -, -, -, -, -, -, -, -, -, -, -, -, -, -, -, -, -, m27, m28, m29, -, -, -, -, -, m35, m36, m37, -, m39, -⟩ := hm
  have m1 : γ 0 15 0 34 = ρ 1 := m1
  have m4 : γ 0 15 0 32 = ρ 4 := m4
  have m5 : γ 0 15 0 33 = ρ 5 := m5
  have m6 : γ 0 15 0 17 = ρ 6 := m6
  have m7 : γ 0 15 0 18 = ρ 7 := m7
  have m8 : γ 0 15 0 14 = ρ 8 := m8
  have m27 : γ 1 15 0 44 = ρ 28 := m27
  have m28 : γ 1 15 0 49 = ρ 29 := m28
  have m29 : γ 1 15 0 50 = ρ 30 := m29
  have m35 : γ 1 15 0 46 = ρ 35 := m35
  have m36 : γ 1 15 0 47 = ρ 36 := m36
  have m37 : γ 1 15 0 48 = ρ 37 := m37
  have m39 : γ 3 15 0 35 = ρ 40 := m39
  obtain ⟨l0, l1, l2, l3, l4, l5, l6, -⟩ := hl
  have l0 : sn21 [ρ 35, ρ 36, ρ 37, ρ 8] (γ 1) 0 (ρ 39) (γ 2) := hS21 _ _ _ _ _ l0
  have l1 : sn7 [ρ 24, ρ 1] (γ 2) 0 0 (γ 3) := hS7 _ _ _ _ _ l1
  have l2 : sn6 [ρ 40, ρ 1] (γ 3) 0 (ρ 41) (γ 4) := hS6 _ _ _ _ _ l2
  have l3 : ρ 41 ≠ 46 := l3
  have l4 : sn6 [ρ 40, ρ 1] (γ 4) 0 (ρ 42) (γ 5) := hS6 _ _ _ _ _ l4
  have l5 : ρ 42 ≠ 58 := l5
  have l6 : sn8 [ρ 40, ρ 1, ρ 15] (γ 5) 0 0 (γ 6) := hS8 _ _ _ _ _ l6
  obtain ⟨wl_0, wl_1⟩ : (ρ 41 ≠ 46) ∧ (¬ (ρ 42 = 58)) := ⟨by omega, by omega⟩
  show sn49 [ρ 0, ρ 1, ρ 2, ρ 3, ρ 4, ρ 5, ρ 6, ρ 7, ρ 8, ρ 9, ρ 10, ρ 11, ρ 12, ρ 13, ρ 14, ρ 15, ρ 16, ρ 17, ρ 18, ρ 19, ρ 20, ρ 21, ρ 22] (γ 0) 0 0 (γ 6)
  have hD : en49 (γ 0) (0, [ρ 23], γ 1) = .inr (0, 0, γ 6) := by
    unfold en49
    refine (if_pos (show (0 : Nat) = 0 by decide)).trans ?_
    refine (zLet_eq (show _ = γ 1 from rfl)).trans ?_
    refine (zLet_eq (show _ = ρ 23 from rfl)).trans ?_
    refine (zLet_eq m1).trans ?_
    refine (zLet_eq m4).trans ?_
    refine (zLet_eq m5).trans ?_
    refine (zLet_eq m6).trans ?_
    refine (zLet_eq m7).trans ?_
    refine (zLet_eq m8).trans ?_
    refine (zLet_eq m27).trans ?_
    refine (zLet_eq m28).trans ?_
    refine (zLet_eq m29).trans ?_
    refine (zLet_eq m35).trans ?_
    refine (zLet_eq m36).trans ?_
    refine (zLet_eq m37).trans ?_
    refine (if_pos w_0).trans ?_
    refine (zLet_eq (show fn21 [ρ 35, ρ 36, ρ 37] (γ 1) = (0, ρ 39, γ 2) from l0.symm)).trans ?_
    refine (zLet_eq (show _ = γ 2 from rfl)).trans ?_
    refine (zLet_eq (show _ = ρ 39 from rfl)).trans ?_
    refine (if_pos w_1).trans ?_
    refine (zLet_eq (show fn7 [] (γ 2) = (0, 0, γ 3) from l1.symm)).trans ?_
    refine (zLet_eq (show _ = γ 3 from rfl)).trans ?_
    refine (zLet_eq m39).trans ?_
    refine (zLet_eq (show fn6 [ρ 40] (γ 3) = (0, ρ 41, γ 4) from l2.symm)).trans ?_
    refine (zLet_eq (show _ = γ 4 from rfl)).trans ?_
    refine (if_pos w_2).trans ?_
    refine (zLet_eq (show _ = ρ 41 from rfl)).trans ?_
    refine (if_pos wl_0).trans ?_
    refine (zLet_eq (show fn6 [ρ 40] (γ 4) = (0, ρ 42, γ 5) from l4.symm)).trans ?_
    refine (zLet_eq (show _ = γ 5 from rfl)).trans ?_
    refine (zLet_eq (show _ = ρ 42 from rfl)).trans ?_
    refine (if_neg wl_1).trans ?_
    refine (zLet_eq (show fn8 [ρ 40] (γ 5) = (0, 0, γ 6) from l6.symm)).trans ?_
    refine (zLet_eq (show _ = γ 6 from rfl)).trans ?_
    rfl
  exact zGoo_aend hJ hD
theorem vn49a0_5 {S : Nat → zSpc} (hS6 : ∀ x g o v gz, S 6 x g o v gz → sn6 x g o v gz) (hS7 : ∀ x g o v gz, S 7 x g o v gz → sn7 x g o v gz) (hS8 : ∀ x g o v gz, S 8 x g o v gz → sn8 x g o v gz) (hS21 : ∀ x g o v gz, S 21 x g o v gz → sn21 x g o v gz) (hS25 : ∀ x g o v gz, S 25 x g o v gz → sn25 x g o v gz) (hS27 : ∀ x g o v gz, S 27 x g o v gz → sn27 x g o v gz) (hS28 : ∀ x g o v gz, S 28 x g o v gz → sn28 x g o v gz) (hS30 : ∀ x g o v gz, S 30 x g o v gz → sn30 x g o v gz) (hS31 : ∀ x g o v gz, S 31 x g o v gz → sn31 x g o v gz) (hS39 : ∀ x g o v gz, S 39 x g o v gz → sn39 x g o v gz) (hS43 : ∀ x g o v gz, S 43 x g o v gz → sn43 x g o v gz) (hS44 : ∀ x g o v gz, S 44 x g o v gz → sn44 x g o v gz) (hS45 : ∀ x g o v gz, S 45 x g o v gz → sn45 x g o v gz) (hS46 : ∀ x g o v gz, S 46 x g o v gz → sn46 x g o v gz) (hS47 : ∀ x g o v gz, S 47 x g o v gz → sn47 x g o v gz) {a : List Int} {g : rHp} : ∀ (ρ : Nat → Int) (γ : Nat → rHp), jn49 a g 0 (zAg (zNA a49_ 0) ρ) (γ 1) → zO 23 S a g q49a0_5 ρ γ → zGl (fun i vs g1 => jn49 a g i vs g1) (sn49 a g) q49a0_5 ρ γ := by
  intro ρ γ hJ h
  obtain ⟨ha, hg, hr, hf, hm, hc, hl⟩ := h
  have ha : a = [ρ 0, ρ 1, ρ 2, ρ 3, ρ 4, ρ 5, ρ 6, ρ 7, ρ 8, ρ 9, ρ 10, ρ 11, ρ 12, ρ 13, ρ 14, ρ 15, ρ 16, ρ 17, ρ 18, ρ 19, ρ 20, ρ 21, ρ 22] := ha
  subst ha
  subst hg
  have hJ : jn49 [ρ 0, ρ 1, ρ 2, ρ 3, ρ 4, ρ 5, ρ 6, ρ 7, ρ 8, ρ 9, ρ 10, ρ 11, ρ 12, ρ 13, ρ 14, ρ 15, ρ 16, ρ 17, ρ 18, ρ 19, ρ 20, ρ 21, ρ 22] (γ 0) 0 [ρ 0, ρ 1, ρ 2, ρ 3, ρ 4, ρ 5, ρ 6, ρ 7, ρ 8, ρ 9, ρ 10, ρ 11, ρ 12, ρ 13, ρ 14, ρ 15, ρ 16, ρ 17, ρ 18, ρ 19, ρ 20, ρ 21, ρ 22, ρ 23, ρ 24, ρ 25, ρ 26, ρ 27, ρ 28, ρ 29, ρ 30, ρ 31, ρ 32, ρ 33, ρ 34, ρ 35, ρ 36, ρ 37, ρ 38] (γ 1) := hJ
  obtain ⟨-, -, -, -, -, -, -, -, -, -, -, -, -, -, -, -, -, -, -, -, -, -, -, -, -, -, -, -, -, -, -, -, -, -, -, -, -, -, -, r39, -, r41, -⟩ := hr
  have r39 : (0 : Int) ≤ ρ 39 ∧ ρ 39 ≤ 19 := r39
  have r41 : (46 : Int) ≤ ρ 41 ∧ ρ 41 ≤ 46 := r41
  obtain ⟨-, f1, -, -, -, -, -, f7, -⟩ := hf
  have f1 : (0 : Int) ≤ -ρ 40 + ρ 1 + (-1) := f1
  have f7 : (0 : Int) ≤ -ρ 37 + ρ 23 := f7
  obtain ⟨w_0, w_1, w_2, w_3⟩ : (ρ 23 ≥ ρ 37) ∧ (ρ 39 ≥ 0) ∧ (0 ≤ -ρ 40 + ρ 1 + (-1)) ∧ (¬ (ρ 41 ≠ 46)) := ⟨by omega, by omega, by omega, by omega⟩
  obtain ⟨-, m1, -, -, m4, m5, m6, m7, m8, -, -, -, -, -, -, -, -, -, -, -, -, -, -, -, -, -, -, m27, m28, m29, -, -, -, -, -, m35, m36, m37, -, m39, -⟩ := hm
  have m1 : γ 0 15 0 34 = ρ 1 := m1
  have m4 : γ 0 15 0 32 = ρ 4 := m4
  have m5 : γ 0 15 0 33 = ρ 5 := m5
  have m6 : γ 0 15 0 17 = ρ 6 := m6
  have m7 : γ 0 15 0 18 = ρ 7 := m7
  have m8 : γ 0 15 0 14 = ρ 8 := m8
  have m27 : γ 1 15 0 44 = ρ 28 := m27
  have m28 : γ 1 15 0 49 = ρ 29 := m28
  have m29 : γ 1 15 0 50 = ρ 30 := m29
  have m35 : γ 1 15 0 46 = ρ 35 := m35
  have m36 : γ 1 15 0 47 = ρ 36 := m36
  have m37 : γ 1 15 0 48 = ρ 37 := m37
  have m39 : γ 3 15 0 35 = ρ 40 := m39
  obtain ⟨l0, l1, l2, l3, -⟩ := hl
  have l0 : sn21 [ρ 35, ρ 36, ρ 37, ρ 8] (γ 1) 0 (ρ 39) (γ 2) := hS21 _ _ _ _ _ l0
  have l1 : sn7 [ρ 24, ρ 1] (γ 2) 0 0 (γ 3) := hS7 _ _ _ _ _ l1
  have l2 : sn6 [ρ 40, ρ 1] (γ 3) 0 (ρ 41) (γ 4) := hS6 _ _ _ _ _ l2
  have l3 : sn31 [ρ 1, ρ 15, ρ 37] (γ 4) 0 0 (γ 5) := hS31 _ _ _ _ _ l3
  show sn49 [ρ 0, ρ 1, ρ 2, ρ 3, ρ 4, ρ 5, ρ 6, ρ 7, ρ 8, ρ 9, ρ 10, ρ 11, ρ 12, ρ 13, ρ 14, ρ 15, ρ 16, ρ 17, ρ 18, ρ 19, ρ 20, ρ 21, ρ 22] (γ 0) 0 0 (γ 5)
  have hD : en49 (γ 0) (0, [ρ 23], γ 1) = .inr (0, 0, γ 5) := by
    unfold en49
    refine (if_pos (show (0 : Nat) = 0 by decide)).trans ?_
    refine (zLet_eq (show _ = γ 1 from rfl)).trans ?_
    refine (zLet_eq (show _ = ρ 23 from rfl)).trans ?_
    refine (zLet_eq m1).trans ?_
    refine (zLet_eq m4).trans ?_
    refine (zLet_eq m5).trans ?_
    refine (zLet_eq m6).trans ?_
    refine (zLet_eq m7).trans ?_
    refine (zLet_eq m8).trans ?_
    refine (zLet_eq m27).trans ?_
    refine (zLet_eq m28).trans ?_
    refine (zLet_eq m29).trans ?_
    refine (zLet_eq m35).trans ?_
    refine (zLet_eq m36).trans ?_
    refine (zLet_eq m37).trans ?_
    refine (if_pos w_0).trans ?_
    refine (zLet_eq (show fn21 [ρ 35, ρ 36, ρ 37] (γ 1) = (0, ρ 39, γ 2) from l0.symm)).trans ?_
    refine (zLet_eq (show _ = γ 2 from rfl)).trans ?_
    refine (zLet_eq (show _ = ρ 39 from rfl)).trans ?_
    refine (if_pos w_1).trans ?_
    refine (zLet_eq (show fn7 [] (γ 2) = (0, 0, γ 3) from l1.symm)).trans ?_
    refine (zLet_eq (show _ = γ 3 from rfl)).trans ?_
    refine (zLet_eq m39).trans ?_
    refine (zLet_eq (show fn6 [ρ 40] (γ 3) = (0, ρ 41, γ 4) from l2.symm)).trans ?_
    refine (zLet_eq (show _ = γ 4 from rfl)).trans ?_
    refine (if_pos w_2).trans ?_
    refine (zLet_eq (show _ = ρ 41 from rfl)).trans ?_
    refine (if_neg w_3).trans ?_
    refine (zLet_eq (show fn31 [] (γ 4) = (0, 0, γ 5) from l3.symm)).trans ?_
    refine (zLet_eq (show _ = γ 5 from rfl)).trans ?_
    refine (if_neg zQ0_).trans ?_
    rfl
  exact zGoo_aend hJ hD
theorem vn49a0_6 {S : Nat → zSpc} (hS6 : ∀ x g o v gz, S 6 x g o v gz → sn6 x g o v gz) (hS7 : ∀ x g o v gz, S 7 x g o v gz → sn7 x g o v gz) (hS8 : ∀ x g o v gz, S 8 x g o v gz → sn8 x g o v gz) (hS21 : ∀ x g o v gz, S 21 x g o v gz → sn21 x g o v gz) (hS25 : ∀ x g o v gz, S 25 x g o v gz → sn25 x g o v gz) (hS27 : ∀ x g o v gz, S 27 x g o v gz → sn27 x g o v gz) (hS28 : ∀ x g o v gz, S 28 x g o v gz → sn28 x g o v gz) (hS30 : ∀ x g o v gz, S 30 x g o v gz → sn30 x g o v gz) (hS31 : ∀ x g o v gz, S 31 x g o v gz → sn31 x g o v gz) (hS39 : ∀ x g o v gz, S 39 x g o v gz → sn39 x g o v gz) (hS43 : ∀ x g o v gz, S 43 x g o v gz → sn43 x g o v gz) (hS44 : ∀ x g o v gz, S 44 x g o v gz → sn44 x g o v gz) (hS45 : ∀ x g o v gz, S 45 x g o v gz → sn45 x g o v gz) (hS46 : ∀ x g o v gz, S 46 x g o v gz → sn46 x g o v gz) (hS47 : ∀ x g o v gz, S 47 x g o v gz → sn47 x g o v gz) {a : List Int} {g : rHp} : ∀ (ρ : Nat → Int) (γ : Nat → rHp), jn49 a g 0 (zAg (zNA a49_ 0) ρ) (γ 1) → zO 23 S a g q49a0_6 ρ γ → zGl (fun i vs g1 => jn49 a g i vs g1) (sn49 a g) q49a0_6 ρ γ := by
  intro ρ γ hJ h
  obtain ⟨ha, hg, hr, hf, hm, hc, hl⟩ := h
  have ha : a = [ρ 0, ρ 1, ρ 2, ρ 3, ρ 4, ρ 5, ρ 6, ρ 7, ρ 8, ρ 9, ρ 10, ρ 11, ρ 12, ρ 13, ρ 14, ρ 15, ρ 16, ρ 17, ρ 18, ρ 19, ρ 20, ρ 21, ρ 22] := ha
  subst ha
  subst hg
  have hJ : jn49 [ρ 0, ρ 1, ρ 2, ρ 3, ρ 4, ρ 5, ρ 6, ρ 7, ρ 8, ρ 9, ρ 10, ρ 11, ρ 12, ρ 13, ρ 14, ρ 15, ρ 16, ρ 17, ρ 18, ρ 19, ρ 20, ρ 21, ρ 22] (γ 0) 0 [ρ 0, ρ 1, ρ 2, ρ 3, ρ 4, ρ 5, ρ 6, ρ 7, ρ 8, ρ 9, ρ 10, ρ 11, ρ 12, ρ 13, ρ 14, ρ 15, ρ 16, ρ 17, ρ 18, ρ 19, ρ 20, ρ 21, ρ 22, ρ 23, ρ 24, ρ 25, ρ 26, ρ 27, ρ 28, ρ 29, ρ 30, ρ 31, ρ 32, ρ 33, ρ 34, ρ 35, ρ 36, ρ 37, ρ 38] (γ 1) := hJ
  obtain ⟨-, -, -, -, -, -, -, -, -, -, -, -, -, -, -, -, -, -, -, -, -, -, -, r23, -, -, -, -, -, -, -, -, -, -, -, -, -, r37, -, r39, -, r41, r42, -⟩ := hr
  have r23 : (0 : Int) ≤ ρ 23 ∧ ρ 23 ≤ 4 := r23
  have r37 : (0 : Int) ≤ ρ 37 ∧ ρ 37 ≤ 0 := r37
  have r39 : (0 : Int) ≤ ρ 39 ∧ ρ 39 ≤ 19 := r39
  have r41 : (46 : Int) ≤ ρ 41 ∧ ρ 41 ≤ 46 := r41
  have r42 : ((-1) : Int) ≤ ρ 42 ∧ ρ 42 ≤ (-1) := r42
  obtain ⟨f0, -, f2, -⟩ := hf
  have f0 : (0 : Int) ≤ -ρ 7 + -ρ 6 + 399 := f0
  have f2 : (0 : Int) ≤ -ρ 40 + ρ 1 + (-1) := f2
  obtain ⟨w_0, w_1, w_2, w_3, w_4, w_5, w_6⟩ : (ρ 23 ≥ ρ 37) ∧ (ρ 39 ≥ 0) ∧ (0 ≤ -ρ 40 + ρ 1 + (-1)) ∧ (¬ (ρ 41 ≠ 46)) ∧ (ρ 42 < 0) ∧ (ρ 7 + ρ 6 ≠ 400) ∧ (0 ≥ ρ 37) := ⟨by omega, by omega, by omega, by omega, by omega, by omega, by omega⟩
  obtain ⟨-, m1, -, -, m4, m5, m6, m7, m8, -, -, -, -, -, -, -, -, -, -, -, -, -, -, -, -, -, -, m27, m28, m29, -, -, -, -, -, m35, m36, m37, -, m39, -⟩ := hm
  have m1 : γ 0 15 0 34 = ρ 1 := m1
  have m4 : γ 0 15 0 32 = ρ 4 := m4
  have m5 : γ 0 15 0 33 = ρ 5 := m5
  have m6 : γ 0 15 0 17 = ρ 6 := m6
  have m7 : γ 0 15 0 18 = ρ 7 := m7
  have m8 : γ 0 15 0 14 = ρ 8 := m8
  have m27 : γ 1 15 0 44 = ρ 28 := m27
  have m28 : γ 1 15 0 49 = ρ 29 := m28
  have m29 : γ 1 15 0 50 = ρ 30 := m29
  have m35 : γ 1 15 0 46 = ρ 35 := m35
  have m36 : γ 1 15 0 47 = ρ 36 := m36
  have m37 : γ 1 15 0 48 = ρ 37 := m37
  have m39 : γ 3 15 0 35 = ρ 40 := m39
  obtain ⟨⟨⟨⟨⟨⟨⟨⟨-, c6⟩, -⟩, c8⟩, c9⟩, c10⟩, c11⟩, c12⟩, c13⟩ := hc
  have c6 : γ 6 = rUp (γ 5) 15 0 35 (ρ 40 + 1) := c6
  have c8 : γ 8 = rUp (γ 7) 67 0 (ρ 7 + ρ 6) (ρ 39) := c8
  have c9 : γ 9 = rUp (γ 8) 68 0 (4 * ρ 7 + 4 * ρ 6) 0 := c9
  have c10 : γ 10 = rUp (γ 9) 68 0 (4 * ρ 7 + 4 * ρ 6 + 1) 0 := c10
  have c11 : γ 11 = rUp (γ 10) 68 0 (4 * ρ 7 + 4 * ρ 6 + 2) 0 := c11
  have c12 : γ 12 = rUp (γ 11) 68 0 (4 * ρ 7 + 4 * ρ 6 + 3) 0 := c12
  have c13 : γ 13 = rUp (γ 12) 15 0 18 (ρ 7 + 1) := c13
  obtain ⟨l0, l1, l2, l3, l4, -⟩ := hl
  have l0 : sn21 [ρ 35, ρ 36, ρ 37, ρ 8] (γ 1) 0 (ρ 39) (γ 2) := hS21 _ _ _ _ _ l0
  have l1 : sn7 [ρ 24, ρ 1] (γ 2) 0 0 (γ 3) := hS7 _ _ _ _ _ l1
  have l2 : sn6 [ρ 40, ρ 1] (γ 3) 0 (ρ 41) (γ 4) := hS6 _ _ _ _ _ l2
  have l3 : sn31 [ρ 1, ρ 15, ρ 37] (γ 4) 0 1 (γ 5) := hS31 _ _ _ _ _ l3
  have l4 : sn45 [ρ 39, ρ 7 + ρ 6, ρ 37] (γ 6) 0 (ρ 42) (γ 7) := hS45 _ _ _ _ _ l4
  show sn49 [ρ 0, ρ 1, ρ 2, ρ 3, ρ 4, ρ 5, ρ 6, ρ 7, ρ 8, ρ 9, ρ 10, ρ 11, ρ 12, ρ 13, ρ 14, ρ 15, ρ 16, ρ 17, ρ 18, ρ 19, ρ 20, ρ 21, ρ 22] (γ 0) 0 1 (γ 13)
  have hD : en49 (γ 0) (0, [ρ 23], γ 1) = .inr (0, 1, γ 13) := by
    unfold en49
    refine (if_pos (show (0 : Nat) = 0 by decide)).trans ?_
    refine (zLet_eq (show _ = γ 1 from rfl)).trans ?_
    refine (zLet_eq (show _ = ρ 23 from rfl)).trans ?_
    refine (zLet_eq m1).trans ?_
    refine (zLet_eq m4).trans ?_
    refine (zLet_eq m5).trans ?_
    refine (zLet_eq m6).trans ?_
    refine (zLet_eq m7).trans ?_
    refine (zLet_eq m8).trans ?_
    refine (zLet_eq m27).trans ?_
    refine (zLet_eq m28).trans ?_
    refine (zLet_eq m29).trans ?_
    refine (zLet_eq m35).trans ?_
    refine (zLet_eq m36).trans ?_
    refine (zLet_eq m37).trans ?_
    refine (if_pos w_0).trans ?_
    refine (zLet_eq (show fn21 [ρ 35, ρ 36, ρ 37] (γ 1) = (0, ρ 39, γ 2) from l0.symm)).trans ?_
    refine (zLet_eq (show _ = γ 2 from rfl)).trans ?_
    refine (zLet_eq (show _ = ρ 39 from rfl)).trans ?_
    refine (if_pos w_1).trans ?_
    refine (zLet_eq (show fn7 [] (γ 2) = (0, 0, γ 3) from l1.symm)).trans ?_
    refine (zLet_eq (show _ = γ 3 from rfl)).trans ?_
    refine (zLet_eq m39).trans ?_
    refine (zLet_eq (show fn6 [ρ 40] (γ 3) = (0, ρ 41, γ 4) from l2.symm)).trans ?_
    refine (zLet_eq (show _ = γ 4 from rfl)).trans ?_
    refine (if_pos w_2).trans ?_
    refine (zLet_eq (show _ = ρ 41 from rfl)).trans ?_
    refine (if_neg w_3).trans ?_
    refine (zLet_eq (show fn31 [] (γ 4) = (0, 1, γ 5) from l3.symm)).trans ?_
    refine (zLet_eq (show _ = γ 5 from rfl)).trans ?_
    refine (if_pos zQ1_).trans ?_
    refine (zLet_eq c6.symm).trans ?_
    refine (zLet_eq (show fn45 [ρ 39, ρ 7 + ρ 6] (γ 6) = (0, ρ 42, γ 7) from l4.symm)).trans ?_
    refine (zLet_eq (show _ = γ 7 from rfl)).trans ?_
    refine (zLet_eq (show _ = ρ 42 from rfl)).trans ?_
    refine (if_pos w_4).trans ?_
    refine (if_pos w_5).trans ?_
    refine (zLet_eq c8.symm).trans ?_
    refine (if_pos w_6).trans ?_
    refine (zLet_eq c9.symm).trans ?_
    refine (zLet_eq c10.symm).trans ?_
    refine (zLet_eq c11.symm).trans ?_
    refine (zLet_eq c12.symm).trans ?_
    refine (zLet_eq c13.symm).trans ?_
    rfl
  exact zGoo_aend hJ hD
theorem vn49a0_7 {S : Nat → zSpc} (hS6 : ∀ x g o v gz, S 6 x g o v gz → sn6 x g o v gz) (hS7 : ∀ x g o v gz, S 7 x g o v gz → sn7 x g o v gz) (hS8 : ∀ x g o v gz, S 8 x g o v gz → sn8 x g o v gz) (hS21 : ∀ x g o v gz, S 21 x g o v gz → sn21 x g o v gz) (hS25 : ∀ x g o v gz, S 25 x g o v gz → sn25 x g o v gz) (hS27 : ∀ x g o v gz, S 27 x g o v gz → sn27 x g o v gz) (hS28 : ∀ x g o v gz, S 28 x g o v gz → sn28 x g o v gz) (hS30 : ∀ x g o v gz, S 30 x g o v gz → sn30 x g o v gz) (hS31 : ∀ x g o v gz, S 31 x g o v gz → sn31 x g o v gz) (hS39 : ∀ x g o v gz, S 39 x g o v gz → sn39 x g o v gz) (hS43 : ∀ x g o v gz, S 43 x g o v gz → sn43 x g o v gz) (hS44 : ∀ x g o v gz, S 44 x g o v gz → sn44 x g o v gz) (hS45 : ∀ x g o v gz, S 45 x g o v gz → sn45 x g o v gz) (hS46 : ∀ x g o v gz, S 46 x g o v gz → sn46 x g o v gz) (hS47 : ∀ x g o v gz, S 47 x g o v gz → sn47 x g o v gz) {a : List Int} {g : rHp} : ∀ (ρ : Nat → Int) (γ : Nat → rHp), jn49 a g 0 (zAg (zNA a49_ 0) ρ) (γ 1) → zO 23 S a g q49a0_7 ρ γ → zGl (fun i vs g1 => jn49 a g i vs g1) (sn49 a g) q49a0_7 ρ γ := by
  intro ρ γ hJ h
  obtain ⟨ha, hg, hr, hf, hm, hc, hl⟩ := h
  have ha : a = [ρ 0, ρ 1, ρ 2, ρ 3, ρ 4, ρ 5, ρ 6, ρ 7, ρ 8, ρ 9, ρ 10, ρ 11, ρ 12, ρ 13, ρ 14, ρ 15, ρ 16, ρ 17, ρ 18, ρ 19, ρ 20, ρ 21, ρ 22] := ha
  subst ha
  subst hg
  have hJ : jn49 [ρ 0, ρ 1, ρ 2, ρ 3, ρ 4, ρ 5, ρ 6, ρ 7, ρ 8, ρ 9, ρ 10, ρ 11, ρ 12, ρ 13, ρ 14, ρ 15, ρ 16, ρ 17, ρ 18, ρ 19, ρ 20, ρ 21, ρ 22] (γ 0) 0 [ρ 0, ρ 1, ρ 2, ρ 3, ρ 4, ρ 5, ρ 6, ρ 7, ρ 8, ρ 9, ρ 10, ρ 11, ρ 12, ρ 13, ρ 14, ρ 15, ρ 16, ρ 17, ρ 18, ρ 19, ρ 20, ρ 21, ρ 22, ρ 23, ρ 24, ρ 25, ρ 26, ρ 27, ρ 28, ρ 29, ρ 30, ρ 31, ρ 32, ρ 33, ρ 34, ρ 35, ρ 36, ρ 37, ρ 38] (γ 1) := hJ
  obtain ⟨-, -, -, -, -, -, -, -, -, -, -, -, -, -, -, -, -, -, -, -, -, -, -, -, -, -, -, -, -, -, -, -, -, -, -, -, -, r37, -, r39, -, r41, r42, -⟩ := hr
  have r37 : (1 : Int) ≤ ρ 37 ∧ ρ 37 ≤ 1 := r37
  have r39 : (0 : Int) ≤ ρ 39 ∧ ρ 39 ≤ 19 := r39
  have r41 : (46 : Int) ≤ ρ 41 ∧ ρ 41 ≤ 46 := r41
  have r42 : ((-1) : Int) ≤ ρ 42 ∧ ρ 42 ≤ (-1) := r42
  obtain ⟨f0, -, f2, -, -, -, -, -, f8, -⟩ := hf
  have f0 : (0 : Int) ≤ -ρ 7 + -ρ 6 + 399 := f0
  have f2 : (0 : Int) ≤ -ρ 40 + ρ 1 + (-1) := f2
  have f8 : (0 : Int) ≤ -ρ 37 + ρ 23 := f8
  obtain ⟨w_0, w_1, w_2, w_3, w_4, w_5, w_6, w_7⟩ : (ρ 23 ≥ ρ 37) ∧ (ρ 39 ≥ 0) ∧ (0 ≤ -ρ 40 + ρ 1 + (-1)) ∧ (¬ (ρ 41 ≠ 46)) ∧ (ρ 42 < 0) ∧ (ρ 7 + ρ 6 ≠ 400) ∧ (¬ (0 ≥ ρ 37)) ∧ (1 ≥ ρ 37) := ⟨by omega, by omega, by omega, by omega, by omega, by omega, by omega, by omega⟩
  obtain ⟨-, m1, -, -, m4, m5, m6, m7, m8, -, -, -, -, -, -, -, -, -, -, -, -, -, -, -, -, -, -, m27, m28, m29, -, -, -, -, -, m35, m36, m37, -, m39, -, m41, -⟩ := hm
  have m1 : γ 0 15 0 34 = ρ 1 := m1
  have m4 : γ 0 15 0 32 = ρ 4 := m4
  have m5 : γ 0 15 0 33 = ρ 5 := m5
  have m6 : γ 0 15 0 17 = ρ 6 := m6
  have m7 : γ 0 15 0 18 = ρ 7 := m7
  have m8 : γ 0 15 0 14 = ρ 8 := m8
  have m27 : γ 1 15 0 44 = ρ 28 := m27
  have m28 : γ 1 15 0 49 = ρ 29 := m28
  have m29 : γ 1 15 0 50 = ρ 30 := m29
  have m35 : γ 1 15 0 46 = ρ 35 := m35
  have m36 : γ 1 15 0 47 = ρ 36 := m36
  have m37 : γ 1 15 0 48 = ρ 37 := m37
  have m39 : γ 3 15 0 35 = ρ 40 := m39
  have m41 : γ 1 87 0 0 = ρ 43 := m41
  obtain ⟨⟨⟨⟨⟨⟨⟨⟨-, c6⟩, -⟩, c8⟩, c9⟩, c10⟩, c11⟩, c12⟩, c13⟩ := hc
  have c6 : γ 6 = rUp (γ 5) 15 0 35 (ρ 40 + 1) := c6
  have c8 : γ 8 = rUp (γ 7) 67 0 (ρ 7 + ρ 6) (ρ 39) := c8
  have c9 : γ 9 = rUp (γ 8) 68 0 (4 * ρ 7 + 4 * ρ 6) (ρ 43) := c9
  have c10 : γ 10 = rUp (γ 9) 68 0 (4 * ρ 7 + 4 * ρ 6 + 1) 0 := c10
  have c11 : γ 11 = rUp (γ 10) 68 0 (4 * ρ 7 + 4 * ρ 6 + 2) 0 := c11
  have c12 : γ 12 = rUp (γ 11) 68 0 (4 * ρ 7 + 4 * ρ 6 + 3) 0 := c12
  have c13 : γ 13 = rUp (γ 12) 15 0 18 (ρ 7 + 1) := c13
  obtain ⟨l0, l1, l2, l3, l4, -⟩ := hl
  have l0 : sn21 [ρ 35, ρ 36, ρ 37, ρ 8] (γ 1) 0 (ρ 39) (γ 2) := hS21 _ _ _ _ _ l0
  have l1 : sn7 [ρ 24, ρ 1] (γ 2) 0 0 (γ 3) := hS7 _ _ _ _ _ l1
  have l2 : sn6 [ρ 40, ρ 1] (γ 3) 0 (ρ 41) (γ 4) := hS6 _ _ _ _ _ l2
  have l3 : sn31 [ρ 1, ρ 15, ρ 37] (γ 4) 0 1 (γ 5) := hS31 _ _ _ _ _ l3
  have l4 : sn45 [ρ 39, ρ 7 + ρ 6, ρ 37] (γ 6) 0 (ρ 42) (γ 7) := hS45 _ _ _ _ _ l4
  show sn49 [ρ 0, ρ 1, ρ 2, ρ 3, ρ 4, ρ 5, ρ 6, ρ 7, ρ 8, ρ 9, ρ 10, ρ 11, ρ 12, ρ 13, ρ 14, ρ 15, ρ 16, ρ 17, ρ 18, ρ 19, ρ 20, ρ 21, ρ 22] (γ 0) 0 1 (γ 13)
  have hD : en49 (γ 0) (0, [ρ 23], γ 1) = .inr (0, 1, γ 13) := by
    unfold en49
    refine (if_pos (show (0 : Nat) = 0 by decide)).trans ?_
    refine (zLet_eq (show _ = γ 1 from rfl)).trans ?_
    refine (zLet_eq (show _ = ρ 23 from rfl)).trans ?_
    refine (zLet_eq m1).trans ?_
    refine (zLet_eq m4).trans ?_
    refine (zLet_eq m5).trans ?_
    refine (zLet_eq m6).trans ?_
    refine (zLet_eq m7).trans ?_
    refine (zLet_eq m8).trans ?_
    refine (zLet_eq m27).trans ?_
    refine (zLet_eq m28).trans ?_
    refine (zLet_eq m29).trans ?_
    refine (zLet_eq m35).trans ?_
    refine (zLet_eq m36).trans ?_
    refine (zLet_eq m37).trans ?_
    refine (if_pos w_0).trans ?_
    refine (zLet_eq (show fn21 [ρ 35, ρ 36, ρ 37] (γ 1) = (0, ρ 39, γ 2) from l0.symm)).trans ?_
    refine (zLet_eq (show _ = γ 2 from rfl)).trans ?_
    refine (zLet_eq (show _ = ρ 39 from rfl)).trans ?_
    refine (if_pos w_1).trans ?_
    refine (zLet_eq (show fn7 [] (γ 2) = (0, 0, γ 3) from l1.symm)).trans ?_
    refine (zLet_eq (show _ = γ 3 from rfl)).trans ?_
    refine (zLet_eq m39).trans ?_
    refine (zLet_eq (show fn6 [ρ 40] (γ 3) = (0, ρ 41, γ 4) from l2.symm)).trans ?_
    refine (zLet_eq (show _ = γ 4 from rfl)).trans ?_
    refine (if_pos w_2).trans ?_
    refine (zLet_eq (show _ = ρ 41 from rfl)).trans ?_
    refine (if_neg w_3).trans ?_
    refine (zLet_eq (show fn31 [] (γ 4) = (0, 1, γ 5) from l3.symm)).trans ?_
    refine (zLet_eq (show _ = γ 5 from rfl)).trans ?_
    refine (if_pos zQ1_).trans ?_
    refine (zLet_eq c6.symm).trans ?_
    refine (zLet_eq (show fn45 [ρ 39, ρ 7 + ρ 6] (γ 6) = (0, ρ 42, γ 7) from l4.symm)).trans ?_
    refine (zLet_eq (show _ = γ 7 from rfl)).trans ?_
    refine (zLet_eq (show _ = ρ 42 from rfl)).trans ?_
    refine (if_pos w_4).trans ?_
    refine (if_pos w_5).trans ?_
    refine (zLet_eq c8.symm).trans ?_
    refine (if_neg w_6).trans ?_
    refine (zLet_eq m41).trans ?_
    refine (zLet_eq c9.symm).trans ?_
    refine (if_pos w_7).trans ?_
    refine (zLet_eq c10.symm).trans ?_
    refine (zLet_eq c11.symm).trans ?_
    refine (zLet_eq c12.symm).trans ?_
    refine (zLet_eq c13.symm).trans ?_
    rfl
  exact zGoo_aend hJ hD
theorem vn49a0_8 {S : Nat → zSpc} (hS6 : ∀ x g o v gz, S 6 x g o v gz → sn6 x g o v gz) (hS7 : ∀ x g o v gz, S 7 x g o v gz → sn7 x g o v gz) (hS8 : ∀ x g o v gz, S 8 x g o v gz → sn8 x g o v gz) (hS21 : ∀ x g o v gz, S 21 x g o v gz → sn21 x g o v gz) (hS25 : ∀ x g o v gz, S 25 x g o v gz → sn25 x g o v gz) (hS27 : ∀ x g o v gz, S 27 x g o v gz → sn27 x g o v gz) (hS28 : ∀ x g o v gz, S 28 x g o v gz → sn28 x g o v gz) (hS30 : ∀ x g o v gz, S 30 x g o v gz → sn30 x g o v gz) (hS31 : ∀ x g o v gz, S 31 x g o v gz → sn31 x g o v gz) (hS39 : ∀ x g o v gz, S 39 x g o v gz → sn39 x g o v gz) (hS43 : ∀ x g o v gz, S 43 x g o v gz → sn43 x g o v gz) (hS44 : ∀ x g o v gz, S 44 x g o v gz → sn44 x g o v gz) (hS45 : ∀ x g o v gz, S 45 x g o v gz → sn45 x g o v gz) (hS46 : ∀ x g o v gz, S 46 x g o v gz → sn46 x g o v gz) (hS47 : ∀ x g o v gz, S 47 x g o v gz → sn47 x g o v gz) {a : List Int} {g : rHp} : ∀ (ρ : Nat → Int) (γ : Nat → rHp), jn49 a g 0 (zAg (zNA a49_ 0) ρ) (γ 1) → zO 23 S a g q49a0_8 ρ γ → zGl (fun i vs g1 => jn49 a g i vs g1) (sn49 a g) q49a0_8 ρ γ := by
  intro ρ γ hJ h
  obtain ⟨ha, hg, hr, hf, hm, hc, hl⟩ := h
  have ha : a = [ρ 0, ρ 1, ρ 2, ρ 3, ρ 4, ρ 5, ρ 6, ρ 7, ρ 8, ρ 9, ρ 10, ρ 11, ρ 12, ρ 13, ρ 14, ρ 15, ρ 16, ρ 17, ρ 18, ρ 19, ρ 20, ρ 21, ρ 22] := ha
  subst ha
  subst hg
  have hJ : jn49 [ρ 0, ρ 1, ρ 2, ρ 3, ρ 4, ρ 5, ρ 6, ρ 7, ρ 8, ρ 9, ρ 10, ρ 11, ρ 12, ρ 13, ρ 14, ρ 15, ρ 16, ρ 17, ρ 18, ρ 19, ρ 20, ρ 21, ρ 22] (γ 0) 0 [ρ 0, ρ 1, ρ 2, ρ 3, ρ 4, ρ 5, ρ 6, ρ 7, ρ 8, ρ 9, ρ 10, ρ 11, ρ 12, ρ 13, ρ 14, ρ 15, ρ 16, ρ 17, ρ 18, ρ 19, ρ 20, ρ 21, ρ 22, ρ 23, ρ 24, ρ 25, ρ 26, ρ 27, ρ 28, ρ 29, ρ 30, ρ 31, ρ 32, ρ 33, ρ 34, ρ 35, ρ 36, ρ 37, ρ 38] (γ 1) := hJ
  obtain ⟨-, -, -, -, -, -, -, -, -, -, -, -, -, -, -, -, -, -, -, -, -, -, -, -, -, -, -, -, -, -, -, -, -, -, -, -, -, r37, -, r39, -, r41, r42, -⟩ := hr
  have r37 : (2 : Int) ≤ ρ 37 ∧ ρ 37 ≤ 2 := r37
  have r39 : (0 : Int) ≤ ρ 39 ∧ ρ 39 ≤ 19 := r39
  have r41 : (46 : Int) ≤ ρ 41 ∧ ρ 41 ≤ 46 := r41
  have r42 : ((-1) : Int) ≤ ρ 42 ∧ ρ 42 ≤ (-1) := r42
  obtain ⟨f0, -, f2, -, -, -, -, -, f8, -⟩ := hf
  have f0 : (0 : Int) ≤ -ρ 7 + -ρ 6 + 399 := f0
  have f2 : (0 : Int) ≤ -ρ 40 + ρ 1 + (-1) := f2
  have f8 : (0 : Int) ≤ -ρ 37 + ρ 23 := f8
  obtain ⟨w_0, w_1, w_2, w_3, w_4, w_5, w_6, w_7, w_8⟩ : (ρ 23 ≥ ρ 37) ∧ (ρ 39 ≥ 0) ∧ (0 ≤ -ρ 40 + ρ 1 + (-1)) ∧ (¬ (ρ 41 ≠ 46)) ∧ (ρ 42 < 0) ∧ (ρ 7 + ρ 6 ≠ 400) ∧ (¬ (0 ≥ ρ 37)) ∧ (¬ (1 ≥ ρ 37)) ∧ (2 ≥ ρ 37) := ⟨by omega, by omega, by omega, by omega, by omega, by omega, by omega, by omega, by omega⟩
  obtain ⟨-, m1, -, -, m4, m5, m6, m7, m8, -, -, -, -, -, -, -, -, -, -, -, -, -, -, -, -, -, -, m27, m28, m29, -, -, -, -, -, m35, m36, m37, -, m39, -, m41, m42, -⟩ := hm
  have m1 : γ 0 15 0 34 = ρ 1 := m1
  have m4 : γ 0 15 0 32 = ρ 4 := m4
  have m5 : γ 0 15 0 33 = ρ 5 := m5
  have m6 : γ 0 15 0 17 = ρ 6 := m6
  have m7 : γ 0 15 0 18 = ρ 7 := m7
  have m8 : γ 0 15 0 14 = ρ 8 := m8
  have m27 : γ 1 15 0 44 = ρ 28 := m27
  have m28 : γ 1 15 0 49 = ρ 29 := m28
  have m29 : γ 1 15 0 50 = ρ 30 := m29
  have m35 : γ 1 15 0 46 = ρ 35 := m35
  have m36 : γ 1 15 0 47 = ρ 36 := m36
  have m37 : γ 1 15 0 48 = ρ 37 := m37
  have m39 : γ 3 15 0 35 = ρ 40 := m39
  have m41 : γ 1 87 0 0 = ρ 43 := m41
  have m42 : γ 1 87 0 1 = ρ 44 := m42
  obtain ⟨⟨⟨⟨⟨⟨⟨⟨-, c6⟩, -⟩, c8⟩, c9⟩, c10⟩, c11⟩, c12⟩, c13⟩ := hc
  have c6 : γ 6 = rUp (γ 5) 15 0 35 (ρ 40 + 1) := c6
  have c8 : γ 8 = rUp (γ 7) 67 0 (ρ 7 + ρ 6) (ρ 39) := c8
  have c9 : γ 9 = rUp (γ 8) 68 0 (4 * ρ 7 + 4 * ρ 6) (ρ 43) := c9
  have c10 : γ 10 = rUp (γ 9) 68 0 (4 * ρ 7 + 4 * ρ 6 + 1) (ρ 44) := c10
  have c11 : γ 11 = rUp (γ 10) 68 0 (4 * ρ 7 + 4 * ρ 6 + 2) 0 := c11
  have c12 : γ 12 = rUp (γ 11) 68 0 (4 * ρ 7 + 4 * ρ 6 + 3) 0 := c12
  have c13 : γ 13 = rUp (γ 12) 15 0 18 (ρ 7 + 1) := c13
  obtain ⟨l0, l1, l2, l3, l4, -⟩ := hl
  have l0 : sn21 [ρ 35, ρ 36, ρ 37, ρ 8] (γ 1) 0 (ρ 39) (γ 2) := hS21 _ _ _ _ _ l0
  have l1 : sn7 [ρ 24, ρ 1] (γ 2) 0 0 (γ 3) := hS7 _ _ _ _ _ l1
  have l2 : sn6 [ρ 40, ρ 1] (γ 3) 0 (ρ 41) (γ 4) := hS6 _ _ _ _ _ l2
  have l3 : sn31 [ρ 1, ρ 15, ρ 37] (γ 4) 0 1 (γ 5) := hS31 _ _ _ _ _ l3
  have l4 : sn45 [ρ 39, ρ 7 + ρ 6, ρ 37] (γ 6) 0 (ρ 42) (γ 7) := hS45 _ _ _ _ _ l4
  show sn49 [ρ 0, ρ 1, ρ 2, ρ 3, ρ 4, ρ 5, ρ 6, ρ 7, ρ 8, ρ 9, ρ 10, ρ 11, ρ 12, ρ 13, ρ 14, ρ 15, ρ 16, ρ 17, ρ 18, ρ 19, ρ 20, ρ 21, ρ 22] (γ 0) 0 1 (γ 13)
  have hD : en49 (γ 0) (0, [ρ 23], γ 1) = .inr (0, 1, γ 13) := by
    unfold en49
    refine (if_pos (show (0 : Nat) = 0 by decide)).trans ?_
    refine (zLet_eq (show _ = γ 1 from rfl)).trans ?_
    refine (zLet_eq (show _ = ρ 23 from rfl)).trans ?_
    refine (zLet_eq m1).trans ?_
    refine (zLet_eq m4).trans ?_
    refine (zLet_eq m5).trans ?_
    refine (zLet_eq m6).trans ?_
    refine (zLet_eq m7).trans ?_
    refine (zLet_eq m8).trans ?_
    refine (zLet_eq m27).trans ?_
    refine (zLet_eq m28).trans ?_
    refine (zLet_eq m29).trans ?_
    refine (zLet_eq m35).trans ?_
    refine (zLet_eq m36).trans ?_
    refine (zLet_eq m37).trans ?_
    refine (if_pos w_0).trans ?_
    refine (zLet_eq (show fn21 [ρ 35, ρ 36, ρ 37] (γ 1) = (0, ρ 39, γ 2) from l0.symm)).trans ?_
    refine (zLet_eq (show _ = γ 2 from rfl)).trans ?_
    refine (zLet_eq (show _ = ρ 39 from rfl)).trans ?_
    refine (if_pos w_1).trans ?_
    refine (zLet_eq (show fn7 [] (γ 2) = (0, 0, γ 3) from l1.symm)).trans ?_
    refine (zLet_eq (show _ = γ 3 from rfl)).trans ?_
    refine (zLet_eq m39).trans ?_
    refine (zLet_eq (show fn6 [ρ 40] (γ 3) = (0, ρ 41, γ 4) from l2.symm)).trans ?_
    refine (zLet_eq (show _ = γ 4 from rfl)).trans ?_
    refine (if_pos w_2).trans ?_
    refine (zLet_eq (show _ = ρ 41 from rfl)).trans ?_
    refine (if_neg w_3).trans ?_
    refine (zLet_eq (show fn31 [] (γ 4) = (0, 1, γ 5) from l3.symm)).trans ?_
    refine (zLet_eq (show _ = γ 5 from rfl)).trans ?_
    refine (if_pos zQ1_).trans ?_
    refine (zLet_eq c6.symm).trans ?_
    refine (zLet_eq (show fn45 [ρ 39, ρ 7 + ρ 6] (γ 6) = (0, ρ 42, γ 7) from l4.symm)).trans ?_
    refine (zLet_eq (show _ = γ 7 from rfl)).trans ?_
    refine (zLet_eq (show _ = ρ 42 from rfl)).trans ?_
    refine (if_pos w_4).trans ?_
    refine (if_pos w_5).trans ?_
    refine (zLet_eq c8.symm).trans ?_
    refine (if_neg w_6).trans ?_
    refine (zLet_eq m41).trans ?_
    refine (zLet_eq c9.symm).trans ?_
    refine (if_neg w_7).trans ?_
    refine (zLet_eq m42).trans ?_
    refine (zLet_eq c10.symm).trans ?_
    refine (if_pos w_8).trans ?_
    refine (zLet_eq c11.symm).trans ?_
    refine (zLet_eq c12.symm).trans ?_
    refine (zLet_eq c13.symm).trans ?_
    rfl
  exact zGoo_aend hJ hD
theorem vn49a0_9 {S : Nat → zSpc} (hS6 : ∀ x g o v gz, S 6 x g o v gz → sn6 x g o v gz) (hS7 : ∀ x g o v gz, S 7 x g o v gz → sn7 x g o v gz) (hS8 : ∀ x g o v gz, S 8 x g o v gz → sn8 x g o v gz) (hS21 : ∀ x g o v gz, S 21 x g o v gz → sn21 x g o v gz) (hS25 : ∀ x g o v gz, S 25 x g o v gz → sn25 x g o v gz) (hS27 : ∀ x g o v gz, S 27 x g o v gz → sn27 x g o v gz) (hS28 : ∀ x g o v gz, S 28 x g o v gz → sn28 x g o v gz) (hS30 : ∀ x g o v gz, S 30 x g o v gz → sn30 x g o v gz) (hS31 : ∀ x g o v gz, S 31 x g o v gz → sn31 x g o v gz) (hS39 : ∀ x g o v gz, S 39 x g o v gz → sn39 x g o v gz) (hS43 : ∀ x g o v gz, S 43 x g o v gz → sn43 x g o v gz) (hS44 : ∀ x g o v gz, S 44 x g o v gz → sn44 x g o v gz) (hS45 : ∀ x g o v gz, S 45 x g o v gz → sn45 x g o v gz) (hS46 : ∀ x g o v gz, S 46 x g o v gz → sn46 x g o v gz) (hS47 : ∀ x g o v gz, S 47 x g o v gz → sn47 x g o v gz) {a : List Int} {g : rHp} : ∀ (ρ : Nat → Int) (γ : Nat → rHp), jn49 a g 0 (zAg (zNA a49_ 0) ρ) (γ 1) → zO 23 S a g q49a0_9 ρ γ → zGl (fun i vs g1 => jn49 a g i vs g1) (sn49 a g) q49a0_9 ρ γ := by
  intro ρ γ hJ h
  obtain ⟨ha, hg, hr, hf, hm, hc, hl⟩ := h
  have ha : a = [ρ 0, ρ 1, ρ 2, ρ 3, ρ 4, ρ 5, ρ 6, ρ 7, ρ 8, ρ 9, ρ 10, ρ 11, ρ 12, ρ 13, ρ 14, ρ 15, ρ 16, ρ 17, ρ 18, ρ 19, ρ 20, ρ 21, ρ 22] := ha
  subst ha
  subst hg
  have hJ : jn49 [ρ 0, ρ 1, ρ 2, ρ 3, ρ 4, ρ 5, ρ 6, ρ 7, ρ 8, ρ 9, ρ 10, ρ 11, ρ 12, ρ 13, ρ 14, ρ 15, ρ 16, ρ 17, ρ 18, ρ 19, ρ 20, ρ 21, ρ 22] (γ 0) 0 [ρ 0, ρ 1, ρ 2, ρ 3, ρ 4, ρ 5, ρ 6, ρ 7, ρ 8, ρ 9, ρ 10, ρ 11, ρ 12, ρ 13, ρ 14, ρ 15, ρ 16, ρ 17, ρ 18, ρ 19, ρ 20, ρ 21, ρ 22, ρ 23, ρ 24, ρ 25, ρ 26, ρ 27, ρ 28, ρ 29, ρ 30, ρ 31, ρ 32, ρ 33, ρ 34, ρ 35, ρ 36, ρ 37, ρ 38] (γ 1) := hJ
  obtain ⟨-, -, -, -, -, -, -, -, -, -, -, -, -, -, -, -, -, -, -, -, -, -, -, -, -, -, -, -, -, -, -, -, -, -, -, -, -, r37, -, r39, -, r41, r42, -⟩ := hr
  have r37 : (3 : Int) ≤ ρ 37 ∧ ρ 37 ≤ 3 := r37
  have r39 : (0 : Int) ≤ ρ 39 ∧ ρ 39 ≤ 19 := r39
  have r41 : (46 : Int) ≤ ρ 41 ∧ ρ 41 ≤ 46 := r41
  have r42 : ((-1) : Int) ≤ ρ 42 ∧ ρ 42 ≤ (-1) := r42
  obtain ⟨f0, -, f2, -, -, -, -, -, f8, -⟩ := hf
  have f0 : (0 : Int) ≤ -ρ 7 + -ρ 6 + 399 := f0
  have f2 : (0 : Int) ≤ -ρ 40 + ρ 1 + (-1) := f2
  have f8 : (0 : Int) ≤ -ρ 37 + ρ 23 := f8
  obtain ⟨w_0, w_1, w_2, w_3, w_4, w_5, w_6, w_7, w_8, w_9⟩ : (ρ 23 ≥ ρ 37) ∧ (ρ 39 ≥ 0) ∧ (0 ≤ -ρ 40 + ρ 1 + (-1)) ∧ (¬ (ρ 41 ≠ 46)) ∧ (ρ 42 < 0) ∧ (ρ 7 + ρ 6 ≠ 400) ∧ (¬ (0 ≥ ρ 37)) ∧ (¬ (1 ≥ ρ 37)) ∧ (¬ (2 ≥ ρ 37)) ∧ (3 ≥ ρ 37) := ⟨by omega, by omega, by omega, by omega, by omega, by omega, by omega, by omega, by omega, by omega⟩
  obtain ⟨-, m1, -, -, m4, m5, m6, m7, m8, -, -, -, -, -, -, -, -, -, -, -, -, -, -, -, -, -, -, m27, m28, m29, -, -, -, -, -, m35, m36, m37, -, m39, -, m41, m42, m43, -⟩ := hm
  have m1 : γ 0 15 0 34 = ρ 1 := m1
  have m4 : γ 0 15 0 32 = ρ 4 := m4
  have m5 : γ 0 15 0 33 = ρ 5 := m5
  have m6 : γ 0 15 0 17 = ρ 6 := m6
  have m7 : γ 0 15 0 18 = ρ 7 := m7
  have m8 : γ 0 15 0 14 = ρ 8 := m8
  have m27 : γ 1 15 0 44 = ρ 28 := m27
  have m28 : γ 1 15 0 49 = ρ 29 := m28
  have m29 : γ 1 15 0 50 = ρ 30 := m29
  have m35 : γ 1 15 0 46 = ρ 35 := m35
  have m36 : γ 1 15 0 47 = ρ 36 := m36
  have m37 : γ 1 15 0 48 = ρ 37 := m37
  have m39 : γ 3 15 0 35 = ρ 40 := m39
  have m41 : γ 1 87 0 0 = ρ 43 := m41
  have m42 : γ 1 87 0 1 = ρ 44 := m42
  have m43 : γ 1 87 0 2 = ρ 45 := m43
  obtain ⟨⟨⟨⟨⟨⟨⟨⟨-, c6⟩, -⟩, c8⟩, c9⟩, c10⟩, c11⟩, c12⟩, c13⟩ := hc
  have c6 : γ 6 = rUp (γ 5) 15 0 35 (ρ 40 + 1) := c6
  have c8 : γ 8 = rUp (γ 7) 67 0 (ρ 7 + ρ 6) (ρ 39) := c8
  have c9 : γ 9 = rUp (γ 8) 68 0 (4 * ρ 7 + 4 * ρ 6) (ρ 43) := c9
  have c10 : γ 10 = rUp (γ 9) 68 0 (4 * ρ 7 + 4 * ρ 6 + 1) (ρ 44) := c10
  have c11 : γ 11 = rUp (γ 10) 68 0 (4 * ρ 7 + 4 * ρ 6 + 2) (ρ 45) := c11
  have c12 : γ 12 = rUp (γ 11) 68 0 (4 * ρ 7 + 4 * ρ 6 + 3) 0 := c12
  have c13 : γ 13 = rUp (γ 12) 15 0 18 (ρ 7 + 1) := c13
  obtain ⟨l0, l1, l2, l3, l4, -⟩ := hl
  have l0 : sn21 [ρ 35, ρ 36, ρ 37, ρ 8] (γ 1) 0 (ρ 39) (γ 2) := hS21 _ _ _ _ _ l0
  have l1 : sn7 [ρ 24, ρ 1] (γ 2) 0 0 (γ 3) := hS7 _ _ _ _ _ l1
  have l2 : sn6 [ρ 40, ρ 1] (γ 3) 0 (ρ 41) (γ 4) := hS6 _ _ _ _ _ l2
  have l3 : sn31 [ρ 1, ρ 15, ρ 37] (γ 4) 0 1 (γ 5) := hS31 _ _ _ _ _ l3
  have l4 : sn45 [ρ 39, ρ 7 + ρ 6, ρ 37] (γ 6) 0 (ρ 42) (γ 7) := hS45 _ _ _ _ _ l4
  show sn49 [ρ 0, ρ 1, ρ 2, ρ 3, ρ 4, ρ 5, ρ 6, ρ 7, ρ 8, ρ 9, ρ 10, ρ 11, ρ 12, ρ 13, ρ 14, ρ 15, ρ 16, ρ 17, ρ 18, ρ 19, ρ 20, ρ 21, ρ 22] (γ 0) 0 1 (γ 13)
  have hD : en49 (γ 0) (0, [ρ 23], γ 1) = .inr (0, 1, γ 13) := by
    unfold en49
    refine (if_pos (show (0 : Nat) = 0 by decide)).trans ?_
    refine (zLet_eq (show _ = γ 1 from rfl)).trans ?_
    refine (zLet_eq (show _ = ρ 23 from rfl)).trans ?_
    refine (zLet_eq m1).trans ?_
    refine (zLet_eq m4).trans ?_
    refine (zLet_eq m5).trans ?_
    refine (zLet_eq m6).trans ?_
    refine (zLet_eq m7).trans ?_
    refine (zLet_eq m8).trans ?_
    refine (zLet_eq m27).trans ?_
    refine (zLet_eq m28).trans ?_
    refine (zLet_eq m29).trans ?_
    refine (zLet_eq m35).trans ?_
    refine (zLet_eq m36).trans ?_
    refine (zLet_eq m37).trans ?_
    refine (if_pos w_0).trans ?_
    refine (zLet_eq (show fn21 [ρ 35, ρ 36, ρ 37] (γ 1) = (0, ρ 39, γ 2) from l0.symm)).trans ?_
    refine (zLet_eq (show _ = γ 2 from rfl)).trans ?_
    refine (zLet_eq (show _ = ρ 39 from rfl)).trans ?_
    refine (if_pos w_1).trans ?_
    refine (zLet_eq (show fn7 [] (γ 2) = (0, 0, γ 3) from l1.symm)).trans ?_
    refine (zLet_eq (show _ = γ 3 from rfl)).trans ?_
    refine (zLet_eq m39).trans ?_
    refine (zLet_eq (show fn6 [ρ 40] (γ 3) = (0, ρ 41, γ 4) from l2.symm)).trans ?_
    refine (zLet_eq (show _ = γ 4 from rfl)).trans ?_
    refine (if_pos w_2).trans ?_
    refine (zLet_eq (show _ = ρ 41 from rfl)).trans ?_
    refine (if_neg w_3).trans ?_
    refine (zLet_eq (show fn31 [] (γ 4) = (0, 1, γ 5) from l3.symm)).trans ?_
    refine (zLet_eq (show _ = γ 5 from rfl)).trans ?_
    refine (if_pos zQ1_).trans ?_
    refine (zLet_eq c6.symm).trans ?_
    refine (zLet_eq (show fn45 [ρ 39, ρ 7 + ρ 6] (γ 6) = (0, ρ 42, γ 7) from l4.symm)).trans ?_
    refine (zLet_eq (show _ = γ 7 from rfl)).trans ?_
    refine (zLet_eq (show _ = ρ 42 from rfl)).trans ?_
    refine (if_pos w_4).trans ?_
    refine (if_pos w_5).trans ?_
    refine (zLet_eq c8.symm).trans ?_
    refine (if_neg w_6).trans ?_
    refine (zLet_eq m41).trans ?_
    refine (zLet_eq c9.symm).trans ?_
    refine (if_neg w_7).trans ?_
    refine (zLet_eq m42).trans ?_
    refine (zLet_eq c10.symm).trans ?_
    refine (if_neg w_8).trans ?_
    refine (zLet_eq m43).trans ?_
    refine (zLet_eq c11.symm).trans ?_
    refine (if_pos w_9).trans ?_
    refine (zLet_eq c12.symm).trans ?_
    refine (zLet_eq c13.symm).trans ?_
    rfl
  exact zGoo_aend hJ hD
theorem vn49a0_10 {S : Nat → zSpc} (hS6 : ∀ x g o v gz, S 6 x g o v gz → sn6 x g o v gz) (hS7 : ∀ x g o v gz, S 7 x g o v gz → sn7 x g o v gz) (hS8 : ∀ x g o v gz, S 8 x g o v gz → sn8 x g o v gz) (hS21 : ∀ x g o v gz, S 21 x g o v gz → sn21 x g o v gz) (hS25 : ∀ x g o v gz, S 25 x g o v gz → sn25 x g o v gz) (hS27 : ∀ x g o v gz, S 27 x g o v gz → sn27 x g o v gz) (hS28 : ∀ x g o v gz, S 28 x g o v gz → sn28 x g o v gz) (hS30 : ∀ x g o v gz, S 30 x g o v gz → sn30 x g o v gz) (hS31 : ∀ x g o v gz, S 31 x g o v gz → sn31 x g o v gz) (hS39 : ∀ x g o v gz, S 39 x g o v gz → sn39 x g o v gz) (hS43 : ∀ x g o v gz, S 43 x g o v gz → sn43 x g o v gz) (hS44 : ∀ x g o v gz, S 44 x g o v gz → sn44 x g o v gz) (hS45 : ∀ x g o v gz, S 45 x g o v gz → sn45 x g o v gz) (hS46 : ∀ x g o v gz, S 46 x g o v gz → sn46 x g o v gz) (hS47 : ∀ x g o v gz, S 47 x g o v gz → sn47 x g o v gz) {a : List Int} {g : rHp} : ∀ (ρ : Nat → Int) (γ : Nat → rHp), jn49 a g 0 (zAg (zNA a49_ 0) ρ) (γ 1) → zO 23 S a g q49a0_10 ρ γ → zGl (fun i vs g1 => jn49 a g i vs g1) (sn49 a g) q49a0_10 ρ γ := by
  intro ρ γ hJ h
  obtain ⟨ha, hg, hr, hf, hm, hc, hl⟩ := h
  have ha : a = [ρ 0, ρ 1, ρ 2, ρ 3, ρ 4, ρ 5, ρ 6, ρ 7, ρ 8, ρ 9, ρ 10, ρ 11, ρ 12, ρ 13, ρ 14, ρ 15, ρ 16, ρ 17, ρ 18, ρ 19, ρ 20, ρ 21, ρ 22] := ha
  subst ha
  subst hg
  have hJ : jn49 [ρ 0, ρ 1, ρ 2, ρ 3, ρ 4, ρ 5, ρ 6, ρ 7, ρ 8, ρ 9, ρ 10, ρ 11, ρ 12, ρ 13, ρ 14, ρ 15, ρ 16, ρ 17, ρ 18, ρ 19, ρ 20, ρ 21, ρ 22] (γ 0) 0 [ρ 0, ρ 1, ρ 2, ρ 3, ρ 4, ρ 5, ρ 6, ρ 7, ρ 8, ρ 9, ρ 10, ρ 11, ρ 12, ρ 13, ρ 14, ρ 15, ρ 16, ρ 17, ρ 18, ρ 19, ρ 20, ρ 21, ρ 22, ρ 23, ρ 24, ρ 25, ρ 26, ρ 27, ρ 28, ρ 29, ρ 30, ρ 31, ρ 32, ρ 33, ρ 34, ρ 35, ρ 36, ρ 37, ρ 38] (γ 1) := hJ
  obtain ⟨-, -, -, -, -, -, -, -, -, -, -, -, -, -, -, -, -, -, -, -, -, -, -, -, -, -, -, -, -, -, -, -, -, -, -, -, -, r37, -, r39, -, r41, r42, -⟩ := hr
  have r37 : (4 : Int) ≤ ρ 37 ∧ ρ 37 ≤ 4 := r37
  have r39 : (0 : Int) ≤ ρ 39 ∧ ρ 39 ≤ 19 := r39
  have r41 : (46 : Int) ≤ ρ 41 ∧ ρ 41 ≤ 46 := r41
  have r42 : ((-1) : Int) ≤ ρ 42 ∧ ρ 42 ≤ (-1) := r42
  obtain ⟨f0, -, f2, -, -, -, -, -, f8, -⟩ := hf
  have f0 : (0 : Int) ≤ -ρ 7 + -ρ 6 + 399 := f0
  have f2 : (0 : Int) ≤ -ρ 40 + ρ 1 + (-1) := f2
  have f8 : (0 : Int) ≤ -ρ 37 + ρ 23 := f8
  obtain ⟨w_0, w_1, w_2, w_3, w_4, w_5, w_6, w_7, w_8, w_9⟩ : (ρ 23 ≥ ρ 37) ∧ (ρ 39 ≥ 0) ∧ (0 ≤ -ρ 40 + ρ 1 + (-1)) ∧ (¬ (ρ 41 ≠ 46)) ∧ (ρ 42 < 0) ∧ (ρ 7 + ρ 6 ≠ 400) ∧ (¬ (0 ≥ ρ 37)) ∧ (¬ (1 ≥ ρ 37)) ∧ (¬ (2 ≥ ρ 37)) ∧ (¬ (3 ≥ ρ 37)) := ⟨by omega, by omega, by omega, by omega, by omega, by omega, by omega, by omega, by omega, by omega⟩
  obtain ⟨-, m1, -, -, m4, m5, m6, m7, m8, -, -, -, -, -, -, -, -, -, -, -, -, -, -, -, -, -, -, m27, m28, m29, -, -, -, -, -, m35, m36, m37, -, m39, -, m41, m42, m43, m44, -⟩ := hm
  have m1 : γ 0 15 0 34 = ρ 1 := m1
  have m4 : γ 0 15 0 32 = ρ 4 := m4
  have m5 : γ 0 15 0 33 = ρ 5 := m5
  have m6 : γ 0 15 0 17 = ρ 6 := m6
  have m7 : γ 0 15 0 18 = ρ 7 := m7
  have m8 : γ 0 15 0 14 = ρ 8 := m8
  have m27 : γ 1 15 0 44 = ρ 28 := m27
  have m28 : γ 1 15 0 49 = ρ 29 := m28
  have m29 : γ 1 15 0 50 = ρ 30 := m29
  have m35 : γ 1 15 0 46 = ρ 35 := m35
  have m36 : γ 1 15 0 47 = ρ 36 := m36
  have m37 : γ 1 15 0 48 = ρ 37 := m37
  have m39 : γ 3 15 0 35 = ρ 40 := m39
  have m41 : γ 1 87 0 0 = ρ 43 := m41
  have m42 : γ 1 87 0 1 = ρ 44 := m42
  have m43 : γ 1 87 0 2 = ρ 45 := m43
  have m44 : γ 1 87 0 3 = ρ 46 := m44
  obtain ⟨⟨⟨⟨⟨⟨⟨⟨-, c6⟩, -⟩, c8⟩, c9⟩, c10⟩, c11⟩, c12⟩, c13⟩ := hc
  have c6 : γ 6 = rUp (γ 5) 15 0 35 (ρ 40 + 1) := c6
  have c8 : γ 8 = rUp (γ 7) 67 0 (ρ 7 + ρ 6) (ρ 39) := c8
  have c9 : γ 9 = rUp (γ 8) 68 0 (4 * ρ 7 + 4 * ρ 6) (ρ 43) := c9
  have c10 : γ 10 = rUp (γ 9) 68 0 (4 * ρ 7 + 4 * ρ 6 + 1) (ρ 44) := c10
  have c11 : γ 11 = rUp (γ 10) 68 0 (4 * ρ 7 + 4 * ρ 6 + 2) (ρ 45) := c11
  have c12 : γ 12 = rUp (γ 11) 68 0 (4 * ρ 7 + 4 * ρ 6 + 3) (ρ 46) := c12
  have c13 : γ 13 = rUp (γ 12) 15 0 18 (ρ 7 + 1) := c13
  obtain ⟨l0, l1, l2, l3, l4, -⟩ := hl
  have l0 : sn21 [ρ 35, ρ 36, ρ 37, ρ 8] (γ 1) 0 (ρ 39) (γ 2) := hS21 _ _ _ _ _ l0
  have l1 : sn7 [ρ 24, ρ 1] (γ 2) 0 0 (γ 3) := hS7 _ _ _ _ _ l1
  have l2 : sn6 [ρ 40, ρ 1] (γ 3) 0 (ρ 41) (γ 4) := hS6 _ _ _ _ _ l2
  have l3 : sn31 [ρ 1, ρ 15, ρ 37] (γ 4) 0 1 (γ 5) := hS31 _ _ _ _ _ l3
  have l4 : sn45 [ρ 39, ρ 7 + ρ 6, ρ 37] (γ 6) 0 (ρ 42) (γ 7) := hS45 _ _ _ _ _ l4
  show sn49 [ρ 0, ρ 1, ρ 2, ρ 3, ρ 4, ρ 5, ρ 6, ρ 7, ρ 8, ρ 9, ρ 10, ρ 11, ρ 12, ρ 13, ρ 14, ρ 15, ρ 16, ρ 17, ρ 18, ρ 19, ρ 20, ρ 21, ρ 22] (γ 0) 0 1 (γ 13)
  have hD : en49 (γ 0) (0, [ρ 23], γ 1) = .inr (0, 1, γ 13) := by
    unfold en49
    refine (if_pos (show (0 : Nat) = 0 by decide)).trans ?_
    refine (zLet_eq (show _ = γ 1 from rfl)).trans ?_
    refine (zLet_eq (show _ = ρ 23 from rfl)).trans ?_
    refine (zLet_eq m1).trans ?_
    refine (zLet_eq m4).trans ?_
    refine (zLet_eq m5).trans ?_
    refine (zLet_eq m6).trans ?_
    refine (zLet_eq m7).trans ?_
    refine (zLet_eq m8).trans ?_
    refine (zLet_eq m27).trans ?_
    refine (zLet_eq m28).trans ?_
    refine (zLet_eq m29).trans ?_
    refine (zLet_eq m35).trans ?_
    refine (zLet_eq m36).trans ?_
    refine (zLet_eq m37).trans ?_
    refine (if_pos w_0).trans ?_
    refine (zLet_eq (show fn21 [ρ 35, ρ 36, ρ 37] (γ 1) = (0, ρ 39, γ 2) from l0.symm)).trans ?_
    refine (zLet_eq (show _ = γ 2 from rfl)).trans ?_
    refine (zLet_eq (show _ = ρ 39 from rfl)).trans ?_
    refine (if_pos w_1).trans ?_
    refine (zLet_eq (show fn7 [] (γ 2) = (0, 0, γ 3) from l1.symm)).trans ?_
    refine (zLet_eq (show _ = γ 3 from rfl)).trans ?_
    refine (zLet_eq m39).trans ?_
    refine (zLet_eq (show fn6 [ρ 40] (γ 3) = (0, ρ 41, γ 4) from l2.symm)).trans ?_
    refine (zLet_eq (show _ = γ 4 from rfl)).trans ?_
    refine (if_pos w_2).trans ?_
    refine (zLet_eq (show _ = ρ 41 from rfl)).trans ?_
    refine (if_neg w_3).trans ?_
    refine (zLet_eq (show fn31 [] (γ 4) = (0, 1, γ 5) from l3.symm)).trans ?_
    refine (zLet_eq (show _ = γ 5 from rfl)).trans ?_
    refine (if_pos zQ1_).trans ?_
    refine (zLet_eq c6.symm).trans ?_
    refine (zLet_eq (show fn45 [ρ 39, ρ 7 + ρ 6] (γ 6) = (0, ρ 42, γ 7) from l4.symm)).trans ?_
    refine (zLet_eq (show _ = γ 7 from rfl)).trans ?_
    refine (zLet_eq (show _ = ρ 42 from rfl)).trans ?_
    refine (if_pos w_4).trans ?_
    refine (if_pos w_5).trans ?_
    refine (zLet_eq c8.symm).trans ?_
    refine (if_neg w_6).trans ?_
    refine (zLet_eq m41).trans ?_
    refine (zLet_eq c9.symm).trans ?_
    refine (if_neg w_7).trans ?_
    refine (zLet_eq m42).trans ?_
    refine (zLet_eq c10.symm).trans ?_
    refine (if_neg w_8).trans ?_
    refine (zLet_eq m43).trans ?_
    refine (zLet_eq c11.symm).trans ?_
    refine (if_neg w_9).trans ?_
    refine (zLet_eq m44).trans ?_
    refine (zLet_eq c12.symm).trans ?_
    refine (zLet_eq c13.symm).trans ?_
    rfl
  exact zGoo_aend hJ hD
theorem vn49a0_11 {S : Nat → zSpc} (hS6 : ∀ x g o v gz, S 6 x g o v gz → sn6 x g o v gz) (hS7 : ∀ x g o v gz, S 7 x g o v gz → sn7 x g o v gz) (hS8 : ∀ x g o v gz, S 8 x g o v gz → sn8 x g o v gz) (hS21 : ∀ x g o v gz, S 21 x g o v gz → sn21 x g o v gz) (hS25 : ∀ x g o v gz, S 25 x g o v gz → sn25 x g o v gz) (hS27 : ∀ x g o v gz, S 27 x g o v gz → sn27 x g o v gz) (hS28 : ∀ x g o v gz, S 28 x g o v gz → sn28 x g o v gz) (hS30 : ∀ x g o v gz, S 30 x g o v gz → sn30 x g o v gz) (hS31 : ∀ x g o v gz, S 31 x g o v gz → sn31 x g o v gz) (hS39 : ∀ x g o v gz, S 39 x g o v gz → sn39 x g o v gz) (hS43 : ∀ x g o v gz, S 43 x g o v gz → sn43 x g o v gz) (hS44 : ∀ x g o v gz, S 44 x g o v gz → sn44 x g o v gz) (hS45 : ∀ x g o v gz, S 45 x g o v gz → sn45 x g o v gz) (hS46 : ∀ x g o v gz, S 46 x g o v gz → sn46 x g o v gz) (hS47 : ∀ x g o v gz, S 47 x g o v gz → sn47 x g o v gz) {a : List Int} {g : rHp} : ∀ (ρ : Nat → Int) (γ : Nat → rHp), jn49 a g 0 (zAg (zNA a49_ 0) ρ) (γ 1) → zO 23 S a g q49a0_11 ρ γ → zGl (fun i vs g1 => jn49 a g i vs g1) (sn49 a g) q49a0_11 ρ γ := by
  intro ρ γ hJ h
  obtain ⟨ha, hg, hr, hf, hm, hc, hl⟩ := h
  have ha : a = [ρ 0, ρ 1, ρ 2, ρ 3, ρ 4, ρ 5, ρ 6, ρ 7, ρ 8, ρ 9, ρ 10, ρ 11, ρ 12, ρ 13, ρ 14, ρ 15, ρ 16, ρ 17, ρ 18, ρ 19, ρ 20, ρ 21, ρ 22] := ha
  subst ha
  subst hg
  have hJ : jn49 [ρ 0, ρ 1, ρ 2, ρ 3, ρ 4, ρ 5, ρ 6, ρ 7, ρ 8, ρ 9, ρ 10, ρ 11, ρ 12, ρ 13, ρ 14, ρ 15, ρ 16, ρ 17, ρ 18, ρ 19, ρ 20, ρ 21, ρ 22] (γ 0) 0 [ρ 0, ρ 1, ρ 2, ρ 3, ρ 4, ρ 5, ρ 6, ρ 7, ρ 8, ρ 9, ρ 10, ρ 11, ρ 12, ρ 13, ρ 14, ρ 15, ρ 16, ρ 17, ρ 18, ρ 19, ρ 20, ρ 21, ρ 22, ρ 23, ρ 24, ρ 25, ρ 26, ρ 27, ρ 28, ρ 29, ρ 30, ρ 31, ρ 32, ρ 33, ρ 34, ρ 35, ρ 36, ρ 37, ρ 38] (γ 1) := hJ
  obtain ⟨-, -, -, -, -, -, -, -, -, -, -, -, -, -, -, -, -, -, -, -, -, -, -, -, -, -, -, -, -, -, -, -, -, -, -, -, -, -, -, r39, -, r41, r42, -⟩ := hr
  have r39 : (0 : Int) ≤ ρ 39 ∧ ρ 39 ≤ 19 := r39
  have r41 : (46 : Int) ≤ ρ 41 ∧ ρ 41 ≤ 46 := r41
  have r42 : ((-1) : Int) ≤ ρ 42 ∧ ρ 42 ≤ (-1) := r42
  obtain ⟨-, -, f2, f3, -, f5, -, -, -, -, -, f11, -⟩ := hf
  have f2 : (0 : Int) ≤ -ρ 7 + -ρ 6 + 400 := f2
  have f3 : (0 : Int) ≤ ρ 7 + ρ 6 + (-400) := f3
  have f5 : (0 : Int) ≤ -ρ 40 + ρ 1 + (-1) := f5
  have f11 : (0 : Int) ≤ -ρ 37 + ρ 23 := f11
  obtain ⟨w_0, w_1, w_2, w_3, w_4, w_5⟩ : (ρ 23 ≥ ρ 37) ∧ (ρ 39 ≥ 0) ∧ (0 ≤ -ρ 40 + ρ 1 + (-1)) ∧ (¬ (ρ 41 ≠ 46)) ∧ (ρ 42 < 0) ∧ (¬ (ρ 7 + ρ 6 ≠ 400)) := ⟨by omega, by omega, by omega, by omega, by omega, by omega⟩
  obtain ⟨-, m1, -, -, m4, m5, m6, m7, m8, -, -, -, -, -, -, -, -, -, -, -, -, -, -, -, -, -, -, m27, m28, m29, -, -, -, -, -, m35, m36, m37, -, m39, -⟩ := hm
  have m1 : γ 0 15 0 34 = ρ 1 := m1
  have m4 : γ 0 15 0 32 = ρ 4 := m4
  have m5 : γ 0 15 0 33 = ρ 5 := m5
  have m6 : γ 0 15 0 17 = ρ 6 := m6
  have m7 : γ 0 15 0 18 = ρ 7 := m7
  have m8 : γ 0 15 0 14 = ρ 8 := m8
  have m27 : γ 1 15 0 44 = ρ 28 := m27
  have m28 : γ 1 15 0 49 = ρ 29 := m28
  have m29 : γ 1 15 0 50 = ρ 30 := m29
  have m35 : γ 1 15 0 46 = ρ 35 := m35
  have m36 : γ 1 15 0 47 = ρ 36 := m36
  have m37 : γ 1 15 0 48 = ρ 37 := m37
  have m39 : γ 3 15 0 35 = ρ 40 := m39
  obtain ⟨⟨⟨-, c6⟩, -⟩, -⟩ := hc
  have c6 : γ 6 = rUp (γ 5) 15 0 35 (ρ 40 + 1) := c6
  obtain ⟨l0, l1, l2, l3, l4, l5, -⟩ := hl
  have l0 : sn21 [ρ 35, ρ 36, ρ 37, ρ 8] (γ 1) 0 (ρ 39) (γ 2) := hS21 _ _ _ _ _ l0
  have l1 : sn7 [ρ 24, ρ 1] (γ 2) 0 0 (γ 3) := hS7 _ _ _ _ _ l1
  have l2 : sn6 [ρ 40, ρ 1] (γ 3) 0 (ρ 41) (γ 4) := hS6 _ _ _ _ _ l2
  have l3 : sn31 [ρ 1, ρ 15, ρ 37] (γ 4) 0 1 (γ 5) := hS31 _ _ _ _ _ l3
  have l4 : sn45 [ρ 39, ρ 7 + ρ 6, ρ 37] (γ 6) 0 (ρ 42) (γ 7) := hS45 _ _ _ _ _ l4
  have l5 : sn8 [ρ 35, ρ 1, ρ 15] (γ 7) 0 0 (γ 8) := hS8 _ _ _ _ _ l5
  show sn49 [ρ 0, ρ 1, ρ 2, ρ 3, ρ 4, ρ 5, ρ 6, ρ 7, ρ 8, ρ 9, ρ 10, ρ 11, ρ 12, ρ 13, ρ 14, ρ 15, ρ 16, ρ 17, ρ 18, ρ 19, ρ 20, ρ 21, ρ 22] (γ 0) 0 0 (γ 8)
  have hD : en49 (γ 0) (0, [ρ 23], γ 1) = .inr (0, 0, γ 8) := by
    unfold en49
    refine (if_pos (show (0 : Nat) = 0 by decide)).trans ?_
    refine (zLet_eq (show _ = γ 1 from rfl)).trans ?_
    refine (zLet_eq (show _ = ρ 23 from rfl)).trans ?_
    refine (zLet_eq m1).trans ?_
    refine (zLet_eq m4).trans ?_
    refine (zLet_eq m5).trans ?_
    refine (zLet_eq m6).trans ?_
    refine (zLet_eq m7).trans ?_
    refine (zLet_eq m8).trans ?_
    refine (zLet_eq m27).trans ?_
    refine (zLet_eq m28).trans ?_
    refine (zLet_eq m29).trans ?_
    refine (zLet_eq m35).trans ?_
    refine (zLet_eq m36).trans ?_
    refine (zLet_eq m37).trans ?_
    refine (if_pos w_0).trans ?_
    refine (zLet_eq (show fn21 [ρ 35, ρ 36, ρ 37] (γ 1) = (0, ρ 39, γ 2) from l0.symm)).trans ?_
    refine (zLet_eq (show _ = γ 2 from rfl)).trans ?_
    refine (zLet_eq (show _ = ρ 39 from rfl)).trans ?_
    refine (if_pos w_1).trans ?_
    refine (zLet_eq (show fn7 [] (γ 2) = (0, 0, γ 3) from l1.symm)).trans ?_
    refine (zLet_eq (show _ = γ 3 from rfl)).trans ?_
    refine (zLet_eq m39).trans ?_
    refine (zLet_eq (show fn6 [ρ 40] (γ 3) = (0, ρ 41, γ 4) from l2.symm)).trans ?_
    refine (zLet_eq (show _ = γ 4 from rfl)).trans ?_
    refine (if_pos w_2).trans ?_
    refine (zLet_eq (show _ = ρ 41 from rfl)).trans ?_
    refine (if_neg w_3).trans ?_
    refine (zLet_eq (show fn31 [] (γ 4) = (0, 1, γ 5) from l3.symm)).trans ?_
    refine (zLet_eq (show _ = γ 5 from rfl)).trans ?_
    refine (if_pos zQ1_).trans ?_
    refine (zLet_eq c6.symm).trans ?_
    refine (zLet_eq (show fn45 [ρ 39, ρ 7 + ρ 6] (γ 6) = (0, ρ 42, γ 7) from l4.symm)).trans ?_
    refine (zLet_eq (show _ = γ 7 from rfl)).trans ?_
    refine (zLet_eq (show _ = ρ 42 from rfl)).trans ?_
    refine (if_pos w_4).trans ?_
    refine (if_neg w_5).trans ?_
    refine (zLet_eq (show fn8 [ρ 35] (γ 7) = (0, 0, γ 8) from l5.symm)).trans ?_
    refine (zLet_eq (show _ = γ 8 from rfl)).trans ?_
    rfl
  exact zGoo_aend hJ hD
theorem vn49a0_12 {S : Nat → zSpc} (hS6 : ∀ x g o v gz, S 6 x g o v gz → sn6 x g o v gz) (hS7 : ∀ x g o v gz, S 7 x g o v gz → sn7 x g o v gz) (hS8 : ∀ x g o v gz, S 8 x g o v gz → sn8 x g o v gz) (hS21 : ∀ x g o v gz, S 21 x g o v gz → sn21 x g o v gz) (hS25 : ∀ x g o v gz, S 25 x g o v gz → sn25 x g o v gz) (hS27 : ∀ x g o v gz, S 27 x g o v gz → sn27 x g o v gz) (hS28 : ∀ x g o v gz, S 28 x g o v gz → sn28 x g o v gz) (hS30 : ∀ x g o v gz, S 30 x g o v gz → sn30 x g o v gz) (hS31 : ∀ x g o v gz, S 31 x g o v gz → sn31 x g o v gz) (hS39 : ∀ x g o v gz, S 39 x g o v gz → sn39 x g o v gz) (hS43 : ∀ x g o v gz, S 43 x g o v gz → sn43 x g o v gz) (hS44 : ∀ x g o v gz, S 44 x g o v gz → sn44 x g o v gz) (hS45 : ∀ x g o v gz, S 45 x g o v gz → sn45 x g o v gz) (hS46 : ∀ x g o v gz, S 46 x g o v gz → sn46 x g o v gz) (hS47 : ∀ x g o v gz, S 47 x g o v gz → sn47 x g o v gz) {a : List Int} {g : rHp} : ∀ (ρ : Nat → Int) (γ : Nat → rHp), jn49 a g 0 (zAg (zNA a49_ 0) ρ) (γ 1) → zO 23 S a g q49a0_12 ρ γ → zGl (fun i vs g1 => jn49 a g i vs g1) (sn49 a g) q49a0_12 ρ γ := by
  intro ρ γ hJ h
  obtain ⟨ha, hg, hr, hf, hm, hc, hl⟩ := h
  have ha : a = [ρ 0, ρ 1, ρ 2, ρ 3, ρ 4, ρ 5, ρ 6, ρ 7, ρ 8, ρ 9, ρ 10, ρ 11, ρ 12, ρ 13, ρ 14, ρ 15, ρ 16, ρ 17, ρ 18, ρ 19, ρ 20, ρ 21, ρ 22] := ha
  subst ha
  subst hg
  have hJ : jn49 [ρ 0, ρ 1, ρ 2, ρ 3, ρ 4, ρ 5, ρ 6, ρ 7, ρ 8, ρ 9, ρ 10, ρ 11, ρ 12, ρ 13, ρ 14, ρ 15, ρ 16, ρ 17, ρ 18, ρ 19, ρ 20, ρ 21, ρ 22] (γ 0) 0 [ρ 0, ρ 1, ρ 2, ρ 3, ρ 4, ρ 5, ρ 6, ρ 7, ρ 8, ρ 9, ρ 10, ρ 11, ρ 12, ρ 13, ρ 14, ρ 15, ρ 16, ρ 17, ρ 18, ρ 19, ρ 20, ρ 21, ρ 22, ρ 23, ρ 24, ρ 25, ρ 26, ρ 27, ρ 28, ρ 29, ρ 30, ρ 31, ρ 32, ρ 33, ρ 34, ρ 35, ρ 36, ρ 37, ρ 38] (γ 1) := hJ
  obtain ⟨-, -, -, -, -, -, -, -, -, -, -, -, -, -, -, -, -, -, -, -, -, -, -, -, -, -, -, -, -, -, -, -, -, -, -, -, -, -, -, r39, -, r41, r42, -⟩ := hr
  have r39 : (0 : Int) ≤ ρ 39 ∧ ρ 39 ≤ 19 := r39
  have r41 : (46 : Int) ≤ ρ 41 ∧ ρ 41 ≤ 46 := r41
  have r42 : (0 : Int) ≤ ρ 42 ∧ ρ 42 ≤ 399 := r42
  obtain ⟨-, f1, -, -, -, -, -, f7, -⟩ := hf
  have f1 : (0 : Int) ≤ -ρ 40 + ρ 1 + (-1) := f1
  have f7 : (0 : Int) ≤ -ρ 37 + ρ 23 := f7
  obtain ⟨w_0, w_1, w_2, w_3, w_4⟩ : (ρ 23 ≥ ρ 37) ∧ (ρ 39 ≥ 0) ∧ (0 ≤ -ρ 40 + ρ 1 + (-1)) ∧ (¬ (ρ 41 ≠ 46)) ∧ (¬ (ρ 42 < 0)) := ⟨by omega, by omega, by omega, by omega, by omega⟩
  obtain ⟨-, m1, -, -, m4, m5, m6, m7, m8, -, -, -, -, -, -, -, -, -, -, -, -, -, -, -, -, -, -, m27, m28, m29, -, -, -, -, -, m35, m36, m37, -, m39, -⟩ := hm
  have m1 : γ 0 15 0 34 = ρ 1 := m1
  have m4 : γ 0 15 0 32 = ρ 4 := m4
  have m5 : γ 0 15 0 33 = ρ 5 := m5
  have m6 : γ 0 15 0 17 = ρ 6 := m6
  have m7 : γ 0 15 0 18 = ρ 7 := m7
  have m8 : γ 0 15 0 14 = ρ 8 := m8
  have m27 : γ 1 15 0 44 = ρ 28 := m27
  have m28 : γ 1 15 0 49 = ρ 29 := m28
  have m29 : γ 1 15 0 50 = ρ 30 := m29
  have m35 : γ 1 15 0 46 = ρ 35 := m35
  have m36 : γ 1 15 0 47 = ρ 36 := m36
  have m37 : γ 1 15 0 48 = ρ 37 := m37
  have m39 : γ 3 15 0 35 = ρ 40 := m39
  obtain ⟨⟨-, c6⟩, -⟩ := hc
  have c6 : γ 6 = rUp (γ 5) 15 0 35 (ρ 40 + 1) := c6
  obtain ⟨l0, l1, l2, l3, l4, -⟩ := hl
  have l0 : sn21 [ρ 35, ρ 36, ρ 37, ρ 8] (γ 1) 0 (ρ 39) (γ 2) := hS21 _ _ _ _ _ l0
  have l1 : sn7 [ρ 24, ρ 1] (γ 2) 0 0 (γ 3) := hS7 _ _ _ _ _ l1
  have l2 : sn6 [ρ 40, ρ 1] (γ 3) 0 (ρ 41) (γ 4) := hS6 _ _ _ _ _ l2
  have l3 : sn31 [ρ 1, ρ 15, ρ 37] (γ 4) 0 1 (γ 5) := hS31 _ _ _ _ _ l3
  have l4 : sn45 [ρ 39, ρ 7 + ρ 6, ρ 37] (γ 6) 0 (ρ 42) (γ 7) := hS45 _ _ _ _ _ l4
  show sn49 [ρ 0, ρ 1, ρ 2, ρ 3, ρ 4, ρ 5, ρ 6, ρ 7, ρ 8, ρ 9, ρ 10, ρ 11, ρ 12, ρ 13, ρ 14, ρ 15, ρ 16, ρ 17, ρ 18, ρ 19, ρ 20, ρ 21, ρ 22] (γ 0) 0 1 (γ 7)
  have hD : en49 (γ 0) (0, [ρ 23], γ 1) = .inr (0, 1, γ 7) := by
    unfold en49
    refine (if_pos (show (0 : Nat) = 0 by decide)).trans ?_
    refine (zLet_eq (show _ = γ 1 from rfl)).trans ?_
    refine (zLet_eq (show _ = ρ 23 from rfl)).trans ?_
    refine (zLet_eq m1).trans ?_
    refine (zLet_eq m4).trans ?_
    refine (zLet_eq m5).trans ?_
    refine (zLet_eq m6).trans ?_
    refine (zLet_eq m7).trans ?_
    refine (zLet_eq m8).trans ?_
    refine (zLet_eq m27).trans ?_
    refine (zLet_eq m28).trans ?_
    refine (zLet_eq m29).trans ?_
    refine (zLet_eq m35).trans ?_
    refine (zLet_eq m36).trans ?_
    refine (zLet_eq m37).trans ?_
    refine (if_pos w_0).trans ?_
    refine (zLet_eq (show fn21 [ρ 35, ρ 36, ρ 37] (γ 1) = (0, ρ 39, γ 2) from l0.symm)).trans ?_
    refine (zLet_eq (show _ = γ 2 from rfl)).trans ?_
    refine (zLet_eq (show _ = ρ 39 from rfl)).trans ?_
    refine (if_pos w_1).trans ?_
    refine (zLet_eq (show fn7 [] (γ 2) = (0, 0, γ 3) from l1.symm)).trans ?_
    refine (zLet_eq (show _ = γ 3 from rfl)).trans ?_
    refine (zLet_eq m39).trans ?_
    refine (zLet_eq (show fn6 [ρ 40] (γ 3) = (0, ρ 41, γ 4) from l2.symm)).trans ?_
    refine (zLet_eq (show _ = γ 4 from rfl)).trans ?_
    refine (if_pos w_2).trans ?_
    refine (zLet_eq (show _ = ρ 41 from rfl)).trans ?_
    refine (if_neg w_3).trans ?_
    refine (zLet_eq (show fn31 [] (γ 4) = (0, 1, γ 5) from l3.symm)).trans ?_
    refine (zLet_eq (show _ = γ 5 from rfl)).trans ?_
    refine (if_pos zQ1_).trans ?_
    refine (zLet_eq c6.symm).trans ?_
    refine (zLet_eq (show fn45 [ρ 39, ρ 7 + ρ 6] (γ 6) = (0, ρ 42, γ 7) from l4.symm)).trans ?_
    refine (zLet_eq (show _ = γ 7 from rfl)).trans ?_
    refine (zLet_eq (show _ = ρ 42 from rfl)).trans ?_
    refine (if_neg w_4).trans ?_
    rfl
  exact zGoo_aend hJ hD
theorem vn49a0_13 {S : Nat → zSpc} (hS6 : ∀ x g o v gz, S 6 x g o v gz → sn6 x g o v gz) (hS7 : ∀ x g o v gz, S 7 x g o v gz → sn7 x g o v gz) (hS8 : ∀ x g o v gz, S 8 x g o v gz → sn8 x g o v gz) (hS21 : ∀ x g o v gz, S 21 x g o v gz → sn21 x g o v gz) (hS25 : ∀ x g o v gz, S 25 x g o v gz → sn25 x g o v gz) (hS27 : ∀ x g o v gz, S 27 x g o v gz → sn27 x g o v gz) (hS28 : ∀ x g o v gz, S 28 x g o v gz → sn28 x g o v gz) (hS30 : ∀ x g o v gz, S 30 x g o v gz → sn30 x g o v gz) (hS31 : ∀ x g o v gz, S 31 x g o v gz → sn31 x g o v gz) (hS39 : ∀ x g o v gz, S 39 x g o v gz → sn39 x g o v gz) (hS43 : ∀ x g o v gz, S 43 x g o v gz → sn43 x g o v gz) (hS44 : ∀ x g o v gz, S 44 x g o v gz → sn44 x g o v gz) (hS45 : ∀ x g o v gz, S 45 x g o v gz → sn45 x g o v gz) (hS46 : ∀ x g o v gz, S 46 x g o v gz → sn46 x g o v gz) (hS47 : ∀ x g o v gz, S 47 x g o v gz → sn47 x g o v gz) {a : List Int} {g : rHp} : ∀ (ρ : Nat → Int) (γ : Nat → rHp), jn49 a g 0 (zAg (zNA a49_ 0) ρ) (γ 1) → zO 23 S a g q49a0_13 ρ γ → zGl (fun i vs g1 => jn49 a g i vs g1) (sn49 a g) q49a0_13 ρ γ := by
  intro ρ γ hJ h
  obtain ⟨ha, hg, hr, hf, hm, hc, hl⟩ := h
  have ha : a = [ρ 0, ρ 1, ρ 2, ρ 3, ρ 4, ρ 5, ρ 6, ρ 7, ρ 8, ρ 9, ρ 10, ρ 11, ρ 12, ρ 13, ρ 14, ρ 15, ρ 16, ρ 17, ρ 18, ρ 19, ρ 20, ρ 21, ρ 22] := ha
  subst ha
  subst hg
  have hJ : jn49 [ρ 0, ρ 1, ρ 2, ρ 3, ρ 4, ρ 5, ρ 6, ρ 7, ρ 8, ρ 9, ρ 10, ρ 11, ρ 12, ρ 13, ρ 14, ρ 15, ρ 16, ρ 17, ρ 18, ρ 19, ρ 20, ρ 21, ρ 22] (γ 0) 0 [ρ 0, ρ 1, ρ 2, ρ 3, ρ 4, ρ 5, ρ 6, ρ 7, ρ 8, ρ 9, ρ 10, ρ 11, ρ 12, ρ 13, ρ 14, ρ 15, ρ 16, ρ 17, ρ 18, ρ 19, ρ 20, ρ 21, ρ 22, ρ 23, ρ 24, ρ 25, ρ 26, ρ 27, ρ 28, ρ 29, ρ 30, ρ 31, ρ 32, ρ 33, ρ 34, ρ 35, ρ 36, ρ 37, ρ 38] (γ 1) := hJ
  obtain ⟨-, -, -, -, -, -, -, -, -, -, -, -, -, -, -, -, -, -, -, -, -, -, -, -, -, -, -, -, -, -, -, -, -, -, -, -, -, -, -, r39, -⟩ := hr
  have r39 : (0 : Int) ≤ ρ 39 ∧ ρ 39 ≤ 19 := r39
  obtain ⟨-, -, f2, -, -, -, -, -, f8, -⟩ := hf
  have f2 : (0 : Int) ≤ ρ 40 + -ρ 1 := f2
  have f8 : (0 : Int) ≤ -ρ 37 + ρ 23 := f8
  obtain ⟨w_0, w_1, w_2⟩ : (ρ 23 ≥ ρ 37) ∧ (ρ 39 ≥ 0) ∧ (¬ (0 ≤ -ρ 40 + ρ 1 + (-1))) := ⟨by omega, by omega, by omega⟩
  obtain ⟨-, m1, -, -, m4, m5, m6, m7, m8, -, -, -, -, -, -, -, -, -, -, -, -, -, -, -, -, -, -, m27, m28, m29, -, -, -, -, -, m35, m36, m37, -, m39, -⟩ := hm
  have m1 : γ 0 15 0 34 = ρ 1 := m1
  have m4 : γ 0 15 0 32 = ρ 4 := m4
  have m5 : γ 0 15 0 33 = ρ 5 := m5
  have m6 : γ 0 15 0 17 = ρ 6 := m6
  have m7 : γ 0 15 0 18 = ρ 7 := m7
  have m8 : γ 0 15 0 14 = ρ 8 := m8
  have m27 : γ 1 15 0 44 = ρ 28 := m27
  have m28 : γ 1 15 0 49 = ρ 29 := m28
  have m29 : γ 1 15 0 50 = ρ 30 := m29
  have m35 : γ 1 15 0 46 = ρ 35 := m35
  have m36 : γ 1 15 0 47 = ρ 36 := m36
  have m37 : γ 1 15 0 48 = ρ 37 := m37
  have m39 : γ 3 15 0 35 = ρ 40 := m39
  obtain ⟨l0, l1, l2, l3, l4, -⟩ := hl
  have l0 : sn21 [ρ 35, ρ 36, ρ 37, ρ 8] (γ 1) 0 (ρ 39) (γ 2) := hS21 _ _ _ _ _ l0
  have l1 : sn7 [ρ 24, ρ 1] (γ 2) 0 0 (γ 3) := hS7 _ _ _ _ _ l1
  have l2 : sn6 [ρ 40, ρ 1] (γ 3) 0 (-1) (γ 4) := hS6 _ _ _ _ _ l2
  have l3 : sn6 [ρ 40, ρ 1] (γ 4) 0 (-1) (γ 5) := hS6 _ _ _ _ _ l3
  have l4 : sn8 [ρ 40, ρ 1, ρ 15] (γ 5) 0 0 (γ 6) := hS8 _ _ _ _ _ l4
  show sn49 [ρ 0, ρ 1, ρ 2, ρ 3, ρ 4, ρ 5, ρ 6, ρ 7, ρ 8, ρ 9, ρ 10, ρ 11, ρ 12, ρ 13, ρ 14, ρ 15, ρ 16, ρ 17, ρ 18, ρ 19, ρ 20, ρ 21, ρ 22] (γ 0) 0 0 (γ 6)
  have hD : en49 (γ 0) (0, [ρ 23], γ 1) = .inr (0, 0, γ 6) := by
    unfold en49
    refine (if_pos (show (0 : Nat) = 0 by decide)).trans ?_
    refine (zLet_eq (show _ = γ 1 from rfl)).trans ?_
    refine (zLet_eq (show _ = ρ 23 from rfl)).trans ?_
    refine (zLet_eq m1).trans ?_
    refine (zLet_eq m4).trans ?_
    refine (zLet_eq m5).trans ?_
    refine (zLet_eq m6).trans ?_
    refine (zLet_eq m7).trans ?_
    refine (zLet_eq m8).trans ?_
    refine (zLet_eq m27).trans ?_
    refine (zLet_eq m28).trans ?_
    refine (zLet_eq m29).trans ?_
    refine (zLet_eq m35).trans ?_
    refine (zLet_eq m36).trans ?_
    refine (zLet_eq m37).trans ?_
    refine (if_pos w_0).trans ?_
    refine (zLet_eq (show fn21 [ρ 35, ρ 36, ρ 37] (γ 1) = (0, ρ 39, γ 2) from l0.symm)).trans ?_
    refine (zLet_eq (show _ = γ 2 from rfl)).trans ?_
    refine (zLet_eq (show _ = ρ 39 from rfl)).trans ?_
    refine (if_pos w_1).trans ?_
    refine (zLet_eq (show fn7 [] (γ 2) = (0, 0, γ 3) from l1.symm)).trans ?_
    refine (zLet_eq (show _ = γ 3 from rfl)).trans ?_
    refine (zLet_eq m39).trans ?_
    refine (zLet_eq (show fn6 [ρ 40] (γ 3) = (0, (-1), γ 4) from l2.symm)).trans ?_
    refine (zLet_eq (show _ = γ 4 from rfl)).trans ?_
    refine (if_neg w_2).trans ?_
    refine (zLet_eq (show fn6 [ρ 40] (γ 4) = (0, (-1), γ 5) from l3.symm)).trans ?_
    refine (zLet_eq (show _ = γ 5 from rfl)).trans ?_
    refine (zLet_eq (show fn8 [ρ 40] (γ 5) = (0, 0, γ 6) from l4.symm)).trans ?_
    refine (zLet_eq (show _ = γ 6 from rfl)).trans ?_
    rfl
  exact zGoo_aend hJ hD
theorem vn49a0_14 {S : Nat → zSpc} (hS6 : ∀ x g o v gz, S 6 x g o v gz → sn6 x g o v gz) (hS7 : ∀ x g o v gz, S 7 x g o v gz → sn7 x g o v gz) (hS8 : ∀ x g o v gz, S 8 x g o v gz → sn8 x g o v gz) (hS21 : ∀ x g o v gz, S 21 x g o v gz → sn21 x g o v gz) (hS25 : ∀ x g o v gz, S 25 x g o v gz → sn25 x g o v gz) (hS27 : ∀ x g o v gz, S 27 x g o v gz → sn27 x g o v gz) (hS28 : ∀ x g o v gz, S 28 x g o v gz → sn28 x g o v gz) (hS30 : ∀ x g o v gz, S 30 x g o v gz → sn30 x g o v gz) (hS31 : ∀ x g o v gz, S 31 x g o v gz → sn31 x g o v gz) (hS39 : ∀ x g o v gz, S 39 x g o v gz → sn39 x g o v gz) (hS43 : ∀ x g o v gz, S 43 x g o v gz → sn43 x g o v gz) (hS44 : ∀ x g o v gz, S 44 x g o v gz → sn44 x g o v gz) (hS45 : ∀ x g o v gz, S 45 x g o v gz → sn45 x g o v gz) (hS46 : ∀ x g o v gz, S 46 x g o v gz → sn46 x g o v gz) (hS47 : ∀ x g o v gz, S 47 x g o v gz → sn47 x g o v gz) {a : List Int} {g : rHp} : ∀ (ρ : Nat → Int) (γ : Nat → rHp), jn49 a g 0 (zAg (zNA a49_ 0) ρ) (γ 1) → zO 23 S a g q49a0_14 ρ γ → zGl (fun i vs g1 => jn49 a g i vs g1) (sn49 a g) q49a0_14 ρ γ := by
  intro ρ γ hJ h
  obtain ⟨ha, hg, hr, hf, hm, hc, hl⟩ := h
  have ha : a = [ρ 0, ρ 1, ρ 2, ρ 3, ρ 4, ρ 5, ρ 6, ρ 7, ρ 8, ρ 9, ρ 10, ρ 11, ρ 12, ρ 13, ρ 14, ρ 15, ρ 16, ρ 17, ρ 18, ρ 19, ρ 20, ρ 21, ρ 22] := ha
  subst ha
  subst hg
  have hJ : jn49 [ρ 0, ρ 1, ρ 2, ρ 3, ρ 4, ρ 5, ρ 6, ρ 7, ρ 8, ρ 9, ρ 10, ρ 11, ρ 12, ρ 13, ρ 14, ρ 15, ρ 16, ρ 17, ρ 18, ρ 19, ρ 20, ρ 21, ρ 22] (γ 0) 0 [ρ 0, ρ 1, ρ 2, ρ 3, ρ 4, ρ 5, ρ 6, ρ 7, ρ 8, ρ 9, ρ 10, ρ 11, ρ 12, ρ 13, ρ 14, ρ 15, ρ 16, ρ 17, ρ 18, ρ 19, ρ 20, ρ 21, ρ 22, ρ 23, ρ 24, ρ 25, ρ 26, ρ 27, ρ 28, ρ 29, ρ 30, ρ 31, ρ 32, ρ 33, ρ 34, ρ 35, ρ 36, ρ 37, ρ 38] (γ 1) := hJ
  obtain ⟨-, -, -, -, -, -, -, -, r8, -, -, -, -, -, -, -, -, -, -, -, -, -, -, -, -, -, -, -, -, -, -, -, -, -, -, -, -, -, -, r39, -, r41, r42, r43, -⟩ := hr
  have r8 : (0 : Int) ≤ ρ 8 ∧ ρ 8 ≤ 19 := r8
  have r39 : ((-1) : Int) ≤ ρ 39 ∧ ρ 39 ≤ (-1) := r39
  have r41 : ((-128) : Int) ≤ ρ 41 ∧ ρ 41 ≤ 127 := r41
  have r42 : (58 : Int) ≤ ρ 42 ∧ ρ 42 ≤ 58 := r42
  have r43 : (45 : Int) ≤ ρ 43 ∧ ρ 43 ≤ 45 := r43
  obtain ⟨f0, f1, -, -, -, -, -, -, f8, -⟩ := hf
  have f0 : (0 : Int) ≤ -ρ 5 + -ρ 4 + 59 := f0
  have f1 : (0 : Int) ≤ -ρ 40 + ρ 1 + (-2) := f1
  have f8 : (0 : Int) ≤ -ρ 37 + ρ 23 := f8
  obtain ⟨w_0, w_1, w_2, w_3, w_4, w_5, w_6, w_7⟩ : (ρ 23 ≥ ρ 37) ∧ (¬ (ρ 39 ≥ 0)) ∧ (ρ 8 ≠ 20) ∧ (0 ≤ -ρ 40 + ρ 1 + (-1)) ∧ (ρ 42 = 58) ∧ (0 ≤ -ρ 40 + ρ 1 + (-2)) ∧ (ρ 43 = 45) ∧ (ρ 5 + ρ 4 ≠ 60) := ⟨by omega, by omega, by omega, by omega, by omega, by omega, by omega, by omega⟩
  obtain ⟨-, m1, -, -, m4, m5, m6, m7, m8, -, -, -, -, -, -, -, -, -, -, -, -, -, -, -, -, -, -, m27, m28, m29, -, -, -, -, -, m35, m36, m37, -, -, m40, -⟩ := hm
  have m1 : γ 0 15 0 34 = ρ 1 := m1
  have m4 : γ 0 15 0 32 = ρ 4 := m4
  have m5 : γ 0 15 0 33 = ρ 5 := m5
  have m6 : γ 0 15 0 17 = ρ 6 := m6
  have m7 : γ 0 15 0 18 = ρ 7 := m7
  have m8 : γ 0 15 0 14 = ρ 8 := m8
  have m27 : γ 1 15 0 44 = ρ 28 := m27
  have m28 : γ 1 15 0 49 = ρ 29 := m28
  have m29 : γ 1 15 0 50 = ρ 30 := m29
  have m35 : γ 1 15 0 46 = ρ 35 := m35
  have m36 : γ 1 15 0 47 = ρ 36 := m36
  have m37 : γ 1 15 0 48 = ρ 37 := m37
  have m40 : γ 4 15 0 35 = ρ 40 := m40
  obtain ⟨⟨⟨⟨-, c8⟩, c9⟩, c10⟩, c11⟩ := hc
  have c8 : γ 8 = rUp (γ 7) 15 0 35 (ρ 40 + 2) := c8
  have c9 : γ 9 = rUp (γ 8) 69 0 (ρ 28) (ρ 8) := c9
  have c10 : γ 10 = rUp (γ 9) 71 0 (ρ 28) (ρ 29) := c10
  have c11 : γ 11 = rUp (γ 10) 72 0 (ρ 28) (ρ 30) := c11
  obtain ⟨l0, l1, l2, l3, l4, l5, l6, -⟩ := hl
  have l0 : sn21 [ρ 35, ρ 36, ρ 37, ρ 8] (γ 1) 0 (ρ 39) (γ 2) := hS21 _ _ _ _ _ l0
  have l1 : sn39 [ρ 35, ρ 36, ρ 37, ρ 8] (γ 2) 0 (ρ 8) (γ 3) := hS39 _ _ _ _ _ l1
  have l2 : sn7 [ρ 24, ρ 1] (γ 3) 0 0 (γ 4) := hS7 _ _ _ _ _ l2
  have l3 : sn6 [ρ 40, ρ 1] (γ 4) 0 (ρ 41) (γ 5) := hS6 _ _ _ _ _ l3
  have l4 : ρ 41 ≠ 46 := l4
  have l5 : sn6 [ρ 40, ρ 1] (γ 5) 0 (ρ 42) (γ 6) := hS6 _ _ _ _ _ l5
  have l6 : sn6 [ρ 40 + 1, ρ 1] (γ 6) 0 (ρ 43) (γ 7) := hS6 _ _ _ _ _ l6
  have wl_0 : ρ 41 ≠ 46 := by omega
  show jn49 [ρ 0, ρ 1, ρ 2, ρ 3, ρ 4, ρ 5, ρ 6, ρ 7, ρ 8, ρ 9, ρ 10, ρ 11, ρ 12, ρ 13, ρ 14, ρ 15, ρ 16, ρ 17, ρ 18, ρ 19, ρ 20, ρ 21, ρ 22] (γ 0) 1 [ρ 0, ρ 1, ρ 2, ρ 3, ρ 4, ρ 5, ρ 6, ρ 7, ρ 8, ρ 9, ρ 10, ρ 11, ρ 12, ρ 13, ρ 14, ρ 15, ρ 16, ρ 17, ρ 18, ρ 19, ρ 20, ρ 21, ρ 22, 0, ρ 35, ρ 8, ρ 40 + 2, ρ 25, ρ 26, ρ 8 + 1, ρ 27, ρ 28, ρ 29, ρ 30, ρ 31, ρ 32, ρ 33, ρ 34, ρ 35, ρ 36, ρ 37, ρ 38, ρ 8] (γ 11)
  have hD : en49 (γ 0) (0, [ρ 23], γ 1) = .inl (1, [0, ρ 35, ρ 8], γ 11) := by
    unfold en49
    refine (if_pos (show (0 : Nat) = 0 by decide)).trans ?_
    refine (zLet_eq (show _ = γ 1 from rfl)).trans ?_
    refine (zLet_eq (show _ = ρ 23 from rfl)).trans ?_
    refine (zLet_eq m1).trans ?_
    refine (zLet_eq m4).trans ?_
    refine (zLet_eq m5).trans ?_
    refine (zLet_eq m6).trans ?_
    refine (zLet_eq m7).trans ?_
    refine (zLet_eq m8).trans ?_
    refine (zLet_eq m27).trans ?_
    refine (zLet_eq m28).trans ?_
    refine (zLet_eq m29).trans ?_
    refine (zLet_eq m35).trans ?_
    refine (zLet_eq m36).trans ?_
    refine (zLet_eq m37).trans ?_
    refine (if_pos w_0).trans ?_
    refine (zLet_eq (show fn21 [ρ 35, ρ 36, ρ 37] (γ 1) = (0, ρ 39, γ 2) from l0.symm)).trans ?_
    refine (zLet_eq (show _ = γ 2 from rfl)).trans ?_
    refine (zLet_eq (show _ = ρ 39 from rfl)).trans ?_
    refine (if_neg w_1).trans ?_
    refine (if_pos w_2).trans ?_
    refine (zLet_eq (show fn39 [ρ 35, ρ 36, ρ 37] (γ 2) = (0, ρ 8, γ 3) from l1.symm)).trans ?_
    refine (zLet_eq (show _ = γ 3 from rfl)).trans ?_
    refine (zLet_eq (show fn7 [] (γ 3) = (0, 0, γ 4) from l2.symm)).trans ?_
    refine (zLet_eq (show _ = γ 4 from rfl)).trans ?_
    refine (zLet_eq m40).trans ?_
    refine (zLet_eq (show fn6 [ρ 40] (γ 4) = (0, ρ 41, γ 5) from l3.symm)).trans ?_
    refine (zLet_eq (show _ = γ 5 from rfl)).trans ?_
    refine (if_pos w_3).trans ?_
    refine (zLet_eq (show _ = ρ 41 from rfl)).trans ?_
    refine (if_pos wl_0).trans ?_
    refine (zLet_eq (show fn6 [ρ 40] (γ 5) = (0, ρ 42, γ 6) from l5.symm)).trans ?_
    refine (zLet_eq (show _ = γ 6 from rfl)).trans ?_
    refine (zLet_eq (show _ = ρ 42 from rfl)).trans ?_
    refine (if_pos w_4).trans ?_
    refine (zLet_eq (show fn6 [ρ 40 + 1] (γ 6) = (0, ρ 43, γ 7) from l6.symm)).trans ?_
    refine (zLet_eq (show _ = γ 7 from rfl)).trans ?_
    refine (if_pos w_5).trans ?_
    refine (zLet_eq (show _ = ρ 43 from rfl)).trans ?_
    refine (if_pos w_6).trans ?_
    refine (zLet_eq c8.symm).trans ?_
    refine (if_pos w_7).trans ?_
    refine (zLet_eq c9.symm).trans ?_
    refine (zLet_eq c10.symm).trans ?_
    refine (zLet_eq c11.symm).trans ?_
    rfl
  exact zGoo_ato hJ hD
theorem vn49a0_15 {S : Nat → zSpc} (hS6 : ∀ x g o v gz, S 6 x g o v gz → sn6 x g o v gz) (hS7 : ∀ x g o v gz, S 7 x g o v gz → sn7 x g o v gz) (hS8 : ∀ x g o v gz, S 8 x g o v gz → sn8 x g o v gz) (hS21 : ∀ x g o v gz, S 21 x g o v gz → sn21 x g o v gz) (hS25 : ∀ x g o v gz, S 25 x g o v gz → sn25 x g o v gz) (hS27 : ∀ x g o v gz, S 27 x g o v gz → sn27 x g o v gz) (hS28 : ∀ x g o v gz, S 28 x g o v gz → sn28 x g o v gz) (hS30 : ∀ x g o v gz, S 30 x g o v gz → sn30 x g o v gz) (hS31 : ∀ x g o v gz, S 31 x g o v gz → sn31 x g o v gz) (hS39 : ∀ x g o v gz, S 39 x g o v gz → sn39 x g o v gz) (hS43 : ∀ x g o v gz, S 43 x g o v gz → sn43 x g o v gz) (hS44 : ∀ x g o v gz, S 44 x g o v gz → sn44 x g o v gz) (hS45 : ∀ x g o v gz, S 45 x g o v gz → sn45 x g o v gz) (hS46 : ∀ x g o v gz, S 46 x g o v gz → sn46 x g o v gz) (hS47 : ∀ x g o v gz, S 47 x g o v gz → sn47 x g o v gz) {a : List Int} {g : rHp} : ∀ (ρ : Nat → Int) (γ : Nat → rHp), jn49 a g 0 (zAg (zNA a49_ 0) ρ) (γ 1) → zO 23 S a g q49a0_15 ρ γ → zGl (fun i vs g1 => jn49 a g i vs g1) (sn49 a g) q49a0_15 ρ γ := by
  intro ρ γ hJ h
  obtain ⟨ha, hg, hr, hf, hm, hc, hl⟩ := h
  have ha : a = [ρ 0, ρ 1, ρ 2, ρ 3, ρ 4, ρ 5, ρ 6, ρ 7, ρ 8, ρ 9, ρ 10, ρ 11, ρ 12, ρ 13, ρ 14, ρ 15, ρ 16, ρ 17, ρ 18, ρ 19, ρ 20, ρ 21, ρ 22] := ha
  subst ha
  subst hg
  have hJ : jn49 [ρ 0, ρ 1, ρ 2, ρ 3, ρ 4, ρ 5, ρ 6, ρ 7, ρ 8, ρ 9, ρ 10, ρ 11, ρ 12, ρ 13, ρ 14, ρ 15, ρ 16, ρ 17, ρ 18, ρ 19, ρ 20, ρ 21, ρ 22] (γ 0) 0 [ρ 0, ρ 1, ρ 2, ρ 3, ρ 4, ρ 5, ρ 6, ρ 7, ρ 8, ρ 9, ρ 10, ρ 11, ρ 12, ρ 13, ρ 14, ρ 15, ρ 16, ρ 17, ρ 18, ρ 19, ρ 20, ρ 21, ρ 22, ρ 23, ρ 24, ρ 25, ρ 26, ρ 27, ρ 28, ρ 29, ρ 30, ρ 31, ρ 32, ρ 33, ρ 34, ρ 35, ρ 36, ρ 37, ρ 38] (γ 1) := hJ
  obtain ⟨-, -, -, -, -, -, -, -, r8, -, -, -, -, -, -, -, -, -, -, -, -, -, -, -, -, -, -, -, -, -, -, -, -, -, -, -, -, -, -, r39, -, r41, r42, r43, -⟩ := hr
  have r8 : (0 : Int) ≤ ρ 8 ∧ ρ 8 ≤ 19 := r8
  have r39 : ((-1) : Int) ≤ ρ 39 ∧ ρ 39 ≤ (-1) := r39
  have r41 : ((-128) : Int) ≤ ρ 41 ∧ ρ 41 ≤ 127 := r41
  have r42 : (58 : Int) ≤ ρ 42 ∧ ρ 42 ≤ 58 := r42
  have r43 : (45 : Int) ≤ ρ 43 ∧ ρ 43 ≤ 45 := r43
  obtain ⟨-, -, f2, f3, f4, -, -, -, -, -, -, f11, -⟩ := hf
  have f2 : (0 : Int) ≤ -ρ 5 + -ρ 4 + 60 := f2
  have f3 : (0 : Int) ≤ ρ 5 + ρ 4 + (-60) := f3
  have f4 : (0 : Int) ≤ -ρ 40 + ρ 1 + (-2) := f4
  have f11 : (0 : Int) ≤ -ρ 37 + ρ 23 := f11
  obtain ⟨w_0, w_1, w_2, w_3, w_4, w_5, w_6, w_7⟩ : (ρ 23 ≥ ρ 37) ∧ (¬ (ρ 39 ≥ 0)) ∧ (ρ 8 ≠ 20) ∧ (0 ≤ -ρ 40 + ρ 1 + (-1)) ∧ (ρ 42 = 58) ∧ (0 ≤ -ρ 40 + ρ 1 + (-2)) ∧ (ρ 43 = 45) ∧ (¬ (ρ 5 + ρ 4 ≠ 60)) := ⟨by omega, by omega, by omega, by omega, by omega, by omega, by omega, by omega⟩
  obtain ⟨-, m1, -, -, m4, m5, m6, m7, m8, -, -, -, -, -, -, -, -, -, -, -, -, -, -, -, -, -, -, m27, m28, m29, -, -, -, -, -, m35, m36, m37, -, -, m40, -⟩ := hm
  have m1 : γ 0 15 0 34 = ρ 1 := m1
  have m4 : γ 0 15 0 32 = ρ 4 := m4
  have m5 : γ 0 15 0 33 = ρ 5 := m5
  have m6 : γ 0 15 0 17 = ρ 6 := m6
  have m7 : γ 0 15 0 18 = ρ 7 := m7
  have m8 : γ 0 15 0 14 = ρ 8 := m8
  have m27 : γ 1 15 0 44 = ρ 28 := m27
  have m28 : γ 1 15 0 49 = ρ 29 := m28
  have m29 : γ 1 15 0 50 = ρ 30 := m29
  have m35 : γ 1 15 0 46 = ρ 35 := m35
  have m36 : γ 1 15 0 47 = ρ 36 := m36
  have m37 : γ 1 15 0 48 = ρ 37 := m37
  have m40 : γ 4 15 0 35 = ρ 40 := m40
  obtain ⟨⟨-, c8⟩, -⟩ := hc
  have c8 : γ 8 = rUp (γ 7) 15 0 35 (ρ 40 + 2) := c8
  obtain ⟨l0, l1, l2, l3, l4, l5, l6, l7, -⟩ := hl
  have l0 : sn21 [ρ 35, ρ 36, ρ 37, ρ 8] (γ 1) 0 (ρ 39) (γ 2) := hS21 _ _ _ _ _ l0
  have l1 : sn39 [ρ 35, ρ 36, ρ 37, ρ 8] (γ 2) 0 (ρ 8) (γ 3) := hS39 _ _ _ _ _ l1
  have l2 : sn7 [ρ 24, ρ 1] (γ 3) 0 0 (γ 4) := hS7 _ _ _ _ _ l2
  have l3 : sn6 [ρ 40, ρ 1] (γ 4) 0 (ρ 41) (γ 5) := hS6 _ _ _ _ _ l3
  have l4 : ρ 41 ≠ 46 := l4
  have l5 : sn6 [ρ 40, ρ 1] (γ 5) 0 (ρ 42) (γ 6) := hS6 _ _ _ _ _ l5
  have l6 : sn6 [ρ 40 + 1, ρ 1] (γ 6) 0 (ρ 43) (γ 7) := hS6 _ _ _ _ _ l6
  have l7 : sn8 [ρ 35, ρ 1, ρ 15] (γ 8) 0 0 (γ 9) := hS8 _ _ _ _ _ l7
  have wl_0 : ρ 41 ≠ 46 := by omega
  show sn49 [ρ 0, ρ 1, ρ 2, ρ 3, ρ 4, ρ 5, ρ 6, ρ 7, ρ 8, ρ 9, ρ 10, ρ 11, ρ 12, ρ 13, ρ 14, ρ 15, ρ 16, ρ 17, ρ 18, ρ 19, ρ 20, ρ 21, ρ 22] (γ 0) 0 0 (γ 9)
  have hD : en49 (γ 0) (0, [ρ 23], γ 1) = .inr (0, 0, γ 9) := by
    unfold en49
    refine (if_pos (show (0 : Nat) = 0 by decide)).trans ?_
    refine (zLet_eq (show _ = γ 1 from rfl)).trans ?_
    refine (zLet_eq (show _ = ρ 23 from rfl)).trans ?_
    refine (zLet_eq m1).trans ?_
    refine (zLet_eq m4).trans ?_
    refine (zLet_eq m5).trans ?_
    refine (zLet_eq m6).trans ?_
    refine (zLet_eq m7).trans ?_
    refine (zLet_eq m8).trans ?_
    refine (zLet_eq m27).trans ?_
    refine (zLet_eq m28).trans ?_
    refine (zLet_eq m29).trans ?_
    refine (zLet_eq m35).trans ?_
    refine (zLet_eq m36).trans ?_
    refine (zLet_eq m37).trans ?_
    refine (if_pos w_0).trans ?_
    refine (zLet_eq (show fn21 [ρ 35, ρ 36, ρ 37] (γ 1) = (0, ρ 39, γ 2) from l0.symm)).trans ?_
    refine (zLet_eq (show _ = γ 2 from rfl)).trans ?_
    refine (zLet_eq (show _ = ρ 39 from rfl)).trans ?_
    refine (if_neg w_1).trans ?_
    refine (if_pos w_2).trans ?_
    refine (zLet_eq (show fn39 [ρ 35, ρ 36, ρ 37] (γ 2) = (0, ρ 8, γ 3) from l1.symm)).trans ?_
    refine (zLet_eq (show _ = γ 3 from rfl)).trans ?_
    refine (zLet_eq (show fn7 [] (γ 3) = (0, 0, γ 4) from l2.symm)).trans ?_
    refine (zLet_eq (show _ = γ 4 from rfl)).trans ?_
    refine (zLet_eq m40).trans ?_
    refine (zLet_eq (show fn6 [ρ 40] (γ 4) = (0, ρ 41, γ 5) from l3.symm)).trans ?_
    refine (zLet_eq (show _ = γ 5 from rfl)).trans ?_
    refine (if_pos w_3).trans ?_
    refine (zLet_eq (show _ = ρ 41 from rfl)).trans ?_
    refine (if_pos wl_0).trans ?_
    refine (zLet_eq (show fn6 [ρ 40] (γ 5) = (0, ρ 42, γ 6) from l5.symm)).trans ?_
    refine (zLet_eq (show _ = γ 6 from rfl)).trans ?_
    refine (zLet_eq (show _ = ρ 42 from rfl)).trans ?_
    refine (if_pos w_4).trans ?_
    refine (zLet_eq (show fn6 [ρ 40 + 1] (γ 6) = (0, ρ 43, γ 7) from l6.symm)).trans ?_
    refine (zLet_eq (show _ = γ 7 from rfl)).trans ?_
    refine (if_pos w_5).trans ?_
    refine (zLet_eq (show _ = ρ 43 from rfl)).trans ?_
    refine (if_pos w_6).trans ?_
    refine (zLet_eq c8.symm).trans ?_
    refine (if_neg w_7).trans ?_
    refine (zLet_eq (show fn8 [ρ 35] (γ 8) = (0, 0, γ 9) from l7.symm)).trans ?_
    refine (zLet_eq (show _ = γ 9 from rfl)).trans ?_
    rfl
  exact zGoo_aend hJ hD
theorem vn49a0_16 {S : Nat → zSpc} (hS6 : ∀ x g o v gz, S 6 x g o v gz → sn6 x g o v gz) (hS7 : ∀ x g o v gz, S 7 x g o v gz → sn7 x g o v gz) (hS8 : ∀ x g o v gz, S 8 x g o v gz → sn8 x g o v gz) (hS21 : ∀ x g o v gz, S 21 x g o v gz → sn21 x g o v gz) (hS25 : ∀ x g o v gz, S 25 x g o v gz → sn25 x g o v gz) (hS27 : ∀ x g o v gz, S 27 x g o v gz → sn27 x g o v gz) (hS28 : ∀ x g o v gz, S 28 x g o v gz → sn28 x g o v gz) (hS30 : ∀ x g o v gz, S 30 x g o v gz → sn30 x g o v gz) (hS31 : ∀ x g o v gz, S 31 x g o v gz → sn31 x g o v gz) (hS39 : ∀ x g o v gz, S 39 x g o v gz → sn39 x g o v gz) (hS43 : ∀ x g o v gz, S 43 x g o v gz → sn43 x g o v gz) (hS44 : ∀ x g o v gz, S 44 x g o v gz → sn44 x g o v gz) (hS45 : ∀ x g o v gz, S 45 x g o v gz → sn45 x g o v gz) (hS46 : ∀ x g o v gz, S 46 x g o v gz → sn46 x g o v gz) (hS47 : ∀ x g o v gz, S 47 x g o v gz → sn47 x g o v gz) {a : List Int} {g : rHp} : ∀ (ρ : Nat → Int) (γ : Nat → rHp), jn49 a g 0 (zAg (zNA a49_ 0) ρ) (γ 1) → zO 23 S a g q49a0_16 ρ γ → zGl (fun i vs g1 => jn49 a g i vs g1) (sn49 a g) q49a0_16 ρ γ := by
  intro ρ γ hJ h
  obtain ⟨ha, hg, hr, hf, hm, hc, hl⟩ := h
  have ha : a = [ρ 0, ρ 1, ρ 2, ρ 3, ρ 4, ρ 5, ρ 6, ρ 7, ρ 8, ρ 9, ρ 10, ρ 11, ρ 12, ρ 13, ρ 14, ρ 15, ρ 16, ρ 17, ρ 18, ρ 19, ρ 20, ρ 21, ρ 22] := ha
  subst ha
  subst hg
  have hJ : jn49 [ρ 0, ρ 1, ρ 2, ρ 3, ρ 4, ρ 5, ρ 6, ρ 7, ρ 8, ρ 9, ρ 10, ρ 11, ρ 12, ρ 13, ρ 14, ρ 15, ρ 16, ρ 17, ρ 18, ρ 19, ρ 20, ρ 21, ρ 22] (γ 0) 0 [ρ 0, ρ 1, ρ 2, ρ 3, ρ 4, ρ 5, ρ 6, ρ 7, ρ 8, ρ 9, ρ 10, ρ 11, ρ 12, ρ 13, ρ 14, ρ 15, ρ 16, ρ 17, ρ 18, ρ 19, ρ 20, ρ 21, ρ 22, ρ 23, ρ 24, ρ 25, ρ 26, ρ 27, ρ 28, ρ 29, ρ 30, ρ 31, ρ 32, ρ 33, ρ 34, ρ 35, ρ 36, ρ 37, ρ 38] (γ 1) := hJ
  obtain ⟨-, -, -, -, -, -, -, -, r8, -, -, -, -, -, -, -, -, -, -, -, -, -, -, -, -, -, -, -, -, -, -, -, -, -, -, -, -, -, -, r39, -, r41, r42, r43, -⟩ := hr
  have r8 : (0 : Int) ≤ ρ 8 ∧ ρ 8 ≤ 19 := r8
  have r39 : ((-1) : Int) ≤ ρ 39 ∧ ρ 39 ≤ (-1) := r39
  have r41 : ((-128) : Int) ≤ ρ 41 ∧ ρ 41 ≤ 127 := r41
  have r42 : (58 : Int) ≤ ρ 42 ∧ ρ 42 ≤ 58 := r42
  have r43 : ((-128) : Int) ≤ ρ 43 ∧ ρ 43 ≤ 127 := r43
  obtain ⟨-, -, f2, -, -, -, -, -, -, f9, -⟩ := hf
  have f2 : (0 : Int) ≤ -ρ 40 + ρ 1 + (-2) := f2
  have f9 : (0 : Int) ≤ -ρ 37 + ρ 23 := f9
  obtain ⟨w_0, w_1, w_2, w_3, w_4, w_5⟩ : (ρ 23 ≥ ρ 37) ∧ (¬ (ρ 39 ≥ 0)) ∧ (ρ 8 ≠ 20) ∧ (0 ≤ -ρ 40 + ρ 1 + (-1)) ∧ (ρ 42 = 58) ∧ (0 ≤ -ρ 40 + ρ 1 + (-2)) := ⟨by omega, by omega, by omega, by omega, by omega, by omega⟩
  obtain ⟨-, m1, -, -, m4, m5, m6, m7, m8, -, -, -, -, -, -, -, -, -, -, -, -, -, -, -, -, -, -, m27, m28, m29, -, -, -, -, -, m35, m36, m37, -, -, m40, -⟩ := hm
  have m1 : γ 0 15 0 34 = ρ 1 := m1
  have m4 : γ 0 15 0 32 = ρ 4 := m4
  have m5 : γ 0 15 0 33 = ρ 5 := m5
  have m6 : γ 0 15 0 17 = ρ 6 := m6
  have m7 : γ 0 15 0 18 = ρ 7 := m7
  have m8 : γ 0 15 0 14 = ρ 8 := m8
  have m27 : γ 1 15 0 44 = ρ 28 := m27
  have m28 : γ 1 15 0 49 = ρ 29 := m28
  have m29 : γ 1 15 0 50 = ρ 30 := m29
  have m35 : γ 1 15 0 46 = ρ 35 := m35
  have m36 : γ 1 15 0 47 = ρ 36 := m36
  have m37 : γ 1 15 0 48 = ρ 37 := m37
  have m40 : γ 4 15 0 35 = ρ 40 := m40
  obtain ⟨l0, l1, l2, l3, l4, l5, l6, l7, l8, -⟩ := hl
  have l0 : sn21 [ρ 35, ρ 36, ρ 37, ρ 8] (γ 1) 0 (ρ 39) (γ 2) := hS21 _ _ _ _ _ l0
  have l1 : sn39 [ρ 35, ρ 36, ρ 37, ρ 8] (γ 2) 0 (ρ 8) (γ 3) := hS39 _ _ _ _ _ l1
  have l2 : sn7 [ρ 24, ρ 1] (γ 3) 0 0 (γ 4) := hS7 _ _ _ _ _ l2
  have l3 : sn6 [ρ 40, ρ 1] (γ 4) 0 (ρ 41) (γ 5) := hS6 _ _ _ _ _ l3
  have l4 : ρ 41 ≠ 46 := l4
  have l5 : sn6 [ρ 40, ρ 1] (γ 5) 0 (ρ 42) (γ 6) := hS6 _ _ _ _ _ l5
  have l6 : sn6 [ρ 40 + 1, ρ 1] (γ 6) 0 (ρ 43) (γ 7) := hS6 _ _ _ _ _ l6
  have l7 : ρ 43 ≠ 45 := l7
  have l8 : sn8 [ρ 40 + 1, ρ 1, ρ 15] (γ 7) 0 0 (γ 8) := hS8 _ _ _ _ _ l8
  obtain ⟨wl_0, wl_1⟩ : (ρ 41 ≠ 46) ∧ (¬ (ρ 43 = 45)) := ⟨by omega, by omega⟩
  show sn49 [ρ 0, ρ 1, ρ 2, ρ 3, ρ 4, ρ 5, ρ 6, ρ 7, ρ 8, ρ 9, ρ 10, ρ 11, ρ 12, ρ 13, ρ 14, ρ 15, ρ 16, ρ 17, ρ 18, ρ 19, ρ 20, ρ 21, ρ 22] (γ 0) 0 0 (γ 8)
  have hD : en49 (γ 0) (0, [ρ 23], γ 1) = .inr (0, 0, γ 8) := by
    unfold en49
    refine (if_pos (show (0 : Nat) = 0 by decide)).trans ?_
    refine (zLet_eq (show _ = γ 1 from rfl)).trans ?_
    refine (zLet_eq (show _ = ρ 23 from rfl)).trans ?_
    refine (zLet_eq m1).trans ?_
    refine (zLet_eq m4).trans ?_
    refine (zLet_eq m5).trans ?_
    refine (zLet_eq m6).trans ?_
    refine (zLet_eq m7).trans ?_
    refine (zLet_eq m8).trans ?_
    refine (zLet_eq m27).trans ?_
    refine (zLet_eq m28).trans ?_
    refine (zLet_eq m29).trans ?_
    refine (zLet_eq m35).trans ?_
    refine (zLet_eq m36).trans ?_
    refine (zLet_eq m37).trans ?_
    refine (if_pos w_0).trans ?_
    refine (zLet_eq (show fn21 [ρ 35, ρ 36, ρ 37] (γ 1) = (0, ρ 39, γ 2) from l0.symm)).trans ?_
    refine (zLet_eq (show _ = γ 2 from rfl)).trans ?_
    refine (zLet_eq (show _ = ρ 39 from rfl)).trans ?_
    refine (if_neg w_1).trans ?_
    refine (if_pos w_2).trans ?_
    refine (zLet_eq (show fn39 [ρ 35, ρ 36, ρ 37] (γ 2) = (0, ρ 8, γ 3) from l1.symm)).trans ?_
    refine (zLet_eq (show _ = γ 3 from rfl)).trans ?_
    refine (zLet_eq (show fn7 [] (γ 3) = (0, 0, γ 4) from l2.symm)).trans ?_
    refine (zLet_eq (show _ = γ 4 from rfl)).trans ?_
    refine (zLet_eq m40).trans ?_
    refine (zLet_eq (show fn6 [ρ 40] (γ 4) = (0, ρ 41, γ 5) from l3.symm)).trans ?_
    refine (zLet_eq (show _ = γ 5 from rfl)).trans ?_
    refine (if_pos w_3).trans ?_
    refine (zLet_eq (show _ = ρ 41 from rfl)).trans ?_
    refine (if_pos wl_0).trans ?_
    refine (zLet_eq (show fn6 [ρ 40] (γ 5) = (0, ρ 42, γ 6) from l5.symm)).trans ?_
    refine (zLet_eq (show _ = γ 6 from rfl)).trans ?_
    refine (zLet_eq (show _ = ρ 42 from rfl)).trans ?_
    refine (if_pos w_4).trans ?_
    refine (zLet_eq (show fn6 [ρ 40 + 1] (γ 6) = (0, ρ 43, γ 7) from l6.symm)).trans ?_
    refine (zLet_eq (show _ = γ 7 from rfl)).trans ?_
    refine (if_pos w_5).trans ?_
    refine (zLet_eq (show _ = ρ 43 from rfl)).trans ?_
    refine (if_neg wl_1).trans ?_
    refine (zLet_eq (show fn8 [ρ 40 + 1] (γ 7) = (0, 0, γ 8) from l8.symm)).trans ?_
    refine (zLet_eq (show _ = γ 8 from rfl)).trans ?_
    rfl
  exact zGoo_aend hJ hD
theorem vn49a0_17 {S : Nat → zSpc} (hS6 : ∀ x g o v gz, S 6 x g o v gz → sn6 x g o v gz) (hS7 : ∀ x g o v gz, S 7 x g o v gz → sn7 x g o v gz) (hS8 : ∀ x g o v gz, S 8 x g o v gz → sn8 x g o v gz) (hS21 : ∀ x g o v gz, S 21 x g o v gz → sn21 x g o v gz) (hS25 : ∀ x g o v gz, S 25 x g o v gz → sn25 x g o v gz) (hS27 : ∀ x g o v gz, S 27 x g o v gz → sn27 x g o v gz) (hS28 : ∀ x g o v gz, S 28 x g o v gz → sn28 x g o v gz) (hS30 : ∀ x g o v gz, S 30 x g o v gz → sn30 x g o v gz) (hS31 : ∀ x g o v gz, S 31 x g o v gz → sn31 x g o v gz) (hS39 : ∀ x g o v gz, S 39 x g o v gz → sn39 x g o v gz) (hS43 : ∀ x g o v gz, S 43 x g o v gz → sn43 x g o v gz) (hS44 : ∀ x g o v gz, S 44 x g o v gz → sn44 x g o v gz) (hS45 : ∀ x g o v gz, S 45 x g o v gz → sn45 x g o v gz) (hS46 : ∀ x g o v gz, S 46 x g o v gz → sn46 x g o v gz) (hS47 : ∀ x g o v gz, S 47 x g o v gz → sn47 x g o v gz) {a : List Int} {g : rHp} : ∀ (ρ : Nat → Int) (γ : Nat → rHp), jn49 a g 0 (zAg (zNA a49_ 0) ρ) (γ 1) → zO 23 S a g q49a0_17 ρ γ → zGl (fun i vs g1 => jn49 a g i vs g1) (sn49 a g) q49a0_17 ρ γ := by
  intro ρ γ hJ h
  obtain ⟨ha, hg, hr, hf, hm, hc, hl⟩ := h
  have ha : a = [ρ 0, ρ 1, ρ 2, ρ 3, ρ 4, ρ 5, ρ 6, ρ 7, ρ 8, ρ 9, ρ 10, ρ 11, ρ 12, ρ 13, ρ 14, ρ 15, ρ 16, ρ 17, ρ 18, ρ 19, ρ 20, ρ 21, ρ 22] := ha
  subst ha
  subst hg
  have hJ : jn49 [ρ 0, ρ 1, ρ 2, ρ 3, ρ 4, ρ 5, ρ 6, ρ 7, ρ 8, ρ 9, ρ 10, ρ 11, ρ 12, ρ 13, ρ 14, ρ 15, ρ 16, ρ 17, ρ 18, ρ 19, ρ 20, ρ 21, ρ 22] (γ 0) 0 [ρ 0, ρ 1, ρ 2, ρ 3, ρ 4, ρ 5, ρ 6, ρ 7, ρ 8, ρ 9, ρ 10, ρ 11, ρ 12, ρ 13, ρ 14, ρ 15, ρ 16, ρ 17, ρ 18, ρ 19, ρ 20, ρ 21, ρ 22, ρ 23, ρ 24, ρ 25, ρ 26, ρ 27, ρ 28, ρ 29, ρ 30, ρ 31, ρ 32, ρ 33, ρ 34, ρ 35, ρ 36, ρ 37, ρ 38] (γ 1) := hJ
  obtain ⟨-, -, -, -, -, -, -, -, r8, -, -, -, -, -, -, -, -, -, -, -, -, -, -, -, -, -, -, -, -, -, -, -, -, -, -, -, -, -, -, r39, -, r41, r42, -⟩ := hr
  have r8 : (0 : Int) ≤ ρ 8 ∧ ρ 8 ≤ 19 := r8
  have r39 : ((-1) : Int) ≤ ρ 39 ∧ ρ 39 ≤ (-1) := r39
  have r41 : ((-128) : Int) ≤ ρ 41 ∧ ρ 41 ≤ 127 := r41
  have r42 : (58 : Int) ≤ ρ 42 ∧ ρ 42 ≤ 58 := r42
  obtain ⟨-, -, f2, f3, -, -, -, -, -, f9, -⟩ := hf
  have f2 : (0 : Int) ≤ ρ 40 + -ρ 1 + 1 := f2
  have f3 : (0 : Int) ≤ -ρ 40 + ρ 1 + (-1) := f3
  have f9 : (0 : Int) ≤ -ρ 37 + ρ 23 := f9
  obtain ⟨w_0, w_1, w_2, w_3, w_4, w_5⟩ : (ρ 23 ≥ ρ 37) ∧ (¬ (ρ 39 ≥ 0)) ∧ (ρ 8 ≠ 20) ∧ (0 ≤ -ρ 40 + ρ 1 + (-1)) ∧ (ρ 42 = 58) ∧ (¬ (0 ≤ -ρ 40 + ρ 1 + (-2))) := ⟨by omega, by omega, by omega, by omega, by omega, by omega⟩
  obtain ⟨-, m1, -, -, m4, m5, m6, m7, m8, -, -, -, -, -, -, -, -, -, -, -, -, -, -, -, -, -, -, m27, m28, m29, -, -, -, -, -, m35, m36, m37, -, -, m40, -⟩ := hm
  have m1 : γ 0 15 0 34 = ρ 1 := m1
  have m4 : γ 0 15 0 32 = ρ 4 := m4
  have m5 : γ 0 15 0 33 = ρ 5 := m5
  have m6 : γ 0 15 0 17 = ρ 6 := m6
  have m7 : γ 0 15 0 18 = ρ 7 := m7
  have m8 : γ 0 15 0 14 = ρ 8 := m8
  have m27 : γ 1 15 0 44 = ρ 28 := m27
  have m28 : γ 1 15 0 49 = ρ 29 := m28
  have m29 : γ 1 15 0 50 = ρ 30 := m29
  have m35 : γ 1 15 0 46 = ρ 35 := m35
  have m36 : γ 1 15 0 47 = ρ 36 := m36
  have m37 : γ 1 15 0 48 = ρ 37 := m37
  have m40 : γ 4 15 0 35 = ρ 40 := m40
  obtain ⟨l0, l1, l2, l3, l4, l5, l6, l7, -⟩ := hl
  have l0 : sn21 [ρ 35, ρ 36, ρ 37, ρ 8] (γ 1) 0 (ρ 39) (γ 2) := hS21 _ _ _ _ _ l0
  have l1 : sn39 [ρ 35, ρ 36, ρ 37, ρ 8] (γ 2) 0 (ρ 8) (γ 3) := hS39 _ _ _ _ _ l1
  have l2 : sn7 [ρ 24, ρ 1] (γ 3) 0 0 (γ 4) := hS7 _ _ _ _ _ l2
  have l3 : sn6 [ρ 40, ρ 1] (γ 4) 0 (ρ 41) (γ 5) := hS6 _ _ _ _ _ l3
  have l4 : ρ 41 ≠ 46 := l4
  have l5 : sn6 [ρ 40, ρ 1] (γ 5) 0 (ρ 42) (γ 6) := hS6 _ _ _ _ _ l5
  have l6 : sn6 [ρ 40 + 1, ρ 1] (γ 6) 0 (-1) (γ 7) := hS6 _ _ _ _ _ l6
  have l7 : sn8 [ρ 40 + 1, ρ 1, ρ 15] (γ 7) 0 0 (γ 8) := hS8 _ _ _ _ _ l7
  have wl_0 : ρ 41 ≠ 46 := by omega
  show sn49 [ρ 0, ρ 1, ρ 2, ρ 3, ρ 4, ρ 5, ρ 6, ρ 7, ρ 8, ρ 9, ρ 10, ρ 11, ρ 12, ρ 13, ρ 14, ρ 15, ρ 16, ρ 17, ρ 18, ρ 19, ρ 20, ρ 21, ρ 22] (γ 0) 0 0 (γ 8)
  have hD : en49 (γ 0) (0, [ρ 23], γ 1) = .inr (0, 0, γ 8) := by
    unfold en49
    refine (if_pos (show (0 : Nat) = 0 by decide)).trans ?_
    refine (zLet_eq (show _ = γ 1 from rfl)).trans ?_
    refine (zLet_eq (show _ = ρ 23 from rfl)).trans ?_
    refine (zLet_eq m1).trans ?_
    refine (zLet_eq m4).trans ?_
    refine (zLet_eq m5).trans ?_
    refine (zLet_eq m6).trans ?_
    refine (zLet_eq m7).trans ?_
    refine (zLet_eq m8).trans ?_
    refine (zLet_eq m27).trans ?_
    refine (zLet_eq m28).trans ?_
    refine (zLet_eq m29).trans ?_
    refine (zLet_eq m35).trans ?_
    refine (zLet_eq m36).trans ?_
    refine (zLet_eq m37).trans ?_
    refine (if_pos w_0).trans ?_
    refine (zLet_eq (show fn21 [ρ 35, ρ 36, ρ 37] (γ 1) = (0, ρ 39, γ 2) from l0.symm)).trans ?_
    refine (zLet_eq (show _ = γ 2 from rfl)).trans ?_
    refine (zLet_eq (show _ = ρ 39 from rfl)).trans ?_
    refine (if_neg w_1).trans ?_
    refine (if_pos w_2).trans ?_
    refine (zLet_eq (show fn39 [ρ 35, ρ 36, ρ 37] (γ 2) = (0, ρ 8, γ 3) from l1.symm)).trans ?_
    refine (zLet_eq (show _ = γ 3 from rfl)).trans ?_
    refine (zLet_eq (show fn7 [] (γ 3) = (0, 0, γ 4) from l2.symm)).trans ?_
    refine (zLet_eq (show _ = γ 4 from rfl)).trans ?_
    refine (zLet_eq m40).trans ?_
    refine (zLet_eq (show fn6 [ρ 40] (γ 4) = (0, ρ 41, γ 5) from l3.symm)).trans ?_
    refine (zLet_eq (show _ = γ 5 from rfl)).trans ?_
    refine (if_pos w_3).trans ?_
    refine (zLet_eq (show _ = ρ 41 from rfl)).trans ?_
    refine (if_pos wl_0).trans ?_
    refine (zLet_eq (show fn6 [ρ 40] (γ 5) = (0, ρ 42, γ 6) from l5.symm)).trans ?_
    refine (zLet_eq (show _ = γ 6 from rfl)).trans ?_
    refine (zLet_eq (show _ = ρ 42 from rfl)).trans ?_
    refine (if_pos w_4).trans ?_
    refine (zLet_eq (show fn6 [ρ 40 + 1] (γ 6) = (0, (-1), γ 7) from l6.symm)).trans ?_
    refine (zLet_eq (show _ = γ 7 from rfl)).trans ?_
    refine (if_neg w_5).trans ?_
    refine (zLet_eq (show fn8 [ρ 40 + 1] (γ 7) = (0, 0, γ 8) from l7.symm)).trans ?_
    refine (zLet_eq (show _ = γ 8 from rfl)).trans ?_
    rfl
  exact zGoo_aend hJ hD
theorem vn49a0_18 {S : Nat → zSpc} (hS6 : ∀ x g o v gz, S 6 x g o v gz → sn6 x g o v gz) (hS7 : ∀ x g o v gz, S 7 x g o v gz → sn7 x g o v gz) (hS8 : ∀ x g o v gz, S 8 x g o v gz → sn8 x g o v gz) (hS21 : ∀ x g o v gz, S 21 x g o v gz → sn21 x g o v gz) (hS25 : ∀ x g o v gz, S 25 x g o v gz → sn25 x g o v gz) (hS27 : ∀ x g o v gz, S 27 x g o v gz → sn27 x g o v gz) (hS28 : ∀ x g o v gz, S 28 x g o v gz → sn28 x g o v gz) (hS30 : ∀ x g o v gz, S 30 x g o v gz → sn30 x g o v gz) (hS31 : ∀ x g o v gz, S 31 x g o v gz → sn31 x g o v gz) (hS39 : ∀ x g o v gz, S 39 x g o v gz → sn39 x g o v gz) (hS43 : ∀ x g o v gz, S 43 x g o v gz → sn43 x g o v gz) (hS44 : ∀ x g o v gz, S 44 x g o v gz → sn44 x g o v gz) (hS45 : ∀ x g o v gz, S 45 x g o v gz → sn45 x g o v gz) (hS46 : ∀ x g o v gz, S 46 x g o v gz → sn46 x g o v gz) (hS47 : ∀ x g o v gz, S 47 x g o v gz → sn47 x g o v gz) {a : List Int} {g : rHp} : ∀ (ρ : Nat → Int) (γ : Nat → rHp), jn49 a g 0 (zAg (zNA a49_ 0) ρ) (γ 1) → zO 23 S a g q49a0_18 ρ γ → zGl (fun i vs g1 => jn49 a g i vs g1) (sn49 a g) q49a0_18 ρ γ := by
  intro ρ γ hJ h
  obtain ⟨ha, hg, hr, hf, hm, hc, hl⟩ := h
  have ha : a = [ρ 0, ρ 1, ρ 2, ρ 3, ρ 4, ρ 5, ρ 6, ρ 7, ρ 8, ρ 9, ρ 10, ρ 11, ρ 12, ρ 13, ρ 14, ρ 15, ρ 16, ρ 17, ρ 18, ρ 19, ρ 20, ρ 21, ρ 22] := ha
  subst ha
  subst hg
  have hJ : jn49 [ρ 0, ρ 1, ρ 2, ρ 3, ρ 4, ρ 5, ρ 6, ρ 7, ρ 8, ρ 9, ρ 10, ρ 11, ρ 12, ρ 13, ρ 14, ρ 15, ρ 16, ρ 17, ρ 18, ρ 19, ρ 20, ρ 21, ρ 22] (γ 0) 0 [ρ 0, ρ 1, ρ 2, ρ 3, ρ 4, ρ 5, ρ 6, ρ 7, ρ 8, ρ 9, ρ 10, ρ 11, ρ 12, ρ 13, ρ 14, ρ 15, ρ 16, ρ 17, ρ 18, ρ 19, ρ 20, ρ 21, ρ 22, ρ 23, ρ 24, ρ 25, ρ 26, ρ 27, ρ 28, ρ 29, ρ 30, ρ 31, ρ 32, ρ 33, ρ 34, ρ 35, ρ 36, ρ 37, ρ 38] (γ 1) := hJ
  obtain ⟨-, -, -, -, -, -, -, -, r8, -, -, -, -, -, -, -, -, -, -, -, -, -, -, -, -, -, -, -, -, -, -, -, -, -, -, -, -, -, -, r39, -, r41, r42, -⟩ := hr
  have r8 : (0 : Int) ≤ ρ 8 ∧ ρ 8 ≤ 19 := r8
  have r39 : ((-1) : Int) ≤ ρ 39 ∧ ρ 39 ≤ (-1) := r39
  have r41 : ((-128) : Int) ≤ ρ 41 ∧ ρ 41 ≤ 127 := r41
  have r42 : ((-128) : Int) ≤ ρ 42 ∧ ρ 42 ≤ 127 := r42
  obtain ⟨-, -, f2, -, -, -, -, -, f8, -⟩ := hf
  have f2 : (0 : Int) ≤ -ρ 40 + ρ 1 + (-1) := f2
  have f8 : (0 : Int) ≤ -ρ 37 + ρ 23 := f8
  obtain ⟨w_0, w_1, w_2, w_3⟩ : (ρ 23 ≥ ρ 37) ∧ (¬ (ρ 39 ≥ 0)) ∧ (ρ 8 ≠ 20) ∧ (0 ≤ -ρ 40 + ρ 1 + (-1)) := ⟨by omega, by omega, by omega, by omega⟩
  obtain ⟨-, m1, -, -, m4, m5, m6, m7, m8, -, -, -, -, -, -, -, -, -, -, -, -, -, -, -, -, -, -, m27, m28, m29, -, -, -, -, -, m35, m36, m37, -, -, m40, -⟩ := hm
  have m1 : γ 0 15 0 34 = ρ 1 := m1
  have m4 : γ 0 15 0 32 = ρ 4 := m4
  have m5 : γ 0 15 0 33 = ρ 5 := m5
  have m6 : γ 0 15 0 17 = ρ 6 := m6
  have m7 : γ 0 15 0 18 = ρ 7 := m7
  have m8 : γ 0 15 0 14 = ρ 8 := m8
  have m27 : γ 1 15 0 44 = ρ 28 := m27
  have m28 : γ 1 15 0 49 = ρ 29 := m28
  have m29 : γ 1 15 0 50 = ρ 30 := m29
  have m35 : γ 1 15 0 46 = ρ 35 := m35
  have m36 : γ 1 15 0 47 = ρ 36 := m36
  have m37 : γ 1 15 0 48 = ρ 37 := m37
  have m40 : γ 4 15 0 35 = ρ 40 := m40
  obtain ⟨l0, l1, l2, l3, l4, l5, l6, l7, -⟩ := hl
  have l0 : sn21 [ρ 35, ρ 36, ρ 37, ρ 8] (γ 1) 0 (ρ 39) (γ 2) := hS21 _ _ _ _ _ l0
  have l1 : sn39 [ρ 35, ρ 36, ρ 37, ρ 8] (γ 2) 0 (ρ 8) (γ 3) := hS39 _ _ _ _ _ l1
  have l2 : sn7 [ρ 24, ρ 1] (γ 3) 0 0 (γ 4) := hS7 _ _ _ _ _ l2
  have l3 : sn6 [ρ 40, ρ 1] (γ 4) 0 (ρ 41) (γ 5) := hS6 _ _ _ _ _ l3
  have l4 : ρ 41 ≠ 46 := l4
  have l5 : sn6 [ρ 40, ρ 1] (γ 5) 0 (ρ 42) (γ 6) := hS6 _ _ _ _ _ l5
  have l6 : ρ 42 ≠ 58 := l6
  have l7 : sn8 [ρ 40, ρ 1, ρ 15] (γ 6) 0 0 (γ 7) := hS8 _ _ _ _ _ l7
  obtain ⟨wl_0, wl_1⟩ : (ρ 41 ≠ 46) ∧ (¬ (ρ 42 = 58)) := ⟨by omega, by omega⟩
  show sn49 [ρ 0, ρ 1, ρ 2, ρ 3, ρ 4, ρ 5, ρ 6, ρ 7, ρ 8, ρ 9, ρ 10, ρ 11, ρ 12, ρ 13, ρ 14, ρ 15, ρ 16, ρ 17, ρ 18, ρ 19, ρ 20, ρ 21, ρ 22] (γ 0) 0 0 (γ 7)
  have hD : en49 (γ 0) (0, [ρ 23], γ 1) = .inr (0, 0, γ 7) := by
    unfold en49
    refine (if_pos (show (0 : Nat) = 0 by decide)).trans ?_
    refine (zLet_eq (show _ = γ 1 from rfl)).trans ?_
    refine (zLet_eq (show _ = ρ 23 from rfl)).trans ?_
    refine (zLet_eq m1).trans ?_
    refine (zLet_eq m4).trans ?_
    refine (zLet_eq m5).trans ?_
    refine (zLet_eq m6).trans ?_
    refine (zLet_eq m7).trans ?_
    refine (zLet_eq m8).trans ?_
    refine (zLet_eq m27).trans ?_
    refine (zLet_eq m28).trans ?_
    refine (zLet_eq m29).trans ?_
    refine (zLet_eq m35).trans ?_
    refine (zLet_eq m36).trans ?_
    refine (zLet_eq m37).trans ?_
    refine (if_pos w_0).trans ?_
    refine (zLet_eq (show fn21 [ρ 35, ρ 36, ρ 37] (γ 1) = (0, ρ 39, γ 2) from l0.symm)).trans ?_
    refine (zLet_eq (show _ = γ 2 from rfl)).trans ?_
    refine (zLet_eq (show _ = ρ 39 from rfl)).trans ?_
    refine (if_neg w_1).trans ?_
    refine (if_pos w_2).trans ?_
    refine (zLet_eq (show fn39 [ρ 35, ρ 36, ρ 37] (γ 2) = (0, ρ 8, γ 3) from l1.symm)).trans ?_
    refine (zLet_eq (show _ = γ 3 from rfl)).trans ?_
    refine (zLet_eq (show fn7 [] (γ 3) = (0, 0, γ 4) from l2.symm)).trans ?_
    refine (zLet_eq (show _ = γ 4 from rfl)).trans ?_
    refine (zLet_eq m40).trans ?_
    refine (zLet_eq (show fn6 [ρ 40] (γ 4) = (0, ρ 41, γ 5) from l3.symm)).trans ?_
    refine (zLet_eq (show _ = γ 5 from rfl)).trans ?_
    refine (if_pos w_3).trans ?_
    refine (zLet_eq (show _ = ρ 41 from rfl)).trans ?_
    refine (if_pos wl_0).trans ?_
    refine (zLet_eq (show fn6 [ρ 40] (γ 5) = (0, ρ 42, γ 6) from l5.symm)).trans ?_
    refine (zLet_eq (show _ = γ 6 from rfl)).trans ?_
    refine (zLet_eq (show _ = ρ 42 from rfl)).trans ?_
    refine (if_neg wl_1).trans ?_
    refine (zLet_eq (show fn8 [ρ 40] (γ 6) = (0, 0, γ 7) from l7.symm)).trans ?_
    refine (zLet_eq (show _ = γ 7 from rfl)).trans ?_
    rfl
  exact zGoo_aend hJ hD
theorem vn49a0_19 {S : Nat → zSpc} (hS6 : ∀ x g o v gz, S 6 x g o v gz → sn6 x g o v gz) (hS7 : ∀ x g o v gz, S 7 x g o v gz → sn7 x g o v gz) (hS8 : ∀ x g o v gz, S 8 x g o v gz → sn8 x g o v gz) (hS21 : ∀ x g o v gz, S 21 x g o v gz → sn21 x g o v gz) (hS25 : ∀ x g o v gz, S 25 x g o v gz → sn25 x g o v gz) (hS27 : ∀ x g o v gz, S 27 x g o v gz → sn27 x g o v gz) (hS28 : ∀ x g o v gz, S 28 x g o v gz → sn28 x g o v gz) (hS30 : ∀ x g o v gz, S 30 x g o v gz → sn30 x g o v gz) (hS31 : ∀ x g o v gz, S 31 x g o v gz → sn31 x g o v gz) (hS39 : ∀ x g o v gz, S 39 x g o v gz → sn39 x g o v gz) (hS43 : ∀ x g o v gz, S 43 x g o v gz → sn43 x g o v gz) (hS44 : ∀ x g o v gz, S 44 x g o v gz → sn44 x g o v gz) (hS45 : ∀ x g o v gz, S 45 x g o v gz → sn45 x g o v gz) (hS46 : ∀ x g o v gz, S 46 x g o v gz → sn46 x g o v gz) (hS47 : ∀ x g o v gz, S 47 x g o v gz → sn47 x g o v gz) {a : List Int} {g : rHp} : ∀ (ρ : Nat → Int) (γ : Nat → rHp), jn49 a g 0 (zAg (zNA a49_ 0) ρ) (γ 1) → zO 23 S a g q49a0_19 ρ γ → zGl (fun i vs g1 => jn49 a g i vs g1) (sn49 a g) q49a0_19 ρ γ := by
  intro ρ γ hJ h
  obtain ⟨ha, hg, hr, hf, hm, hc, hl⟩ := h
  have ha : a = [ρ 0, ρ 1, ρ 2, ρ 3, ρ 4, ρ 5, ρ 6, ρ 7, ρ 8, ρ 9, ρ 10, ρ 11, ρ 12, ρ 13, ρ 14, ρ 15, ρ 16, ρ 17, ρ 18, ρ 19, ρ 20, ρ 21, ρ 22] := ha
  subst ha
  subst hg
  have hJ : jn49 [ρ 0, ρ 1, ρ 2, ρ 3, ρ 4, ρ 5, ρ 6, ρ 7, ρ 8, ρ 9, ρ 10, ρ 11, ρ 12, ρ 13, ρ 14, ρ 15, ρ 16, ρ 17, ρ 18, ρ 19, ρ 20, ρ 21, ρ 22] (γ 0) 0 [ρ 0, ρ 1, ρ 2, ρ 3, ρ 4, ρ 5, ρ 6, ρ 7, ρ 8, ρ 9, ρ 10, ρ 11, ρ 12, ρ 13, ρ 14, ρ 15, ρ 16, ρ 17, ρ 18, ρ 19, ρ 20, ρ 21, ρ 22, ρ 23, ρ 24, ρ 25, ρ 26, ρ 27, ρ 28, ρ 29, ρ 30, ρ 31, ρ 32, ρ 33, ρ 34, ρ 35, ρ 36, ρ 37, ρ 38] (γ 1) := hJ
  obtain ⟨-, -, -, -, -, -, -, -, r8, -, -, -, -, -, -, -, -, -, -, -, -, -, -, -, -, -, -, -, -, -, -, -, -, -, -, -, -, -, -, r39, -, r41, -⟩ := hr
  have r8 : (0 : Int) ≤ ρ 8 ∧ ρ 8 ≤ 19 := r8
  have r39 : ((-1) : Int) ≤ ρ 39 ∧ ρ 39 ≤ (-1) := r39
  have r41 : (46 : Int) ≤ ρ 41 ∧ ρ 41 ≤ 46 := r41
  obtain ⟨-, f1, -, -, -, -, -, f7, -⟩ := hf
  have f1 : (0 : Int) ≤ -ρ 40 + ρ 1 + (-1) := f1
  have f7 : (0 : Int) ≤ -ρ 37 + ρ 23 := f7
  obtain ⟨w_0, w_1, w_2, w_3, w_4⟩ : (ρ 23 ≥ ρ 37) ∧ (¬ (ρ 39 ≥ 0)) ∧ (ρ 8 ≠ 20) ∧ (0 ≤ -ρ 40 + ρ 1 + (-1)) ∧ (¬ (ρ 41 ≠ 46)) := ⟨by omega, by omega, by omega, by omega, by omega⟩
  obtain ⟨-, m1, -, -, m4, m5, m6, m7, m8, -, -, -, -, -, -, -, -, -, -, -, -, -, -, -, -, -, -, m27, m28, m29, -, -, -, -, -, m35, m36, m37, -, -, m40, -⟩ := hm
  have m1 : γ 0 15 0 34 = ρ 1 := m1
  have m4 : γ 0 15 0 32 = ρ 4 := m4
  have m5 : γ 0 15 0 33 = ρ 5 := m5
  have m6 : γ 0 15 0 17 = ρ 6 := m6
  have m7 : γ 0 15 0 18 = ρ 7 := m7
  have m8 : γ 0 15 0 14 = ρ 8 := m8
  have m27 : γ 1 15 0 44 = ρ 28 := m27
  have m28 : γ 1 15 0 49 = ρ 29 := m28
  have m29 : γ 1 15 0 50 = ρ 30 := m29
  have m35 : γ 1 15 0 46 = ρ 35 := m35
  have m36 : γ 1 15 0 47 = ρ 36 := m36
  have m37 : γ 1 15 0 48 = ρ 37 := m37
  have m40 : γ 4 15 0 35 = ρ 40 := m40
  obtain ⟨l0, l1, l2, l3, l4, -⟩ := hl
  have l0 : sn21 [ρ 35, ρ 36, ρ 37, ρ 8] (γ 1) 0 (ρ 39) (γ 2) := hS21 _ _ _ _ _ l0
  have l1 : sn39 [ρ 35, ρ 36, ρ 37, ρ 8] (γ 2) 0 (ρ 8) (γ 3) := hS39 _ _ _ _ _ l1
  have l2 : sn7 [ρ 24, ρ 1] (γ 3) 0 0 (γ 4) := hS7 _ _ _ _ _ l2
  have l3 : sn6 [ρ 40, ρ 1] (γ 4) 0 (ρ 41) (γ 5) := hS6 _ _ _ _ _ l3
  have l4 : sn31 [ρ 1, ρ 15, ρ 37] (γ 5) 0 0 (γ 6) := hS31 _ _ _ _ _ l4
  show sn49 [ρ 0, ρ 1, ρ 2, ρ 3, ρ 4, ρ 5, ρ 6, ρ 7, ρ 8, ρ 9, ρ 10, ρ 11, ρ 12, ρ 13, ρ 14, ρ 15, ρ 16, ρ 17, ρ 18, ρ 19, ρ 20, ρ 21, ρ 22] (γ 0) 0 0 (γ 6)
  have hD : en49 (γ 0) (0, [ρ 23], γ 1) = .inr (0, 0, γ 6) := by
    unfold en49
    refine (if_pos (show (0 : Nat) = 0 by decide)).trans ?_
    refine (zLet_eq (show _ = γ 1 from rfl)).trans ?_
    refine (zLet_eq (show _ = ρ 23 from rfl)).trans ?_
    refine (zLet_eq m1).trans ?_
    refine (zLet_eq m4).trans ?_
    refine (zLet_eq m5).trans ?_
    refine (zLet_eq m6).trans ?_
    refine (zLet_eq m7).trans ?_
    refine (zLet_eq m8).trans ?_
    refine (zLet_eq m27).trans ?_
    refine (zLet_eq m28).trans ?_
    refine (zLet_eq m29).trans ?_
    refine (zLet_eq m35).trans ?_
    refine (zLet_eq m36).trans ?_
    refine (zLet_eq m37).trans ?_
    refine (if_pos w_0).trans ?_
    refine (zLet_eq (show fn21 [ρ 35, ρ 36, ρ 37] (γ 1) = (0, ρ 39, γ 2) from l0.symm)).trans ?_
    refine (zLet_eq (show _ = γ 2 from rfl)).trans ?_
    refine (zLet_eq (show _ = ρ 39 from rfl)).trans ?_
    refine (if_neg w_1).trans ?_
    refine (if_pos w_2).trans ?_
    refine (zLet_eq (show fn39 [ρ 35, ρ 36, ρ 37] (γ 2) = (0, ρ 8, γ 3) from l1.symm)).trans ?_
    refine (zLet_eq (show _ = γ 3 from rfl)).trans ?_
    refine (zLet_eq (show fn7 [] (γ 3) = (0, 0, γ 4) from l2.symm)).trans ?_
    refine (zLet_eq (show _ = γ 4 from rfl)).trans ?_
    refine (zLet_eq m40).trans ?_
    refine (zLet_eq (show fn6 [ρ 40] (γ 4) = (0, ρ 41, γ 5) from l3.symm)).trans ?_
    refine (zLet_eq (show _ = γ 5 from rfl)).trans ?_
    refine (if_pos w_3).trans ?_
    refine (zLet_eq (show _ = ρ 41 from rfl)).trans ?_
    refine (if_neg w_4).trans ?_
    refine (zLet_eq (show fn31 [] (γ 5) = (0, 0, γ 6) from l4.symm)).trans ?_
    refine (zLet_eq (show _ = γ 6 from rfl)).trans ?_
    refine (if_neg zQ0_).trans ?_
    rfl
  exact zGoo_aend hJ hD
theorem vn49a0_20 {S : Nat → zSpc} (hS6 : ∀ x g o v gz, S 6 x g o v gz → sn6 x g o v gz) (hS7 : ∀ x g o v gz, S 7 x g o v gz → sn7 x g o v gz) (hS8 : ∀ x g o v gz, S 8 x g o v gz → sn8 x g o v gz) (hS21 : ∀ x g o v gz, S 21 x g o v gz → sn21 x g o v gz) (hS25 : ∀ x g o v gz, S 25 x g o v gz → sn25 x g o v gz) (hS27 : ∀ x g o v gz, S 27 x g o v gz → sn27 x g o v gz) (hS28 : ∀ x g o v gz, S 28 x g o v gz → sn28 x g o v gz) (hS30 : ∀ x g o v gz, S 30 x g o v gz → sn30 x g o v gz) (hS31 : ∀ x g o v gz, S 31 x g o v gz → sn31 x g o v gz) (hS39 : ∀ x g o v gz, S 39 x g o v gz → sn39 x g o v gz) (hS43 : ∀ x g o v gz, S 43 x g o v gz → sn43 x g o v gz) (hS44 : ∀ x g o v gz, S 44 x g o v gz → sn44 x g o v gz) (hS45 : ∀ x g o v gz, S 45 x g o v gz → sn45 x g o v gz) (hS46 : ∀ x g o v gz, S 46 x g o v gz → sn46 x g o v gz) (hS47 : ∀ x g o v gz, S 47 x g o v gz → sn47 x g o v gz) {a : List Int} {g : rHp} : ∀ (ρ : Nat → Int) (γ : Nat → rHp), jn49 a g 0 (zAg (zNA a49_ 0) ρ) (γ 1) → zO 23 S a g q49a0_20 ρ γ → zGl (fun i vs g1 => jn49 a g i vs g1) (sn49 a g) q49a0_20 ρ γ := by
  intro ρ γ hJ h
  obtain ⟨ha, hg, hr, hf, hm, hc, hl⟩ := h
  have ha : a = [ρ 0, ρ 1, ρ 2, ρ 3, ρ 4, ρ 5, ρ 6, ρ 7, ρ 8, ρ 9, ρ 10, ρ 11, ρ 12, ρ 13, ρ 14, ρ 15, ρ 16, ρ 17, ρ 18, ρ 19, ρ 20, ρ 21, ρ 22] := ha
  subst ha
  subst hg
  have hJ : jn49 [ρ 0, ρ 1, ρ 2, ρ 3, ρ 4, ρ 5, ρ 6, ρ 7, ρ 8, ρ 9, ρ 10, ρ 11, ρ 12, ρ 13, ρ 14, ρ 15, ρ 16, ρ 17, ρ 18, ρ 19, ρ 20, ρ 21, ρ 22] (γ 0) 0 [ρ 0, ρ 1, ρ 2, ρ 3, ρ 4, ρ 5, ρ 6, ρ 7, ρ 8, ρ 9, ρ 10, ρ 11, ρ 12, ρ 13, ρ 14, ρ 15, ρ 16, ρ 17, ρ 18, ρ 19, ρ 20, ρ 21, ρ 22, ρ 23, ρ 24, ρ 25, ρ 26, ρ 27, ρ 28, ρ 29, ρ 30, ρ 31, ρ 32, ρ 33, ρ 34, ρ 35, ρ 36, ρ 37, ρ 38] (γ 1) := hJ
  obtain ⟨-, -, -, -, -, -, -, -, r8, -, -, -, -, -, -, -, -, -, -, -, -, -, -, r23, -, -, -, -, -, -, -, -, -, -, -, -, -, r37, -, r39, -, r41, -⟩ := hr
  have r8 : (0 : Int) ≤ ρ 8 ∧ ρ 8 ≤ 19 := r8
  have r23 : (0 : Int) ≤ ρ 23 ∧ ρ 23 ≤ 4 := r23
  have r37 : (0 : Int) ≤ ρ 37 ∧ ρ 37 ≤ 0 := r37
  have r39 : ((-1) : Int) ≤ ρ 39 ∧ ρ 39 ≤ (-1) := r39
  have r41 : (46 : Int) ≤ ρ 41 ∧ ρ 41 ≤ 46 := r41
  obtain ⟨f0, f1, -⟩ := hf
  have f0 : (0 : Int) ≤ -ρ 7 + -ρ 6 + 399 := f0
  have f1 : (0 : Int) ≤ -ρ 40 + ρ 1 + (-1) := f1
  obtain ⟨w_0, w_1, w_2, w_3, w_4, w_5, w_6⟩ : (ρ 23 ≥ ρ 37) ∧ (¬ (ρ 39 ≥ 0)) ∧ (ρ 8 ≠ 20) ∧ (0 ≤ -ρ 40 + ρ 1 + (-1)) ∧ (¬ (ρ 41 ≠ 46)) ∧ (ρ 7 + ρ 6 ≠ 400) ∧ (0 ≥ ρ 37) := ⟨by omega, by omega, by omega, by omega, by omega, by omega, by omega⟩
  obtain ⟨-, m1, -, -, m4, m5, m6, m7, m8, -, -, -, -, -, -, -, -, -, -, -, -, -, -, -, -, -, -, m27, m28, m29, -, -, -, -, -, m35, m36, m37, -, -, m40, -⟩ := hm
  have m1 : γ 0 15 0 34 = ρ 1 := m1
  have m4 : γ 0 15 0 32 = ρ 4 := m4
  have m5 : γ 0 15 0 33 = ρ 5 := m5
  have m6 : γ 0 15 0 17 = ρ 6 := m6
  have m7 : γ 0 15 0 18 = ρ 7 := m7
  have m8 : γ 0 15 0 14 = ρ 8 := m8
  have m27 : γ 1 15 0 44 = ρ 28 := m27
  have m28 : γ 1 15 0 49 = ρ 29 := m28
  have m29 : γ 1 15 0 50 = ρ 30 := m29
  have m35 : γ 1 15 0 46 = ρ 35 := m35
  have m36 : γ 1 15 0 47 = ρ 36 := m36
  have m37 : γ 1 15 0 48 = ρ 37 := m37
  have m40 : γ 4 15 0 35 = ρ 40 := m40
  obtain ⟨⟨⟨⟨⟨⟨⟨⟨-, c7⟩, -⟩, c9⟩, c10⟩, c11⟩, c12⟩, c13⟩, c14⟩ := hc
  have c7 : γ 7 = rUp (γ 6) 15 0 35 (ρ 40 + 1) := c7
  have c9 : γ 9 = rUp (γ 8) 67 0 (ρ 7 + ρ 6) (ρ 8) := c9
  have c10 : γ 10 = rUp (γ 9) 68 0 (4 * ρ 7 + 4 * ρ 6) 0 := c10
  have c11 : γ 11 = rUp (γ 10) 68 0 (4 * ρ 7 + 4 * ρ 6 + 1) 0 := c11
  have c12 : γ 12 = rUp (γ 11) 68 0 (4 * ρ 7 + 4 * ρ 6 + 2) 0 := c12
  have c13 : γ 13 = rUp (γ 12) 68 0 (4 * ρ 7 + 4 * ρ 6 + 3) 0 := c13
  have c14 : γ 14 = rUp (γ 13) 15 0 18 (ρ 7 + 1) := c14
  obtain ⟨l0, l1, l2, l3, l4, l5, -⟩ := hl
  have l0 : sn21 [ρ 35, ρ 36, ρ 37, ρ 8] (γ 1) 0 (ρ 39) (γ 2) := hS21 _ _ _ _ _ l0
  have l1 : sn39 [ρ 35, ρ 36, ρ 37, ρ 8] (γ 2) 0 (ρ 8) (γ 3) := hS39 _ _ _ _ _ l1
  have l2 : sn7 [ρ 24, ρ 1] (γ 3) 0 0 (γ 4) := hS7 _ _ _ _ _ l2
  have l3 : sn6 [ρ 40, ρ 1] (γ 4) 0 (ρ 41) (γ 5) := hS6 _ _ _ _ _ l3
  have l4 : sn31 [ρ 1, ρ 15, ρ 37] (γ 5) 0 1 (γ 6) := hS31 _ _ _ _ _ l4
  have l5 : sn46 [ρ 8, ρ 7 + ρ 6, ρ 8 + 1, ρ 6, ρ 7, ρ 37] (γ 7) 0 (-1) (γ 8) := hS46 _ _ _ _ _ l5
  show sn49 [ρ 0, ρ 1, ρ 2, ρ 3, ρ 4, ρ 5, ρ 6, ρ 7, ρ 8, ρ 9, ρ 10, ρ 11, ρ 12, ρ 13, ρ 14, ρ 15, ρ 16, ρ 17, ρ 18, ρ 19, ρ 20, ρ 21, ρ 22] (γ 0) 0 1 (γ 14)
  have hD : en49 (γ 0) (0, [ρ 23], γ 1) = .inr (0, 1, γ 14) := by
    unfold en49
    refine (if_pos (show (0 : Nat) = 0 by decide)).trans ?_
    refine (zLet_eq (show _ = γ 1 from rfl)).trans ?_
    refine (zLet_eq (show _ = ρ 23 from rfl)).trans ?_
    refine (zLet_eq m1).trans ?_
    refine (zLet_eq m4).trans ?_
    refine (zLet_eq m5).trans ?_
    refine (zLet_eq m6).trans ?_
    refine (zLet_eq m7).trans ?_
    refine (zLet_eq m8).trans ?_
    refine (zLet_eq m27).trans ?_
    refine (zLet_eq m28).trans ?_
    refine (zLet_eq m29).trans ?_
    refine (zLet_eq m35).trans ?_
    refine (zLet_eq m36).trans ?_
    refine (zLet_eq m37).trans ?_
    refine (if_pos w_0).trans ?_
    refine (zLet_eq (show fn21 [ρ 35, ρ 36, ρ 37] (γ 1) = (0, ρ 39, γ 2) from l0.symm)).trans ?_
    refine (zLet_eq (show _ = γ 2 from rfl)).trans ?_
    refine (zLet_eq (show _ = ρ 39 from rfl)).trans ?_
    refine (if_neg w_1).trans ?_
    refine (if_pos w_2).trans ?_
    refine (zLet_eq (show fn39 [ρ 35, ρ 36, ρ 37] (γ 2) = (0, ρ 8, γ 3) from l1.symm)).trans ?_
    refine (zLet_eq (show _ = γ 3 from rfl)).trans ?_
    refine (zLet_eq (show fn7 [] (γ 3) = (0, 0, γ 4) from l2.symm)).trans ?_
    refine (zLet_eq (show _ = γ 4 from rfl)).trans ?_
    refine (zLet_eq m40).trans ?_
    refine (zLet_eq (show fn6 [ρ 40] (γ 4) = (0, ρ 41, γ 5) from l3.symm)).trans ?_
    refine (zLet_eq (show _ = γ 5 from rfl)).trans ?_
    refine (if_pos w_3).trans ?_
    refine (zLet_eq (show _ = ρ 41 from rfl)).trans ?_
    refine (if_neg w_4).trans ?_
    refine (zLet_eq (show fn31 [] (γ 5) = (0, 1, γ 6) from l4.symm)).trans ?_
    refine (zLet_eq (show _ = γ 6 from rfl)).trans ?_
    refine (if_pos zQ1_).trans ?_
    refine (zLet_eq c7.symm).trans ?_
    refine (zLet_eq (show fn46 [ρ 8, ρ 7 + ρ 6] (γ 7) = (0, (-1), γ 8) from l5.symm)).trans ?_
    refine (zLet_eq (show _ = γ 8 from rfl)).trans ?_
    refine (if_pos w_5).trans ?_
    refine (zLet_eq c9.symm).trans ?_
    refine (if_pos w_6).trans ?_
    refine (zLet_eq c10.symm).trans ?_
    refine (zLet_eq c11.symm).trans ?_
    refine (zLet_eq c12.symm).trans ?_
    refine (zLet_eq c13.symm).trans ?_
    refine (zLet_eq c14.symm).trans ?_
    rfl
  exact zGoo_aend hJ hD
theorem vn49a0_21 {S : Nat → zSpc} (hS6 : ∀ x g o v gz, S 6 x g o v gz → sn6 x g o v gz) (hS7 : ∀ x g o v gz, S 7 x g o v gz → sn7 x g o v gz) (hS8 : ∀ x g o v gz, S 8 x g o v gz → sn8 x g o v gz) (hS21 : ∀ x g o v gz, S 21 x g o v gz → sn21 x g o v gz) (hS25 : ∀ x g o v gz, S 25 x g o v gz → sn25 x g o v gz) (hS27 : ∀ x g o v gz, S 27 x g o v gz → sn27 x g o v gz) (hS28 : ∀ x g o v gz, S 28 x g o v gz → sn28 x g o v gz) (hS30 : ∀ x g o v gz, S 30 x g o v gz → sn30 x g o v gz) (hS31 : ∀ x g o v gz, S 31 x g o v gz → sn31 x g o v gz) (hS39 : ∀ x g o v gz, S 39 x g o v gz → sn39 x g o v gz) (hS43 : ∀ x g o v gz, S 43 x g o v gz → sn43 x g o v gz) (hS44 : ∀ x g o v gz, S 44 x g o v gz → sn44 x g o v gz) (hS45 : ∀ x g o v gz, S 45 x g o v gz → sn45 x g o v gz) (hS46 : ∀ x g o v gz, S 46 x g o v gz → sn46 x g o v gz) (hS47 : ∀ x g o v gz, S 47 x g o v gz → sn47 x g o v gz) {a : List Int} {g : rHp} : ∀ (ρ : Nat → Int) (γ : Nat → rHp), jn49 a g 0 (zAg (zNA a49_ 0) ρ) (γ 1) → zO 23 S a g q49a0_21 ρ γ → zGl (fun i vs g1 => jn49 a g i vs g1) (sn49 a g) q49a0_21 ρ γ := by
  intro ρ γ hJ h
  obtain ⟨ha, hg, hr, hf, hm, hc, hl⟩ := h
  have ha : a = [ρ 0, ρ 1, ρ 2, ρ 3, ρ 4, ρ 5, ρ 6, ρ 7, ρ 8, ρ 9, ρ 10, ρ 11, ρ 12, ρ 13, ρ 14, ρ 15, ρ 16, ρ 17, ρ 18, ρ 19, ρ 20, ρ 21, ρ 22] := ha
  subst ha
  subst hg
  have hJ : jn49 [ρ 0, ρ 1, ρ 2, ρ 3, ρ 4, ρ 5, ρ 6, ρ 7, ρ 8, ρ 9, ρ 10, ρ 11, ρ 12, ρ 13, ρ 14, ρ 15, ρ 16, ρ 17, ρ 18, ρ 19, ρ 20, ρ 21, ρ 22] (γ 0) 0 [ρ 0, ρ 1, ρ 2, ρ 3, ρ 4, ρ 5, ρ 6, ρ 7, ρ 8, ρ 9, ρ 10, ρ 11, ρ 12, ρ 13, ρ 14, ρ 15, ρ 16, ρ 17, ρ 18, ρ 19, ρ 20, ρ 21, ρ 22, ρ 23, ρ 24, ρ 25, ρ 26, ρ 27, ρ 28, ρ 29, ρ 30, ρ 31, ρ 32, ρ 33, ρ 34, ρ 35, ρ 36, ρ 37, ρ 38] (γ 1) := hJ
  obtain ⟨-, -, -, -, -, -, -, -, r8, -, -, -, -, -, -, -, -, -, -, -, -, -, -, -, -, -, -, -, -, -, -, -, -, -, -, -, -, r37, -, r39, -, r41, -⟩ := hr
  have r8 : (0 : Int) ≤ ρ 8 ∧ ρ 8 ≤ 19 := r8
  have r37 : (1 : Int) ≤ ρ 37 ∧ ρ 37 ≤ 1 := r37
  have r39 : ((-1) : Int) ≤ ρ 39 ∧ ρ 39 ≤ (-1) := r39
  have r41 : (46 : Int) ≤ ρ 41 ∧ ρ 41 ≤ 46 := r41
  obtain ⟨f0, f1, -, -, -, -, -, f7, -⟩ := hf
  have f0 : (0 : Int) ≤ -ρ 7 + -ρ 6 + 399 := f0
  have f1 : (0 : Int) ≤ -ρ 40 + ρ 1 + (-1) := f1
  have f7 : (0 : Int) ≤ -ρ 37 + ρ 23 := f7
  obtain ⟨w_0, w_1, w_2, w_3, w_4, w_5, w_6, w_7⟩ : (ρ 23 ≥ ρ 37) ∧ (¬ (ρ 39 ≥ 0)) ∧ (ρ 8 ≠ 20) ∧ (0 ≤ -ρ 40 + ρ 1 + (-1)) ∧ (¬ (ρ 41 ≠ 46)) ∧ (ρ 7 + ρ 6 ≠ 400) ∧ (¬ (0 ≥ ρ 37)) ∧ (1 ≥ ρ 37) := ⟨by omega, by omega, by omega, by omega, by omega, by omega, by omega, by omega⟩
  obtain ⟨-, m1, -, -, m4, m5, m6, m7, m8, -, -, -, -, -, -, -, -, -, -, -, -, -, -, -, -, -, -, m27, m28, m29, -, -, -, -, -, m35, m36, m37, -, -, m40, -, m42, -⟩ := hm
  have m1 : γ 0 15 0 34 = ρ 1 := m1
  have m4 : γ 0 15 0 32 = ρ 4 := m4
  have m5 : γ 0 15 0 33 = ρ 5 := m5
  have m6 : γ 0 15 0 17 = ρ 6 := m6
  have m7 : γ 0 15 0 18 = ρ 7 := m7
  have m8 : γ 0 15 0 14 = ρ 8 := m8
  have m27 : γ 1 15 0 44 = ρ 28 := m27
  have m28 : γ 1 15 0 49 = ρ 29 := m28
  have m29 : γ 1 15 0 50 = ρ 30 := m29
  have m35 : γ 1 15 0 46 = ρ 35 := m35
  have m36 : γ 1 15 0 47 = ρ 36 := m36
  have m37 : γ 1 15 0 48 = ρ 37 := m37
  have m40 : γ 4 15 0 35 = ρ 40 := m40
  have m42 : γ 1 87 0 0 = ρ 42 := m42
  obtain ⟨⟨⟨⟨⟨⟨⟨⟨-, c7⟩, -⟩, c9⟩, c10⟩, c11⟩, c12⟩, c13⟩, c14⟩ := hc
  have c7 : γ 7 = rUp (γ 6) 15 0 35 (ρ 40 + 1) := c7
  have c9 : γ 9 = rUp (γ 8) 67 0 (ρ 7 + ρ 6) (ρ 8) := c9
  have c10 : γ 10 = rUp (γ 9) 68 0 (4 * ρ 7 + 4 * ρ 6) (ρ 42) := c10
  have c11 : γ 11 = rUp (γ 10) 68 0 (4 * ρ 7 + 4 * ρ 6 + 1) 0 := c11
  have c12 : γ 12 = rUp (γ 11) 68 0 (4 * ρ 7 + 4 * ρ 6 + 2) 0 := c12
  have c13 : γ 13 = rUp (γ 12) 68 0 (4 * ρ 7 + 4 * ρ 6 + 3) 0 := c13
  have c14 : γ 14 = rUp (γ 13) 15 0 18 (ρ 7 + 1) := c14
  obtain ⟨l0, l1, l2, l3, l4, l5, -⟩ := hl
  have l0 : sn21 [ρ 35, ρ 36, ρ 37, ρ 8] (γ 1) 0 (ρ 39) (γ 2) := hS21 _ _ _ _ _ l0
  have l1 : sn39 [ρ 35, ρ 36, ρ 37, ρ 8] (γ 2) 0 (ρ 8) (γ 3) := hS39 _ _ _ _ _ l1
  have l2 : sn7 [ρ 24, ρ 1] (γ 3) 0 0 (γ 4) := hS7 _ _ _ _ _ l2
  have l3 : sn6 [ρ 40, ρ 1] (γ 4) 0 (ρ 41) (γ 5) := hS6 _ _ _ _ _ l3
  have l4 : sn31 [ρ 1, ρ 15, ρ 37] (γ 5) 0 1 (γ 6) := hS31 _ _ _ _ _ l4
  have l5 : sn46 [ρ 8, ρ 7 + ρ 6, ρ 8 + 1, ρ 6, ρ 7, ρ 37] (γ 7) 0 (-1) (γ 8) := hS46 _ _ _ _ _ l5
  show sn49 [ρ 0, ρ 1, ρ 2, ρ 3, ρ 4, ρ 5, ρ 6, ρ 7, ρ 8, ρ 9, ρ 10, ρ 11, ρ 12, ρ 13, ρ 14, ρ 15, ρ 16, ρ 17, ρ 18, ρ 19, ρ 20, ρ 21, ρ 22] (γ 0) 0 1 (γ 14)
  have hD : en49 (γ 0) (0, [ρ 23], γ 1) = .inr (0, 1, γ 14) := by
    unfold en49
    refine (if_pos (show (0 : Nat) = 0 by decide)).trans ?_
    refine (zLet_eq (show _ = γ 1 from rfl)).trans ?_
    refine (zLet_eq (show _ = ρ 23 from rfl)).trans ?_
    refine (zLet_eq m1).trans ?_
    refine (zLet_eq m4).trans ?_
    refine (zLet_eq m5).trans ?_
    refine (zLet_eq m6).trans ?_
    refine (zLet_eq m7).trans ?_
    refine (zLet_eq m8).trans ?_
    refine (zLet_eq m27).trans ?_
    refine (zLet_eq m28).trans ?_
    refine (zLet_eq m29).trans ?_
    refine (zLet_eq m35).trans ?_
    refine (zLet_eq m36).trans ?_
    refine (zLet_eq m37).trans ?_
    refine (if_pos w_0).trans ?_
    refine (zLet_eq (show fn21 [ρ 35, ρ 36, ρ 37] (γ 1) = (0, ρ 39, γ 2) from l0.symm)).trans ?_
    refine (zLet_eq (show _ = γ 2 from rfl)).trans ?_
    refine (zLet_eq (show _ = ρ 39 from rfl)).trans ?_
    refine (if_neg w_1).trans ?_
    refine (if_pos w_2).trans ?_
    refine (zLet_eq (show fn39 [ρ 35, ρ 36, ρ 37] (γ 2) = (0, ρ 8, γ 3) from l1.symm)).trans ?_
    refine (zLet_eq (show _ = γ 3 from rfl)).trans ?_
    refine (zLet_eq (show fn7 [] (γ 3) = (0, 0, γ 4) from l2.symm)).trans ?_
    refine (zLet_eq (show _ = γ 4 from rfl)).trans ?_
    refine (zLet_eq m40).trans ?_
    refine (zLet_eq (show fn6 [ρ 40] (γ 4) = (0, ρ 41, γ 5) from l3.symm)).trans ?_
    refine (zLet_eq (show _ = γ 5 from rfl)).trans ?_
    refine (if_pos w_3).trans ?_
    refine (zLet_eq (show _ = ρ 41 from rfl)).trans ?_
    refine (if_neg w_4).trans ?_
    refine (zLet_eq (show fn31 [] (γ 5) = (0, 1, γ 6) from l4.symm)).trans ?_
    refine (zLet_eq (show _ = γ 6 from rfl)).trans ?_
    refine (if_pos zQ1_).trans ?_
    refine (zLet_eq c7.symm).trans ?_
    refine (zLet_eq (show fn46 [ρ 8, ρ 7 + ρ 6] (γ 7) = (0, (-1), γ 8) from l5.symm)).trans ?_
    refine (zLet_eq (show _ = γ 8 from rfl)).trans ?_
    refine (if_pos w_5).trans ?_
    refine (zLet_eq c9.symm).trans ?_
    refine (if_neg w_6).trans ?_
    refine (zLet_eq m42).trans ?_
    refine (zLet_eq c10.symm).trans ?_
    refine (if_pos w_7).trans ?_
    refine (zLet_eq c11.symm).trans ?_
    refine (zLet_eq c12.symm).trans ?_
    refine (zLet_eq c13.symm).trans ?_
    refine (zLet_eq c14.symm).trans ?_
    rfl
  exact zGoo_aend hJ hD
theorem vn49a0_22 {S : Nat → zSpc} (hS6 : ∀ x g o v gz, S 6 x g o v gz → sn6 x g o v gz) (hS7 : ∀ x g o v gz, S 7 x g o v gz → sn7 x g o v gz) (hS8 : ∀ x g o v gz, S 8 x g o v gz → sn8 x g o v gz) (hS21 : ∀ x g o v gz, S 21 x g o v gz → sn21 x g o v gz) (hS25 : ∀ x g o v gz, S 25 x g o v gz → sn25 x g o v gz) (hS27 : ∀ x g o v gz, S 27 x g o v gz → sn27 x g o v gz) (hS28 : ∀ x g o v gz, S 28 x g o v gz → sn28 x g o v gz) (hS30 : ∀ x g o v gz, S 30 x g o v gz → sn30 x g o v gz) (hS31 : ∀ x g o v gz, S 31 x g o v gz → sn31 x g o v gz) (hS39 : ∀ x g o v gz, S 39 x g o v gz → sn39 x g o v gz) (hS43 : ∀ x g o v gz, S 43 x g o v gz → sn43 x g o v gz) (hS44 : ∀ x g o v gz, S 44 x g o v gz → sn44 x g o v gz) (hS45 : ∀ x g o v gz, S 45 x g o v gz → sn45 x g o v gz) (hS46 : ∀ x g o v gz, S 46 x g o v gz → sn46 x g o v gz) (hS47 : ∀ x g o v gz, S 47 x g o v gz → sn47 x g o v gz) {a : List Int} {g : rHp} : ∀ (ρ : Nat → Int) (γ : Nat → rHp), jn49 a g 0 (zAg (zNA a49_ 0) ρ) (γ 1) → zO 23 S a g q49a0_22 ρ γ → zGl (fun i vs g1 => jn49 a g i vs g1) (sn49 a g) q49a0_22 ρ γ := by
  intro ρ γ hJ h
  obtain ⟨ha, hg, hr, hf, hm, hc, hl⟩ := h
  have ha : a = [ρ 0, ρ 1, ρ 2, ρ 3, ρ 4, ρ 5, ρ 6, ρ 7, ρ 8, ρ 9, ρ 10, ρ 11, ρ 12, ρ 13, ρ 14, ρ 15, ρ 16, ρ 17, ρ 18, ρ 19, ρ 20, ρ 21, ρ 22] := ha
  subst ha
  subst hg
  have hJ : jn49 [ρ 0, ρ 1, ρ 2, ρ 3, ρ 4, ρ 5, ρ 6, ρ 7, ρ 8, ρ 9, ρ 10, ρ 11, ρ 12, ρ 13, ρ 14, ρ 15, ρ 16, ρ 17, ρ 18, ρ 19, ρ 20, ρ 21, ρ 22] (γ 0) 0 [ρ 0, ρ 1, ρ 2, ρ 3, ρ 4, ρ 5, ρ 6, ρ 7, ρ 8, ρ 9, ρ 10, ρ 11, ρ 12, ρ 13, ρ 14, ρ 15, ρ 16, ρ 17, ρ 18, ρ 19, ρ 20, ρ 21, ρ 22, ρ 23, ρ 24, ρ 25, ρ 26, ρ 27, ρ 28, ρ 29, ρ 30, ρ 31, ρ 32, ρ 33, ρ 34, ρ 35, ρ 36, ρ 37, ρ 38] (γ 1) := hJ
  obtain ⟨-, -, -, -, -, -, -, -, r8, -, -, -, -, -, -, -, -, -, -, -, -, -, -, -, -, -, -, -, -, -, -, -, -, -, -, -, -, r37, -, r39, -, r41, -⟩ := hr
  have r8 : (0 : Int) ≤ ρ 8 ∧ ρ 8 ≤ 19 := r8
  have r37 : (2 : Int) ≤ ρ 37 ∧ ρ 37 ≤ 2 := r37
  have r39 : ((-1) : Int) ≤ ρ 39 ∧ ρ 39 ≤ (-1) := r39
  have r41 : (46 : Int) ≤ ρ 41 ∧ ρ 41 ≤ 46 := r41
  obtain ⟨f0, f1, -, -, -, -, -, f7, -⟩ := hf
  have f0 : (0 : Int) ≤ -ρ 7 + -ρ 6 + 399 := f0
  have f1 : (0 : Int) ≤ -ρ 40 + ρ 1 + (-1) := f1
  have f7 : (0 : Int) ≤ -ρ 37 + ρ 23 := f7
  obtain ⟨w_0, w_1, w_2, w_3, w_4, w_5, w_6, w_7, w_8⟩ : (ρ 23 ≥ ρ 37) ∧ (¬ (ρ 39 ≥ 0)) ∧ (ρ 8 ≠ 20) ∧ (0 ≤ -ρ 40 + ρ 1 + (-1)) ∧ (¬ (ρ 41 ≠ 46)) ∧ (ρ 7 + ρ 6 ≠ 400) ∧ (¬ (0 ≥ ρ 37)) ∧ (¬ (1 ≥ ρ 37)) ∧ (2 ≥ ρ 37) := ⟨by omega, by omega, by omega, by omega, by omega, by omega, by omega, by omega, by omega⟩
  obtain ⟨-, m1, -, -, m4, m5, m6, m7, m8, -, -, -, -, -, -, -, -, -, -, -, -, -, -, -, -, -, -, m27, m28, m29, -, -, -, -, -, m35, m36, m37, -, -, m40, -, m42, m43, -⟩ := hm
  have m1 : γ 0 15 0 34 = ρ 1 := m1
  have m4 : γ 0 15 0 32 = ρ 4 := m4
  have m5 : γ 0 15 0 33 = ρ 5 := m5
  have m6 : γ 0 15 0 17 = ρ 6 := m6
  have m7 : γ 0 15 0 18 = ρ 7 := m7
  have m8 : γ 0 15 0 14 = ρ 8 := m8
  have m27 : γ 1 15 0 44 = ρ 28 := m27
  have m28 : γ 1 15 0 49 = ρ 29 := m28
  have m29 : γ 1 15 0 50 = ρ 30 := m29
  have m35 : γ 1 15 0 46 = ρ 35 := m35
  have m36 : γ 1 15 0 47 = ρ 36 := m36
  have m37 : γ 1 15 0 48 = ρ 37 := m37
  have m40 : γ 4 15 0 35 = ρ 40 := m40
  have m42 : γ 1 87 0 0 = ρ 42 := m42
  have m43 : γ 1 87 0 1 = ρ 43 := m43
  obtain ⟨⟨⟨⟨⟨⟨⟨⟨-, c7⟩, -⟩, c9⟩, c10⟩, c11⟩, c12⟩, c13⟩, c14⟩ := hc
  have c7 : γ 7 = rUp (γ 6) 15 0 35 (ρ 40 + 1) := c7
  have c9 : γ 9 = rUp (γ 8) 67 0 (ρ 7 + ρ 6) (ρ 8) := c9
  have c10 : γ 10 = rUp (γ 9) 68 0 (4 * ρ 7 + 4 * ρ 6) (ρ 42) := c10
  have c11 : γ 11 = rUp (γ 10) 68 0 (4 * ρ 7 + 4 * ρ 6 + 1) (ρ 43) := c11
  have c12 : γ 12 = rUp (γ 11) 68 0 (4 * ρ 7 + 4 * ρ 6 + 2) 0 := c12
  have c13 : γ 13 = rUp (γ 12) 68 0 (4 * ρ 7 + 4 * ρ 6 + 3) 0 := c13
  have c14 : γ 14 = rUp (γ 13) 15 0 18 (ρ 7 + 1) := c14
  obtain ⟨l0, l1, l2, l3, l4, l5, -⟩ := hl
  have l0 : sn21 [ρ 35, ρ 36, ρ 37, ρ 8] (γ 1) 0 (ρ 39) (γ 2) := hS21 _ _ _ _ _ l0
  have l1 : sn39 [ρ 35, ρ 36, ρ 37, ρ 8] (γ 2) 0 (ρ 8) (γ 3) := hS39 _ _ _ _ _ l1
  have l2 : sn7 [ρ 24, ρ 1] (γ 3) 0 0 (γ 4) := hS7 _ _ _ _ _ l2
  have l3 : sn6 [ρ 40, ρ 1] (γ 4) 0 (ρ 41) (γ 5) := hS6 _ _ _ _ _ l3
  have l4 : sn31 [ρ 1, ρ 15, ρ 37] (γ 5) 0 1 (γ 6) := hS31 _ _ _ _ _ l4
  have l5 : sn46 [ρ 8, ρ 7 + ρ 6, ρ 8 + 1, ρ 6, ρ 7, ρ 37] (γ 7) 0 (-1) (γ 8) := hS46 _ _ _ _ _ l5
  show sn49 [ρ 0, ρ 1, ρ 2, ρ 3, ρ 4, ρ 5, ρ 6, ρ 7, ρ 8, ρ 9, ρ 10, ρ 11, ρ 12, ρ 13, ρ 14, ρ 15, ρ 16, ρ 17, ρ 18, ρ 19, ρ 20, ρ 21, ρ 22] (γ 0) 0 1 (γ 14)
  have hD : en49 (γ 0) (0, [ρ 23], γ 1) = .inr (0, 1, γ 14) := by
    unfold en49
    refine (if_pos (show (0 : Nat) = 0 by decide)).trans ?_
    refine (zLet_eq (show _ = γ 1 from rfl)).trans ?_
    refine (zLet_eq (show _ = ρ 23 from rfl)).trans ?_
    refine (zLet_eq m1).trans ?_
    refine (zLet_eq m4).trans ?_
    refine (zLet_eq m5).trans ?_
    refine (zLet_eq m6).trans ?_
    refine (zLet_eq m7).trans ?_
    refine (zLet_eq m8).trans ?_
    refine (zLet_eq m27).trans ?_
    refine (zLet_eq m28).trans ?_
    refine (zLet_eq m29).trans ?_
    refine (zLet_eq m35).trans ?_
    refine (zLet_eq m36).trans ?_
    refine (zLet_eq m37).trans ?_
    refine (if_pos w_0).trans ?_
    refine (zLet_eq (show fn21 [ρ 35, ρ 36, ρ 37] (γ 1) = (0, ρ 39, γ 2) from l0.symm)).trans ?_
    refine (zLet_eq (show _ = γ 2 from rfl)).trans ?_
    refine (zLet_eq (show _ = ρ 39 from rfl)).trans ?_
    refine (if_neg w_1).trans ?_
    refine (if_pos w_2).trans ?_
    refine (zLet_eq (show fn39 [ρ 35, ρ 36, ρ 37] (γ 2) = (0, ρ 8, γ 3) from l1.symm)).trans ?_
    refine (zLet_eq (show _ = γ 3 from rfl)).trans ?_
    refine (zLet_eq (show fn7 [] (γ 3) = (0, 0, γ 4) from l2.symm)).trans ?_
    refine (zLet_eq (show _ = γ 4 from rfl)).trans ?_
    refine (zLet_eq m40).trans ?_
    refine (zLet_eq (show fn6 [ρ 40] (γ 4) = (0, ρ 41, γ 5) from l3.symm)).trans ?_
    refine (zLet_eq (show _ = γ 5 from rfl)).trans ?_
    refine (if_pos w_3).trans ?_
    refine (zLet_eq (show _ = ρ 41 from rfl)).trans ?_
    refine (if_neg w_4).trans ?_
    refine (zLet_eq (show fn31 [] (γ 5) = (0, 1, γ 6) from l4.symm)).trans ?_
    refine (zLet_eq (show _ = γ 6 from rfl)).trans ?_
    refine (if_pos zQ1_).trans ?_
    refine (zLet_eq c7.symm).trans ?_
    refine (zLet_eq (show fn46 [ρ 8, ρ 7 + ρ 6] (γ 7) = (0, (-1), γ 8) from l5.symm)).trans ?_
    refine (zLet_eq (show _ = γ 8 from rfl)).trans ?_
    refine (if_pos w_5).trans ?_
    refine (zLet_eq c9.symm).trans ?_
    refine (if_neg w_6).trans ?_
    refine (zLet_eq m42).trans ?_
    refine (zLet_eq c10.symm).trans ?_
    refine (if_neg w_7).trans ?_
    refine (zLet_eq m43).trans ?_
    refine (zLet_eq c11.symm).trans ?_
    refine (if_pos w_8).trans ?_
    refine (zLet_eq c12.symm).trans ?_
    refine (zLet_eq c13.symm).trans ?_
    refine (zLet_eq c14.symm).trans ?_
    rfl
  exact zGoo_aend hJ hD
theorem vn49a0_23 {S : Nat → zSpc} (hS6 : ∀ x g o v gz, S 6 x g o v gz → sn6 x g o v gz) (hS7 : ∀ x g o v gz, S 7 x g o v gz → sn7 x g o v gz) (hS8 : ∀ x g o v gz, S 8 x g o v gz → sn8 x g o v gz) (hS21 : ∀ x g o v gz, S 21 x g o v gz → sn21 x g o v gz) (hS25 : ∀ x g o v gz, S 25 x g o v gz → sn25 x g o v gz) (hS27 : ∀ x g o v gz, S 27 x g o v gz → sn27 x g o v gz) (hS28 : ∀ x g o v gz, S 28 x g o v gz → sn28 x g o v gz) (hS30 : ∀ x g o v gz, S 30 x g o v gz → sn30 x g o v gz) (hS31 : ∀ x g o v gz, S 31 x g o v gz → sn31 x g o v gz) (hS39 : ∀ x g o v gz, S 39 x g o v gz → sn39 x g o v gz) (hS43 : ∀ x g o v gz, S 43 x g o v gz → sn43 x g o v gz) (hS44 : ∀ x g o v gz, S 44 x g o v gz → sn44 x g o v gz) (hS45 : ∀ x g o v gz, S 45 x g o v gz → sn45 x g o v gz) (hS46 : ∀ x g o v gz, S 46 x g o v gz → sn46 x g o v gz) (hS47 : ∀ x g o v gz, S 47 x g o v gz → sn47 x g o v gz) {a : List Int} {g : rHp} : ∀ (ρ : Nat → Int) (γ : Nat → rHp), jn49 a g 0 (zAg (zNA a49_ 0) ρ) (γ 1) → zO 23 S a g q49a0_23 ρ γ → zGl (fun i vs g1 => jn49 a g i vs g1) (sn49 a g) q49a0_23 ρ γ := by
  intro ρ γ hJ h
  obtain ⟨ha, hg, hr, hf, hm, hc, hl⟩ := h
  have ha : a = [ρ 0, ρ 1, ρ 2, ρ 3, ρ 4, ρ 5, ρ 6, ρ 7, ρ 8, ρ 9, ρ 10, ρ 11, ρ 12, ρ 13, ρ 14, ρ 15, ρ 16, ρ 17, ρ 18, ρ 19, ρ 20, ρ 21, ρ 22] := ha
  subst ha
  subst hg
  have hJ : jn49 [ρ 0, ρ 1, ρ 2, ρ 3, ρ 4, ρ 5, ρ 6, ρ 7, ρ 8, ρ 9, ρ 10, ρ 11, ρ 12, ρ 13, ρ 14, ρ 15, ρ 16, ρ 17, ρ 18, ρ 19, ρ 20, ρ 21, ρ 22] (γ 0) 0 [ρ 0, ρ 1, ρ 2, ρ 3, ρ 4, ρ 5, ρ 6, ρ 7, ρ 8, ρ 9, ρ 10, ρ 11, ρ 12, ρ 13, ρ 14, ρ 15, ρ 16, ρ 17, ρ 18, ρ 19, ρ 20, ρ 21, ρ 22, ρ 23, ρ 24, ρ 25, ρ 26, ρ 27, ρ 28, ρ 29, ρ 30, ρ 31, ρ 32, ρ 33, ρ 34, ρ 35, ρ 36, ρ 37, ρ 38] (γ 1) := hJ
  obtain ⟨-, -, -, -, -, -, -, -, r8, -, -, -, -, -, -, -, -, -, -, -, -, -, -, -, -, -, -, -, -, -, -, -, -, -, -, -, -, r37, -, r39, -, r41, -⟩ := hr
  have r8 : (0 : Int) ≤ ρ 8 ∧ ρ 8 ≤ 19 := r8
  have r37 : (3 : Int) ≤ ρ 37 ∧ ρ 37 ≤ 3 := r37
  have r39 : ((-1) : Int) ≤ ρ 39 ∧ ρ 39 ≤ (-1) := r39
  have r41 : (46 : Int) ≤ ρ 41 ∧ ρ 41 ≤ 46 := r41
  obtain ⟨f0, f1, -, -, -, -, -, f7, -⟩ := hf
  have f0 : (0 : Int) ≤ -ρ 7 + -ρ 6 + 399 := f0
  have f1 : (0 : Int) ≤ -ρ 40 + ρ 1 + (-1) := f1
  have f7 : (0 : Int) ≤ -ρ 37 + ρ 23 := f7
  obtain ⟨w_0, w_1, w_2, w_3, w_4, w_5, w_6, w_7, w_8, w_9⟩ : (ρ 23 ≥ ρ 37) ∧ (¬ (ρ 39 ≥ 0)) ∧ (ρ 8 ≠ 20) ∧ (0 ≤ -ρ 40 + ρ 1 + (-1)) ∧ (¬ (ρ 41 ≠ 46)) ∧ (ρ 7 + ρ 6 ≠ 400) ∧ (¬ (0 ≥ ρ 37)) ∧ (¬ (1 ≥ ρ 37)) ∧ (¬ (2 ≥ ρ 37)) ∧ (3 ≥ ρ 37) := ⟨by omega, by omega, by omega, by omega, by omega, by omega, by omega, by omega, by omega, by omega⟩
  obtain ⟨-, m1, -, -, m4, m5, m6, m7, m8, -, -, -, -, -, -, -, -, -, -, -, -, -, -, -, -, -, -, m27, m28, m29, -, -, -, -, -, m35, m36, m37, -, -, m40, -, m42, m43, m44, -⟩ := hm
  have m1 : γ 0 15 0 34 = ρ 1 := m1
  have m4 : γ 0 15 0 32 = ρ 4 := m4
  have m5 : γ 0 15 0 33 = ρ 5 := m5
  have m6 : γ 0 15 0 17 = ρ 6 := m6
  have m7 : γ 0 15 0 18 = ρ 7 := m7
  have m8 : γ 0 15 0 14 = ρ 8 := m8
  have m27 : γ 1 15 0 44 = ρ 28 := m27
  have m28 : γ 1 15 0 49 = ρ 29 := m28
  have m29 : γ 1 15 0 50 = ρ 30 := m29
  have m35 : γ 1 15 0 46 = ρ 35 := m35
  have m36 : γ 1 15 0 47 = ρ 36 := m36
  have m37 : γ 1 15 0 48 = ρ 37 := m37
  have m40 : γ 4 15 0 35 = ρ 40 := m40
  have m42 : γ 1 87 0 0 = ρ 42 := m42
  have m43 : γ 1 87 0 1 = ρ 43 := m43
  have m44 : γ 1 87 0 2 = ρ 44 := m44
  obtain ⟨⟨⟨⟨⟨⟨⟨⟨-, c7⟩, -⟩, c9⟩, c10⟩, c11⟩, c12⟩, c13⟩, c14⟩ := hc
  have c7 : γ 7 = rUp (γ 6) 15 0 35 (ρ 40 + 1) := c7
  have c9 : γ 9 = rUp (γ 8) 67 0 (ρ 7 + ρ 6) (ρ 8) := c9
  have c10 : γ 10 = rUp (γ 9) 68 0 (4 * ρ 7 + 4 * ρ 6) (ρ 42) := c10
  have c11 : γ 11 = rUp (γ 10) 68 0 (4 * ρ 7 + 4 * ρ 6 + 1) (ρ 43) := c11
  have c12 : γ 12 = rUp (γ 11) 68 0 (4 * ρ 7 + 4 * ρ 6 + 2) (ρ 44) := c12
  have c13 : γ 13 = rUp (γ 12) 68 0 (4 * ρ 7 + 4 * ρ 6 + 3) 0 := c13
  have c14 : γ 14 = rUp (γ 13) 15 0 18 (ρ 7 + 1) := c14
  obtain ⟨l0, l1, l2, l3, l4, l5, -⟩ := hl
  have l0 : sn21 [ρ 35, ρ 36, ρ 37, ρ 8] (γ 1) 0 (ρ 39) (γ 2) := hS21 _ _ _ _ _ l0
  have l1 : sn39 [ρ 35, ρ 36, ρ 37, ρ 8] (γ 2) 0 (ρ 8) (γ 3) := hS39 _ _ _ _ _ l1
  have l2 : sn7 [ρ 24, ρ 1] (γ 3) 0 0 (γ 4) := hS7 _ _ _ _ _ l2
  have l3 : sn6 [ρ 40, ρ 1] (γ 4) 0 (ρ 41) (γ 5) := hS6 _ _ _ _ _ l3
  have l4 : sn31 [ρ 1, ρ 15, ρ 37] (γ 5) 0 1 (γ 6) := hS31 _ _ _ _ _ l4
  have l5 : sn46 [ρ 8, ρ 7 + ρ 6, ρ 8 + 1, ρ 6, ρ 7, ρ 37] (γ 7) 0 (-1) (γ 8) := hS46 _ _ _ _ _ l5
  show sn49 [ρ 0, ρ 1, ρ 2, ρ 3, ρ 4, ρ 5, ρ 6, ρ 7, ρ 8, ρ 9, ρ 10, ρ 11, ρ 12, ρ 13, ρ 14, ρ 15, ρ 16, ρ 17, ρ 18, ρ 19, ρ 20, ρ 21, ρ 22] (γ 0) 0 1 (γ 14)
  have hD : en49 (γ 0) (0, [ρ 23], γ 1) = .inr (0, 1, γ 14) := by
    unfold en49
    refine (if_pos (show (0 : Nat) = 0 by decide)).trans ?_
    refine (zLet_eq (show _ = γ 1 from rfl)).trans ?_
    refine (zLet_eq (show _ = ρ 23 from rfl)).trans ?_
    refine (zLet_eq m1).trans ?_
    refine (zLet_eq m4).trans ?_
    refine (zLet_eq m5).trans ?_
    refine (zLet_eq m6).trans ?_
    refine (zLet_eq m7).trans ?_
    refine (zLet_eq m8).trans ?_
    refine (zLet_eq m27).trans ?_
    refine (zLet_eq m28).trans ?_
    refine (zLet_eq m29).trans ?_
    refine (zLet_eq m35).trans ?_
    refine (zLet_eq m36).trans ?_
    refine (zLet_eq m37).trans ?_
    refine (if_pos w_0).trans ?_
    refine (zLet_eq (show fn21 [ρ 35, ρ 36, ρ 37] (γ 1) = (0, ρ 39, γ 2) from l0.symm)).trans ?_
    refine (zLet_eq (show _ = γ 2 from rfl)).trans ?_
    refine (zLet_eq (show _ = ρ 39 from rfl)).trans ?_
    refine (if_neg w_1).trans ?_
    refine (if_pos w_2).trans ?_
    refine (zLet_eq (show fn39 [ρ 35, ρ 36, ρ 37] (γ 2) = (0, ρ 8, γ 3) from l1.symm)).trans ?_
    refine (zLet_eq (show _ = γ 3 from rfl)).trans ?_
    refine (zLet_eq (show fn7 [] (γ 3) = (0, 0, γ 4) from l2.symm)).trans ?_
    refine (zLet_eq (show _ = γ 4 from rfl)).trans ?_
    refine (zLet_eq m40).trans ?_
    refine (zLet_eq (show fn6 [ρ 40] (γ 4) = (0, ρ 41, γ 5) from l3.symm)).trans ?_
    refine (zLet_eq (show _ = γ 5 from rfl)).trans ?_
    refine (if_pos w_3).trans ?_
    refine (zLet_eq (show _ = ρ 41 from rfl)).trans ?_
    refine (if_neg w_4).trans ?_
    refine (zLet_eq (show fn31 [] (γ 5) = (0, 1, γ 6) from l4.symm)).trans ?_
    refine (zLet_eq (show _ = γ 6 from rfl)).trans ?_
    refine (if_pos zQ1_).trans ?_
    refine (zLet_eq c7.symm).trans ?_
    refine (zLet_eq (show fn46 [ρ 8, ρ 7 + ρ 6] (γ 7) = (0, (-1), γ 8) from l5.symm)).trans ?_
    refine (zLet_eq (show _ = γ 8 from rfl)).trans ?_
    refine (if_pos w_5).trans ?_
    refine (zLet_eq c9.symm).trans ?_
    refine (if_neg w_6).trans ?_
    refine (zLet_eq m42).trans ?_
    refine (zLet_eq c10.symm).trans ?_
    refine (if_neg w_7).trans ?_
    refine (zLet_eq m43).trans ?_
    refine (zLet_eq c11.symm).trans ?_
    refine (if_neg w_8).trans ?_
    refine (zLet_eq m44).trans ?_
    refine (zLet_eq c12.symm).trans ?_
    refine (if_pos w_9).trans ?_
    refine (zLet_eq c13.symm).trans ?_
    refine (zLet_eq c14.symm).trans ?_
    rfl
  exact zGoo_aend hJ hD
theorem vn49a0_24 {S : Nat → zSpc} (hS6 : ∀ x g o v gz, S 6 x g o v gz → sn6 x g o v gz) (hS7 : ∀ x g o v gz, S 7 x g o v gz → sn7 x g o v gz) (hS8 : ∀ x g o v gz, S 8 x g o v gz → sn8 x g o v gz) (hS21 : ∀ x g o v gz, S 21 x g o v gz → sn21 x g o v gz) (hS25 : ∀ x g o v gz, S 25 x g o v gz → sn25 x g o v gz) (hS27 : ∀ x g o v gz, S 27 x g o v gz → sn27 x g o v gz) (hS28 : ∀ x g o v gz, S 28 x g o v gz → sn28 x g o v gz) (hS30 : ∀ x g o v gz, S 30 x g o v gz → sn30 x g o v gz) (hS31 : ∀ x g o v gz, S 31 x g o v gz → sn31 x g o v gz) (hS39 : ∀ x g o v gz, S 39 x g o v gz → sn39 x g o v gz) (hS43 : ∀ x g o v gz, S 43 x g o v gz → sn43 x g o v gz) (hS44 : ∀ x g o v gz, S 44 x g o v gz → sn44 x g o v gz) (hS45 : ∀ x g o v gz, S 45 x g o v gz → sn45 x g o v gz) (hS46 : ∀ x g o v gz, S 46 x g o v gz → sn46 x g o v gz) (hS47 : ∀ x g o v gz, S 47 x g o v gz → sn47 x g o v gz) {a : List Int} {g : rHp} : ∀ (ρ : Nat → Int) (γ : Nat → rHp), jn49 a g 0 (zAg (zNA a49_ 0) ρ) (γ 1) → zO 23 S a g q49a0_24 ρ γ → zGl (fun i vs g1 => jn49 a g i vs g1) (sn49 a g) q49a0_24 ρ γ := by
  intro ρ γ hJ h
  obtain ⟨ha, hg, hr, hf, hm, hc, hl⟩ := h
  have ha : a = [ρ 0, ρ 1, ρ 2, ρ 3, ρ 4, ρ 5, ρ 6, ρ 7, ρ 8, ρ 9, ρ 10, ρ 11, ρ 12, ρ 13, ρ 14, ρ 15, ρ 16, ρ 17, ρ 18, ρ 19, ρ 20, ρ 21, ρ 22] := ha
  subst ha
  subst hg
  have hJ : jn49 [ρ 0, ρ 1, ρ 2, ρ 3, ρ 4, ρ 5, ρ 6, ρ 7, ρ 8, ρ 9, ρ 10, ρ 11, ρ 12, ρ 13, ρ 14, ρ 15, ρ 16, ρ 17, ρ 18, ρ 19, ρ 20, ρ 21, ρ 22] (γ 0) 0 [ρ 0, ρ 1, ρ 2, ρ 3, ρ 4, ρ 5, ρ 6, ρ 7, ρ 8, ρ 9, ρ 10, ρ 11, ρ 12, ρ 13, ρ 14, ρ 15, ρ 16, ρ 17, ρ 18, ρ 19, ρ 20, ρ 21, ρ 22, ρ 23, ρ 24, ρ 25, ρ 26, ρ 27, ρ 28, ρ 29, ρ 30, ρ 31, ρ 32, ρ 33, ρ 34, ρ 35, ρ 36, ρ 37, ρ 38] (γ 1) := hJ
  obtain ⟨-, -, -, -, -, -, -, -, r8, -, -, -, -, -, -, -, -, -, -, -, -, -, -, -, -, -, -, -, -, -, -, -, -, -, -, -, -, r37, -, r39, -, r41, -⟩ := hr
  have r8 : (0 : Int) ≤ ρ 8 ∧ ρ 8 ≤ 19 := r8
  have r37 : (4 : Int) ≤ ρ 37 ∧ ρ 37 ≤ 4 := r37
  have r39 : ((-1) : Int) ≤ ρ 39 ∧ ρ 39 ≤ (-1) := r39
  have r41 : (46 : Int) ≤ ρ 41 ∧ ρ 41 ≤ 46 := r41
  obtain ⟨f0, f1, -, -, -, -, -, f7, -⟩ := hf
  have f0 : (0 : Int) ≤ -ρ 7 + -ρ 6 + 399 := f0
  have f1 : (0 : Int) ≤ -ρ 40 + ρ 1 + (-1) := f1
  have f7 : (0 : Int) ≤ -ρ 37 + ρ 23 := f7
  obtain ⟨w_0, w_1, w_2, w_3, w_4, w_5, w_6, w_7, w_8, w_9⟩ : (ρ 23 ≥ ρ 37) ∧ (¬ (ρ 39 ≥ 0)) ∧ (ρ 8 ≠ 20) ∧ (0 ≤ -ρ 40 + ρ 1 + (-1)) ∧ (¬ (ρ 41 ≠ 46)) ∧ (ρ 7 + ρ 6 ≠ 400) ∧ (¬ (0 ≥ ρ 37)) ∧ (¬ (1 ≥ ρ 37)) ∧ (¬ (2 ≥ ρ 37)) ∧ (¬ (3 ≥ ρ 37)) := ⟨by omega, by omega, by omega, by omega, by omega, by omega, by omega, by omega, by omega, by omega⟩
  obtain ⟨-, m1, -, -, m4, m5, m6, m7, m8, -, -, -, -, -, -, -, -, -, -, -, -, -, -, -, -, -, -, m27, m28, m29, -, -, -, -, -, m35, m36, m37, -, -, m40, -, m42, m43, m44, m45, -⟩ := hm
  have m1 : γ 0 15 0 34 = ρ 1 := m1
  have m4 : γ 0 15 0 32 = ρ 4 := m4
  have m5 : γ 0 15 0 33 = ρ 5 := m5
  have m6 : γ 0 15 0 17 = ρ 6 := m6
  have m7 : γ 0 15 0 18 = ρ 7 := m7
  have m8 : γ 0 15 0 14 = ρ 8 := m8
  have m27 : γ 1 15 0 44 = ρ 28 := m27
  have m28 : γ 1 15 0 49 = ρ 29 := m28
  have m29 : γ 1 15 0 50 = ρ 30 := m29
  have m35 : γ 1 15 0 46 = ρ 35 := m35
  have m36 : γ 1 15 0 47 = ρ 36 := m36
  have m37 : γ 1 15 0 48 = ρ 37 := m37
  have m40 : γ 4 15 0 35 = ρ 40 := m40
  have m42 : γ 1 87 0 0 = ρ 42 := m42
  have m43 : γ 1 87 0 1 = ρ 43 := m43
  have m44 : γ 1 87 0 2 = ρ 44 := m44
  have m45 : γ 1 87 0 3 = ρ 45 := m45
  obtain ⟨⟨⟨⟨⟨⟨⟨⟨-, c7⟩, -⟩, c9⟩, c10⟩, c11⟩, c12⟩, c13⟩, c14⟩ := hc
  have c7 : γ 7 = rUp (γ 6) 15 0 35 (ρ 40 + 1) := c7
  have c9 : γ 9 = rUp (γ 8) 67 0 (ρ 7 + ρ 6) (ρ 8) := c9
  have c10 : γ 10 = rUp (γ 9) 68 0 (4 * ρ 7 + 4 * ρ 6) (ρ 42) := c10
  have c11 : γ 11 = rUp (γ 10) 68 0 (4 * ρ 7 + 4 * ρ 6 + 1) (ρ 43) := c11
  have c12 : γ 12 = rUp (γ 11) 68 0 (4 * ρ 7 + 4 * ρ 6 + 2) (ρ 44) := c12
  have c13 : γ 13 = rUp (γ 12) 68 0 (4 * ρ 7 + 4 * ρ 6 + 3) (ρ 45) := c13
  have c14 : γ 14 = rUp (γ 13) 15 0 18 (ρ 7 + 1) := c14
  obtain ⟨l0, l1, l2, l3, l4, l5, -⟩ := hl
  have l0 : sn21 [ρ 35, ρ 36, ρ 37, ρ 8] (γ 1) 0 (ρ 39) (γ 2) := hS21 _ _ _ _ _ l0
  have l1 : sn39 [ρ 35, ρ 36, ρ 37, ρ 8] (γ 2) 0 (ρ 8) (γ 3) := hS39 _ _ _ _ _ l1
  have l2 : sn7 [ρ 24, ρ 1] (γ 3) 0 0 (γ 4) := hS7 _ _ _ _ _ l2
  have l3 : sn6 [ρ 40, ρ 1] (γ 4) 0 (ρ 41) (γ 5) := hS6 _ _ _ _ _ l3
  have l4 : sn31 [ρ 1, ρ 15, ρ 37] (γ 5) 0 1 (γ 6) := hS31 _ _ _ _ _ l4
  have l5 : sn46 [ρ 8, ρ 7 + ρ 6, ρ 8 + 1, ρ 6, ρ 7, ρ 37] (γ 7) 0 (-1) (γ 8) := hS46 _ _ _ _ _ l5
  show sn49 [ρ 0, ρ 1, ρ 2, ρ 3, ρ 4, ρ 5, ρ 6, ρ 7, ρ 8, ρ 9, ρ 10, ρ 11, ρ 12, ρ 13, ρ 14, ρ 15, ρ 16, ρ 17, ρ 18, ρ 19, ρ 20, ρ 21, ρ 22] (γ 0) 0 1 (γ 14)
  have hD : en49 (γ 0) (0, [ρ 23], γ 1) = .inr (0, 1, γ 14) := by
    unfold en49
    refine (if_pos (show (0 : Nat) = 0 by decide)).trans ?_
    refine (zLet_eq (show _ = γ 1 from rfl)).trans ?_
    refine (zLet_eq (show _ = ρ 23 from rfl)).trans ?_
    refine (zLet_eq m1).trans ?_
    refine (zLet_eq m4).trans ?_
    refine (zLet_eq m5).trans ?_
    refine (zLet_eq m6).trans ?_
    refine (zLet_eq m7).trans ?_
    refine (zLet_eq m8).trans ?_
    refine (zLet_eq m27).trans ?_
    refine (zLet_eq m28).trans ?_
    refine (zLet_eq m29).trans ?_
    refine (zLet_eq m35).trans ?_
    refine (zLet_eq m36).trans ?_
    refine (zLet_eq m37).trans ?_
    refine (if_pos w_0).trans ?_
    refine (zLet_eq (show fn21 [ρ 35, ρ 36, ρ 37] (γ 1) = (0, ρ 39, γ 2) from l0.symm)).trans ?_
    refine (zLet_eq (show _ = γ 2 from rfl)).trans ?_
    refine (zLet_eq (show _ = ρ 39 from rfl)).trans ?_
    refine (if_neg w_1).trans ?_
    refine (if_pos w_2).trans ?_
    refine (zLet_eq (show fn39 [ρ 35, ρ 36, ρ 37] (γ 2) = (0, ρ 8, γ 3) from l1.symm)).trans ?_
    refine (zLet_eq (show _ = γ 3 from rfl)).trans ?_
    refine (zLet_eq (show fn7 [] (γ 3) = (0, 0, γ 4) from l2.symm)).trans ?_
    refine (zLet_eq (show _ = γ 4 from rfl)).trans ?_
    refine (zLet_eq m40).trans ?_
    refine (zLet_eq (show fn6 [ρ 40] (γ 4) = (0, ρ 41, γ 5) from l3.symm)).trans ?_
    refine (zLet_eq (show _ = γ 5 from rfl)).trans ?_
    refine (if_pos w_3).trans ?_
    refine (zLet_eq (show _ = ρ 41 from rfl)).trans ?_
    refine (if_neg w_4).trans ?_
    refine (zLet_eq (show fn31 [] (γ 5) = (0, 1, γ 6) from l4.symm)).trans ?_
    refine (zLet_eq (show _ = γ 6 from rfl)).trans ?_
    refine (if_pos zQ1_).trans ?_
    refine (zLet_eq c7.symm).trans ?_
    refine (zLet_eq (show fn46 [ρ 8, ρ 7 + ρ 6] (γ 7) = (0, (-1), γ 8) from l5.symm)).trans ?_
    refine (zLet_eq (show _ = γ 8 from rfl)).trans ?_
    refine (if_pos w_5).trans ?_
    refine (zLet_eq c9.symm).trans ?_
    refine (if_neg w_6).trans ?_
    refine (zLet_eq m42).trans ?_
    refine (zLet_eq c10.symm).trans ?_
    refine (if_neg w_7).trans ?_
    refine (zLet_eq m43).trans ?_
    refine (zLet_eq c11.symm).trans ?_
    refine (if_neg w_8).trans ?_
    refine (zLet_eq m44).trans ?_
    refine (zLet_eq c12.symm).trans ?_
    refine (if_neg w_9).trans ?_
    refine (zLet_eq m45).trans ?_
    refine (zLet_eq c13.symm).trans ?_
    refine (zLet_eq c14.symm).trans ?_
    rfl
  exact zGoo_aend hJ hD
theorem vn49a0_25 {S : Nat → zSpc} (hS6 : ∀ x g o v gz, S 6 x g o v gz → sn6 x g o v gz) (hS7 : ∀ x g o v gz, S 7 x g o v gz → sn7 x g o v gz) (hS8 : ∀ x g o v gz, S 8 x g o v gz → sn8 x g o v gz) (hS21 : ∀ x g o v gz, S 21 x g o v gz → sn21 x g o v gz) (hS25 : ∀ x g o v gz, S 25 x g o v gz → sn25 x g o v gz) (hS27 : ∀ x g o v gz, S 27 x g o v gz → sn27 x g o v gz) (hS28 : ∀ x g o v gz, S 28 x g o v gz → sn28 x g o v gz) (hS30 : ∀ x g o v gz, S 30 x g o v gz → sn30 x g o v gz) (hS31 : ∀ x g o v gz, S 31 x g o v gz → sn31 x g o v gz) (hS39 : ∀ x g o v gz, S 39 x g o v gz → sn39 x g o v gz) (hS43 : ∀ x g o v gz, S 43 x g o v gz → sn43 x g o v gz) (hS44 : ∀ x g o v gz, S 44 x g o v gz → sn44 x g o v gz) (hS45 : ∀ x g o v gz, S 45 x g o v gz → sn45 x g o v gz) (hS46 : ∀ x g o v gz, S 46 x g o v gz → sn46 x g o v gz) (hS47 : ∀ x g o v gz, S 47 x g o v gz → sn47 x g o v gz) {a : List Int} {g : rHp} : ∀ (ρ : Nat → Int) (γ : Nat → rHp), jn49 a g 0 (zAg (zNA a49_ 0) ρ) (γ 1) → zO 23 S a g q49a0_25 ρ γ → zGl (fun i vs g1 => jn49 a g i vs g1) (sn49 a g) q49a0_25 ρ γ := by
  intro ρ γ hJ h
  obtain ⟨ha, hg, hr, hf, hm, hc, hl⟩ := h
  have ha : a = [ρ 0, ρ 1, ρ 2, ρ 3, ρ 4, ρ 5, ρ 6, ρ 7, ρ 8, ρ 9, ρ 10, ρ 11, ρ 12, ρ 13, ρ 14, ρ 15, ρ 16, ρ 17, ρ 18, ρ 19, ρ 20, ρ 21, ρ 22] := ha
  subst ha
  subst hg
  have hJ : jn49 [ρ 0, ρ 1, ρ 2, ρ 3, ρ 4, ρ 5, ρ 6, ρ 7, ρ 8, ρ 9, ρ 10, ρ 11, ρ 12, ρ 13, ρ 14, ρ 15, ρ 16, ρ 17, ρ 18, ρ 19, ρ 20, ρ 21, ρ 22] (γ 0) 0 [ρ 0, ρ 1, ρ 2, ρ 3, ρ 4, ρ 5, ρ 6, ρ 7, ρ 8, ρ 9, ρ 10, ρ 11, ρ 12, ρ 13, ρ 14, ρ 15, ρ 16, ρ 17, ρ 18, ρ 19, ρ 20, ρ 21, ρ 22, ρ 23, ρ 24, ρ 25, ρ 26, ρ 27, ρ 28, ρ 29, ρ 30, ρ 31, ρ 32, ρ 33, ρ 34, ρ 35, ρ 36, ρ 37, ρ 38] (γ 1) := hJ
  obtain ⟨-, -, -, -, -, -, -, -, r8, -, -, -, -, -, -, -, -, -, -, -, -, -, -, -, -, -, -, -, -, -, -, -, -, -, -, -, -, -, -, r39, -, r41, -⟩ := hr
  have r8 : (0 : Int) ≤ ρ 8 ∧ ρ 8 ≤ 19 := r8
  have r39 : ((-1) : Int) ≤ ρ 39 ∧ ρ 39 ≤ (-1) := r39
  have r41 : (46 : Int) ≤ ρ 41 ∧ ρ 41 ≤ 46 := r41
  obtain ⟨-, -, f2, f3, f4, -, -, -, -, -, f10, -⟩ := hf
  have f2 : (0 : Int) ≤ -ρ 7 + -ρ 6 + 400 := f2
  have f3 : (0 : Int) ≤ ρ 7 + ρ 6 + (-400) := f3
  have f4 : (0 : Int) ≤ -ρ 40 + ρ 1 + (-1) := f4
  have f10 : (0 : Int) ≤ -ρ 37 + ρ 23 := f10
  obtain ⟨w_0, w_1, w_2, w_3, w_4, w_5⟩ : (ρ 23 ≥ ρ 37) ∧ (¬ (ρ 39 ≥ 0)) ∧ (ρ 8 ≠ 20) ∧ (0 ≤ -ρ 40 + ρ 1 + (-1)) ∧ (¬ (ρ 41 ≠ 46)) ∧ (¬ (ρ 7 + ρ 6 ≠ 400)) := ⟨by omega, by omega, by omega, by omega, by omega, by omega⟩
  obtain ⟨-, m1, -, -, m4, m5, m6, m7, m8, -, -, -, -, -, -, -, -, -, -, -, -, -, -, -, -, -, -, m27, m28, m29, -, -, -, -, -, m35, m36, m37, -, -, m40, -⟩ := hm
  have m1 : γ 0 15 0 34 = ρ 1 := m1
  have m4 : γ 0 15 0 32 = ρ 4 := m4
  have m5 : γ 0 15 0 33 = ρ 5 := m5
  have m6 : γ 0 15 0 17 = ρ 6 := m6
  have m7 : γ 0 15 0 18 = ρ 7 := m7
  have m8 : γ 0 15 0 14 = ρ 8 := m8
  have m27 : γ 1 15 0 44 = ρ 28 := m27
  have m28 : γ 1 15 0 49 = ρ 29 := m28
  have m29 : γ 1 15 0 50 = ρ 30 := m29
  have m35 : γ 1 15 0 46 = ρ 35 := m35
  have m36 : γ 1 15 0 47 = ρ 36 := m36
  have m37 : γ 1 15 0 48 = ρ 37 := m37
  have m40 : γ 4 15 0 35 = ρ 40 := m40
  obtain ⟨⟨⟨-, c7⟩, -⟩, -⟩ := hc
  have c7 : γ 7 = rUp (γ 6) 15 0 35 (ρ 40 + 1) := c7
  obtain ⟨l0, l1, l2, l3, l4, l5, l6, -⟩ := hl
  have l0 : sn21 [ρ 35, ρ 36, ρ 37, ρ 8] (γ 1) 0 (ρ 39) (γ 2) := hS21 _ _ _ _ _ l0
  have l1 : sn39 [ρ 35, ρ 36, ρ 37, ρ 8] (γ 2) 0 (ρ 8) (γ 3) := hS39 _ _ _ _ _ l1
  have l2 : sn7 [ρ 24, ρ 1] (γ 3) 0 0 (γ 4) := hS7 _ _ _ _ _ l2
  have l3 : sn6 [ρ 40, ρ 1] (γ 4) 0 (ρ 41) (γ 5) := hS6 _ _ _ _ _ l3
  have l4 : sn31 [ρ 1, ρ 15, ρ 37] (γ 5) 0 1 (γ 6) := hS31 _ _ _ _ _ l4
  have l5 : sn46 [ρ 8, ρ 7 + ρ 6, ρ 8 + 1, ρ 6, ρ 7, ρ 37] (γ 7) 0 (-1) (γ 8) := hS46 _ _ _ _ _ l5
  have l6 : sn8 [ρ 35, ρ 1, ρ 15] (γ 8) 0 0 (γ 9) := hS8 _ _ _ _ _ l6
  show sn49 [ρ 0, ρ 1, ρ 2, ρ 3, ρ 4, ρ 5, ρ 6, ρ 7, ρ 8, ρ 9, ρ 10, ρ 11, ρ 12, ρ 13, ρ 14, ρ 15, ρ 16, ρ 17, ρ 18, ρ 19, ρ 20, ρ 21, ρ 22] (γ 0) 0 0 (γ 9)
  have hD : en49 (γ 0) (0, [ρ 23], γ 1) = .inr (0, 0, γ 9) := by
    unfold en49
    refine (if_pos (show (0 : Nat) = 0 by decide)).trans ?_
    refine (zLet_eq (show _ = γ 1 from rfl)).trans ?_
    refine (zLet_eq (show _ = ρ 23 from rfl)).trans ?_
    refine (zLet_eq m1).trans ?_
    refine (zLet_eq m4).trans ?_
    refine (zLet_eq m5).trans ?_
    refine (zLet_eq m6).trans ?_
    refine (zLet_eq m7).trans ?_
    refine (zLet_eq m8).trans ?_
    refine (zLet_eq m27).trans ?_
    refine (zLet_eq m28).trans ?_
    refine (zLet_eq m29).trans ?_
    refine (zLet_eq m35).trans ?_
    refine (zLet_eq m36).trans ?_
    refine (zLet_eq m37).trans ?_
    refine (if_pos w_0).trans ?_
    refine (zLet_eq (show fn21 [ρ 35, ρ 36, ρ 37] (γ 1) = (0, ρ 39, γ 2) from l0.symm)).trans ?_
    refine (zLet_eq (show _ = γ 2 from rfl)).trans ?_
    refine (zLet_eq (show _ = ρ 39 from rfl)).trans ?_
    refine (if_neg w_1).trans ?_
    refine (if_pos w_2).trans ?_
    refine (zLet_eq (show fn39 [ρ 35, ρ 36, ρ 37] (γ 2) = (0, ρ 8, γ 3) from l1.symm)).trans ?_
    refine (zLet_eq (show _ = γ 3 from rfl)).trans ?_
    refine (zLet_eq (show fn7 [] (γ 3) = (0, 0, γ 4) from l2.symm)).trans ?_
    refine (zLet_eq (show _ = γ 4 from rfl)).trans ?_
    refine (zLet_eq m40).trans ?_
    refine (zLet_eq (show fn6 [ρ 40] (γ 4) = (0, ρ 41, γ 5) from l3.symm)).trans ?_
    refine (zLet_eq (show _ = γ 5 from rfl)).trans ?_
    refine (if_pos w_3).trans ?_
    refine (zLet_eq (show _ = ρ 41 from rfl)).trans ?_
    refine (if_neg w_4).trans ?_
    refine (zLet_eq (show fn31 [] (γ 5) = (0, 1, γ 6) from l4.symm)).trans ?_
    refine (zLet_eq (show _ = γ 6 from rfl)).trans ?_
    refine (if_pos zQ1_).trans ?_
    refine (zLet_eq c7.symm).trans ?_
    refine (zLet_eq (show fn46 [ρ 8, ρ 7 + ρ 6] (γ 7) = (0, (-1), γ 8) from l5.symm)).trans ?_
    refine (zLet_eq (show _ = γ 8 from rfl)).trans ?_
    refine (if_neg w_5).trans ?_
    refine (zLet_eq (show fn8 [ρ 35] (γ 8) = (0, 0, γ 9) from l6.symm)).trans ?_
    refine (zLet_eq (show _ = γ 9 from rfl)).trans ?_
    rfl
  exact zGoo_aend hJ hD
theorem vn49a0_26 {S : Nat → zSpc} (hS6 : ∀ x g o v gz, S 6 x g o v gz → sn6 x g o v gz) (hS7 : ∀ x g o v gz, S 7 x g o v gz → sn7 x g o v gz) (hS8 : ∀ x g o v gz, S 8 x g o v gz → sn8 x g o v gz) (hS21 : ∀ x g o v gz, S 21 x g o v gz → sn21 x g o v gz) (hS25 : ∀ x g o v gz, S 25 x g o v gz → sn25 x g o v gz) (hS27 : ∀ x g o v gz, S 27 x g o v gz → sn27 x g o v gz) (hS28 : ∀ x g o v gz, S 28 x g o v gz → sn28 x g o v gz) (hS30 : ∀ x g o v gz, S 30 x g o v gz → sn30 x g o v gz) (hS31 : ∀ x g o v gz, S 31 x g o v gz → sn31 x g o v gz) (hS39 : ∀ x g o v gz, S 39 x g o v gz → sn39 x g o v gz) (hS43 : ∀ x g o v gz, S 43 x g o v gz → sn43 x g o v gz) (hS44 : ∀ x g o v gz, S 44 x g o v gz → sn44 x g o v gz) (hS45 : ∀ x g o v gz, S 45 x g o v gz → sn45 x g o v gz) (hS46 : ∀ x g o v gz, S 46 x g o v gz → sn46 x g o v gz) (hS47 : ∀ x g o v gz, S 47 x g o v gz → sn47 x g o v gz) {a : List Int} {g : rHp} : ∀ (ρ : Nat → Int) (γ : Nat → rHp), jn49 a g 0 (zAg (zNA a49_ 0) ρ) (γ 1) → zO 23 S a g q49a0_26 ρ γ → zGl (fun i vs g1 => jn49 a g i vs g1) (sn49 a g) q49a0_26 ρ γ := by
  intro ρ γ hJ h
  obtain ⟨ha, hg, hr, hf, hm, hc, hl⟩ := h
  have ha : a = [ρ 0, ρ 1, ρ 2, ρ 3, ρ 4, ρ 5, ρ 6, ρ 7, ρ 8, ρ 9, ρ 10, ρ 11, ρ 12, ρ 13, ρ 14, ρ 15, ρ 16, ρ 17, ρ 18, ρ 19, ρ 20, ρ 21, ρ 22] := ha
  subst ha
  subst hg
  have hJ : jn49 [ρ 0, ρ 1, ρ 2, ρ 3, ρ 4, ρ 5, ρ 6, ρ 7, ρ 8, ρ 9, ρ 10, ρ 11, ρ 12, ρ 13, ρ 14, ρ 15, ρ 16, ρ 17, ρ 18, ρ 19, ρ 20, ρ 21, ρ 22] (γ 0) 0 [ρ 0, ρ 1, ρ 2, ρ 3, ρ 4, ρ 5, ρ 6, ρ 7, ρ 8, ρ 9, ρ 10, ρ 11, ρ 12, ρ 13, ρ 14, ρ 15, ρ 16, ρ 17, ρ 18, ρ 19, ρ 20, ρ 21, ρ 22, ρ 23, ρ 24, ρ 25, ρ 26, ρ 27, ρ 28, ρ 29, ρ 30, ρ 31, ρ 32, ρ 33, ρ 34, ρ 35, ρ 36, ρ 37, ρ 38] (γ 1) := hJ
  obtain ⟨-, -, -, -, -, -, -, -, r8, -, -, -, -, -, -, -, -, -, -, -, -, -, -, -, -, -, -, -, -, -, -, -, -, -, -, -, -, -, -, r39, -⟩ := hr
  have r8 : (0 : Int) ≤ ρ 8 ∧ ρ 8 ≤ 19 := r8
  have r39 : ((-1) : Int) ≤ ρ 39 ∧ ρ 39 ≤ (-1) := r39
  obtain ⟨-, -, f2, -, -, -, -, -, f8, -⟩ := hf
  have f2 : (0 : Int) ≤ ρ 40 + -ρ 1 := f2
  have f8 : (0 : Int) ≤ -ρ 37 + ρ 23 := f8
  obtain ⟨w_0, w_1, w_2, w_3⟩ : (ρ 23 ≥ ρ 37) ∧ (¬ (ρ 39 ≥ 0)) ∧ (ρ 8 ≠ 20) ∧ (¬ (0 ≤ -ρ 40 + ρ 1 + (-1))) := ⟨by omega, by omega, by omega, by omega⟩
  obtain ⟨-, m1, -, -, m4, m5, m6, m7, m8, -, -, -, -, -, -, -, -, -, -, -, -, -, -, -, -, -, -, m27, m28, m29, -, -, -, -, -, m35, m36, m37, -, -, m40, -⟩ := hm
  have m1 : γ 0 15 0 34 = ρ 1 := m1
  have m4 : γ 0 15 0 32 = ρ 4 := m4
  have m5 : γ 0 15 0 33 = ρ 5 := m5
  have m6 : γ 0 15 0 17 = ρ 6 := m6
  have m7 : γ 0 15 0 18 = ρ 7 := m7
  have m8 : γ 0 15 0 14 = ρ 8 := m8
  have m27 : γ 1 15 0 44 = ρ 28 := m27
  have m28 : γ 1 15 0 49 = ρ 29 := m28
  have m29 : γ 1 15 0 50 = ρ 30 := m29
  have m35 : γ 1 15 0 46 = ρ 35 := m35
  have m36 : γ 1 15 0 47 = ρ 36 := m36
  have m37 : γ 1 15 0 48 = ρ 37 := m37
  have m40 : γ 4 15 0 35 = ρ 40 := m40
  obtain ⟨l0, l1, l2, l3, l4, l5, -⟩ := hl
  have l0 : sn21 [ρ 35, ρ 36, ρ 37, ρ 8] (γ 1) 0 (ρ 39) (γ 2) := hS21 _ _ _ _ _ l0
  have l1 : sn39 [ρ 35, ρ 36, ρ 37, ρ 8] (γ 2) 0 (ρ 8) (γ 3) := hS39 _ _ _ _ _ l1
  have l2 : sn7 [ρ 24, ρ 1] (γ 3) 0 0 (γ 4) := hS7 _ _ _ _ _ l2
  have l3 : sn6 [ρ 40, ρ 1] (γ 4) 0 (-1) (γ 5) := hS6 _ _ _ _ _ l3
  have l4 : sn6 [ρ 40, ρ 1] (γ 5) 0 (-1) (γ 6) := hS6 _ _ _ _ _ l4
  have l5 : sn8 [ρ 40, ρ 1, ρ 15] (γ 6) 0 0 (γ 7) := hS8 _ _ _ _ _ l5
  show sn49 [ρ 0, ρ 1, ρ 2, ρ 3, ρ 4, ρ 5, ρ 6, ρ 7, ρ 8, ρ 9, ρ 10, ρ 11, ρ 12, ρ 13, ρ 14, ρ 15, ρ 16, ρ 17, ρ 18, ρ 19, ρ 20, ρ 21, ρ 22] (γ 0) 0 0 (γ 7)
  have hD : en49 (γ 0) (0, [ρ 23], γ 1) = .inr (0, 0, γ 7) := by
    unfold en49
    refine (if_pos (show (0 : Nat) = 0 by decide)).trans ?_
    refine (zLet_eq (show _ = γ 1 from rfl)).trans ?_
    refine (zLet_eq (show _ = ρ 23 from rfl)).trans ?_
    refine (zLet_eq m1).trans ?_
    refine (zLet_eq m4).trans ?_
    refine (zLet_eq m5).trans ?_
    refine (zLet_eq m6).trans ?_
    refine (zLet_eq m7).trans ?_
    refine (zLet_eq m8).trans ?_
    refine (zLet_eq m27).trans ?_
    refine (zLet_eq m28).trans ?_
    refine (zLet_eq m29).trans ?_
    refine (zLet_eq m35).trans ?_
    refine (zLet_eq m36).trans ?_
    refine (zLet_eq m37).trans ?_
    refine (if_pos w_0).trans ?_
    refine (zLet_eq (show fn21 [ρ 35, ρ 36, ρ 37] (γ 1) = (0, ρ 39, γ 2) from l0.symm)).trans ?_
    refine (zLet_eq (show _ = γ 2 from rfl)).trans ?_
    refine (zLet_eq (show _ = ρ 39 from rfl)).trans ?_
    refine (if_neg w_1).trans ?_
    refine (if_pos w_2).trans ?_
    refine (zLet_eq (show fn39 [ρ 35, ρ 36, ρ 37] (γ 2) = (0, ρ 8, γ 3) from l1.symm)).trans ?_
    refine (zLet_eq (show _ = γ 3 from rfl)).trans ?_
    refine (zLet_eq (show fn7 [] (γ 3) = (0, 0, γ 4) from l2.symm)).trans ?_
    refine (zLet_eq (show _ = γ 4 from rfl)).trans ?_
    refine (zLet_eq m40).trans ?_
    refine (zLet_eq (show fn6 [ρ 40] (γ 4) = (0, (-1), γ 5) from l3.symm)).trans ?_
    refine (zLet_eq (show _ = γ 5 from rfl)).trans ?_
    refine (if_neg w_3).trans ?_
    refine (zLet_eq (show fn6 [ρ 40] (γ 5) = (0, (-1), γ 6) from l4.symm)).trans ?_
    refine (zLet_eq (show _ = γ 6 from rfl)).trans ?_
    refine (zLet_eq (show fn8 [ρ 40] (γ 6) = (0, 0, γ 7) from l5.symm)).trans ?_
    refine (zLet_eq (show _ = γ 7 from rfl)).trans ?_
    rfl
  exact zGoo_aend hJ hD
theorem vn49a0_27 {S : Nat → zSpc} (hS6 : ∀ x g o v gz, S 6 x g o v gz → sn6 x g o v gz) (hS7 : ∀ x g o v gz, S 7 x g o v gz → sn7 x g o v gz) (hS8 : ∀ x g o v gz, S 8 x g o v gz → sn8 x g o v gz) (hS21 : ∀ x g o v gz, S 21 x g o v gz → sn21 x g o v gz) (hS25 : ∀ x g o v gz, S 25 x g o v gz → sn25 x g o v gz) (hS27 : ∀ x g o v gz, S 27 x g o v gz → sn27 x g o v gz) (hS28 : ∀ x g o v gz, S 28 x g o v gz → sn28 x g o v gz) (hS30 : ∀ x g o v gz, S 30 x g o v gz → sn30 x g o v gz) (hS31 : ∀ x g o v gz, S 31 x g o v gz → sn31 x g o v gz) (hS39 : ∀ x g o v gz, S 39 x g o v gz → sn39 x g o v gz) (hS43 : ∀ x g o v gz, S 43 x g o v gz → sn43 x g o v gz) (hS44 : ∀ x g o v gz, S 44 x g o v gz → sn44 x g o v gz) (hS45 : ∀ x g o v gz, S 45 x g o v gz → sn45 x g o v gz) (hS46 : ∀ x g o v gz, S 46 x g o v gz → sn46 x g o v gz) (hS47 : ∀ x g o v gz, S 47 x g o v gz → sn47 x g o v gz) {a : List Int} {g : rHp} : ∀ (ρ : Nat → Int) (γ : Nat → rHp), jn49 a g 0 (zAg (zNA a49_ 0) ρ) (γ 1) → zO 23 S a g q49a0_27 ρ γ → zGl (fun i vs g1 => jn49 a g i vs g1) (sn49 a g) q49a0_27 ρ γ := by
  intro ρ γ hJ h
  obtain ⟨ha, hg, hr, hf, hm, hc, hl⟩ := h
  have ha : a = [ρ 0, ρ 1, ρ 2, ρ 3, ρ 4, ρ 5, ρ 6, ρ 7, ρ 8, ρ 9, ρ 10, ρ 11, ρ 12, ρ 13, ρ 14, ρ 15, ρ 16, ρ 17, ρ 18, ρ 19, ρ 20, ρ 21, ρ 22] := ha
  subst ha
  subst hg
  have hJ : jn49 [ρ 0, ρ 1, ρ 2, ρ 3, ρ 4, ρ 5, ρ 6, ρ 7, ρ 8, ρ 9, ρ 10, ρ 11, ρ 12, ρ 13, ρ 14, ρ 15, ρ 16, ρ 17, ρ 18, ρ 19, ρ 20, ρ 21, ρ 22] (γ 0) 0 [ρ 0, ρ 1, ρ 2, ρ 3, ρ 4, ρ 5, ρ 6, ρ 7, ρ 8, ρ 9, ρ 10, ρ 11, ρ 12, ρ 13, ρ 14, ρ 15, ρ 16, ρ 17, ρ 18, ρ 19, ρ 20, ρ 21, ρ 22, ρ 23, ρ 24, ρ 25, ρ 26, ρ 27, ρ 28, ρ 29, ρ 30, ρ 31, ρ 32, ρ 33, ρ 34, ρ 35, ρ 36, ρ 37, ρ 38] (γ 1) := hJ
  obtain ⟨-, -, -, -, -, -, -, -, r8, -, -, -, -, -, -, -, -, -, -, -, -, -, -, -, -, -, -, -, -, -, -, -, -, -, -, -, -, -, -, r39, -⟩ := hr
  have r8 : (20 : Int) ≤ ρ 8 ∧ ρ 8 ≤ 20 := r8
  have r39 : ((-1) : Int) ≤ ρ 39 ∧ ρ 39 ≤ (-1) := r39
  obtain ⟨-, -, -, -, f4, -⟩ := hf
  have f4 : (0 : Int) ≤ -ρ 37 + ρ 23 := f4
  obtain ⟨w_0, w_1, w_2⟩ : (ρ 23 ≥ ρ 37) ∧ (¬ (ρ 39 ≥ 0)) ∧ (¬ (ρ 8 ≠ 20)) := ⟨by omega, by omega, by omega⟩
  obtain ⟨-, m1, -, -, m4, m5, m6, m7, m8, -, -, -, -, -, -, -, -, -, -, -, -, -, -, -, -, -, -, m27, m28, m29, -, -, -, -, -, m35, m36, m37, -⟩ := hm
  have m1 : γ 0 15 0 34 = ρ 1 := m1
  have m4 : γ 0 15 0 32 = ρ 4 := m4
  have m5 : γ 0 15 0 33 = ρ 5 := m5
  have m6 : γ 0 15 0 17 = ρ 6 := m6
  have m7 : γ 0 15 0 18 = ρ 7 := m7
  have m8 : γ 0 15 0 14 = ρ 8 := m8
  have m27 : γ 1 15 0 44 = ρ 28 := m27
  have m28 : γ 1 15 0 49 = ρ 29 := m28
  have m29 : γ 1 15 0 50 = ρ 30 := m29
  have m35 : γ 1 15 0 46 = ρ 35 := m35
  have m36 : γ 1 15 0 47 = ρ 36 := m36
  have m37 : γ 1 15 0 48 = ρ 37 := m37
  obtain ⟨l0, l1, -⟩ := hl
  have l0 : sn21 [ρ 35, ρ 36, ρ 37, ρ 8] (γ 1) 0 (ρ 39) (γ 2) := hS21 _ _ _ _ _ l0
  have l1 : sn8 [ρ 35, ρ 1, ρ 15] (γ 2) 0 0 (γ 3) := hS8 _ _ _ _ _ l1
  show sn49 [ρ 0, ρ 1, ρ 2, ρ 3, ρ 4, ρ 5, ρ 6, ρ 7, ρ 8, ρ 9, ρ 10, ρ 11, ρ 12, ρ 13, ρ 14, ρ 15, ρ 16, ρ 17, ρ 18, ρ 19, ρ 20, ρ 21, ρ 22] (γ 0) 0 0 (γ 3)
  have hD : en49 (γ 0) (0, [ρ 23], γ 1) = .inr (0, 0, γ 3) := by
    unfold en49
    refine (if_pos (show (0 : Nat) = 0 by decide)).trans ?_
    refine (zLet_eq (show _ = γ 1 from rfl)).trans ?_
    refine (zLet_eq (show _ = ρ 23 from rfl)).trans ?_
    refine (zLet_eq m1).trans ?_
    refine (zLet_eq m4).trans ?_
    refine (zLet_eq m5).trans ?_
    refine (zLet_eq m6).trans ?_
    refine (zLet_eq m7).trans ?_
    refine (zLet_eq m8).trans ?_
    refine (zLet_eq m27).trans ?_
    refine (zLet_eq m28).trans ?_
    refine (zLet_eq m29).trans ?_
    refine (zLet_eq m35).trans ?_
    refine (zLet_eq m36).trans ?_
    refine (zLet_eq m37).trans ?_
    refine (if_pos w_0).trans ?_
    refine (zLet_eq (show fn21 [ρ 35, ρ 36, ρ 37] (γ 1) = (0, ρ 39, γ 2) from l0.symm)).trans ?_
    refine (zLet_eq (show _ = γ 2 from rfl)).trans ?_
    refine (zLet_eq (show _ = ρ 39 from rfl)).trans ?_
    refine (if_neg w_1).trans ?_
    refine (if_neg w_2).trans ?_
    refine (zLet_eq (show fn8 [ρ 35] (γ 2) = (0, 0, γ 3) from l1.symm)).trans ?_
    refine (zLet_eq (show _ = γ 3 from rfl)).trans ?_
    rfl
  exact zGoo_aend hJ hD
theorem vn49a0_28 {S : Nat → zSpc} (hS6 : ∀ x g o v gz, S 6 x g o v gz → sn6 x g o v gz) (hS7 : ∀ x g o v gz, S 7 x g o v gz → sn7 x g o v gz) (hS8 : ∀ x g o v gz, S 8 x g o v gz → sn8 x g o v gz) (hS21 : ∀ x g o v gz, S 21 x g o v gz → sn21 x g o v gz) (hS25 : ∀ x g o v gz, S 25 x g o v gz → sn25 x g o v gz) (hS27 : ∀ x g o v gz, S 27 x g o v gz → sn27 x g o v gz) (hS28 : ∀ x g o v gz, S 28 x g o v gz → sn28 x g o v gz) (hS30 : ∀ x g o v gz, S 30 x g o v gz → sn30 x g o v gz) (hS31 : ∀ x g o v gz, S 31 x g o v gz → sn31 x g o v gz) (hS39 : ∀ x g o v gz, S 39 x g o v gz → sn39 x g o v gz) (hS43 : ∀ x g o v gz, S 43 x g o v gz → sn43 x g o v gz) (hS44 : ∀ x g o v gz, S 44 x g o v gz → sn44 x g o v gz) (hS45 : ∀ x g o v gz, S 45 x g o v gz → sn45 x g o v gz) (hS46 : ∀ x g o v gz, S 46 x g o v gz → sn46 x g o v gz) (hS47 : ∀ x g o v gz, S 47 x g o v gz → sn47 x g o v gz) {a : List Int} {g : rHp} : ∀ (ρ : Nat → Int) (γ : Nat → rHp), jn49 a g 0 (zAg (zNA a49_ 0) ρ) (γ 1) → zO 23 S a g q49a0_28 ρ γ → zGl (fun i vs g1 => jn49 a g i vs g1) (sn49 a g) q49a0_28 ρ γ := by
  intro ρ γ hJ h
  obtain ⟨ha, hg, hr, hf, hm, hc, hl⟩ := h
  have ha : a = [ρ 0, ρ 1, ρ 2, ρ 3, ρ 4, ρ 5, ρ 6, ρ 7, ρ 8, ρ 9, ρ 10, ρ 11, ρ 12, ρ 13, ρ 14, ρ 15, ρ 16, ρ 17, ρ 18, ρ 19, ρ 20, ρ 21, ρ 22] := ha
  subst ha
  subst hg
  have hJ : jn49 [ρ 0, ρ 1, ρ 2, ρ 3, ρ 4, ρ 5, ρ 6, ρ 7, ρ 8, ρ 9, ρ 10, ρ 11, ρ 12, ρ 13, ρ 14, ρ 15, ρ 16, ρ 17, ρ 18, ρ 19, ρ 20, ρ 21, ρ 22] (γ 0) 0 [ρ 0, ρ 1, ρ 2, ρ 3, ρ 4, ρ 5, ρ 6, ρ 7, ρ 8, ρ 9, ρ 10, ρ 11, ρ 12, ρ 13, ρ 14, ρ 15, ρ 16, ρ 17, ρ 18, ρ 19, ρ 20, ρ 21, ρ 22, ρ 23, ρ 24, ρ 25, ρ 26, ρ 27, ρ 28, ρ 29, ρ 30, ρ 31, ρ 32, ρ 33, ρ 34, ρ 35, ρ 36, ρ 37, ρ 38] (γ 1) := hJ
  obtain ⟨-, -, -, -, -, -, -, -, -, -, -, -, -, -, -, -, -, -, -, -, -, -, -, -, -, -, -, -, -, -, -, -, -, -, -, -, -, -, -, r39, -⟩ := hr
  have r39 : (0 : Int) ≤ ρ 39 ∧ ρ 39 ≤ 3 := r39
  obtain ⟨f0, -⟩ := hf
  have f0 : (0 : Int) ≤ ρ 37 + -ρ 23 + (-1) := f0
  have w_0 : ¬ (ρ 23 ≥ ρ 37) := by omega
  obtain ⟨-, m1, -, -, m4, m5, m6, m7, m8, -, -, -, -, -, -, -, -, -, -, -, -, -, -, -, -, -, -, m27, m28, m29, -, -, -, -, -, m35, m36, m37, -, m39, -⟩ := hm
  have m1 : γ 0 15 0 34 = ρ 1 := m1
  have m4 : γ 0 15 0 32 = ρ 4 := m4
  have m5 : γ 0 15 0 33 = ρ 5 := m5
  have m6 : γ 0 15 0 17 = ρ 6 := m6
  have m7 : γ 0 15 0 18 = ρ 7 := m7
  have m8 : γ 0 15 0 14 = ρ 8 := m8
  have m27 : γ 1 15 0 44 = ρ 28 := m27
  have m28 : γ 1 15 0 49 = ρ 29 := m28
  have m29 : γ 1 15 0 50 = ρ 30 := m29
  have m35 : γ 1 15 0 46 = ρ 35 := m35
  have m36 : γ 1 15 0 47 = ρ 36 := m36
  have m37 : γ 1 15 0 48 = ρ 37 := m37
  have m39 : γ 1 85 0 (ρ 23) = ρ 39 := m39
  obtain ⟨l0, -⟩ := hl
  have l0 : ρ 39 ≠ 1 := l0
  have wl_0 : ρ 39 ≠ 1 := by omega
  show jn49 [ρ 0, ρ 1, ρ 2, ρ 3, ρ 4, ρ 5, ρ 6, ρ 7, ρ 8, ρ 9, ρ 10, ρ 11, ρ 12, ρ 13, ρ 14, ρ 15, ρ 16, ρ 17, ρ 18, ρ 19, ρ 20, ρ 21, ρ 22] (γ 0) 0 [ρ 0, ρ 1, ρ 2, ρ 3, ρ 4, ρ 5, ρ 6, ρ 7, ρ 8, ρ 9, ρ 10, ρ 11, ρ 12, ρ 13, ρ 14, ρ 15, ρ 16, ρ 17, ρ 18, ρ 19, ρ 20, ρ 21, ρ 22, ρ 23 + 1, ρ 24, ρ 25, ρ 26, ρ 27, ρ 28, ρ 29, ρ 30, ρ 31, ρ 32, ρ 33, ρ 34, ρ 35, ρ 36, ρ 37, ρ 38] (γ 1)
  have hD : en49 (γ 0) (0, [ρ 23], γ 1) = .inl (0, [ρ 23 + 1], γ 1) := by
    unfold en49
    refine (if_pos (show (0 : Nat) = 0 by decide)).trans ?_
    refine (zLet_eq (show _ = γ 1 from rfl)).trans ?_
    refine (zLet_eq (show _ = ρ 23 from rfl)).trans ?_
    refine (zLet_eq m1).trans ?_
    refine (zLet_eq m4).trans ?_
    refine (zLet_eq m5).trans ?_
    refine (zLet_eq m6).trans ?_
    refine (zLet_eq m7).trans ?_
    refine (zLet_eq m8).trans ?_
    refine (zLet_eq m27).trans ?_
    refine (zLet_eq m28).trans ?_
    refine (zLet_eq m29).trans ?_
    refine (zLet_eq m35).trans ?_
    refine (zLet_eq m36).trans ?_
    refine (zLet_eq m37).trans ?_
    refine (if_neg w_0).trans ?_
    refine (zLet_eq m39).trans ?_
    refine (if_pos wl_0).trans ?_
    rfl
  exact zGoo_ato hJ hD
theorem vn49a0_29 {S : Nat → zSpc} (hS6 : ∀ x g o v gz, S 6 x g o v gz → sn6 x g o v gz) (hS7 : ∀ x g o v gz, S 7 x g o v gz → sn7 x g o v gz) (hS8 : ∀ x g o v gz, S 8 x g o v gz → sn8 x g o v gz) (hS21 : ∀ x g o v gz, S 21 x g o v gz → sn21 x g o v gz) (hS25 : ∀ x g o v gz, S 25 x g o v gz → sn25 x g o v gz) (hS27 : ∀ x g o v gz, S 27 x g o v gz → sn27 x g o v gz) (hS28 : ∀ x g o v gz, S 28 x g o v gz → sn28 x g o v gz) (hS30 : ∀ x g o v gz, S 30 x g o v gz → sn30 x g o v gz) (hS31 : ∀ x g o v gz, S 31 x g o v gz → sn31 x g o v gz) (hS39 : ∀ x g o v gz, S 39 x g o v gz → sn39 x g o v gz) (hS43 : ∀ x g o v gz, S 43 x g o v gz → sn43 x g o v gz) (hS44 : ∀ x g o v gz, S 44 x g o v gz → sn44 x g o v gz) (hS45 : ∀ x g o v gz, S 45 x g o v gz → sn45 x g o v gz) (hS46 : ∀ x g o v gz, S 46 x g o v gz → sn46 x g o v gz) (hS47 : ∀ x g o v gz, S 47 x g o v gz → sn47 x g o v gz) {a : List Int} {g : rHp} : ∀ (ρ : Nat → Int) (γ : Nat → rHp), jn49 a g 0 (zAg (zNA a49_ 0) ρ) (γ 1) → zO 23 S a g q49a0_29 ρ γ → zGl (fun i vs g1 => jn49 a g i vs g1) (sn49 a g) q49a0_29 ρ γ := by
  intro ρ γ hJ h
  obtain ⟨ha, hg, hr, hf, hm, hc, hl⟩ := h
  have ha : a = [ρ 0, ρ 1, ρ 2, ρ 3, ρ 4, ρ 5, ρ 6, ρ 7, ρ 8, ρ 9, ρ 10, ρ 11, ρ 12, ρ 13, ρ 14, ρ 15, ρ 16, ρ 17, ρ 18, ρ 19, ρ 20, ρ 21, ρ 22] := ha
  subst ha
  subst hg
  have hJ : jn49 [ρ 0, ρ 1, ρ 2, ρ 3, ρ 4, ρ 5, ρ 6, ρ 7, ρ 8, ρ 9, ρ 10, ρ 11, ρ 12, ρ 13, ρ 14, ρ 15, ρ 16, ρ 17, ρ 18, ρ 19, ρ 20, ρ 21, ρ 22] (γ 0) 0 [ρ 0, ρ 1, ρ 2, ρ 3, ρ 4, ρ 5, ρ 6, ρ 7, ρ 8, ρ 9, ρ 10, ρ 11, ρ 12, ρ 13, ρ 14, ρ 15, ρ 16, ρ 17, ρ 18, ρ 19, ρ 20, ρ 21, ρ 22, ρ 23, ρ 24, ρ 25, ρ 26, ρ 27, ρ 28, ρ 29, ρ 30, ρ 31, ρ 32, ρ 33, ρ 34, ρ 35, ρ 36, ρ 37, ρ 38] (γ 1) := hJ
  obtain ⟨-, -, -, -, -, -, -, -, -, -, -, -, -, -, -, -, -, -, -, -, -, -, -, -, -, -, -, -, -, -, -, -, -, -, -, -, -, -, -, r39, -⟩ := hr
  have r39 : (1 : Int) ≤ ρ 39 ∧ ρ 39 ≤ 1 := r39
  obtain ⟨f0, -⟩ := hf
  have f0 : (0 : Int) ≤ ρ 37 + -ρ 23 + (-1) := f0
  obtain ⟨w_0, w_1⟩ : (¬ (ρ 23 ≥ ρ 37)) ∧ (¬ (ρ 39 ≠ 1)) := ⟨by omega, by omega⟩
  obtain ⟨-, m1, -, -, m4, m5, m6, m7, m8, -, -, -, -, -, -, -, -, -, -, -, -, -, -, -, -, -, -, m27, m28, m29, -, -, -, -, -, m35, m36, m37, -, m39, m40, m41, -⟩ := hm
  have m1 : γ 0 15 0 34 = ρ 1 := m1
  have m4 : γ 0 15 0 32 = ρ 4 := m4
  have m5 : γ 0 15 0 33 = ρ 5 := m5
  have m6 : γ 0 15 0 17 = ρ 6 := m6
  have m7 : γ 0 15 0 18 = ρ 7 := m7
  have m8 : γ 0 15 0 14 = ρ 8 := m8
  have m27 : γ 1 15 0 44 = ρ 28 := m27
  have m28 : γ 1 15 0 49 = ρ 29 := m28
  have m29 : γ 1 15 0 50 = ρ 30 := m29
  have m35 : γ 1 15 0 46 = ρ 35 := m35
  have m36 : γ 1 15 0 47 = ρ 36 := m36
  have m37 : γ 1 15 0 48 = ρ 37 := m37
  have m39 : γ 1 85 0 (ρ 23) = ρ 39 := m39
  have m40 : γ 1 86 0 (ρ 23) = ρ 40 := m40
  have m41 : γ 1 87 0 (ρ 23) = ρ 41 := m41
  obtain ⟨l0, -⟩ := hl
  have l0 : sn25 [ρ 40, ρ 41, 0, ρ 27, ρ 34] (γ 1) 0 0 (γ 2) := hS25 _ _ _ _ _ l0
  show jn49 [ρ 0, ρ 1, ρ 2, ρ 3, ρ 4, ρ 5, ρ 6, ρ 7, ρ 8, ρ 9, ρ 10, ρ 11, ρ 12, ρ 13, ρ 14, ρ 15, ρ 16, ρ 17, ρ 18, ρ 19, ρ 20, ρ 21, ρ 22] (γ 0) 0 [ρ 0, ρ 1, ρ 2, ρ 3, ρ 4, ρ 5, ρ 6, ρ 7, ρ 8, ρ 9, ρ 10, ρ 11, ρ 12, ρ 13, ρ 14, ρ 15, ρ 16, ρ 17, ρ 18, ρ 19, ρ 20, ρ 21, ρ 22, ρ 23 + 1, ρ 24, ρ 25, ρ 26, ρ 27 + 1, ρ 28, ρ 29, ρ 30, ρ 31, ρ 32, ρ 33, ρ 34, ρ 35, ρ 36, ρ 37, ρ 38] (γ 2)
  have hD : en49 (γ 0) (0, [ρ 23], γ 1) = .inl (0, [ρ 23 + 1], γ 2) := by
    unfold en49
    refine (if_pos (show (0 : Nat) = 0 by decide)).trans ?_
    refine (zLet_eq (show _ = γ 1 from rfl)).trans ?_
    refine (zLet_eq (show _ = ρ 23 from rfl)).trans ?_
    refine (zLet_eq m1).trans ?_
    refine (zLet_eq m4).trans ?_
    refine (zLet_eq m5).trans ?_
    refine (zLet_eq m6).trans ?_
    refine (zLet_eq m7).trans ?_
    refine (zLet_eq m8).trans ?_
    refine (zLet_eq m27).trans ?_
    refine (zLet_eq m28).trans ?_
    refine (zLet_eq m29).trans ?_
    refine (zLet_eq m35).trans ?_
    refine (zLet_eq m36).trans ?_
    refine (zLet_eq m37).trans ?_
    refine (if_neg w_0).trans ?_
    refine (zLet_eq m39).trans ?_
    refine (if_neg w_1).trans ?_
    refine (zLet_eq m40).trans ?_
    refine (zLet_eq m41).trans ?_
    refine (zLet_eq (show fn25 [ρ 40, ρ 41, 0] (γ 1) = (0, 0, γ 2) from l0.symm)).trans ?_
    refine (zLet_eq (show _ = γ 2 from rfl)).trans ?_
    rfl
  exact zGoo_ato hJ hD
theorem vn49a1_0 {S : Nat → zSpc} (hS6 : ∀ x g o v gz, S 6 x g o v gz → sn6 x g o v gz) (hS7 : ∀ x g o v gz, S 7 x g o v gz → sn7 x g o v gz) (hS8 : ∀ x g o v gz, S 8 x g o v gz → sn8 x g o v gz) (hS21 : ∀ x g o v gz, S 21 x g o v gz → sn21 x g o v gz) (hS25 : ∀ x g o v gz, S 25 x g o v gz → sn25 x g o v gz) (hS27 : ∀ x g o v gz, S 27 x g o v gz → sn27 x g o v gz) (hS28 : ∀ x g o v gz, S 28 x g o v gz → sn28 x g o v gz) (hS30 : ∀ x g o v gz, S 30 x g o v gz → sn30 x g o v gz) (hS31 : ∀ x g o v gz, S 31 x g o v gz → sn31 x g o v gz) (hS39 : ∀ x g o v gz, S 39 x g o v gz → sn39 x g o v gz) (hS43 : ∀ x g o v gz, S 43 x g o v gz → sn43 x g o v gz) (hS44 : ∀ x g o v gz, S 44 x g o v gz → sn44 x g o v gz) (hS45 : ∀ x g o v gz, S 45 x g o v gz → sn45 x g o v gz) (hS46 : ∀ x g o v gz, S 46 x g o v gz → sn46 x g o v gz) (hS47 : ∀ x g o v gz, S 47 x g o v gz → sn47 x g o v gz) {a : List Int} {g : rHp} : ∀ (ρ : Nat → Int) (γ : Nat → rHp), jn49 a g 1 (zAg (zNA a49_ 1) ρ) (γ 1) → zO 23 S a g q49a1_0 ρ γ → zGl (fun i vs g1 => jn49 a g i vs g1) (sn49 a g) q49a1_0 ρ γ := by
  intro ρ γ hJ h
  obtain ⟨ha, hg, hr, hf, hm, hc, hl⟩ := h
  have ha : a = [ρ 0, ρ 1, ρ 2, ρ 3, ρ 4, ρ 5, ρ 6, ρ 7, ρ 8, ρ 9, ρ 10, ρ 11, ρ 12, ρ 13, ρ 14, ρ 15, ρ 16, ρ 17, ρ 18, ρ 19, ρ 20, ρ 21, ρ 22] := ha
  subst ha
  subst hg
  have hJ : jn49 [ρ 0, ρ 1, ρ 2, ρ 3, ρ 4, ρ 5, ρ 6, ρ 7, ρ 8, ρ 9, ρ 10, ρ 11, ρ 12, ρ 13, ρ 14, ρ 15, ρ 16, ρ 17, ρ 18, ρ 19, ρ 20, ρ 21, ρ 22] (γ 0) 1 [ρ 0, ρ 1, ρ 2, ρ 3, ρ 4, ρ 5, ρ 6, ρ 7, ρ 8, ρ 9, ρ 10, ρ 11, ρ 12, ρ 13, ρ 14, ρ 15, ρ 16, ρ 17, ρ 18, ρ 19, ρ 20, ρ 21, ρ 22, ρ 23, ρ 24, ρ 25, ρ 26, ρ 27, ρ 28, ρ 29, ρ 30, ρ 31, ρ 32, ρ 33, ρ 34, ρ 35, ρ 36, ρ 37, ρ 38, ρ 39, ρ 40, ρ 41, ρ 42] (γ 1) := hJ
  obtain ⟨-, -, -, -, -, -, -, -, -, -, -, -, -, -, f14, -⟩ := hf
  have f14 : (0 : Int) ≤ -ρ 40 + ρ 23 := f14
  have w_0 : ρ 23 ≥ ρ 40 := by omega
  obtain ⟨-, m1, -, -, -, m5, -, -, -, -, -, -, -, -, -, -, -, -, -, -, -, -, -, -, -, -, -, -, m28, -, -, -, -, -, -, -, -, -, m38, -⟩ := hm
  have m1 : γ 0 15 0 34 = ρ 1 := m1
  have m5 : γ 0 15 0 33 = ρ 5 := m5
  have m28 : γ 1 15 0 44 = ρ 31 := m28
  have m38 : γ 1 15 0 48 = ρ 40 := m38
  obtain ⟨l0, -⟩ := hl
  have l0 : sn43 [ρ 26, ρ 1, ρ 27, ρ 28, ρ 30, ρ 29, ρ 4, ρ 5, ρ 31, ρ 41, ρ 15, ρ 34, ρ 35, ρ 36, ρ 37] (γ 1) 0 0 (γ 2) := hS43 _ _ _ _ _ l0
  show sn49 [ρ 0, ρ 1, ρ 2, ρ 3, ρ 4, ρ 5, ρ 6, ρ 7, ρ 8, ρ 9, ρ 10, ρ 11, ρ 12, ρ 13, ρ 14, ρ 15, ρ 16, ρ 17, ρ 18, ρ 19, ρ 20, ρ 21, ρ 22] (γ 0) 0 0 (γ 2)
  have hD : en49 (γ 0) (1, [ρ 23, ρ 24, ρ 25], γ 1) = .inr (0, 0, γ 2) := by
    unfold en49
    refine (if_neg (show ¬ (1 : Nat) = 0 by decide)).trans ?_
    refine (if_pos (show (1 : Nat) = 1 by decide)).trans ?_
    refine (zLet_eq (show _ = γ 1 from rfl)).trans ?_
    refine (zLet_eq (show _ = ρ 23 from rfl)).trans ?_
    refine (zLet_eq (show _ = ρ 24 from rfl)).trans ?_
    refine (zLet_eq (show _ = ρ 25 from rfl)).trans ?_
    refine (zLet_eq m1).trans ?_
    refine (zLet_eq m5).trans ?_
    refine (zLet_eq m28).trans ?_
    refine (zLet_eq m38).trans ?_
    refine (if_pos w_0).trans ?_
    refine (zLet_eq (show fn43 [] (γ 1) = (0, 0, γ 2) from l0.symm)).trans ?_
    refine (zLet_eq (show _ = γ 2 from rfl)).trans ?_
    refine (if_neg zQ0_).trans ?_
    rfl
  exact zGoo_aend hJ hD
theorem vn49a1_1 {S : Nat → zSpc} (hS6 : ∀ x g o v gz, S 6 x g o v gz → sn6 x g o v gz) (hS7 : ∀ x g o v gz, S 7 x g o v gz → sn7 x g o v gz) (hS8 : ∀ x g o v gz, S 8 x g o v gz → sn8 x g o v gz) (hS21 : ∀ x g o v gz, S 21 x g o v gz → sn21 x g o v gz) (hS25 : ∀ x g o v gz, S 25 x g o v gz → sn25 x g o v gz) (hS27 : ∀ x g o v gz, S 27 x g o v gz → sn27 x g o v gz) (hS28 : ∀ x g o v gz, S 28 x g o v gz → sn28 x g o v gz) (hS30 : ∀ x g o v gz, S 30 x g o v gz → sn30 x g o v gz) (hS31 : ∀ x g o v gz, S 31 x g o v gz → sn31 x g o v gz) (hS39 : ∀ x g o v gz, S 39 x g o v gz → sn39 x g o v gz) (hS43 : ∀ x g o v gz, S 43 x g o v gz → sn43 x g o v gz) (hS44 : ∀ x g o v gz, S 44 x g o v gz → sn44 x g o v gz) (hS45 : ∀ x g o v gz, S 45 x g o v gz → sn45 x g o v gz) (hS46 : ∀ x g o v gz, S 46 x g o v gz → sn46 x g o v gz) (hS47 : ∀ x g o v gz, S 47 x g o v gz → sn47 x g o v gz) {a : List Int} {g : rHp} : ∀ (ρ : Nat → Int) (γ : Nat → rHp), jn49 a g 1 (zAg (zNA a49_ 1) ρ) (γ 1) → zO 23 S a g q49a1_1 ρ γ → zGl (fun i vs g1 => jn49 a g i vs g1) (sn49 a g) q49a1_1 ρ γ := by
  intro ρ γ hJ h
  obtain ⟨ha, hg, hr, hf, hm, hc, hl⟩ := h
  have ha : a = [ρ 0, ρ 1, ρ 2, ρ 3, ρ 4, ρ 5, ρ 6, ρ 7, ρ 8, ρ 9, ρ 10, ρ 11, ρ 12, ρ 13, ρ 14, ρ 15, ρ 16, ρ 17, ρ 18, ρ 19, ρ 20, ρ 21, ρ 22] := ha
  subst ha
  subst hg
  have hJ : jn49 [ρ 0, ρ 1, ρ 2, ρ 3, ρ 4, ρ 5, ρ 6, ρ 7, ρ 8, ρ 9, ρ 10, ρ 11, ρ 12, ρ 13, ρ 14, ρ 15, ρ 16, ρ 17, ρ 18, ρ 19, ρ 20, ρ 21, ρ 22] (γ 0) 1 [ρ 0, ρ 1, ρ 2, ρ 3, ρ 4, ρ 5, ρ 6, ρ 7, ρ 8, ρ 9, ρ 10, ρ 11, ρ 12, ρ 13, ρ 14, ρ 15, ρ 16, ρ 17, ρ 18, ρ 19, ρ 20, ρ 21, ρ 22, ρ 23, ρ 24, ρ 25, ρ 26, ρ 27, ρ 28, ρ 29, ρ 30, ρ 31, ρ 32, ρ 33, ρ 34, ρ 35, ρ 36, ρ 37, ρ 38, ρ 39, ρ 40, ρ 41, ρ 42] (γ 1) := hJ
  obtain ⟨-, -, -, -, -, -, -, -, -, -, -, -, -, -, -, -, -, -, -, -, -, -, -, -, -, -, -, -, -, -, -, -, -, -, -, -, -, -, -, -, -, -, -, -, -, -, -, -, -, -, -, -, -, -, r54, -⟩ := hr
  have r54 : (46 : Int) ≤ ρ 54 ∧ ρ 54 ≤ 46 := r54
  obtain ⟨-, f1, -, -, -, -, -, -, -, -, -, -, -, -, -, -, -, -, f18, -⟩ := hf
  have f1 : (0 : Int) ≤ -ρ 53 + ρ 1 + (-1) := f1
  have f18 : (0 : Int) ≤ -ρ 40 + ρ 23 := f18
  obtain ⟨w_0, w_1, w_2⟩ : (ρ 23 ≥ ρ 40) ∧ (0 ≤ -ρ 53 + ρ 1 + (-1)) ∧ (ρ 54 = 46) := ⟨by omega, by omega, by omega⟩
  obtain ⟨-, m1, -, -, -, m5, -, -, -, -, -, -, -, -, -, -, -, -, -, -, -, -, -, -, -, -, -, -, m28, -, -, -, -, -, -, -, -, -, m38, -, -, -, -, -, -, -, -, -, -, -, -, -, m52, -⟩ := hm
  have m1 : γ 0 15 0 34 = ρ 1 := m1
  have m5 : γ 0 15 0 33 = ρ 5 := m5
  have m28 : γ 1 15 0 44 = ρ 31 := m28
  have m38 : γ 1 15 0 48 = ρ 40 := m38
  have m52 : γ 3 15 0 35 = ρ 53 := m52
  obtain ⟨l0, l1, l2, l3, l4, -⟩ := hl
  have l0 : sn43 [ρ 26, ρ 1, ρ 27, ρ 28, ρ 30, ρ 29, ρ 4, ρ 5, ρ 31, ρ 41, ρ 15, ρ 34, ρ 35, ρ 36, ρ 37] (γ 1) 0 1 (γ 2) := hS43 _ _ _ _ _ l0
  have l1 : sn7 [ρ 43, ρ 1] (γ 2) 0 0 (γ 3) := hS7 _ _ _ _ _ l1
  have l2 : sn6 [ρ 53, ρ 1] (γ 3) 0 (ρ 54) (γ 4) := hS6 _ _ _ _ _ l2
  have l3 : sn30 [ρ 46] (γ 4) 0 0 (γ 5) := hS30 _ _ _ _ _ l3
  have l4 : sn28 [ρ 1, ρ 15, ρ 52, ρ 46] (γ 5) 0 0 (γ 6) := hS28 _ _ _ _ _ l4
  show sn49 [ρ 0, ρ 1, ρ 2, ρ 3, ρ 4, ρ 5, ρ 6, ρ 7, ρ 8, ρ 9, ρ 10, ρ 11, ρ 12, ρ 13, ρ 14, ρ 15, ρ 16, ρ 17, ρ 18, ρ 19, ρ 20, ρ 21, ρ 22] (γ 0) 0 0 (γ 6)
  have hD : en49 (γ 0) (1, [ρ 23, ρ 24, ρ 25], γ 1) = .inr (0, 0, γ 6) := by
    unfold en49
    refine (if_neg (show ¬ (1 : Nat) = 0 by decide)).trans ?_
    refine (if_pos (show (1 : Nat) = 1 by decide)).trans ?_
    refine (zLet_eq (show _ = γ 1 from rfl)).trans ?_
    refine (zLet_eq (show _ = ρ 23 from rfl)).trans ?_
    refine (zLet_eq (show _ = ρ 24 from rfl)).trans ?_
    refine (zLet_eq (show _ = ρ 25 from rfl)).trans ?_
    refine (zLet_eq m1).trans ?_
    refine (zLet_eq m5).trans ?_
    refine (zLet_eq m28).trans ?_
    refine (zLet_eq m38).trans ?_
    refine (if_pos w_0).trans ?_
    refine (zLet_eq (show fn43 [] (γ 1) = (0, 1, γ 2) from l0.symm)).trans ?_
    refine (zLet_eq (show _ = γ 2 from rfl)).trans ?_
    refine (if_pos zQ1_).trans ?_
    refine (zLet_eq (show fn7 [] (γ 2) = (0, 0, γ 3) from l1.symm)).trans ?_
    refine (zLet_eq (show _ = γ 3 from rfl)).trans ?_
    refine (zLet_eq m52).trans ?_
    refine (zLet_eq (show fn6 [ρ 53] (γ 3) = (0, ρ 54, γ 4) from l2.symm)).trans ?_
    refine (zLet_eq (show _ = γ 4 from rfl)).trans ?_
    refine (if_pos w_1).trans ?_
    refine (zLet_eq (show _ = ρ 54 from rfl)).trans ?_
    refine (if_pos w_2).trans ?_
    refine (zLet_eq (show fn30 [] (γ 4) = (0, 0, γ 5) from l3.symm)).trans ?_
    refine (zLet_eq (show _ = γ 5 from rfl)).trans ?_
    refine (zLet_eq (show fn28 [] (γ 5) = (0, 0, γ 6) from l4.symm)).trans ?_
    refine (zLet_eq (show _ = γ 6 from rfl)).trans ?_
    refine (if_neg zQ0_).trans ?_
    rfl
  exact zGoo_aend hJ hD
theorem vn49a1_2 {S : Nat → zSpc} (hS6 : ∀ x g o v gz, S 6 x g o v gz → sn6 x g o v gz) (hS7 : ∀ x g o v gz, S 7 x g o v gz → sn7 x g o v gz) (hS8 : ∀ x g o v gz, S 8 x g o v gz → sn8 x g o v gz) (hS21 : ∀ x g o v gz, S 21 x g o v gz → sn21 x g o v gz) (hS25 : ∀ x g o v gz, S 25 x g o v gz → sn25 x g o v gz) (hS27 : ∀ x g o v gz, S 27 x g o v gz → sn27 x g o v gz) (hS28 : ∀ x g o v gz, S 28 x g o v gz → sn28 x g o v gz) (hS30 : ∀ x g o v gz, S 30 x g o v gz → sn30 x g o v gz) (hS31 : ∀ x g o v gz, S 31 x g o v gz → sn31 x g o v gz) (hS39 : ∀ x g o v gz, S 39 x g o v gz → sn39 x g o v gz) (hS43 : ∀ x g o v gz, S 43 x g o v gz → sn43 x g o v gz) (hS44 : ∀ x g o v gz, S 44 x g o v gz → sn44 x g o v gz) (hS45 : ∀ x g o v gz, S 45 x g o v gz → sn45 x g o v gz) (hS46 : ∀ x g o v gz, S 46 x g o v gz → sn46 x g o v gz) (hS47 : ∀ x g o v gz, S 47 x g o v gz → sn47 x g o v gz) {a : List Int} {g : rHp} : ∀ (ρ : Nat → Int) (γ : Nat → rHp), jn49 a g 1 (zAg (zNA a49_ 1) ρ) (γ 1) → zO 23 S a g q49a1_2 ρ γ → zGl (fun i vs g1 => jn49 a g i vs g1) (sn49 a g) q49a1_2 ρ γ := by
  intro ρ γ hJ h
  obtain ⟨ha, hg, hr, hf, hm, hc, hl⟩ := h
  have ha : a = [ρ 0, ρ 1, ρ 2, ρ 3, ρ 4, ρ 5, ρ 6, ρ 7, ρ 8, ρ 9, ρ 10, ρ 11, ρ 12, ρ 13, ρ 14, ρ 15, ρ 16, ρ 17, ρ 18, ρ 19, ρ 20, ρ 21, ρ 22] := ha
  subst ha
  subst hg
  have hJ : jn49 [ρ 0, ρ 1, ρ 2, ρ 3, ρ 4, ρ 5, ρ 6, ρ 7, ρ 8, ρ 9, ρ 10, ρ 11, ρ 12, ρ 13, ρ 14, ρ 15, ρ 16, ρ 17, ρ 18, ρ 19, ρ 20, ρ 21, ρ 22] (γ 0) 1 [ρ 0, ρ 1, ρ 2, ρ 3, ρ 4, ρ 5, ρ 6, ρ 7, ρ 8, ρ 9, ρ 10, ρ 11, ρ 12, ρ 13, ρ 14, ρ 15, ρ 16, ρ 17, ρ 18, ρ 19, ρ 20, ρ 21, ρ 22, ρ 23, ρ 24, ρ 25, ρ 26, ρ 27, ρ 28, ρ 29, ρ 30, ρ 31, ρ 32, ρ 33, ρ 34, ρ 35, ρ 36, ρ 37, ρ 38, ρ 39, ρ 40, ρ 41, ρ 42] (γ 1) := hJ
  obtain ⟨-, -, -, -, -, -, -, -, -, -, -, -, -, -, -, -, -, -, -, -, -, -, -, -, -, -, -, -, -, -, -, -, -, -, -, -, -, -, -, -, -, -, -, -, -, -, -, -, -, -, -, -, -, -, r54, -⟩ := hr
  have r54 : (46 : Int) ≤ ρ 54 ∧ ρ 54 ≤ 46 := r54
  obtain ⟨f0, -, -, -, -, -, -, -, -, -, -, -, -, -, -, -, -, f17, -⟩ := hf
  have f0 : (0 : Int) ≤ -ρ 53 + ρ 1 + (-1) := f0
  have f17 : (0 : Int) ≤ -ρ 40 + ρ 23 := f17
  obtain ⟨w_0, w_1, w_2⟩ : (ρ 23 ≥ ρ 40) ∧ (0 ≤ -ρ 53 + ρ 1 + (-1)) ∧ (ρ 54 = 46) := ⟨by omega, by omega, by omega⟩
  obtain ⟨-, m1, -, -, -, m5, -, -, -, -, -, -, -, -, -, -, -, -, -, -, -, -, -, -, -, -, -, -, m28, -, -, -, -, -, -, -, -, -, m38, -, -, -, -, -, -, -, -, -, -, -, -, -, m52, -⟩ := hm
  have m1 : γ 0 15 0 34 = ρ 1 := m1
  have m5 : γ 0 15 0 33 = ρ 5 := m5
  have m28 : γ 1 15 0 44 = ρ 31 := m28
  have m38 : γ 1 15 0 48 = ρ 40 := m38
  have m52 : γ 3 15 0 35 = ρ 53 := m52
  obtain ⟨⟨⟨-, c7⟩, -⟩, c9⟩ := hc
  have c7 : γ 7 = rUp (γ 6) 15 0 35 (ρ 53 + 1) := c7
  have c9 : γ 9 = rUp (γ 8) 15 0 33 (ρ 5 + 1) := c9
  obtain ⟨l0, l1, l2, l3, l4, l5, -⟩ := hl
  have l0 : sn43 [ρ 26, ρ 1, ρ 27, ρ 28, ρ 30, ρ 29, ρ 4, ρ 5, ρ 31, ρ 41, ρ 15, ρ 34, ρ 35, ρ 36, ρ 37] (γ 1) 0 1 (γ 2) := hS43 _ _ _ _ _ l0
  have l1 : sn7 [ρ 43, ρ 1] (γ 2) 0 0 (γ 3) := hS7 _ _ _ _ _ l1
  have l2 : sn6 [ρ 53, ρ 1] (γ 3) 0 (ρ 54) (γ 4) := hS6 _ _ _ _ _ l2
  have l3 : sn30 [ρ 46] (γ 4) 0 0 (γ 5) := hS30 _ _ _ _ _ l3
  have l4 : sn28 [ρ 1, ρ 15, ρ 52, ρ 46] (γ 5) 0 1 (γ 6) := hS28 _ _ _ _ _ l4
  have l5 : sn44 [ρ 31, ρ 48, ρ 52] (γ 7) 0 0 (γ 8) := hS44 _ _ _ _ _ l5
  show sn49 [ρ 0, ρ 1, ρ 2, ρ 3, ρ 4, ρ 5, ρ 6, ρ 7, ρ 8, ρ 9, ρ 10, ρ 11, ρ 12, ρ 13, ρ 14, ρ 15, ρ 16, ρ 17, ρ 18, ρ 19, ρ 20, ρ 21, ρ 22] (γ 0) 0 1 (γ 9)
  have hD : en49 (γ 0) (1, [ρ 23, ρ 24, ρ 25], γ 1) = .inr (0, 1, γ 9) := by
    unfold en49
    refine (if_neg (show ¬ (1 : Nat) = 0 by decide)).trans ?_
    refine (if_pos (show (1 : Nat) = 1 by decide)).trans ?_
    refine (zLet_eq (show _ = γ 1 from rfl)).trans ?_
    refine (zLet_eq (show _ = ρ 23 from rfl)).trans ?_
    refine (zLet_eq (show _ = ρ 24 from rfl)).trans ?_
    refine (zLet_eq (show _ = ρ 25 from rfl)).trans ?_
    refine (zLet_eq m1).trans ?_
    refine (zLet_eq m5).trans ?_
    refine (zLet_eq m28).trans ?_
    refine (zLet_eq m38).trans ?_
    refine (if_pos w_0).trans ?_
    refine (zLet_eq (show fn43 [] (γ 1) = (0, 1, γ 2) from l0.symm)).trans ?_
    refine (zLet_eq (show _ = γ 2 from rfl)).trans ?_
    refine (if_pos zQ1_).trans ?_
    refine (zLet_eq (show fn7 [] (γ 2) = (0, 0, γ 3) from l1.symm)).trans ?_
    refine (zLet_eq (show _ = γ 3 from rfl)).trans ?_
    refine (zLet_eq m52).trans ?_
    refine (zLet_eq (show fn6 [ρ 53] (γ 3) = (0, ρ 54, γ 4) from l2.symm)).trans ?_
    refine (zLet_eq (show _ = γ 4 from rfl)).trans ?_
    refine (if_pos w_1).trans ?_
    refine (zLet_eq (show _ = ρ 54 from rfl)).trans ?_
    refine (if_pos w_2).trans ?_
    refine (zLet_eq (show fn30 [] (γ 4) = (0, 0, γ 5) from l3.symm)).trans ?_
    refine (zLet_eq (show _ = γ 5 from rfl)).trans ?_
    refine (zLet_eq (show fn28 [] (γ 5) = (0, 1, γ 6) from l4.symm)).trans ?_
    refine (zLet_eq (show _ = γ 6 from rfl)).trans ?_
    refine (if_pos zQ1_).trans ?_
    refine (zLet_eq c7.symm).trans ?_
    refine (zLet_eq (show fn44 [] (γ 7) = (0, 0, γ 8) from l5.symm)).trans ?_
    refine (zLet_eq (show _ = γ 8 from rfl)).trans ?_
    refine (zLet_eq c9.symm).trans ?_
    rfl
  exact zGoo_aend hJ hD
theorem vn49a1_3 {S : Nat → zSpc} (hS6 : ∀ x g o v gz, S 6 x g o v gz → sn6 x g o v gz) (hS7 : ∀ x g o v gz, S 7 x g o v gz → sn7 x g o v gz) (hS8 : ∀ x g o v gz, S 8 x g o v gz → sn8 x g o v gz) (hS21 : ∀ x g o v gz, S 21 x g o v gz → sn21 x g o v gz) (hS25 : ∀ x g o v gz, S 25 x g o v gz → sn25 x g o v gz) (hS27 : ∀ x g o v gz, S 27 x g o v gz → sn27 x g o v gz) (hS28 : ∀ x g o v gz, S 28 x g o v gz → sn28 x g o v gz) (hS30 : ∀ x g o v gz, S 30 x g o v gz → sn30 x g o v gz) (hS31 : ∀ x g o v gz, S 31 x g o v gz → sn31 x g o v gz) (hS39 : ∀ x g o v gz, S 39 x g o v gz → sn39 x g o v gz) (hS43 : ∀ x g o v gz, S 43 x g o v gz → sn43 x g o v gz) (hS44 : ∀ x g o v gz, S 44 x g o v gz → sn44 x g o v gz) (hS45 : ∀ x g o v gz, S 45 x g o v gz → sn45 x g o v gz) (hS46 : ∀ x g o v gz, S 46 x g o v gz → sn46 x g o v gz) (hS47 : ∀ x g o v gz, S 47 x g o v gz → sn47 x g o v gz) {a : List Int} {g : rHp} : ∀ (ρ : Nat → Int) (γ : Nat → rHp), jn49 a g 1 (zAg (zNA a49_ 1) ρ) (γ 1) → zO 23 S a g q49a1_3 ρ γ → zGl (fun i vs g1 => jn49 a g i vs g1) (sn49 a g) q49a1_3 ρ γ := by
  intro ρ γ hJ h
  obtain ⟨ha, hg, hr, hf, hm, hc, hl⟩ := h
  have ha : a = [ρ 0, ρ 1, ρ 2, ρ 3, ρ 4, ρ 5, ρ 6, ρ 7, ρ 8, ρ 9, ρ 10, ρ 11, ρ 12, ρ 13, ρ 14, ρ 15, ρ 16, ρ 17, ρ 18, ρ 19, ρ 20, ρ 21, ρ 22] := ha
  subst ha
  subst hg
  have hJ : jn49 [ρ 0, ρ 1, ρ 2, ρ 3, ρ 4, ρ 5, ρ 6, ρ 7, ρ 8, ρ 9, ρ 10, ρ 11, ρ 12, ρ 13, ρ 14, ρ 15, ρ 16, ρ 17, ρ 18, ρ 19, ρ 20, ρ 21, ρ 22] (γ 0) 1 [ρ 0, ρ 1, ρ 2, ρ 3, ρ 4, ρ 5, ρ 6, ρ 7, ρ 8, ρ 9, ρ 10, ρ 11, ρ 12, ρ 13, ρ 14, ρ 15, ρ 16, ρ 17, ρ 18, ρ 19, ρ 20, ρ 21, ρ 22, ρ 23, ρ 24, ρ 25, ρ 26, ρ 27, ρ 28, ρ 29, ρ 30, ρ 31, ρ 32, ρ 33, ρ 34, ρ 35, ρ 36, ρ 37, ρ 38, ρ 39, ρ 40, ρ 41, ρ 42] (γ 1) := hJ
  obtain ⟨-, -, -, -, -, -, -, -, -, -, -, -, -, -, -, -, -, -, -, -, -, -, -, -, -, -, -, -, -, -, -, -, -, -, -, -, -, -, -, -, -, -, -, -, -, -, -, -, -, -, -, -, -, -, r54, -⟩ := hr
  have r54 : ((-128) : Int) ≤ ρ 54 ∧ ρ 54 ≤ 127 := r54
  obtain ⟨-, -, f2, -, -, -, -, -, -, -, -, -, -, -, -, -, -, -, -, f19, -⟩ := hf
  have f2 : (0 : Int) ≤ -ρ 53 + ρ 1 + (-1) := f2
  have f19 : (0 : Int) ≤ -ρ 40 + ρ 23 := f19
  obtain ⟨w_0, w_1⟩ : (ρ 23 ≥ ρ 40) ∧ (0 ≤ -ρ 53 + ρ 1 + (-1)) := ⟨by omega, by omega⟩
  obtain ⟨-, m1, -, -, -, m5, -, -, -, -, -, -, -, -, -, -, -, -, -, -, -, -, -, -, -, -, -, -, m28, -, -, -, -, -, -, -, -, -, m38, -, -, -, -, -, -, -, -, -, -, -, -, -, m52, -⟩ := hm
  have m1 : γ 0 15 0 34 = ρ 1 := m1
  have m5 : γ 0 15 0 33 = ρ 5 := m5
  have m28 : γ 1 15 0 44 = ρ 31 := m28
  have m38 : γ 1 15 0 48 = ρ 40 := m38
  have m52 : γ 3 15 0 35 = ρ 53 := m52
  obtain ⟨l0, l1, l2, l3, l4, -⟩ := hl
  have l0 : sn43 [ρ 26, ρ 1, ρ 27, ρ 28, ρ 30, ρ 29, ρ 4, ρ 5, ρ 31, ρ 41, ρ 15, ρ 34, ρ 35, ρ 36, ρ 37] (γ 1) 0 1 (γ 2) := hS43 _ _ _ _ _ l0
  have l1 : sn7 [ρ 43, ρ 1] (γ 2) 0 0 (γ 3) := hS7 _ _ _ _ _ l1
  have l2 : sn6 [ρ 53, ρ 1] (γ 3) 0 (ρ 54) (γ 4) := hS6 _ _ _ _ _ l2
  have l3 : ρ 54 ≠ 46 := l3
  have l4 : sn8 [ρ 53, ρ 1, ρ 15] (γ 4) 0 0 (γ 5) := hS8 _ _ _ _ _ l4
  have wl_0 : ¬ (ρ 54 = 46) := by omega
  show sn49 [ρ 0, ρ 1, ρ 2, ρ 3, ρ 4, ρ 5, ρ 6, ρ 7, ρ 8, ρ 9, ρ 10, ρ 11, ρ 12, ρ 13, ρ 14, ρ 15, ρ 16, ρ 17, ρ 18, ρ 19, ρ 20, ρ 21, ρ 22] (γ 0) 0 0 (γ 5)
  have hD : en49 (γ 0) (1, [ρ 23, ρ 24, ρ 25], γ 1) = .inr (0, 0, γ 5) := by
    unfold en49
    refine (if_neg (show ¬ (1 : Nat) = 0 by decide)).trans ?_
    refine (if_pos (show (1 : Nat) = 1 by decide)).trans ?_
    refine (zLet_eq (show _ = γ 1 from rfl)).trans ?_
    refine (zLet_eq (show _ = ρ 23 from rfl)).trans ?_
    refine (zLet_eq (show _ = ρ 24 from rfl)).trans ?_
    refine (zLet_eq (show _ = ρ 25 from rfl)).trans ?_
    refine (zLet_eq m1).trans ?_
    refine (zLet_eq m5).trans ?_
    refine (zLet_eq m28).trans ?_
    refine (zLet_eq m38).trans ?_
    refine (if_pos w_0).trans ?_
    refine (zLet_eq (show fn43 [] (γ 1) = (0, 1, γ 2) from l0.symm)).trans ?_
    refine (zLet_eq (show _ = γ 2 from rfl)).trans ?_
    refine (if_pos zQ1_).trans ?_
    refine (zLet_eq (show fn7 [] (γ 2) = (0, 0, γ 3) from l1.symm)).trans ?_
    refine (zLet_eq (show _ = γ 3 from rfl)).trans ?_
    refine (zLet_eq m52).trans ?_
    refine (zLet_eq (show fn6 [ρ 53] (γ 3) = (0, ρ 54, γ 4) from l2.symm)).trans ?_
    refine (zLet_eq (show _ = γ 4 from rfl)).trans ?_
    refine (if_pos w_1).trans ?_
    refine (zLet_eq (show _ = ρ 54 from rfl)).trans ?_
    refine (if_neg wl_0).trans ?_
    refine (zLet_eq (show fn8 [ρ 53] (γ 4) = (0, 0, γ 5) from l4.symm)).trans ?_
    refine (zLet_eq (show _ = γ 5 from rfl)).trans ?_
    rfl
  exact zGoo_aend hJ hD
theorem vn49a1_4 {S : Nat → zSpc} (hS6 : ∀ x g o v gz, S 6 x g o v gz → sn6 x g o v gz) (hS7 : ∀ x g o v gz, S 7 x g o v gz → sn7 x g o v gz) (hS8 : ∀ x g o v gz, S 8 x g o v gz → sn8 x g o v gz) (hS21 : ∀ x g o v gz, S 21 x g o v gz → sn21 x g o v gz) (hS25 : ∀ x g o v gz, S 25 x g o v gz → sn25 x g o v gz) (hS27 : ∀ x g o v gz, S 27 x g o v gz → sn27 x g o v gz) (hS28 : ∀ x g o v gz, S 28 x g o v gz → sn28 x g o v gz) (hS30 : ∀ x g o v gz, S 30 x g o v gz → sn30 x g o v gz) (hS31 : ∀ x g o v gz, S 31 x g o v gz → sn31 x g o v gz) (hS39 : ∀ x g o v gz, S 39 x g o v gz → sn39 x g o v gz) (hS43 : ∀ x g o v gz, S 43 x g o v gz → sn43 x g o v gz) (hS44 : ∀ x g o v gz, S 44 x g o v gz → sn44 x g o v gz) (hS45 : ∀ x g o v gz, S 45 x g o v gz → sn45 x g o v gz) (hS46 : ∀ x g o v gz, S 46 x g o v gz → sn46 x g o v gz) (hS47 : ∀ x g o v gz, S 47 x g o v gz → sn47 x g o v gz) {a : List Int} {g : rHp} : ∀ (ρ : Nat → Int) (γ : Nat → rHp), jn49 a g 1 (zAg (zNA a49_ 1) ρ) (γ 1) → zO 23 S a g q49a1_4 ρ γ → zGl (fun i vs g1 => jn49 a g i vs g1) (sn49 a g) q49a1_4 ρ γ := by
  intro ρ γ hJ h
  obtain ⟨ha, hg, hr, hf, hm, hc, hl⟩ := h
  have ha : a = [ρ 0, ρ 1, ρ 2, ρ 3, ρ 4, ρ 5, ρ 6, ρ 7, ρ 8, ρ 9, ρ 10, ρ 11, ρ 12, ρ 13, ρ 14, ρ 15, ρ 16, ρ 17, ρ 18, ρ 19, ρ 20, ρ 21, ρ 22] := ha
  subst ha
  subst hg
  have hJ : jn49 [ρ 0, ρ 1, ρ 2, ρ 3, ρ 4, ρ 5, ρ 6, ρ 7, ρ 8, ρ 9, ρ 10, ρ 11, ρ 12, ρ 13, ρ 14, ρ 15, ρ 16, ρ 17, ρ 18, ρ 19, ρ 20, ρ 21, ρ 22] (γ 0) 1 [ρ 0, ρ 1, ρ 2, ρ 3, ρ 4, ρ 5, ρ 6, ρ 7, ρ 8, ρ 9, ρ 10, ρ 11, ρ 12, ρ 13, ρ 14, ρ 15, ρ 16, ρ 17, ρ 18, ρ 19, ρ 20, ρ 21, ρ 22, ρ 23, ρ 24, ρ 25, ρ 26, ρ 27, ρ 28, ρ 29, ρ 30, ρ 31, ρ 32, ρ 33, ρ 34, ρ 35, ρ 36, ρ 37, ρ 38, ρ 39, ρ 40, ρ 41, ρ 42] (γ 1) := hJ
  obtain ⟨-, -, f2, -, -, -, -, -, -, -, -, -, -, -, -, -, -, -, -, f19, -⟩ := hf
  have f2 : (0 : Int) ≤ ρ 53 + -ρ 1 := f2
  have f19 : (0 : Int) ≤ -ρ 40 + ρ 23 := f19
  obtain ⟨w_0, w_1⟩ : (ρ 23 ≥ ρ 40) ∧ (¬ (0 ≤ -ρ 53 + ρ 1 + (-1))) := ⟨by omega, by omega⟩
  obtain ⟨-, m1, -, -, -, m5, -, -, -, -, -, -, -, -, -, -, -, -, -, -, -, -, -, -, -, -, -, -, m28, -, -, -, -, -, -, -, -, -, m38, -, -, -, -, -, -, -, -, -, -, -, -, -, m52, -⟩ := hm
  have m1 : γ 0 15 0 34 = ρ 1 := m1
  have m5 : γ 0 15 0 33 = ρ 5 := m5
  have m28 : γ 1 15 0 44 = ρ 31 := m28
  have m38 : γ 1 15 0 48 = ρ 40 := m38
  have m52 : γ 3 15 0 35 = ρ 53 := m52
  obtain ⟨l0, l1, l2, l3, -⟩ := hl
  have l0 : sn43 [ρ 26, ρ 1, ρ 27, ρ 28, ρ 30, ρ 29, ρ 4, ρ 5, ρ 31, ρ 41, ρ 15, ρ 34, ρ 35, ρ 36, ρ 37] (γ 1) 0 1 (γ 2) := hS43 _ _ _ _ _ l0
  have l1 : sn7 [ρ 43, ρ 1] (γ 2) 0 0 (γ 3) := hS7 _ _ _ _ _ l1
  have l2 : sn6 [ρ 53, ρ 1] (γ 3) 0 (-1) (γ 4) := hS6 _ _ _ _ _ l2
  have l3 : sn8 [ρ 53, ρ 1, ρ 15] (γ 4) 0 0 (γ 5) := hS8 _ _ _ _ _ l3
  show sn49 [ρ 0, ρ 1, ρ 2, ρ 3, ρ 4, ρ 5, ρ 6, ρ 7, ρ 8, ρ 9, ρ 10, ρ 11, ρ 12, ρ 13, ρ 14, ρ 15, ρ 16, ρ 17, ρ 18, ρ 19, ρ 20, ρ 21, ρ 22] (γ 0) 0 0 (γ 5)
  have hD : en49 (γ 0) (1, [ρ 23, ρ 24, ρ 25], γ 1) = .inr (0, 0, γ 5) := by
    unfold en49
    refine (if_neg (show ¬ (1 : Nat) = 0 by decide)).trans ?_
    refine (if_pos (show (1 : Nat) = 1 by decide)).trans ?_
    refine (zLet_eq (show _ = γ 1 from rfl)).trans ?_
    refine (zLet_eq (show _ = ρ 23 from rfl)).trans ?_
    refine (zLet_eq (show _ = ρ 24 from rfl)).trans ?_
    refine (zLet_eq (show _ = ρ 25 from rfl)).trans ?_
    refine (zLet_eq m1).trans ?_
    refine (zLet_eq m5).trans ?_
    refine (zLet_eq m28).trans ?_
    refine (zLet_eq m38).trans ?_
    refine (if_pos w_0).trans ?_
    refine (zLet_eq (show fn43 [] (γ 1) = (0, 1, γ 2) from l0.symm)).trans ?_
    refine (zLet_eq (show _ = γ 2 from rfl)).trans ?_
    refine (if_pos zQ1_).trans ?_
    refine (zLet_eq (show fn7 [] (γ 2) = (0, 0, γ 3) from l1.symm)).trans ?_
    refine (zLet_eq (show _ = γ 3 from rfl)).trans ?_
    refine (zLet_eq m52).trans ?_
    refine (zLet_eq (show fn6 [ρ 53] (γ 3) = (0, (-1), γ 4) from l2.symm)).trans ?_
    refine (zLet_eq (show _ = γ 4 from rfl)).trans ?_
    refine (if_neg w_1).trans ?_
    refine (zLet_eq (show fn8 [ρ 53] (γ 4) = (0, 0, γ 5) from l3.symm)).trans ?_
    refine (zLet_eq (show _ = γ 5 from rfl)).trans ?_
    rfl
  exact zGoo_aend hJ hD
theorem vn49a1_5 {S : Nat → zSpc} (hS6 : ∀ x g o v gz, S 6 x g o v gz → sn6 x g o v gz) (hS7 : ∀ x g o v gz, S 7 x g o v gz → sn7 x g o v gz) (hS8 : ∀ x g o v gz, S 8 x g o v gz → sn8 x g o v gz) (hS21 : ∀ x g o v gz, S 21 x g o v gz → sn21 x g o v gz) (hS25 : ∀ x g o v gz, S 25 x g o v gz → sn25 x g o v gz) (hS27 : ∀ x g o v gz, S 27 x g o v gz → sn27 x g o v gz) (hS28 : ∀ x g o v gz, S 28 x g o v gz → sn28 x g o v gz) (hS30 : ∀ x g o v gz, S 30 x g o v gz → sn30 x g o v gz) (hS31 : ∀ x g o v gz, S 31 x g o v gz → sn31 x g o v gz) (hS39 : ∀ x g o v gz, S 39 x g o v gz → sn39 x g o v gz) (hS43 : ∀ x g o v gz, S 43 x g o v gz → sn43 x g o v gz) (hS44 : ∀ x g o v gz, S 44 x g o v gz → sn44 x g o v gz) (hS45 : ∀ x g o v gz, S 45 x g o v gz → sn45 x g o v gz) (hS46 : ∀ x g o v gz, S 46 x g o v gz → sn46 x g o v gz) (hS47 : ∀ x g o v gz, S 47 x g o v gz → sn47 x g o v gz) {a : List Int} {g : rHp} : ∀ (ρ : Nat → Int) (γ : Nat → rHp), jn49 a g 1 (zAg (zNA a49_ 1) ρ) (γ 1) → zO 23 S a g q49a1_5 ρ γ → zGl (fun i vs g1 => jn49 a g i vs g1) (sn49 a g) q49a1_5 ρ γ := by
  intro ρ γ hJ h
  obtain ⟨ha, hg, hr, hf, hm, hc, hl⟩ := h
  have ha : a = [ρ 0, ρ 1, ρ 2, ρ 3, ρ 4, ρ 5, ρ 6, ρ 7, ρ 8, ρ 9, ρ 10, ρ 11, ρ 12, ρ 13, ρ 14, ρ 15, ρ 16, ρ 17, ρ 18, ρ 19, ρ 20, ρ 21, ρ 22] := ha
  subst ha
  subst hg
  have hJ : jn49 [ρ 0, ρ 1, ρ 2, ρ 3, ρ 4, ρ 5, ρ 6, ρ 7, ρ 8, ρ 9, ρ 10, ρ 11, ρ 12, ρ 13, ρ 14, ρ 15, ρ 16, ρ 17, ρ 18, ρ 19, ρ 20, ρ 21, ρ 22] (γ 0) 1 [ρ 0, ρ 1, ρ 2, ρ 3, ρ 4, ρ 5, ρ 6, ρ 7, ρ 8, ρ 9, ρ 10, ρ 11, ρ 12, ρ 13, ρ 14, ρ 15, ρ 16, ρ 17, ρ 18, ρ 19, ρ 20, ρ 21, ρ 22, ρ 23, ρ 24, ρ 25, ρ 26, ρ 27, ρ 28, ρ 29, ρ 30, ρ 31, ρ 32, ρ 33, ρ 34, ρ 35, ρ 36, ρ 37, ρ 38, ρ 39, ρ 40, ρ 41, ρ 42] (γ 1) := hJ
  obtain ⟨f0, -⟩ := hf
  have f0 : (0 : Int) ≤ ρ 40 + -ρ 23 + (-1) := f0
  have w_0 : ¬ (ρ 23 ≥ ρ 40) := by omega
  obtain ⟨-, m1, -, -, -, m5, -, -, -, -, -, -, -, -, -, -, -, -, -, -, -, -, -, -, -, -, -, -, m28, -, -, -, -, -, -, -, -, -, m38, -, -, m41, m42, -⟩ := hm
  have m1 : γ 0 15 0 34 = ρ 1 := m1
  have m5 : γ 0 15 0 33 = ρ 5 := m5
  have m28 : γ 1 15 0 44 = ρ 31 := m28
  have m38 : γ 1 15 0 48 = ρ 40 := m38
  have m41 : γ 1 85 0 (ρ 23) = ρ 43 := m41
  have m42 : γ 1 87 0 (ρ 23) = ρ 44 := m42
  obtain ⟨⟨-, c2⟩, c3⟩ := hc
  have c2 : γ 2 = rUp (γ 1) 70 0 (4 * ρ 31 + ρ 23) (ρ 43) := c2
  have c3 : γ 3 = rUp (γ 2) 76 0 (4 * ρ 31 + ρ 23) (ρ 44) := c3
  show jn49 [ρ 0, ρ 1, ρ 2, ρ 3, ρ 4, ρ 5, ρ 6, ρ 7, ρ 8, ρ 9, ρ 10, ρ 11, ρ 12, ρ 13, ρ 14, ρ 15, ρ 16, ρ 17, ρ 18, ρ 19, ρ 20, ρ 21, ρ 22] (γ 0) 1 [ρ 0, ρ 1, ρ 2, ρ 3, ρ 4, ρ 5, ρ 6, ρ 7, ρ 8, ρ 9, ρ 10, ρ 11, ρ 12, ρ 13, ρ 14, ρ 15, ρ 16, ρ 17, ρ 18, ρ 19, ρ 20, ρ 21, ρ 22, ρ 23 + 1, ρ 24, ρ 25, ρ 26, ρ 27, ρ 28, ρ 29, ρ 30, ρ 31, ρ 32, ρ 33, ρ 34, ρ 35, ρ 36, ρ 37, ρ 38, ρ 39, ρ 40, ρ 41, ρ 42] (γ 3)
  have hD : en49 (γ 0) (1, [ρ 23, ρ 24, ρ 25], γ 1) = .inl (1, [ρ 23 + 1, ρ 24, ρ 25], γ 3) := by
    unfold en49
    refine (if_neg (show ¬ (1 : Nat) = 0 by decide)).trans ?_
    refine (if_pos (show (1 : Nat) = 1 by decide)).trans ?_
    refine (zLet_eq (show _ = γ 1 from rfl)).trans ?_
    refine (zLet_eq (show _ = ρ 23 from rfl)).trans ?_
    refine (zLet_eq (show _ = ρ 24 from rfl)).trans ?_
    refine (zLet_eq (show _ = ρ 25 from rfl)).trans ?_
    refine (zLet_eq m1).trans ?_
    refine (zLet_eq m5).trans ?_
    refine (zLet_eq m28).trans ?_
    refine (zLet_eq m38).trans ?_
    refine (if_neg w_0).trans ?_
    refine (zLet_eq m41).trans ?_
    refine (zLet_eq c2.symm).trans ?_
    refine (zLet_eq m42).trans ?_
    refine (zLet_eq c3.symm).trans ?_
    rfl
  exact zGoo_ato hJ hD
theorem yn49 {S : Nat → zSpc} (hS6 : ∀ x g o v gz, S 6 x g o v gz → sn6 x g o v gz) (hS7 : ∀ x g o v gz, S 7 x g o v gz → sn7 x g o v gz) (hS8 : ∀ x g o v gz, S 8 x g o v gz → sn8 x g o v gz) (hS21 : ∀ x g o v gz, S 21 x g o v gz → sn21 x g o v gz) (hS25 : ∀ x g o v gz, S 25 x g o v gz → sn25 x g o v gz) (hS27 : ∀ x g o v gz, S 27 x g o v gz → sn27 x g o v gz) (hS28 : ∀ x g o v gz, S 28 x g o v gz → sn28 x g o v gz) (hS30 : ∀ x g o v gz, S 30 x g o v gz → sn30 x g o v gz) (hS31 : ∀ x g o v gz, S 31 x g o v gz → sn31 x g o v gz) (hS39 : ∀ x g o v gz, S 39 x g o v gz → sn39 x g o v gz) (hS43 : ∀ x g o v gz, S 43 x g o v gz → sn43 x g o v gz) (hS44 : ∀ x g o v gz, S 44 x g o v gz → sn44 x g o v gz) (hS45 : ∀ x g o v gz, S 45 x g o v gz → sn45 x g o v gz) (hS46 : ∀ x g o v gz, S 46 x g o v gz → sn46 x g o v gz) (hS47 : ∀ x g o v gz, S 47 x g o v gz → sn47 x g o v gz) : ∀ x g o v gz, zSem uW uT w49_.2.2.2.1 w49_.2.2.1.1.length S q49 (fun i => q49a.getD i []) (zNA a49_) x g o v gz → sn49 x g o v gz := by
  intro a g o v gz h
  exact zSem_all (l0 := q49) (las := q49a) (S := S) (J := (fun i vs g1 => jn49 a g i vs g1)) (P := sn49 a g) (fun _ => (show zAll _ [q49_0, q49_1] from (zAll_c (vn49_0 hS6 hS7 hS8 hS21 hS25 hS27 hS28 hS30 hS31 hS39 hS43 hS44 hS45 hS46 hS47) (zAll_c (vn49_1 hS6 hS7 hS8 hS21 hS25 hS27 hS28 hS30 hS31 hS39 hS43 hS44 hS45 hS46 hS47) zAll_n)))) (fun _ => (show zAllI _ 0 [q49a0, q49a1] from ⟨(show zAll _ [q49a0_0, q49a0_1, q49a0_2, q49a0_3, q49a0_4, q49a0_5, q49a0_6, q49a0_7, q49a0_8, q49a0_9, q49a0_10, q49a0_11, q49a0_12, q49a0_13, q49a0_14, q49a0_15, q49a0_16, q49a0_17, q49a0_18, q49a0_19, q49a0_20, q49a0_21, q49a0_22, q49a0_23, q49a0_24, q49a0_25, q49a0_26, q49a0_27, q49a0_28, q49a0_29] from (zAll_c (vn49a0_0 hS6 hS7 hS8 hS21 hS25 hS27 hS28 hS30 hS31 hS39 hS43 hS44 hS45 hS46 hS47) (zAll_c (vn49a0_1 hS6 hS7 hS8 hS21 hS25 hS27 hS28 hS30 hS31 hS39 hS43 hS44 hS45 hS46 hS47) (zAll_c (vn49a0_2 hS6 hS7 hS8 hS21 hS25 hS27 hS28 hS30 hS31 hS39 hS43 hS44 hS45 hS46 hS47) (zAll_c (vn49a0_3 hS6 hS7 hS8 hS21 hS25 hS27 hS28 hS30 hS31 hS39 hS43 hS44 hS45 hS46 hS47) (zAll_c (vn49a0_4 hS6 hS7 hS8 hS21 hS25 hS27 hS28 hS30 hS31 hS39 hS43 hS44 hS45 hS46 hS47) (zAll_c (vn49a0_5 hS6 hS7 hS8 hS21 hS25 hS27 hS28 hS30 hS31 hS39 hS43 hS44 hS45 hS46 hS47) (zAll_c (vn49a0_6 hS6 hS7 hS8 hS21 hS25 hS27 hS28 hS30 hS31 hS39 hS43 hS44 hS45 hS46 hS47) (zAll_c (vn49a0_7 hS6 hS7 hS8 hS21 hS25 hS27 hS28 hS30 hS31 hS39 hS43 hS44 hS45 hS46 hS47) (zAll_c (vn49a0_8 hS6 hS7 hS8 hS21 hS25 hS27 hS28 hS30 hS31 hS39 hS43 hS44 hS45 hS46 hS47) (zAll_c (vn49a0_9 hS6 hS7 hS8 hS21 hS25 hS27 hS28 hS30 hS31 hS39 hS43 hS44 hS45 hS46 hS47) (zAll_c (vn49a0_10 hS6 hS7 hS8 hS21 hS25 hS27 hS28 hS30 hS31 hS39 hS43 hS44 hS45 hS46 hS47) (zAll_c (vn49a0_11 hS6 hS7 hS8 hS21 hS25 hS27 hS28 hS30 hS31 hS39 hS43 hS44 hS45 hS46 hS47) (zAll_c (vn49a0_12 hS6 hS7 hS8 hS21 hS25 hS27 hS28 hS30 hS31 hS39 hS43 hS44 hS45 hS46 hS47) (zAll_c (vn49a0_13 hS6 hS7 hS8 hS21 hS25 hS27 hS28 hS30 hS31 hS39 hS43 hS44 hS45 hS46 hS47) (zAll_c (vn49a0_14 hS6 hS7 hS8 hS21 hS25 hS27 hS28 hS30 hS31 hS39 hS43 hS44 hS45 hS46 hS47) (zAll_c (vn49a0_15 hS6 hS7 hS8 hS21 hS25 hS27 hS28 hS30 hS31 hS39 hS43 hS44 hS45 hS46 hS47) (zAll_c (vn49a0_16 hS6 hS7 hS8 hS21 hS25 hS27 hS28 hS30 hS31 hS39 hS43 hS44 hS45 hS46 hS47) (zAll_c (vn49a0_17 hS6 hS7 hS8 hS21 hS25 hS27 hS28 hS30 hS31 hS39 hS43 hS44 hS45 hS46 hS47) (zAll_c (vn49a0_18 hS6 hS7 hS8 hS21 hS25 hS27 hS28 hS30 hS31 hS39 hS43 hS44 hS45 hS46 hS47) (zAll_c (vn49a0_19 hS6 hS7 hS8 hS21 hS25 hS27 hS28 hS30 hS31 hS39 hS43 hS44 hS45 hS46 hS47) (zAll_c (vn49a0_20 hS6 hS7 hS8 hS21 hS25 hS27 hS28 hS30 hS31 hS39 hS43 hS44 hS45 hS46 hS47) (zAll_c (vn49a0_21 hS6 hS7 hS8 hS21 hS25 hS27 hS28 hS30 hS31 hS39 hS43 hS44 hS45 hS46 hS47) (zAll_c (vn49a0_22 hS6 hS7 hS8 hS21 hS25 hS27 hS28 hS30 hS31 hS39 hS43 hS44 hS45 hS46 hS47) (zAll_c (vn49a0_23 hS6 hS7 hS8 hS21 hS25 hS27 hS28 hS30 hS31 hS39 hS43 hS44 hS45 hS46 hS47) (zAll_c (vn49a0_24 hS6 hS7 hS8 hS21 hS25 hS27 hS28 hS30 hS31 hS39 hS43 hS44 hS45 hS46 hS47) (zAll_c (vn49a0_25 hS6 hS7 hS8 hS21 hS25 hS27 hS28 hS30 hS31 hS39 hS43 hS44 hS45 hS46 hS47) (zAll_c (vn49a0_26 hS6 hS7 hS8 hS21 hS25 hS27 hS28 hS30 hS31 hS39 hS43 hS44 hS45 hS46 hS47) (zAll_c (vn49a0_27 hS6 hS7 hS8 hS21 hS25 hS27 hS28 hS30 hS31 hS39 hS43 hS44 hS45 hS46 hS47) (zAll_c (vn49a0_28 hS6 hS7 hS8 hS21 hS25 hS27 hS28 hS30 hS31 hS39 hS43 hS44 hS45 hS46 hS47) (zAll_c (vn49a0_29 hS6 hS7 hS8 hS21 hS25 hS27 hS28 hS30 hS31 hS39 hS43 hS44 hS45 hS46 hS47) zAll_n))))))))))))))))))))))))))))))), ⟨(show zAll _ [q49a1_0, q49a1_1, q49a1_2, q49a1_3, q49a1_4, q49a1_5] from (zAll_c (vn49a1_0 hS6 hS7 hS8 hS21 hS25 hS27 hS28 hS30 hS31 hS39 hS43 hS44 hS45 hS46 hS47) (zAll_c (vn49a1_1 hS6 hS7 hS8 hS21 hS25 hS27 hS28 hS30 hS31 hS39 hS43 hS44 hS45 hS46 hS47) (zAll_c (vn49a1_2 hS6 hS7 hS8 hS21 hS25 hS27 hS28 hS30 hS31 hS39 hS43 hS44 hS45 hS46 hS47) (zAll_c (vn49a1_3 hS6 hS7 hS8 hS21 hS25 hS27 hS28 hS30 hS31 hS39 hS43 hS44 hS45 hS46 hS47) (zAll_c (vn49a1_4 hS6 hS7 hS8 hS21 hS25 hS27 hS28 hS30 hS31 hS39 hS43 hS44 hS45 hS46 hS47) (zAll_c (vn49a1_5 hS6 hS7 hS8 hS21 hS25 hS27 hS28 hS30 hS31 hS39 hS43 hS44 hS45 hS46 hS47) zAll_n))))))), trivial⟩⟩)) h
