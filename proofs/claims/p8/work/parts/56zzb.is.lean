/-! ===== the runs are the functions ===== -/
set_option maxRecDepth 100000 in
set_option maxRecDepth 100000 in
set_option maxRecDepth 100000 in
set_option maxRecDepth 100000 in
set_option maxRecDepth 100000 in
set_option maxRecDepth 100000 in
set_option maxRecDepth 100000 in
set_option maxRecDepth 100000 in
set_option maxRecDepth 100000 in
set_option maxRecDepth 100000 in
set_option maxRecDepth 100000 in
set_option maxRecDepth 100000 in
set_option maxRecDepth 100000 in
set_option maxRecDepth 100000 in
set_option maxRecDepth 100000 in
set_option maxRecDepth 100000 in
set_option maxRecDepth 100000 in
set_option maxRecDepth 100000 in
set_option maxRecDepth 100000 in
set_option maxRecDepth 100000 in
set_option maxRecDepth 100000 in
set_option maxRecDepth 100000 in
set_option maxRecDepth 100000 in
set_option maxRecDepth 100000 in
theorem vn89_0 {S : Nat → zSpc} (hS1 : ∀ x g o v gz, S 1 x g o v gz → sn1 x g o v gz) (hS55 : ∀ x g o v gz, S 55 x g o v gz → sn55 x g o v gz) (hS79 : ∀ x g o v gz, S 79 x g o v gz → sn79 x g o v gz) (hS87 : ∀ x g o v gz, S 87 x g o v gz → sn87 x g o v gz) (hS88 : ∀ x g o v gz, S 88 x g o v gz → sn88 x g o v gz) {a : List Int} {g : rHp} : ∀ (ρ : Nat → Int) (γ : Nat → rHp), zO 5 S a g q89_0 ρ γ → zGl (fun i vs g1 => jn89 a g i vs g1) (sn89 a g) q89_0 ρ γ := by
  intro ρ γ h
  obtain ⟨ha, hg, hr, hf, hm, hc, hl⟩ := h
  have ha : a = [ρ 0, ρ 1, ρ 2, ρ 3, ρ 4] := ha
  subst ha
  subst hg
  obtain ⟨-, -, -, -, -, r5, -⟩ := hr
  have r5 : (1 : Int) ≤ ρ 5 ∧ ρ 5 ≤ 1 := r5
  have w_0 : ρ 5 ≠ 0 := by omega
  obtain ⟨-, -, -, -, m4, -⟩ := hm
  have m4 : γ 0 15 0 59 = ρ 5 := m4
  obtain ⟨l0, l1, -⟩ := hl
  have l0 : sn79 [ρ 0, ρ 3] (γ 0) 0 0 (γ 1) := hS79 _ _ _ _ _ l0
  have l1 : sn1 [2, ρ 2] (γ 1) 0 1 (γ 2) := hS1 _ _ _ _ _ l1
  show sn89 [ρ 0, ρ 1, ρ 2, ρ 3, ρ 4] (γ 0) 0 0 (γ 2)
  have hD : dn89 [ρ 0] (γ 0) = .inr (0, 0, γ 2) := by
    unfold dn89
    refine (zLet_eq (show _ = ρ 0 from rfl)).trans ?_
    refine (zLet_eq m4).trans ?_
    refine (if_pos w_0).trans ?_
    refine (zLet_eq (show fn79 [ρ 0] (γ 0) = (0, 0, γ 1) from l0.symm)).trans ?_
    refine (zLet_eq (show _ = γ 1 from rfl)).trans ?_
    refine (if_neg zQ0_).trans ?_
    refine (zLet_eq (show fn1 [2] (γ 1) = (0, 1, γ 2) from l1.symm)).trans ?_
    refine (zLet_eq (show _ = γ 2 from rfl)).trans ?_
    rfl
  exact zGoo_end hD
set_option maxRecDepth 100000 in
theorem vn89_1 {S : Nat → zSpc} (hS1 : ∀ x g o v gz, S 1 x g o v gz → sn1 x g o v gz) (hS55 : ∀ x g o v gz, S 55 x g o v gz → sn55 x g o v gz) (hS79 : ∀ x g o v gz, S 79 x g o v gz → sn79 x g o v gz) (hS87 : ∀ x g o v gz, S 87 x g o v gz → sn87 x g o v gz) (hS88 : ∀ x g o v gz, S 88 x g o v gz → sn88 x g o v gz) {a : List Int} {g : rHp} : ∀ (ρ : Nat → Int) (γ : Nat → rHp), zO 5 S a g q89_1 ρ γ → zGl (fun i vs g1 => jn89 a g i vs g1) (sn89 a g) q89_1 ρ γ := by
  intro ρ γ h
  obtain ⟨ha, hg, hr, hf, hm, hc, hl⟩ := h
  have ha : a = [ρ 0, ρ 1, ρ 2, ρ 3, ρ 4] := ha
  subst ha
  subst hg
  obtain ⟨-, -, -, -, -, r5, -⟩ := hr
  have r5 : (1 : Int) ≤ ρ 5 ∧ ρ 5 ≤ 1 := r5
  have w_0 : ρ 5 ≠ 0 := by omega
  obtain ⟨-, -, -, -, m4, -, m6, -⟩ := hm
  have m4 : γ 0 15 0 59 = ρ 5 := m4
  have m6 : γ 0 93 0 (ρ 0) = ρ 6 := m6
  obtain ⟨-, c3⟩ := hc
  have c3 : γ 3 = rUp (γ 2) 15 0 4 0 := c3
  obtain ⟨l0, l1, -⟩ := hl
  have l0 : sn79 [ρ 0, ρ 3] (γ 0) 0 1 (γ 1) := hS79 _ _ _ _ _ l0
  have l1 : sn1 [0, ρ 2] (γ 1) 0 0 (γ 2) := hS1 _ _ _ _ _ l1
  show jn89 [ρ 0, ρ 1, ρ 2, ρ 3, ρ 4] (γ 0) 0 [ρ 0, ρ 1, ρ 2, ρ 3, ρ 4, 0, ρ 6, 0, 0] (γ 3)
  have hD : dn89 [ρ 0] (γ 0) = .inl (0, [ρ 0, 0, ρ 6], γ 3) := by
    unfold dn89
    refine (zLet_eq (show _ = ρ 0 from rfl)).trans ?_
    refine (zLet_eq m4).trans ?_
    refine (if_pos w_0).trans ?_
    refine (zLet_eq (show fn79 [ρ 0] (γ 0) = (0, 1, γ 1) from l0.symm)).trans ?_
    refine (zLet_eq (show _ = γ 1 from rfl)).trans ?_
    refine (if_pos zQ1_).trans ?_
    refine (zLet_eq (show fn1 [0] (γ 1) = (0, 0, γ 2) from l1.symm)).trans ?_
    refine (zLet_eq (show _ = γ 2 from rfl)).trans ?_
    refine (zLet_eq m6).trans ?_
    refine (zLet_eq c3.symm).trans ?_
    rfl
  exact zGoo_to hD
set_option maxRecDepth 100000 in
theorem vn89_2 {S : Nat → zSpc} (hS1 : ∀ x g o v gz, S 1 x g o v gz → sn1 x g o v gz) (hS55 : ∀ x g o v gz, S 55 x g o v gz → sn55 x g o v gz) (hS79 : ∀ x g o v gz, S 79 x g o v gz → sn79 x g o v gz) (hS87 : ∀ x g o v gz, S 87 x g o v gz → sn87 x g o v gz) (hS88 : ∀ x g o v gz, S 88 x g o v gz → sn88 x g o v gz) {a : List Int} {g : rHp} : ∀ (ρ : Nat → Int) (γ : Nat → rHp), zO 5 S a g q89_2 ρ γ → zGl (fun i vs g1 => jn89 a g i vs g1) (sn89 a g) q89_2 ρ γ := by
  intro ρ γ h
  obtain ⟨ha, hg, hr, hf, hm, hc, hl⟩ := h
  have ha : a = [ρ 0, ρ 1, ρ 2, ρ 3, ρ 4] := ha
  subst ha
  subst hg
  obtain ⟨-, -, -, -, -, r5, -⟩ := hr
  have r5 : (0 : Int) ≤ ρ 5 ∧ ρ 5 ≤ 0 := r5
  have w_0 : ¬ (ρ 5 ≠ 0) := by omega
  obtain ⟨-, -, -, -, m4, -⟩ := hm
  have m4 : γ 0 15 0 59 = ρ 5 := m4
  obtain ⟨l0, -⟩ := hl
  have l0 : sn1 [1, ρ 2] (γ 0) 0 1 (γ 1) := hS1 _ _ _ _ _ l0
  show sn89 [ρ 0, ρ 1, ρ 2, ρ 3, ρ 4] (γ 0) 0 0 (γ 1)
  have hD : dn89 [ρ 0] (γ 0) = .inr (0, 0, γ 1) := by
    unfold dn89
    refine (zLet_eq (show _ = ρ 0 from rfl)).trans ?_
    refine (zLet_eq m4).trans ?_
    refine (if_neg w_0).trans ?_
    refine (zLet_eq (show fn1 [1] (γ 0) = (0, 1, γ 1) from l0.symm)).trans ?_
    refine (zLet_eq (show _ = γ 1 from rfl)).trans ?_
    rfl
  exact zGoo_end hD
set_option maxRecDepth 100000 in
theorem vn89a0_0 {S : Nat → zSpc} (hS1 : ∀ x g o v gz, S 1 x g o v gz → sn1 x g o v gz) (hS55 : ∀ x g o v gz, S 55 x g o v gz → sn55 x g o v gz) (hS79 : ∀ x g o v gz, S 79 x g o v gz → sn79 x g o v gz) (hS87 : ∀ x g o v gz, S 87 x g o v gz → sn87 x g o v gz) (hS88 : ∀ x g o v gz, S 88 x g o v gz → sn88 x g o v gz) {a : List Int} {g : rHp} : ∀ (ρ : Nat → Int) (γ : Nat → rHp), jn89 a g 0 (zAg (zNA a89_ 0) ρ) (γ 1) → zO 5 S a g q89a0_0 ρ γ → zGl (fun i vs g1 => jn89 a g i vs g1) (sn89 a g) q89a0_0 ρ γ := by
  intro ρ γ hJ h
  obtain ⟨ha, hg, hr, hf, hm, hc, hl⟩ := h
  have ha : a = [ρ 0, ρ 1, ρ 2, ρ 3, ρ 4] := ha
  subst ha
  subst hg
  have hJ : jn89 [ρ 0, ρ 1, ρ 2, ρ 3, ρ 4] (γ 0) 0 [ρ 0, ρ 1, ρ 2, ρ 3, ρ 4, ρ 5, ρ 6, ρ 7, ρ 8] (γ 1) := hJ
  obtain ⟨f0, -⟩ := hf
  have f0 : (0 : Int) ≤ -ρ 9 + ρ 5 := f0
  have w_0 : ρ 5 ≥ ρ 9 := by omega
  obtain ⟨-, -, -, -, -, -, m6, -⟩ := hm
  have m6 : γ 0 65 0 (ρ 6) = ρ 9 := m6
  show jn89 [ρ 0, ρ 1, ρ 2, ρ 3, ρ 4] (γ 0) 1 [ρ 0, ρ 1, ρ 2, ρ 3, ρ 4, 0, ρ 6, ρ 7, ρ 8] (γ 1)
  have hD : en89 (γ 0) (0, [ρ 0, ρ 5, ρ 6], γ 1) = .inl (1, [ρ 0, 0, ρ 6], γ 1) := by
    unfold en89
    refine (if_pos (show (0 : Nat) = 0 by decide)).trans ?_
    refine (zLet_eq (show _ = γ 1 from rfl)).trans ?_
    refine (zLet_eq (show _ = ρ 0 from rfl)).trans ?_
    refine (zLet_eq (show _ = ρ 5 from rfl)).trans ?_
    refine (zLet_eq (show _ = ρ 6 from rfl)).trans ?_
    refine (zLet_eq m6).trans ?_
    refine (if_pos w_0).trans ?_
    rfl
  exact zGoo_ato hJ hD
set_option maxRecDepth 100000 in
theorem vn89a0_1 {S : Nat → zSpc} (hS1 : ∀ x g o v gz, S 1 x g o v gz → sn1 x g o v gz) (hS55 : ∀ x g o v gz, S 55 x g o v gz → sn55 x g o v gz) (hS79 : ∀ x g o v gz, S 79 x g o v gz → sn79 x g o v gz) (hS87 : ∀ x g o v gz, S 87 x g o v gz → sn87 x g o v gz) (hS88 : ∀ x g o v gz, S 88 x g o v gz → sn88 x g o v gz) {a : List Int} {g : rHp} : ∀ (ρ : Nat → Int) (γ : Nat → rHp), jn89 a g 0 (zAg (zNA a89_ 0) ρ) (γ 1) → zO 5 S a g q89a0_1 ρ γ → zGl (fun i vs g1 => jn89 a g i vs g1) (sn89 a g) q89a0_1 ρ γ := by
  intro ρ γ hJ h
  obtain ⟨ha, hg, hr, hf, hm, hc, hl⟩ := h
  have ha : a = [ρ 0, ρ 1, ρ 2, ρ 3, ρ 4] := ha
  subst ha
  subst hg
  have hJ : jn89 [ρ 0, ρ 1, ρ 2, ρ 3, ρ 4] (γ 0) 0 [ρ 0, ρ 1, ρ 2, ρ 3, ρ 4, ρ 5, ρ 6, ρ 7, ρ 8] (γ 1) := hJ
  obtain ⟨f0, -⟩ := hf
  have f0 : (0 : Int) ≤ ρ 9 + -ρ 5 + (-1) := f0
  have w_0 : ¬ (ρ 5 ≥ ρ 9) := by omega
  obtain ⟨-, -, -, -, -, -, m6, m7, -⟩ := hm
  have m6 : γ 0 65 0 (ρ 6) = ρ 9 := m6
  have m7 : γ 0 64 0 (12 * ρ 6 + ρ 5) = ρ 10 := m7
  obtain ⟨l0, -⟩ := hl
  have l0 : sn87 [ρ 10, ρ 7] (γ 1) 0 0 (γ 2) := hS87 _ _ _ _ _ l0
  show jn89 [ρ 0, ρ 1, ρ 2, ρ 3, ρ 4] (γ 0) 0 [ρ 0, ρ 1, ρ 2, ρ 3, ρ 4, ρ 5 + 1, ρ 6, ρ 7 + 1, ρ 8] (γ 2)
  have hD : en89 (γ 0) (0, [ρ 0, ρ 5, ρ 6], γ 1) = .inl (0, [ρ 0, ρ 5 + 1, ρ 6], γ 2) := by
    unfold en89
    refine (if_pos (show (0 : Nat) = 0 by decide)).trans ?_
    refine (zLet_eq (show _ = γ 1 from rfl)).trans ?_
    refine (zLet_eq (show _ = ρ 0 from rfl)).trans ?_
    refine (zLet_eq (show _ = ρ 5 from rfl)).trans ?_
    refine (zLet_eq (show _ = ρ 6 from rfl)).trans ?_
    refine (zLet_eq m6).trans ?_
    refine (if_neg w_0).trans ?_
    refine (zLet_eq m7).trans ?_
    refine (zLet_eq (show fn87 [ρ 10] (γ 1) = (0, 0, γ 2) from l0.symm)).trans ?_
    refine (zLet_eq (show _ = γ 2 from rfl)).trans ?_
    rfl
  exact zGoo_ato hJ hD
set_option maxRecDepth 100000 in
theorem vn89a1_0 {S : Nat → zSpc} (hS1 : ∀ x g o v gz, S 1 x g o v gz → sn1 x g o v gz) (hS55 : ∀ x g o v gz, S 55 x g o v gz → sn55 x g o v gz) (hS79 : ∀ x g o v gz, S 79 x g o v gz → sn79 x g o v gz) (hS87 : ∀ x g o v gz, S 87 x g o v gz → sn87 x g o v gz) (hS88 : ∀ x g o v gz, S 88 x g o v gz → sn88 x g o v gz) {a : List Int} {g : rHp} : ∀ (ρ : Nat → Int) (γ : Nat → rHp), jn89 a g 1 (zAg (zNA a89_ 1) ρ) (γ 1) → zO 5 S a g q89a1_0 ρ γ → zGl (fun i vs g1 => jn89 a g i vs g1) (sn89 a g) q89a1_0 ρ γ := by
  intro ρ γ hJ h
  obtain ⟨ha, hg, hr, hf, hm, hc, hl⟩ := h
  have ha : a = [ρ 0, ρ 1, ρ 2, ρ 3, ρ 4] := ha
  subst ha
  subst hg
  have hJ : jn89 [ρ 0, ρ 1, ρ 2, ρ 3, ρ 4] (γ 0) 1 [ρ 0, ρ 1, ρ 2, ρ 3, ρ 4, ρ 5, ρ 6, ρ 7, ρ 8] (γ 1) := hJ
  obtain ⟨f0, -⟩ := hf
  have f0 : (0 : Int) ≤ -ρ 9 + ρ 5 := f0
  have w_0 : ρ 5 ≥ ρ 9 := by omega
  obtain ⟨-, -, -, -, m4, -, m6, -⟩ := hm
  have m4 : γ 1 15 0 4 = ρ 7 := m4
  have m6 : γ 0 66 0 (ρ 6) = ρ 9 := m6
  obtain ⟨l0, -⟩ := hl
  have l0 : sn87 [41, ρ 7] (γ 1) 0 0 (γ 2) := hS87 _ _ _ _ _ l0
  show sn89 [ρ 0, ρ 1, ρ 2, ρ 3, ρ 4] (γ 0) 0 (ρ 7 + 1) (γ 2)
  have hD : en89 (γ 0) (1, [ρ 0, ρ 5, ρ 6], γ 1) = .inr (0, ρ 7 + 1, γ 2) := by
    unfold en89
    refine (if_neg (show ¬ (1 : Nat) = 0 by decide)).trans ?_
    refine (if_pos (show (1 : Nat) = 1 by decide)).trans ?_
    refine (zLet_eq (show _ = γ 1 from rfl)).trans ?_
    refine (zLet_eq (show _ = ρ 0 from rfl)).trans ?_
    refine (zLet_eq (show _ = ρ 5 from rfl)).trans ?_
    refine (zLet_eq (show _ = ρ 6 from rfl)).trans ?_
    refine (zLet_eq m4).trans ?_
    refine (zLet_eq m6).trans ?_
    refine (if_pos w_0).trans ?_
    refine (zLet_eq (show fn87 [41] (γ 1) = (0, 0, γ 2) from l0.symm)).trans ?_
    refine (zLet_eq (show _ = γ 2 from rfl)).trans ?_
    rfl
  exact zGoo_aend hJ hD
set_option maxRecDepth 100000 in
theorem vn89a1_1 {S : Nat → zSpc} (hS1 : ∀ x g o v gz, S 1 x g o v gz → sn1 x g o v gz) (hS55 : ∀ x g o v gz, S 55 x g o v gz → sn55 x g o v gz) (hS79 : ∀ x g o v gz, S 79 x g o v gz → sn79 x g o v gz) (hS87 : ∀ x g o v gz, S 87 x g o v gz → sn87 x g o v gz) (hS88 : ∀ x g o v gz, S 88 x g o v gz → sn88 x g o v gz) {a : List Int} {g : rHp} : ∀ (ρ : Nat → Int) (γ : Nat → rHp), jn89 a g 1 (zAg (zNA a89_ 1) ρ) (γ 1) → zO 5 S a g q89a1_1 ρ γ → zGl (fun i vs g1 => jn89 a g i vs g1) (sn89 a g) q89a1_1 ρ γ := by
  intro ρ γ hJ h
  obtain ⟨ha, hg, hr, hf, hm, hc, hl⟩ := h
  have ha : a = [ρ 0, ρ 1, ρ 2, ρ 3, ρ 4] := ha
  subst ha
  subst hg
  have hJ : jn89 [ρ 0, ρ 1, ρ 2, ρ 3, ρ 4] (γ 0) 1 [ρ 0, ρ 1, ρ 2, ρ 3, ρ 4, ρ 5, ρ 6, ρ 7, ρ 8] (γ 1) := hJ
  obtain ⟨-, -, -, -, -, r5, -⟩ := hr
  have r5 : (1 : Int) ≤ ρ 5 ∧ ρ 5 ≤ 4 := r5
  obtain ⟨f0, -⟩ := hf
  have f0 : (0 : Int) ≤ ρ 9 + -ρ 5 + (-1) := f0
  obtain ⟨w_0, w_1⟩ : (¬ (ρ 5 ≥ ρ 9)) ∧ (ρ 5 ≠ 0) := ⟨by omega, by omega⟩
  obtain ⟨-, -, -, -, m4, -, m6, -, m8, -⟩ := hm
  have m4 : γ 1 15 0 4 = ρ 7 := m4
  have m6 : γ 0 66 0 (ρ 6) = ρ 9 := m6
  have m8 : γ 0 99 0 (ρ 5 + 4 * ρ 0) = ρ 10 := m8
  obtain ⟨l0, l1, -⟩ := hl
  have l0 : sn87 [44, ρ 7] (γ 1) 0 0 (γ 2) := hS87 _ _ _ _ _ l0
  have l1 : sn55 [ρ 10] (γ 2) 0 0 (γ 3) := hS55 _ _ _ _ _ l1
  show jn89 [ρ 0, ρ 1, ρ 2, ρ 3, ρ 4] (γ 0) 2 [ρ 0, ρ 1, ρ 2, ρ 3, ρ 4, 0, ρ 10 + (-1099511627776), ρ 10, ρ 5, ρ 6, ρ 7 + 1, ρ 8] (γ 3)
  have hD : en89 (γ 0) (1, [ρ 0, ρ 5, ρ 6], γ 1) = .inl (2, [ρ 0, 0, ρ 10 + (-1099511627776), ρ 10, ρ 5, ρ 6], γ 3) := by
    unfold en89
    refine (if_neg (show ¬ (1 : Nat) = 0 by decide)).trans ?_
    refine (if_pos (show (1 : Nat) = 1 by decide)).trans ?_
    refine (zLet_eq (show _ = γ 1 from rfl)).trans ?_
    refine (zLet_eq (show _ = ρ 0 from rfl)).trans ?_
    refine (zLet_eq (show _ = ρ 5 from rfl)).trans ?_
    refine (zLet_eq (show _ = ρ 6 from rfl)).trans ?_
    refine (zLet_eq m4).trans ?_
    refine (zLet_eq m6).trans ?_
    refine (if_neg w_0).trans ?_
    refine (if_pos w_1).trans ?_
    refine (zLet_eq (show fn87 [44] (γ 1) = (0, 0, γ 2) from l0.symm)).trans ?_
    refine (zLet_eq (show _ = γ 2 from rfl)).trans ?_
    refine (zLet_eq m8).trans ?_
    refine (zLet_eq (show fn55 [ρ 10] (γ 2) = (0, 0, γ 3) from l1.symm)).trans ?_
    refine (zLet_eq (show _ = γ 3 from rfl)).trans ?_
    refine (if_neg zQ0_).trans ?_
    rfl
  exact zGoo_ato hJ hD
set_option maxRecDepth 100000 in
theorem vn89a1_2 {S : Nat → zSpc} (hS1 : ∀ x g o v gz, S 1 x g o v gz → sn1 x g o v gz) (hS55 : ∀ x g o v gz, S 55 x g o v gz → sn55 x g o v gz) (hS79 : ∀ x g o v gz, S 79 x g o v gz → sn79 x g o v gz) (hS87 : ∀ x g o v gz, S 87 x g o v gz → sn87 x g o v gz) (hS88 : ∀ x g o v gz, S 88 x g o v gz → sn88 x g o v gz) {a : List Int} {g : rHp} : ∀ (ρ : Nat → Int) (γ : Nat → rHp), jn89 a g 1 (zAg (zNA a89_ 1) ρ) (γ 1) → zO 5 S a g q89a1_2 ρ γ → zGl (fun i vs g1 => jn89 a g i vs g1) (sn89 a g) q89a1_2 ρ γ := by
  intro ρ γ hJ h
  obtain ⟨ha, hg, hr, hf, hm, hc, hl⟩ := h
  have ha : a = [ρ 0, ρ 1, ρ 2, ρ 3, ρ 4] := ha
  subst ha
  subst hg
  have hJ : jn89 [ρ 0, ρ 1, ρ 2, ρ 3, ρ 4] (γ 0) 1 [ρ 0, ρ 1, ρ 2, ρ 3, ρ 4, ρ 5, ρ 6, ρ 7, ρ 8] (γ 1) := hJ
  obtain ⟨-, -, -, -, -, r5, -⟩ := hr
  have r5 : (1 : Int) ≤ ρ 5 ∧ ρ 5 ≤ 4 := r5
  obtain ⟨-, -, f2, -⟩ := hf
  have f2 : (0 : Int) ≤ ρ 9 + -ρ 5 + (-1) := f2
  obtain ⟨w_0, w_1⟩ : (¬ (ρ 5 ≥ ρ 9)) ∧ (ρ 5 ≠ 0) := ⟨by omega, by omega⟩
  obtain ⟨-, -, -, -, m4, -, m6, -, m8, -⟩ := hm
  have m4 : γ 1 15 0 4 = ρ 7 := m4
  have m6 : γ 0 66 0 (ρ 6) = ρ 9 := m6
  have m8 : γ 0 99 0 (ρ 5 + 4 * ρ 0) = ρ 10 := m8
  obtain ⟨l0, l1, l2, -⟩ := hl
  have l0 : sn87 [44, ρ 7] (γ 1) 0 0 (γ 2) := hS87 _ _ _ _ _ l0
  have l1 : sn55 [ρ 10] (γ 2) 0 1 (γ 3) := hS55 _ _ _ _ _ l1
  have l2 : sn88 [ρ 10, ρ 7 + 1] (γ 3) 0 0 (γ 4) := hS88 _ _ _ _ _ l2
  show jn89 [ρ 0, ρ 1, ρ 2, ρ 3, ρ 4] (γ 0) 1 [ρ 0, ρ 1, ρ 2, ρ 3, ρ 4, ρ 5 + 1, ρ 6, ρ 11, ρ 8] (γ 4)
  have hD : en89 (γ 0) (1, [ρ 0, ρ 5, ρ 6], γ 1) = .inl (1, [ρ 0, ρ 5 + 1, ρ 6], γ 4) := by
    unfold en89
    refine (if_neg (show ¬ (1 : Nat) = 0 by decide)).trans ?_
    refine (if_pos (show (1 : Nat) = 1 by decide)).trans ?_
    refine (zLet_eq (show _ = γ 1 from rfl)).trans ?_
    refine (zLet_eq (show _ = ρ 0 from rfl)).trans ?_
    refine (zLet_eq (show _ = ρ 5 from rfl)).trans ?_
    refine (zLet_eq (show _ = ρ 6 from rfl)).trans ?_
    refine (zLet_eq m4).trans ?_
    refine (zLet_eq m6).trans ?_
    refine (if_neg w_0).trans ?_
    refine (if_pos w_1).trans ?_
    refine (zLet_eq (show fn87 [44] (γ 1) = (0, 0, γ 2) from l0.symm)).trans ?_
    refine (zLet_eq (show _ = γ 2 from rfl)).trans ?_
    refine (zLet_eq m8).trans ?_
    refine (zLet_eq (show fn55 [ρ 10] (γ 2) = (0, 1, γ 3) from l1.symm)).trans ?_
    refine (zLet_eq (show _ = γ 3 from rfl)).trans ?_
    refine (if_pos zQ1_).trans ?_
    refine (zLet_eq (show fn88 [ρ 10] (γ 3) = (0, 0, γ 4) from l2.symm)).trans ?_
    refine (zLet_eq (show _ = γ 4 from rfl)).trans ?_
    rfl
  exact zGoo_ato hJ hD
set_option maxRecDepth 100000 in
theorem vn89a1_3 {S : Nat → zSpc} (hS1 : ∀ x g o v gz, S 1 x g o v gz → sn1 x g o v gz) (hS55 : ∀ x g o v gz, S 55 x g o v gz → sn55 x g o v gz) (hS79 : ∀ x g o v gz, S 79 x g o v gz → sn79 x g o v gz) (hS87 : ∀ x g o v gz, S 87 x g o v gz → sn87 x g o v gz) (hS88 : ∀ x g o v gz, S 88 x g o v gz → sn88 x g o v gz) {a : List Int} {g : rHp} : ∀ (ρ : Nat → Int) (γ : Nat → rHp), jn89 a g 1 (zAg (zNA a89_ 1) ρ) (γ 1) → zO 5 S a g q89a1_3 ρ γ → zGl (fun i vs g1 => jn89 a g i vs g1) (sn89 a g) q89a1_3 ρ γ := by
  intro ρ γ hJ h
  obtain ⟨ha, hg, hr, hf, hm, hc, hl⟩ := h
  have ha : a = [ρ 0, ρ 1, ρ 2, ρ 3, ρ 4] := ha
  subst ha
  subst hg
  have hJ : jn89 [ρ 0, ρ 1, ρ 2, ρ 3, ρ 4] (γ 0) 1 [ρ 0, ρ 1, ρ 2, ρ 3, ρ 4, ρ 5, ρ 6, ρ 7, ρ 8] (γ 1) := hJ
  obtain ⟨-, -, -, -, -, r5, -⟩ := hr
  have r5 : (0 : Int) ≤ ρ 5 ∧ ρ 5 ≤ 0 := r5
  obtain ⟨f0, -⟩ := hf
  have f0 : (0 : Int) ≤ ρ 9 + -ρ 5 + (-1) := f0
  obtain ⟨w_0, w_1⟩ : (¬ (ρ 5 ≥ ρ 9)) ∧ (¬ (ρ 5 ≠ 0)) := ⟨by omega, by omega⟩
  obtain ⟨-, -, -, -, m4, -, m6, -, m8, -⟩ := hm
  have m4 : γ 1 15 0 4 = ρ 7 := m4
  have m6 : γ 0 66 0 (ρ 6) = ρ 9 := m6
  have m8 : γ 0 99 0 (ρ 5 + 4 * ρ 0) = ρ 10 := m8
  obtain ⟨l0, l1, -⟩ := hl
  have l0 : sn87 [40, ρ 7] (γ 1) 0 0 (γ 2) := hS87 _ _ _ _ _ l0
  have l1 : sn55 [ρ 10] (γ 2) 0 0 (γ 3) := hS55 _ _ _ _ _ l1
  show jn89 [ρ 0, ρ 1, ρ 2, ρ 3, ρ 4] (γ 0) 2 [ρ 0, ρ 1, ρ 2, ρ 3, ρ 4, 0, ρ 10 + (-1099511627776), ρ 10, ρ 5, ρ 6, ρ 7 + 1, ρ 8] (γ 3)
  have hD : en89 (γ 0) (1, [ρ 0, ρ 5, ρ 6], γ 1) = .inl (2, [ρ 0, 0, ρ 10 + (-1099511627776), ρ 10, ρ 5, ρ 6], γ 3) := by
    unfold en89
    refine (if_neg (show ¬ (1 : Nat) = 0 by decide)).trans ?_
    refine (if_pos (show (1 : Nat) = 1 by decide)).trans ?_
    refine (zLet_eq (show _ = γ 1 from rfl)).trans ?_
    refine (zLet_eq (show _ = ρ 0 from rfl)).trans ?_
    refine (zLet_eq (show _ = ρ 5 from rfl)).trans ?_
    refine (zLet_eq (show _ = ρ 6 from rfl)).trans ?_
    refine (zLet_eq m4).trans ?_
    refine (zLet_eq m6).trans ?_
    refine (if_neg w_0).trans ?_
    refine (if_neg w_1).trans ?_
    refine (zLet_eq (show fn87 [40] (γ 1) = (0, 0, γ 2) from l0.symm)).trans ?_
    refine (zLet_eq (show _ = γ 2 from rfl)).trans ?_
    refine (zLet_eq m8).trans ?_
    refine (zLet_eq (show fn55 [ρ 10] (γ 2) = (0, 0, γ 3) from l1.symm)).trans ?_
    refine (zLet_eq (show _ = γ 3 from rfl)).trans ?_
    refine (if_neg zQ0_).trans ?_
    rfl
  exact zGoo_ato hJ hD
set_option maxRecDepth 100000 in
theorem vn89a1_4 {S : Nat → zSpc} (hS1 : ∀ x g o v gz, S 1 x g o v gz → sn1 x g o v gz) (hS55 : ∀ x g o v gz, S 55 x g o v gz → sn55 x g o v gz) (hS79 : ∀ x g o v gz, S 79 x g o v gz → sn79 x g o v gz) (hS87 : ∀ x g o v gz, S 87 x g o v gz → sn87 x g o v gz) (hS88 : ∀ x g o v gz, S 88 x g o v gz → sn88 x g o v gz) {a : List Int} {g : rHp} : ∀ (ρ : Nat → Int) (γ : Nat → rHp), jn89 a g 1 (zAg (zNA a89_ 1) ρ) (γ 1) → zO 5 S a g q89a1_4 ρ γ → zGl (fun i vs g1 => jn89 a g i vs g1) (sn89 a g) q89a1_4 ρ γ := by
  intro ρ γ hJ h
  obtain ⟨ha, hg, hr, hf, hm, hc, hl⟩ := h
  have ha : a = [ρ 0, ρ 1, ρ 2, ρ 3, ρ 4] := ha
  subst ha
  subst hg
  have hJ : jn89 [ρ 0, ρ 1, ρ 2, ρ 3, ρ 4] (γ 0) 1 [ρ 0, ρ 1, ρ 2, ρ 3, ρ 4, ρ 5, ρ 6, ρ 7, ρ 8] (γ 1) := hJ
  obtain ⟨-, -, -, -, -, r5, -⟩ := hr
  have r5 : (0 : Int) ≤ ρ 5 ∧ ρ 5 ≤ 0 := r5
  obtain ⟨-, -, f2, -⟩ := hf
  have f2 : (0 : Int) ≤ ρ 9 + -ρ 5 + (-1) := f2
  obtain ⟨w_0, w_1⟩ : (¬ (ρ 5 ≥ ρ 9)) ∧ (¬ (ρ 5 ≠ 0)) := ⟨by omega, by omega⟩
  obtain ⟨-, -, -, -, m4, -, m6, -, m8, -⟩ := hm
  have m4 : γ 1 15 0 4 = ρ 7 := m4
  have m6 : γ 0 66 0 (ρ 6) = ρ 9 := m6
  have m8 : γ 0 99 0 (ρ 5 + 4 * ρ 0) = ρ 10 := m8
  obtain ⟨l0, l1, l2, -⟩ := hl
  have l0 : sn87 [40, ρ 7] (γ 1) 0 0 (γ 2) := hS87 _ _ _ _ _ l0
  have l1 : sn55 [ρ 10] (γ 2) 0 1 (γ 3) := hS55 _ _ _ _ _ l1
  have l2 : sn88 [ρ 10, ρ 7 + 1] (γ 3) 0 0 (γ 4) := hS88 _ _ _ _ _ l2
  show jn89 [ρ 0, ρ 1, ρ 2, ρ 3, ρ 4] (γ 0) 1 [ρ 0, ρ 1, ρ 2, ρ 3, ρ 4, ρ 5 + 1, ρ 6, ρ 11, ρ 8] (γ 4)
  have hD : en89 (γ 0) (1, [ρ 0, ρ 5, ρ 6], γ 1) = .inl (1, [ρ 0, ρ 5 + 1, ρ 6], γ 4) := by
    unfold en89
    refine (if_neg (show ¬ (1 : Nat) = 0 by decide)).trans ?_
    refine (if_pos (show (1 : Nat) = 1 by decide)).trans ?_
    refine (zLet_eq (show _ = γ 1 from rfl)).trans ?_
    refine (zLet_eq (show _ = ρ 0 from rfl)).trans ?_
    refine (zLet_eq (show _ = ρ 5 from rfl)).trans ?_
    refine (zLet_eq (show _ = ρ 6 from rfl)).trans ?_
    refine (zLet_eq m4).trans ?_
    refine (zLet_eq m6).trans ?_
    refine (if_neg w_0).trans ?_
    refine (if_neg w_1).trans ?_
    refine (zLet_eq (show fn87 [40] (γ 1) = (0, 0, γ 2) from l0.symm)).trans ?_
    refine (zLet_eq (show _ = γ 2 from rfl)).trans ?_
    refine (zLet_eq m8).trans ?_
    refine (zLet_eq (show fn55 [ρ 10] (γ 2) = (0, 1, γ 3) from l1.symm)).trans ?_
    refine (zLet_eq (show _ = γ 3 from rfl)).trans ?_
    refine (if_pos zQ1_).trans ?_
    refine (zLet_eq (show fn88 [ρ 10] (γ 3) = (0, 0, γ 4) from l2.symm)).trans ?_
    refine (zLet_eq (show _ = γ 4 from rfl)).trans ?_
    rfl
  exact zGoo_ato hJ hD
set_option maxRecDepth 100000 in
theorem vn89a2_0 {S : Nat → zSpc} (hS1 : ∀ x g o v gz, S 1 x g o v gz → sn1 x g o v gz) (hS55 : ∀ x g o v gz, S 55 x g o v gz → sn55 x g o v gz) (hS79 : ∀ x g o v gz, S 79 x g o v gz → sn79 x g o v gz) (hS87 : ∀ x g o v gz, S 87 x g o v gz → sn87 x g o v gz) (hS88 : ∀ x g o v gz, S 88 x g o v gz → sn88 x g o v gz) {a : List Int} {g : rHp} : ∀ (ρ : Nat → Int) (γ : Nat → rHp), jn89 a g 2 (zAg (zNA a89_ 2) ρ) (γ 1) → zO 5 S a g q89a2_0 ρ γ → zGl (fun i vs g1 => jn89 a g i vs g1) (sn89 a g) q89a2_0 ρ γ := by
  intro ρ γ hJ h
  obtain ⟨ha, hg, hr, hf, hm, hc, hl⟩ := h
  have ha : a = [ρ 0, ρ 1, ρ 2, ρ 3, ρ 4] := ha
  subst ha
  subst hg
  have hJ : jn89 [ρ 0, ρ 1, ρ 2, ρ 3, ρ 4] (γ 0) 2 [ρ 0, ρ 1, ρ 2, ρ 3, ρ 4, ρ 5, ρ 6, ρ 7, ρ 8, ρ 9, ρ 10, ρ 11] (γ 1) := hJ
  obtain ⟨f0, -⟩ := hf
  have f0 : (0 : Int) ≤ -ρ 12 + ρ 5 := f0
  have w_0 : ρ 5 ≥ ρ 12 := by omega
  obtain ⟨-, -, -, -, -, -, m6, -⟩ := hm
  have m6 : γ 0 63 0 (ρ 6) = ρ 12 := m6
  show jn89 [ρ 0, ρ 1, ρ 2, ρ 3, ρ 4] (γ 0) 1 [ρ 0, ρ 1, ρ 2, ρ 3, ρ 4, ρ 8 + 1, ρ 9, ρ 10, ρ 11] (γ 1)
  have hD : en89 (γ 0) (2, [ρ 0, ρ 5, ρ 6, ρ 7, ρ 8, ρ 9], γ 1) = .inl (1, [ρ 0, ρ 8 + 1, ρ 9], γ 1) := by
    unfold en89
    refine (if_neg (show ¬ (2 : Nat) = 0 by decide)).trans ?_
    refine (if_neg (show ¬ (2 : Nat) = 1 by decide)).trans ?_
    refine (if_pos (show (2 : Nat) = 2 by decide)).trans ?_
    refine (zLet_eq (show _ = γ 1 from rfl)).trans ?_
    refine (zLet_eq (show _ = ρ 0 from rfl)).trans ?_
    refine (zLet_eq (show _ = ρ 5 from rfl)).trans ?_
    refine (zLet_eq (show _ = ρ 6 from rfl)).trans ?_
    refine (zLet_eq (show _ = ρ 7 from rfl)).trans ?_
    refine (zLet_eq (show _ = ρ 8 from rfl)).trans ?_
    refine (zLet_eq (show _ = ρ 9 from rfl)).trans ?_
    refine (zLet_eq m6).trans ?_
    refine (if_pos w_0).trans ?_
    rfl
  exact zGoo_ato hJ hD
set_option maxRecDepth 100000 in
theorem vn89a2_1 {S : Nat → zSpc} (hS1 : ∀ x g o v gz, S 1 x g o v gz → sn1 x g o v gz) (hS55 : ∀ x g o v gz, S 55 x g o v gz → sn55 x g o v gz) (hS79 : ∀ x g o v gz, S 79 x g o v gz → sn79 x g o v gz) (hS87 : ∀ x g o v gz, S 87 x g o v gz → sn87 x g o v gz) (hS88 : ∀ x g o v gz, S 88 x g o v gz → sn88 x g o v gz) {a : List Int} {g : rHp} : ∀ (ρ : Nat → Int) (γ : Nat → rHp), jn89 a g 2 (zAg (zNA a89_ 2) ρ) (γ 1) → zO 5 S a g q89a2_1 ρ γ → zGl (fun i vs g1 => jn89 a g i vs g1) (sn89 a g) q89a2_1 ρ γ := by
  intro ρ γ hJ h
  obtain ⟨ha, hg, hr, hf, hm, hc, hl⟩ := h
  have ha : a = [ρ 0, ρ 1, ρ 2, ρ 3, ρ 4] := ha
  subst ha
  subst hg
  have hJ : jn89 [ρ 0, ρ 1, ρ 2, ρ 3, ρ 4] (γ 0) 2 [ρ 0, ρ 1, ρ 2, ρ 3, ρ 4, ρ 5, ρ 6, ρ 7, ρ 8, ρ 9, ρ 10, ρ 11] (γ 1) := hJ
  obtain ⟨f0, -⟩ := hf
  have f0 : (0 : Int) ≤ ρ 12 + -ρ 5 + (-1) := f0
  have w_0 : ¬ (ρ 5 ≥ ρ 12) := by omega
  obtain ⟨-, -, -, -, -, -, m6, m7, m8, -⟩ := hm
  have m6 : γ 0 63 0 (ρ 6) = ρ 12 := m6
  have m7 : γ 0 62 0 (ρ 6) = ρ 13 := m7
  have m8 : γ 0 61 0 (ρ 13 + ρ 5) = ρ 14 := m8
  obtain ⟨l0, -⟩ := hl
  have l0 : sn87 [ρ 14, ρ 10] (γ 1) 0 0 (γ 2) := hS87 _ _ _ _ _ l0
  show jn89 [ρ 0, ρ 1, ρ 2, ρ 3, ρ 4] (γ 0) 2 [ρ 0, ρ 1, ρ 2, ρ 3, ρ 4, ρ 5 + 1, ρ 6, ρ 7, ρ 8, ρ 9, ρ 10 + 1, ρ 11] (γ 2)
  have hD : en89 (γ 0) (2, [ρ 0, ρ 5, ρ 6, ρ 7, ρ 8, ρ 9], γ 1) = .inl (2, [ρ 0, ρ 5 + 1, ρ 6, ρ 7, ρ 8, ρ 9], γ 2) := by
    unfold en89
    refine (if_neg (show ¬ (2 : Nat) = 0 by decide)).trans ?_
    refine (if_neg (show ¬ (2 : Nat) = 1 by decide)).trans ?_
    refine (if_pos (show (2 : Nat) = 2 by decide)).trans ?_
    refine (zLet_eq (show _ = γ 1 from rfl)).trans ?_
    refine (zLet_eq (show _ = ρ 0 from rfl)).trans ?_
    refine (zLet_eq (show _ = ρ 5 from rfl)).trans ?_
    refine (zLet_eq (show _ = ρ 6 from rfl)).trans ?_
    refine (zLet_eq (show _ = ρ 7 from rfl)).trans ?_
    refine (zLet_eq (show _ = ρ 8 from rfl)).trans ?_
    refine (zLet_eq (show _ = ρ 9 from rfl)).trans ?_
    refine (zLet_eq m6).trans ?_
    refine (if_neg w_0).trans ?_
    refine (zLet_eq m7).trans ?_
    refine (zLet_eq m8).trans ?_
    refine (zLet_eq (show fn87 [ρ 14] (γ 1) = (0, 0, γ 2) from l0.symm)).trans ?_
    refine (zLet_eq (show _ = γ 2 from rfl)).trans ?_
    rfl
  exact zGoo_ato hJ hD
set_option maxRecDepth 100000 in
theorem yn89 {S : Nat → zSpc} (hS1 : ∀ x g o v gz, S 1 x g o v gz → sn1 x g o v gz) (hS55 : ∀ x g o v gz, S 55 x g o v gz → sn55 x g o v gz) (hS79 : ∀ x g o v gz, S 79 x g o v gz → sn79 x g o v gz) (hS87 : ∀ x g o v gz, S 87 x g o v gz → sn87 x g o v gz) (hS88 : ∀ x g o v gz, S 88 x g o v gz → sn88 x g o v gz) : ∀ x g o v gz, zSem uW uT w89_.2.2.2.1 w89_.2.2.1.1.length S q89 (fun i => q89a.getD i []) (zNA a89_) x g o v gz → sn89 x g o v gz := by
  intro a g o v gz h
  exact zSem_all (l0 := q89) (las := q89a) (S := S) (J := (fun i vs g1 => jn89 a g i vs g1)) (P := sn89 a g) (fun _ => (show zAll _ [q89_0, q89_1, q89_2] from (zAll_c (vn89_0 hS1 hS55 hS79 hS87 hS88) (zAll_c (vn89_1 hS1 hS55 hS79 hS87 hS88) (zAll_c (vn89_2 hS1 hS55 hS79 hS87 hS88) zAll_n))))) (fun _ => (show zAllI _ 0 [q89a0, q89a1, q89a2] from ⟨(show zAll _ [q89a0_0, q89a0_1] from (zAll_c (vn89a0_0 hS1 hS55 hS79 hS87 hS88) (zAll_c (vn89a0_1 hS1 hS55 hS79 hS87 hS88) zAll_n))), ⟨(show zAll _ [q89a1_0, q89a1_1, q89a1_2, q89a1_3, q89a1_4] from (zAll_c (vn89a1_0 hS1 hS55 hS79 hS87 hS88) (zAll_c (vn89a1_1 hS1 hS55 hS79 hS87 hS88) (zAll_c (vn89a1_2 hS1 hS55 hS79 hS87 hS88) (zAll_c (vn89a1_3 hS1 hS55 hS79 hS87 hS88) (zAll_c (vn89a1_4 hS1 hS55 hS79 hS87 hS88) zAll_n)))))), ⟨(show zAll _ [q89a2_0, q89a2_1] from (zAll_c (vn89a2_0 hS1 hS55 hS79 hS87 hS88) (zAll_c (vn89a2_1 hS1 hS55 hS79 hS87 hS88) zAll_n))), trivial⟩⟩⟩)) h
set_option maxRecDepth 100000 in
theorem vn93_0 {S : Nat → zSpc}  {a : List Int} {g : rHp} : ∀ (ρ : Nat → Int) (γ : Nat → rHp), zO 2 S a g q93_0 ρ γ → zGl (fun _ _ _ => True) (sn93 a g) q93_0 ρ γ := by
  intro ρ γ h
  obtain ⟨ha, hg, hr, hf, hm, hc, hl⟩ := h
  have ha : a = [ρ 0, ρ 1] := ha
  subst ha
  subst hg
  obtain ⟨r0, -⟩ := hr
  have r0 : ((-2147483648) : Int) ≤ ρ 0 ∧ ρ 0 ≤ (-1) := r0
  have w_0 : ρ 0 < 0 := by omega
  obtain ⟨m0, -⟩ := hm
  have m0 : γ 0 3 0 1 = ρ 1 := m0
  show sn93 [ρ 0, ρ 1] (γ 0) 0 0 (γ 0)
  refine Eq.symm ?_
  show fn93 [ρ 0] (γ 0) = _
  unfold fn93
  refine (zLet_eq (show _ = ρ 0 from rfl)).trans ?_
  refine (zLet_eq m0).trans ?_
  refine (if_pos w_0).trans ?_
  rfl
set_option maxRecDepth 100000 in
theorem vn93_1 {S : Nat → zSpc}  {a : List Int} {g : rHp} : ∀ (ρ : Nat → Int) (γ : Nat → rHp), zO 2 S a g q93_1 ρ γ → zGl (fun _ _ _ => True) (sn93 a g) q93_1 ρ γ := by
  intro ρ γ h
  obtain ⟨ha, hg, hr, hf, hm, hc, hl⟩ := h
  have ha : a = [ρ 0, ρ 1] := ha
  subst ha
  subst hg
  obtain ⟨r0, -⟩ := hr
  have r0 : (0 : Int) ≤ ρ 0 ∧ ρ 0 ≤ 2147483647 := r0
  obtain ⟨f0, -⟩ := hf
  have f0 : (0 : Int) ≤ -ρ 1 + ρ 0 := f0
  obtain ⟨w_0, w_1⟩ : (¬ (ρ 0 < 0)) ∧ (ρ 0 ≥ ρ 1) := ⟨by omega, by omega⟩
  obtain ⟨m0, -⟩ := hm
  have m0 : γ 0 3 0 1 = ρ 1 := m0
  show sn93 [ρ 0, ρ 1] (γ 0) 0 0 (γ 0)
  refine Eq.symm ?_
  show fn93 [ρ 0] (γ 0) = _
  unfold fn93
  refine (zLet_eq (show _ = ρ 0 from rfl)).trans ?_
  refine (zLet_eq m0).trans ?_
  refine (if_neg w_0).trans ?_
  refine (if_pos w_1).trans ?_
  rfl
set_option maxRecDepth 100000 in
theorem vn93_2 {S : Nat → zSpc}  {a : List Int} {g : rHp} : ∀ (ρ : Nat → Int) (γ : Nat → rHp), zO 2 S a g q93_2 ρ γ → zGl (fun _ _ _ => True) (sn93 a g) q93_2 ρ γ := by
  intro ρ γ h
  obtain ⟨ha, hg, hr, hf, hm, hc, hl⟩ := h
  have ha : a = [ρ 0, ρ 1] := ha
  subst ha
  subst hg
  obtain ⟨r0, -⟩ := hr
  have r0 : (0 : Int) ≤ ρ 0 ∧ ρ 0 ≤ 2147483647 := r0
  obtain ⟨f0, -⟩ := hf
  have f0 : (0 : Int) ≤ ρ 1 + -ρ 0 + (-1) := f0
  obtain ⟨w_0, w_1⟩ : (¬ (ρ 0 < 0)) ∧ (¬ (ρ 0 ≥ ρ 1)) := ⟨by omega, by omega⟩
  obtain ⟨m0, m1, -⟩ := hm
  have m0 : γ 0 3 0 1 = ρ 1 := m0
  have m1 : γ 0 26 0 (ρ 0) = ρ 2 := m1
  show sn93 [ρ 0, ρ 1] (γ 0) 0 (ρ 2) (γ 0)
  refine Eq.symm ?_
  show fn93 [ρ 0] (γ 0) = _
  unfold fn93
  refine (zLet_eq (show _ = ρ 0 from rfl)).trans ?_
  refine (zLet_eq m0).trans ?_
  refine (if_neg w_0).trans ?_
  refine (if_neg w_1).trans ?_
  refine (zLet_eq m1).trans ?_
  rfl
set_option maxRecDepth 100000 in
theorem yn93 {S : Nat → zSpc}  : ∀ x g o v gz, zSem uW uT w93_.2.2.2.1 w93_.2.2.1.1.length S q93 (fun i => q93a.getD i []) (zNA a93_) x g o v gz → sn93 x g o v gz := by
  intro a g o v gz h
  exact zSem_all (l0 := q93) (las := q93a) (S := S) (J := (fun _ _ _ => True)) (P := sn93 a g) (fun _ => (show zAll _ [q93_0, q93_1, q93_2] from (zAll_c (vn93_0 ) (zAll_c (vn93_1 ) (zAll_c (vn93_2 ) zAll_n))))) (fun _ => (show zAllI _ 0 [] from trivial)) h
set_option maxRecDepth 100000 in
theorem vn170_0 {S : Nat → zSpc}  {a : List Int} {g : rHp} : ∀ (ρ : Nat → Int) (γ : Nat → rHp), zO 0 S a g q170_0 ρ γ → zGl (fun _ _ _ => True) (sn170 a g) q170_0 ρ γ := by
  intro ρ γ h
  obtain ⟨ha, hg, hr, hf, hm, hc, hl⟩ := h
  have ha : a = [] := ha
  subst ha
  subst hg
  obtain ⟨r0, -⟩ := hr
  have r0 : (1 : Int) ≤ ρ 0 ∧ ρ 0 ≤ 1 := r0
  have w_0 : ρ 0 ≠ 0 := by omega
  obtain ⟨m0, -⟩ := hm
  have m0 : γ 0 0 0 7 = ρ 0 := m0
  show sn170 [] (γ 0) 0 0 (γ 0)
  refine Eq.symm ?_
  show fn170 [] (γ 0) = _
  unfold fn170
  refine (zLet_eq m0).trans ?_
  refine (if_pos w_0).trans ?_
  rfl
set_option maxRecDepth 100000 in
theorem vn170_1 {S : Nat → zSpc}  {a : List Int} {g : rHp} : ∀ (ρ : Nat → Int) (γ : Nat → rHp), zO 0 S a g q170_1 ρ γ → zGl (fun _ _ _ => True) (sn170 a g) q170_1 ρ γ := by
  intro ρ γ h
  obtain ⟨ha, hg, hr, hf, hm, hc, hl⟩ := h
  have ha : a = [] := ha
  subst ha
  subst hg
  obtain ⟨r0, -⟩ := hr
  have r0 : (0 : Int) ≤ ρ 0 ∧ ρ 0 ≤ 0 := r0
  have w_0 : ¬ (ρ 0 ≠ 0) := by omega
  obtain ⟨m0, -⟩ := hm
  have m0 : γ 0 0 0 7 = ρ 0 := m0
  show sn170 [] (γ 0) 5 0 (γ 0)
  refine Eq.symm ?_
  show fn170 [] (γ 0) = _
  unfold fn170
  refine (zLet_eq m0).trans ?_
  refine (if_neg w_0).trans ?_
  rfl
set_option maxRecDepth 100000 in
theorem yn170 {S : Nat → zSpc}  : ∀ x g o v gz, zSem uW uT w170_.2.2.2.1 w170_.2.2.1.1.length S q170 (fun i => q170a.getD i []) (zNA a170_) x g o v gz → sn170 x g o v gz := by
  intro a g o v gz h
  exact zSem_all (l0 := q170) (las := q170a) (S := S) (J := (fun _ _ _ => True)) (P := sn170 a g) (fun _ => (show zAll _ [q170_0, q170_1] from (zAll_c (vn170_0 ) (zAll_c (vn170_1 ) zAll_n)))) (fun _ => (show zAllI _ 0 [] from trivial)) h
set_option maxRecDepth 100000 in
theorem vn171_0 {S : Nat → zSpc} (hS170 : ∀ x g o v gz, S 170 x g o v gz → sn170 x g o v gz) {a : List Int} {g : rHp} : ∀ (ρ : Nat → Int) (γ : Nat → rHp), zO 2 S a g q171_0 ρ γ → zGl (fun _ _ _ => True) (sn171 a g) q171_0 ρ γ := by
  intro ρ γ h
  obtain ⟨ha, hg, hr, hf, hm, hc, hl⟩ := h
  have ha : a = [ρ 0, ρ 1] := ha
  subst ha
  subst hg
  obtain ⟨r0, -⟩ := hr
  have r0 : ((-2147483648) : Int) ≤ ρ 0 ∧ ρ 0 ≤ (-1) := r0
  have w_0 : ρ 0 < 0 := by omega
  obtain ⟨m0, -⟩ := hm
  have m0 : γ 0 4 0 7 = ρ 1 := m0
  obtain ⟨l0, -⟩ := hl
  have l0 : sn170 [] (γ 0) 0 0 (γ 1) := hS170 _ _ _ _ _ l0
  show sn171 [ρ 0, ρ 1] (γ 0) 1 0 (γ 1)
  refine Eq.symm ?_
  show fn171 [ρ 0] (γ 0) = _
  unfold fn171
  refine (zLet_eq (show _ = ρ 0 from rfl)).trans ?_
  refine (zLet_eq m0).trans ?_
  refine (zLet_eq (show fn170 [] (γ 0) = (0, 0, γ 1) from l0.symm)).trans ?_
  refine (zLet_eq (show _ = γ 1 from rfl)).trans ?_
  refine (if_pos (show (0 : Nat) = 0 by decide)).trans ?_
  refine (if_pos w_0).trans ?_
  rfl
set_option maxRecDepth 100000 in
theorem vn171_1 {S : Nat → zSpc} (hS170 : ∀ x g o v gz, S 170 x g o v gz → sn170 x g o v gz) {a : List Int} {g : rHp} : ∀ (ρ : Nat → Int) (γ : Nat → rHp), zO 2 S a g q171_1 ρ γ → zGl (fun _ _ _ => True) (sn171 a g) q171_1 ρ γ := by
  intro ρ γ h
  obtain ⟨ha, hg, hr, hf, hm, hc, hl⟩ := h
  have ha : a = [ρ 0, ρ 1] := ha
  subst ha
  subst hg
  obtain ⟨r0, -⟩ := hr
  have r0 : (0 : Int) ≤ ρ 0 ∧ ρ 0 ≤ 2147483647 := r0
  obtain ⟨f0, -⟩ := hf
  have f0 : (0 : Int) ≤ ρ 1 + -ρ 0 + (-1) := f0
  obtain ⟨w_0, w_1⟩ : (¬ (ρ 0 < 0)) ∧ (ρ 0 < ρ 1) := ⟨by omega, by omega⟩
  obtain ⟨m0, -⟩ := hm
  have m0 : γ 0 4 0 7 = ρ 1 := m0
  obtain ⟨l0, -⟩ := hl
  have l0 : sn170 [] (γ 0) 0 0 (γ 1) := hS170 _ _ _ _ _ l0
  show sn171 [ρ 0, ρ 1] (γ 0) 0 0 (γ 1)
  refine Eq.symm ?_
  show fn171 [ρ 0] (γ 0) = _
  unfold fn171
  refine (zLet_eq (show _ = ρ 0 from rfl)).trans ?_
  refine (zLet_eq m0).trans ?_
  refine (zLet_eq (show fn170 [] (γ 0) = (0, 0, γ 1) from l0.symm)).trans ?_
  refine (zLet_eq (show _ = γ 1 from rfl)).trans ?_
  refine (if_pos (show (0 : Nat) = 0 by decide)).trans ?_
  refine (if_neg w_0).trans ?_
  refine (if_pos w_1).trans ?_
  rfl
set_option maxRecDepth 100000 in
theorem vn171_2 {S : Nat → zSpc} (hS170 : ∀ x g o v gz, S 170 x g o v gz → sn170 x g o v gz) {a : List Int} {g : rHp} : ∀ (ρ : Nat → Int) (γ : Nat → rHp), zO 2 S a g q171_2 ρ γ → zGl (fun _ _ _ => True) (sn171 a g) q171_2 ρ γ := by
  intro ρ γ h
  obtain ⟨ha, hg, hr, hf, hm, hc, hl⟩ := h
  have ha : a = [ρ 0, ρ 1] := ha
  subst ha
  subst hg
  obtain ⟨r0, -⟩ := hr
  have r0 : (0 : Int) ≤ ρ 0 ∧ ρ 0 ≤ 2147483647 := r0
  obtain ⟨f0, -⟩ := hf
  have f0 : (0 : Int) ≤ -ρ 1 + ρ 0 := f0
  obtain ⟨w_0, w_1⟩ : (¬ (ρ 0 < 0)) ∧ (¬ (ρ 0 < ρ 1)) := ⟨by omega, by omega⟩
  obtain ⟨m0, -⟩ := hm
  have m0 : γ 0 4 0 7 = ρ 1 := m0
  obtain ⟨l0, -⟩ := hl
  have l0 : sn170 [] (γ 0) 0 0 (γ 1) := hS170 _ _ _ _ _ l0
  show sn171 [ρ 0, ρ 1] (γ 0) 1 0 (γ 1)
  refine Eq.symm ?_
  show fn171 [ρ 0] (γ 0) = _
  unfold fn171
  refine (zLet_eq (show _ = ρ 0 from rfl)).trans ?_
  refine (zLet_eq m0).trans ?_
  refine (zLet_eq (show fn170 [] (γ 0) = (0, 0, γ 1) from l0.symm)).trans ?_
  refine (zLet_eq (show _ = γ 1 from rfl)).trans ?_
  refine (if_pos (show (0 : Nat) = 0 by decide)).trans ?_
  refine (if_neg w_0).trans ?_
  refine (if_neg w_1).trans ?_
  rfl
set_option maxRecDepth 100000 in
theorem vn171_3 {S : Nat → zSpc} (hS170 : ∀ x g o v gz, S 170 x g o v gz → sn170 x g o v gz) {a : List Int} {g : rHp} : ∀ (ρ : Nat → Int) (γ : Nat → rHp), zO 2 S a g q171_3 ρ γ → zGl (fun _ _ _ => True) (sn171 a g) q171_3 ρ γ := by
  intro ρ γ h
  obtain ⟨ha, hg, hr, hf, hm, hc, hl⟩ := h
  have ha : a = [ρ 0, ρ 1] := ha
  subst ha
  subst hg
  obtain ⟨m0, -⟩ := hm
  have m0 : γ 0 4 0 7 = ρ 1 := m0
  obtain ⟨l0, -⟩ := hl
  have l0 : sn170 [] (γ 0) 5 0 (γ 1) := hS170 _ _ _ _ _ l0
  show sn171 [ρ 0, ρ 1] (γ 0) 5 0 (γ 1)
  refine Eq.symm ?_
  show fn171 [ρ 0] (γ 0) = _
  unfold fn171
  refine (zLet_eq (show _ = ρ 0 from rfl)).trans ?_
  refine (zLet_eq m0).trans ?_
  refine (zLet_eq (show fn170 [] (γ 0) = (5, 0, γ 1) from l0.symm)).trans ?_
  refine (zLet_eq (show _ = γ 1 from rfl)).trans ?_
  refine (if_neg (show ¬ (5 : Nat) = 0 by decide)).trans ?_
  rfl
set_option maxRecDepth 100000 in
theorem yn171 {S : Nat → zSpc} (hS170 : ∀ x g o v gz, S 170 x g o v gz → sn170 x g o v gz) : ∀ x g o v gz, zSem uW uT w171_.2.2.2.1 w171_.2.2.1.1.length S q171 (fun i => q171a.getD i []) (zNA a171_) x g o v gz → sn171 x g o v gz := by
  intro a g o v gz h
  exact zSem_all (l0 := q171) (las := q171a) (S := S) (J := (fun _ _ _ => True)) (P := sn171 a g) (fun _ => (show zAll _ [q171_0, q171_1, q171_2, q171_3] from (zAll_c (vn171_0 hS170) (zAll_c (vn171_1 hS170) (zAll_c (vn171_2 hS170) (zAll_c (vn171_3 hS170) zAll_n)))))) (fun _ => (show zAllI _ 0 [] from trivial)) h
set_option maxRecDepth 100000 in
theorem vn173_0 {S : Nat → zSpc} (hS172 : ∀ x g o v gz, S 172 x g o v gz → sn172 x g o v gz) {a : List Int} {g : rHp} : ∀ (ρ : Nat → Int) (γ : Nat → rHp), zO 1 S a g q173_0 ρ γ → zGl (fun _ _ _ => True) (sn173 a g) q173_0 ρ γ := by
  intro ρ γ h
  obtain ⟨ha, hg, hr, hf, hm, hc, hl⟩ := h
  have ha : a = [ρ 0] := ha
  subst ha
  subst hg
  obtain ⟨l0, l1, l2, -⟩ := hl
  have l0 : sn172 [ρ 0] (γ 0) 0 0 (γ 1) := hS172 _ _ _ _ _ l0
  have l1 : zOpP (.l2i) (γ 0) (γ 1) [ρ 0 + (-1099511627776)] (ρ 1) := l1
  have l2 : zOpP (.iadd) (γ 0) (γ 1) [200000000, ρ 1] (ρ 2) := l2
  show sn173 [ρ 0] (γ 0) 0 (ρ 2) (γ 1)
  refine Eq.symm ?_
  show fn173 [ρ 0] (γ 0) = _
  unfold fn173
  refine (zLet_eq (show _ = ρ 0 from rfl)).trans ?_
  refine (zLet_eq (show fn172 [ρ 0] (γ 0) = (0, 0, γ 1) from l0.symm)).trans ?_
  refine (zLet_eq (show _ = γ 1 from rfl)).trans ?_
  refine (if_neg zQ0_).trans ?_
  refine (zLet_eq (zF1_ok l1)).trans ?_
  refine (zLet_eq (zF2_ok l2)).trans ?_
  rfl
set_option maxRecDepth 100000 in
theorem vn173_1 {S : Nat → zSpc} (hS172 : ∀ x g o v gz, S 172 x g o v gz → sn172 x g o v gz) {a : List Int} {g : rHp} : ∀ (ρ : Nat → Int) (γ : Nat → rHp), zO 1 S a g q173_1 ρ γ → zGl (fun _ _ _ => True) (sn173 a g) q173_1 ρ γ := by
  intro ρ γ h
  obtain ⟨ha, hg, hr, hf, hm, hc, hl⟩ := h
  have ha : a = [ρ 0] := ha
  subst ha
  subst hg
  obtain ⟨l0, l1, -⟩ := hl
  have l0 : sn172 [ρ 0] (γ 0) 0 1 (γ 1) := hS172 _ _ _ _ _ l0
  have l1 : zOpP (.l2i) (γ 0) (γ 1) [ρ 0] (ρ 1) := l1
  show sn173 [ρ 0] (γ 0) 0 (ρ 1) (γ 1)
  refine Eq.symm ?_
  show fn173 [ρ 0] (γ 0) = _
  unfold fn173
  refine (zLet_eq (show _ = ρ 0 from rfl)).trans ?_
  refine (zLet_eq (show fn172 [ρ 0] (γ 0) = (0, 1, γ 1) from l0.symm)).trans ?_
  refine (zLet_eq (show _ = γ 1 from rfl)).trans ?_
  refine (if_pos zQ1_).trans ?_
  refine (zLet_eq (zF1_ok l1)).trans ?_
  rfl
set_option maxRecDepth 100000 in
theorem yn173 {S : Nat → zSpc} (hS172 : ∀ x g o v gz, S 172 x g o v gz → sn172 x g o v gz) : ∀ x g o v gz, zSem uW uT w173_.2.2.2.1 w173_.2.2.1.1.length S q173 (fun i => q173a.getD i []) (zNA a173_) x g o v gz → sn173 x g o v gz := by
  intro a g o v gz h
  exact zSem_all (l0 := q173) (las := q173a) (S := S) (J := (fun _ _ _ => True)) (P := sn173 a g) (fun _ => (show zAll _ [q173_0, q173_1] from (zAll_c (vn173_0 hS172) (zAll_c (vn173_1 hS172) zAll_n)))) (fun _ => (show zAllI _ 0 [] from trivial)) h
set_option maxRecDepth 100000 in
theorem vn174_0 {S : Nat → zSpc} (hS171 : ∀ x g o v gz, S 171 x g o v gz → sn171 x g o v gz) (hS173 : ∀ x g o v gz, S 173 x g o v gz → sn173 x g o v gz) {a : List Int} {g : rHp} : ∀ (ρ : Nat → Int) (γ : Nat → rHp), zO 3 S a g q174_0 ρ γ → zGl (fun _ _ _ => True) (sn174 a g) q174_0 ρ γ := by
  intro ρ γ h
  obtain ⟨ha, hg, hr, hf, hm, hc, hl⟩ := h
  have ha : a = [ρ 0, ρ 1, ρ 2] := ha
  subst ha
  subst hg
  obtain ⟨-, r1, -⟩ := hr
  have r1 : ((-2147483648) : Int) ≤ ρ 1 ∧ ρ 1 ≤ (-1) := r1
  have w_0 : ρ 1 < 0 := by omega
  show sn174 [ρ 0, ρ 1, ρ 2] (γ 0) 2 0 (γ 0)
  refine Eq.symm ?_
  show fn174 [ρ 0, ρ 1] (γ 0) = _
  unfold fn174
  refine (zLet_eq (show _ = ρ 0 from rfl)).trans ?_
  refine (zLet_eq (show _ = ρ 1 from rfl)).trans ?_
  refine (if_pos w_0).trans ?_
  rfl
set_option maxRecDepth 100000 in
theorem vn174_1 {S : Nat → zSpc} (hS171 : ∀ x g o v gz, S 171 x g o v gz → sn171 x g o v gz) (hS173 : ∀ x g o v gz, S 173 x g o v gz → sn173 x g o v gz) {a : List Int} {g : rHp} : ∀ (ρ : Nat → Int) (γ : Nat → rHp), zO 3 S a g q174_1 ρ γ → zGl (fun _ _ _ => True) (sn174 a g) q174_1 ρ γ := by
  intro ρ γ h
  obtain ⟨ha, hg, hr, hf, hm, hc, hl⟩ := h
  have ha : a = [ρ 0, ρ 1, ρ 2] := ha
  subst ha
  subst hg
  obtain ⟨-, r1, -⟩ := hr
  have r1 : (0 : Int) ≤ ρ 1 ∧ ρ 1 ≤ 3 := r1
  obtain ⟨f0, -⟩ := hf
  have f0 : (0 : Int) ≤ -ρ 4 + ρ 1 := f0
  obtain ⟨w_0, w_1, w_2, w_3⟩ : (¬ (ρ 1 < 0)) ∧ (ρ 1 < 9) ∧ (0 ≤ -ρ 1 + 3) ∧ (ρ 1 ≥ ρ 4) := ⟨by omega, by omega, by omega, by omega⟩
  obtain ⟨-, m1, m2, -⟩ := hm
  have m1 : γ 0 28 0 (ρ 0) = ρ 3 := m1
  have m2 : γ 0 17 0 (ρ 3) = ρ 4 := m2
  obtain ⟨l0, -⟩ := hl
  have l0 : sn171 [ρ 0, ρ 2] (γ 0) 0 0 (γ 1) := hS171 _ _ _ _ _ l0
  show sn174 [ρ 0, ρ 1, ρ 2] (γ 0) 0 300000000 (γ 1)
  refine Eq.symm ?_
  show fn174 [ρ 0, ρ 1] (γ 0) = _
  unfold fn174
  refine (zLet_eq (show _ = ρ 0 from rfl)).trans ?_
  refine (zLet_eq (show _ = ρ 1 from rfl)).trans ?_
  refine (if_neg w_0).trans ?_
  refine (if_pos w_1).trans ?_
  refine (zLet_eq (show fn171 [ρ 0] (γ 0) = (0, 0, γ 1) from l0.symm)).trans ?_
  refine (zLet_eq (show _ = γ 1 from rfl)).trans ?_
  refine (if_pos (show (0 : Nat) = 0 by decide)).trans ?_
  refine (zLet_eq m1).trans ?_
  refine (if_pos w_2).trans ?_
  refine (zLet_eq m2).trans ?_
  refine (if_pos w_3).trans ?_
  rfl
set_option maxRecDepth 100000 in
theorem vn174_2 {S : Nat → zSpc} (hS171 : ∀ x g o v gz, S 171 x g o v gz → sn171 x g o v gz) (hS173 : ∀ x g o v gz, S 173 x g o v gz → sn173 x g o v gz) {a : List Int} {g : rHp} : ∀ (ρ : Nat → Int) (γ : Nat → rHp), zO 3 S a g q174_2 ρ γ → zGl (fun _ _ _ => True) (sn174 a g) q174_2 ρ γ := by
  intro ρ γ h
  obtain ⟨ha, hg, hr, hf, hm, hc, hl⟩ := h
  have ha : a = [ρ 0, ρ 1, ρ 2] := ha
  subst ha
  subst hg
  obtain ⟨-, r1, -⟩ := hr
  have r1 : (0 : Int) ≤ ρ 1 ∧ ρ 1 ≤ 3 := r1
  obtain ⟨f0, -⟩ := hf
  have f0 : (0 : Int) ≤ ρ 4 + -ρ 1 + (-1) := f0
  obtain ⟨w_0, w_1, w_2, w_3⟩ : (¬ (ρ 1 < 0)) ∧ (ρ 1 < 9) ∧ (0 ≤ -ρ 1 + 3) ∧ (¬ (ρ 1 ≥ ρ 4)) := ⟨by omega, by omega, by omega, by omega⟩
  obtain ⟨-, m1, m2, m3, -⟩ := hm
  have m1 : γ 0 28 0 (ρ 0) = ρ 3 := m1
  have m2 : γ 0 17 0 (ρ 3) = ρ 4 := m2
  have m3 : γ 0 27 0 (ρ 1 + 4 * ρ 0) = ρ 5 := m3
  obtain ⟨l0, l1, -⟩ := hl
  have l0 : sn171 [ρ 0, ρ 2] (γ 0) 0 0 (γ 1) := hS171 _ _ _ _ _ l0
  have l1 : sn173 [ρ 5] (γ 1) 0 (ρ 6) (γ 2) := hS173 _ _ _ _ _ l1
  show sn174 [ρ 0, ρ 1, ρ 2] (γ 0) 0 (ρ 6) (γ 2)
  refine Eq.symm ?_
  show fn174 [ρ 0, ρ 1] (γ 0) = _
  unfold fn174
  refine (zLet_eq (show _ = ρ 0 from rfl)).trans ?_
  refine (zLet_eq (show _ = ρ 1 from rfl)).trans ?_
  refine (if_neg w_0).trans ?_
  refine (if_pos w_1).trans ?_
  refine (zLet_eq (show fn171 [ρ 0] (γ 0) = (0, 0, γ 1) from l0.symm)).trans ?_
  refine (zLet_eq (show _ = γ 1 from rfl)).trans ?_
  refine (if_pos (show (0 : Nat) = 0 by decide)).trans ?_
  refine (zLet_eq m1).trans ?_
  refine (if_pos w_2).trans ?_
  refine (zLet_eq m2).trans ?_
  refine (if_neg w_3).trans ?_
  refine (zLet_eq m3).trans ?_
  refine (zLet_eq (show fn173 [ρ 5] (γ 1) = (0, ρ 6, γ 2) from l1.symm)).trans ?_
  refine (zLet_eq (show _ = γ 2 from rfl)).trans ?_
  refine (zLet_eq (show _ = ρ 6 from rfl)).trans ?_
  rfl
set_option maxRecDepth 100000 in
theorem vn174_3 {S : Nat → zSpc} (hS171 : ∀ x g o v gz, S 171 x g o v gz → sn171 x g o v gz) (hS173 : ∀ x g o v gz, S 173 x g o v gz → sn173 x g o v gz) {a : List Int} {g : rHp} : ∀ (ρ : Nat → Int) (γ : Nat → rHp), zO 3 S a g q174_3 ρ γ → zGl (fun _ _ _ => True) (sn174 a g) q174_3 ρ γ := by
  intro ρ γ h
  obtain ⟨ha, hg, hr, hf, hm, hc, hl⟩ := h
  have ha : a = [ρ 0, ρ 1, ρ 2] := ha
  subst ha
  subst hg
  obtain ⟨-, r1, -⟩ := hr
  have r1 : (4 : Int) ≤ ρ 1 ∧ ρ 1 ≤ 4 := r1
  obtain ⟨w_0, w_1, w_2, w_3⟩ : (¬ (ρ 1 < 0)) ∧ (ρ 1 < 9) ∧ (¬ (0 ≤ -ρ 1 + 3)) ∧ (ρ 1 = 4) := ⟨by omega, by omega, by omega, by omega⟩
  obtain ⟨-, m1, -⟩ := hm
  have m1 : γ 0 28 0 (ρ 0) = ρ 3 := m1
  obtain ⟨l0, -⟩ := hl
  have l0 : sn171 [ρ 0, ρ 2] (γ 0) 0 0 (γ 1) := hS171 _ _ _ _ _ l0
  show sn174 [ρ 0, ρ 1, ρ 2] (γ 0) 0 (ρ 3) (γ 1)
  refine Eq.symm ?_
  show fn174 [ρ 0, ρ 1] (γ 0) = _
  unfold fn174
  refine (zLet_eq (show _ = ρ 0 from rfl)).trans ?_
  refine (zLet_eq (show _ = ρ 1 from rfl)).trans ?_
  refine (if_neg w_0).trans ?_
  refine (if_pos w_1).trans ?_
  refine (zLet_eq (show fn171 [ρ 0] (γ 0) = (0, 0, γ 1) from l0.symm)).trans ?_
  refine (zLet_eq (show _ = γ 1 from rfl)).trans ?_
  refine (if_pos (show (0 : Nat) = 0 by decide)).trans ?_
  refine (zLet_eq m1).trans ?_
  refine (if_neg w_2).trans ?_
  refine (if_pos w_3).trans ?_
  rfl
set_option maxRecDepth 100000 in
theorem vn174_4 {S : Nat → zSpc} (hS171 : ∀ x g o v gz, S 171 x g o v gz → sn171 x g o v gz) (hS173 : ∀ x g o v gz, S 173 x g o v gz → sn173 x g o v gz) {a : List Int} {g : rHp} : ∀ (ρ : Nat → Int) (γ : Nat → rHp), zO 3 S a g q174_4 ρ γ → zGl (fun _ _ _ => True) (sn174 a g) q174_4 ρ γ := by
  intro ρ γ h
  obtain ⟨ha, hg, hr, hf, hm, hc, hl⟩ := h
  have ha : a = [ρ 0, ρ 1, ρ 2] := ha
  subst ha
  subst hg
  obtain ⟨-, r1, -⟩ := hr
  have r1 : (5 : Int) ≤ ρ 1 ∧ ρ 1 ≤ 5 := r1
  obtain ⟨w_0, w_1, w_2, w_3, w_4⟩ : (¬ (ρ 1 < 0)) ∧ (ρ 1 < 9) ∧ (¬ (0 ≤ -ρ 1 + 3)) ∧ (¬ (ρ 1 = 4)) ∧ (ρ 1 = 5) := ⟨by omega, by omega, by omega, by omega, by omega⟩
  obtain ⟨-, m1, m2, -⟩ := hm
  have m1 : γ 0 28 0 (ρ 0) = ρ 3 := m1
  have m2 : γ 0 18 0 (ρ 3) = ρ 4 := m2
  obtain ⟨l0, -⟩ := hl
  have l0 : sn171 [ρ 0, ρ 2] (γ 0) 0 0 (γ 1) := hS171 _ _ _ _ _ l0
  show sn174 [ρ 0, ρ 1, ρ 2] (γ 0) 0 (ρ 4) (γ 1)
  refine Eq.symm ?_
  show fn174 [ρ 0, ρ 1] (γ 0) = _
  unfold fn174
  refine (zLet_eq (show _ = ρ 0 from rfl)).trans ?_
  refine (zLet_eq (show _ = ρ 1 from rfl)).trans ?_
  refine (if_neg w_0).trans ?_
  refine (if_pos w_1).trans ?_
  refine (zLet_eq (show fn171 [ρ 0] (γ 0) = (0, 0, γ 1) from l0.symm)).trans ?_
  refine (zLet_eq (show _ = γ 1 from rfl)).trans ?_
  refine (if_pos (show (0 : Nat) = 0 by decide)).trans ?_
  refine (zLet_eq m1).trans ?_
  refine (if_neg w_2).trans ?_
  refine (if_neg w_3).trans ?_
  refine (if_pos w_4).trans ?_
  refine (zLet_eq m2).trans ?_
  rfl
set_option maxRecDepth 100000 in
theorem vn174_5 {S : Nat → zSpc} (hS171 : ∀ x g o v gz, S 171 x g o v gz → sn171 x g o v gz) (hS173 : ∀ x g o v gz, S 173 x g o v gz → sn173 x g o v gz) {a : List Int} {g : rHp} : ∀ (ρ : Nat → Int) (γ : Nat → rHp), zO 3 S a g q174_5 ρ γ → zGl (fun _ _ _ => True) (sn174 a g) q174_5 ρ γ := by
  intro ρ γ h
  obtain ⟨ha, hg, hr, hf, hm, hc, hl⟩ := h
  have ha : a = [ρ 0, ρ 1, ρ 2] := ha
  subst ha
  subst hg
  obtain ⟨-, r1, -⟩ := hr
  have r1 : (6 : Int) ≤ ρ 1 ∧ ρ 1 ≤ 6 := r1
  obtain ⟨w_0, w_1, w_2, w_3, w_4, w_5⟩ : (¬ (ρ 1 < 0)) ∧ (ρ 1 < 9) ∧ (¬ (0 ≤ -ρ 1 + 3)) ∧ (¬ (ρ 1 = 4)) ∧ (¬ (ρ 1 = 5)) ∧ (ρ 1 = 6) := ⟨by omega, by omega, by omega, by omega, by omega, by omega⟩
  obtain ⟨-, m1, m2, -⟩ := hm
  have m1 : γ 0 28 0 (ρ 0) = ρ 3 := m1
  have m2 : γ 0 29 0 (ρ 0) = ρ 4 := m2
  obtain ⟨l0, -⟩ := hl
  have l0 : sn171 [ρ 0, ρ 2] (γ 0) 0 0 (γ 1) := hS171 _ _ _ _ _ l0
  show sn174 [ρ 0, ρ 1, ρ 2] (γ 0) 0 (ρ 4) (γ 1)
  refine Eq.symm ?_
  show fn174 [ρ 0, ρ 1] (γ 0) = _
  unfold fn174
  refine (zLet_eq (show _ = ρ 0 from rfl)).trans ?_
  refine (zLet_eq (show _ = ρ 1 from rfl)).trans ?_
  refine (if_neg w_0).trans ?_
  refine (if_pos w_1).trans ?_
  refine (zLet_eq (show fn171 [ρ 0] (γ 0) = (0, 0, γ 1) from l0.symm)).trans ?_
  refine (zLet_eq (show _ = γ 1 from rfl)).trans ?_
  refine (if_pos (show (0 : Nat) = 0 by decide)).trans ?_
  refine (zLet_eq m1).trans ?_
  refine (if_neg w_2).trans ?_
  refine (if_neg w_3).trans ?_
  refine (if_neg w_4).trans ?_
  refine (if_pos w_5).trans ?_
  refine (zLet_eq m2).trans ?_
  rfl
set_option maxRecDepth 100000 in
theorem vn174_6 {S : Nat → zSpc} (hS171 : ∀ x g o v gz, S 171 x g o v gz → sn171 x g o v gz) (hS173 : ∀ x g o v gz, S 173 x g o v gz → sn173 x g o v gz) {a : List Int} {g : rHp} : ∀ (ρ : Nat → Int) (γ : Nat → rHp), zO 3 S a g q174_6 ρ γ → zGl (fun _ _ _ => True) (sn174 a g) q174_6 ρ γ := by
  intro ρ γ h
  obtain ⟨ha, hg, hr, hf, hm, hc, hl⟩ := h
  have ha : a = [ρ 0, ρ 1, ρ 2] := ha
  subst ha
  subst hg
  obtain ⟨-, r1, -⟩ := hr
  have r1 : (7 : Int) ≤ ρ 1 ∧ ρ 1 ≤ 7 := r1
  obtain ⟨w_0, w_1, w_2, w_3, w_4, w_5, w_6⟩ : (¬ (ρ 1 < 0)) ∧ (ρ 1 < 9) ∧ (¬ (0 ≤ -ρ 1 + 3)) ∧ (¬ (ρ 1 = 4)) ∧ (¬ (ρ 1 = 5)) ∧ (¬ (ρ 1 = 6)) ∧ (ρ 1 = 7) := ⟨by omega, by omega, by omega, by omega, by omega, by omega, by omega⟩
  obtain ⟨-, m1, m2, -⟩ := hm
  have m1 : γ 0 28 0 (ρ 0) = ρ 3 := m1
  have m2 : γ 0 30 0 (ρ 0) = ρ 4 := m2
  obtain ⟨l0, -⟩ := hl
  have l0 : sn171 [ρ 0, ρ 2] (γ 0) 0 0 (γ 1) := hS171 _ _ _ _ _ l0
  show sn174 [ρ 0, ρ 1, ρ 2] (γ 0) 0 (ρ 4) (γ 1)
  refine Eq.symm ?_
  show fn174 [ρ 0, ρ 1] (γ 0) = _
  unfold fn174
  refine (zLet_eq (show _ = ρ 0 from rfl)).trans ?_
  refine (zLet_eq (show _ = ρ 1 from rfl)).trans ?_
  refine (if_neg w_0).trans ?_
  refine (if_pos w_1).trans ?_
  refine (zLet_eq (show fn171 [ρ 0] (γ 0) = (0, 0, γ 1) from l0.symm)).trans ?_
  refine (zLet_eq (show _ = γ 1 from rfl)).trans ?_
  refine (if_pos (show (0 : Nat) = 0 by decide)).trans ?_
  refine (zLet_eq m1).trans ?_
  refine (if_neg w_2).trans ?_
  refine (if_neg w_3).trans ?_
  refine (if_neg w_4).trans ?_
  refine (if_neg w_5).trans ?_
  refine (if_pos w_6).trans ?_
  refine (zLet_eq m2).trans ?_
  rfl
set_option maxRecDepth 100000 in
theorem vn174_7 {S : Nat → zSpc} (hS171 : ∀ x g o v gz, S 171 x g o v gz → sn171 x g o v gz) (hS173 : ∀ x g o v gz, S 173 x g o v gz → sn173 x g o v gz) {a : List Int} {g : rHp} : ∀ (ρ : Nat → Int) (γ : Nat → rHp), zO 3 S a g q174_7 ρ γ → zGl (fun _ _ _ => True) (sn174 a g) q174_7 ρ γ := by
  intro ρ γ h
  obtain ⟨ha, hg, hr, hf, hm, hc, hl⟩ := h
  have ha : a = [ρ 0, ρ 1, ρ 2] := ha
  subst ha
  subst hg
  obtain ⟨-, r1, -⟩ := hr
  have r1 : (8 : Int) ≤ ρ 1 ∧ ρ 1 ≤ 8 := r1
  obtain ⟨w_0, w_1, w_2, w_3, w_4, w_5, w_6⟩ : (¬ (ρ 1 < 0)) ∧ (ρ 1 < 9) ∧ (¬ (0 ≤ -ρ 1 + 3)) ∧ (¬ (ρ 1 = 4)) ∧ (¬ (ρ 1 = 5)) ∧ (¬ (ρ 1 = 6)) ∧ (¬ (ρ 1 = 7)) := ⟨by omega, by omega, by omega, by omega, by omega, by omega, by omega⟩
  obtain ⟨-, m1, m2, -⟩ := hm
  have m1 : γ 0 28 0 (ρ 0) = ρ 3 := m1
  have m2 : γ 0 32 0 (ρ 0) = ρ 4 := m2
  obtain ⟨l0, -⟩ := hl
  have l0 : sn171 [ρ 0, ρ 2] (γ 0) 0 0 (γ 1) := hS171 _ _ _ _ _ l0
  show sn174 [ρ 0, ρ 1, ρ 2] (γ 0) 0 (ρ 4) (γ 1)
  refine Eq.symm ?_
  show fn174 [ρ 0, ρ 1] (γ 0) = _
  unfold fn174
  refine (zLet_eq (show _ = ρ 0 from rfl)).trans ?_
  refine (zLet_eq (show _ = ρ 1 from rfl)).trans ?_
  refine (if_neg w_0).trans ?_
  refine (if_pos w_1).trans ?_
  refine (zLet_eq (show fn171 [ρ 0] (γ 0) = (0, 0, γ 1) from l0.symm)).trans ?_
  refine (zLet_eq (show _ = γ 1 from rfl)).trans ?_
  refine (if_pos (show (0 : Nat) = 0 by decide)).trans ?_
  refine (zLet_eq m1).trans ?_
  refine (if_neg w_2).trans ?_
  refine (if_neg w_3).trans ?_
  refine (if_neg w_4).trans ?_
  refine (if_neg w_5).trans ?_
  refine (if_neg w_6).trans ?_
  refine (zLet_eq m2).trans ?_
  rfl
set_option maxRecDepth 100000 in
theorem vn174_8 {S : Nat → zSpc} (hS171 : ∀ x g o v gz, S 171 x g o v gz → sn171 x g o v gz) (hS173 : ∀ x g o v gz, S 173 x g o v gz → sn173 x g o v gz) {a : List Int} {g : rHp} : ∀ (ρ : Nat → Int) (γ : Nat → rHp), zO 3 S a g q174_8 ρ γ → zGl (fun _ _ _ => True) (sn174 a g) q174_8 ρ γ := by
  intro ρ γ h
  obtain ⟨ha, hg, hr, hf, hm, hc, hl⟩ := h
  have ha : a = [ρ 0, ρ 1, ρ 2] := ha
  subst ha
  subst hg
  obtain ⟨-, r1, -⟩ := hr
  have r1 : (0 : Int) ≤ ρ 1 ∧ ρ 1 ≤ 8 := r1
  obtain ⟨w_0, w_1⟩ : (¬ (ρ 1 < 0)) ∧ (ρ 1 < 9) := ⟨by omega, by omega⟩
  obtain ⟨l0, -⟩ := hl
  have l0 : sn171 [ρ 0, ρ 2] (γ 0) 1 0 (γ 1) := hS171 _ _ _ _ _ l0
  show sn174 [ρ 0, ρ 1, ρ 2] (γ 0) 1 0 (γ 1)
  refine Eq.symm ?_
  show fn174 [ρ 0, ρ 1] (γ 0) = _
  unfold fn174
  refine (zLet_eq (show _ = ρ 0 from rfl)).trans ?_
  refine (zLet_eq (show _ = ρ 1 from rfl)).trans ?_
  refine (if_neg w_0).trans ?_
  refine (if_pos w_1).trans ?_
  refine (zLet_eq (show fn171 [ρ 0] (γ 0) = (1, 0, γ 1) from l0.symm)).trans ?_
  refine (zLet_eq (show _ = γ 1 from rfl)).trans ?_
  refine (if_neg (show ¬ (1 : Nat) = 0 by decide)).trans ?_
  refine (if_pos (show (1 : Nat) = 1 by decide)).trans ?_
  rfl
set_option maxRecDepth 100000 in
theorem vn174_9 {S : Nat → zSpc} (hS171 : ∀ x g o v gz, S 171 x g o v gz → sn171 x g o v gz) (hS173 : ∀ x g o v gz, S 173 x g o v gz → sn173 x g o v gz) {a : List Int} {g : rHp} : ∀ (ρ : Nat → Int) (γ : Nat → rHp), zO 3 S a g q174_9 ρ γ → zGl (fun _ _ _ => True) (sn174 a g) q174_9 ρ γ := by
  intro ρ γ h
  obtain ⟨ha, hg, hr, hf, hm, hc, hl⟩ := h
  have ha : a = [ρ 0, ρ 1, ρ 2] := ha
  subst ha
  subst hg
  obtain ⟨-, r1, -⟩ := hr
  have r1 : (0 : Int) ≤ ρ 1 ∧ ρ 1 ≤ 8 := r1
  obtain ⟨w_0, w_1⟩ : (¬ (ρ 1 < 0)) ∧ (ρ 1 < 9) := ⟨by omega, by omega⟩
  obtain ⟨l0, -⟩ := hl
  have l0 : sn171 [ρ 0, ρ 2] (γ 0) 5 0 (γ 1) := hS171 _ _ _ _ _ l0
  show sn174 [ρ 0, ρ 1, ρ 2] (γ 0) 5 0 (γ 1)
  refine Eq.symm ?_
  show fn174 [ρ 0, ρ 1] (γ 0) = _
  unfold fn174
  refine (zLet_eq (show _ = ρ 0 from rfl)).trans ?_
  refine (zLet_eq (show _ = ρ 1 from rfl)).trans ?_
  refine (if_neg w_0).trans ?_
  refine (if_pos w_1).trans ?_
  refine (zLet_eq (show fn171 [ρ 0] (γ 0) = (5, 0, γ 1) from l0.symm)).trans ?_
  refine (zLet_eq (show _ = γ 1 from rfl)).trans ?_
  refine (if_neg (show ¬ (5 : Nat) = 0 by decide)).trans ?_
  refine (if_neg (show ¬ (5 : Nat) = 1 by decide)).trans ?_
  rfl
set_option maxRecDepth 100000 in
theorem vn174_10 {S : Nat → zSpc} (hS171 : ∀ x g o v gz, S 171 x g o v gz → sn171 x g o v gz) (hS173 : ∀ x g o v gz, S 173 x g o v gz → sn173 x g o v gz) {a : List Int} {g : rHp} : ∀ (ρ : Nat → Int) (γ : Nat → rHp), zO 3 S a g q174_10 ρ γ → zGl (fun _ _ _ => True) (sn174 a g) q174_10 ρ γ := by
  intro ρ γ h
  obtain ⟨ha, hg, hr, hf, hm, hc, hl⟩ := h
  have ha : a = [ρ 0, ρ 1, ρ 2] := ha
  subst ha
  subst hg
  obtain ⟨-, r1, -⟩ := hr
  have r1 : (9 : Int) ≤ ρ 1 ∧ ρ 1 ≤ 2147483647 := r1
  obtain ⟨w_0, w_1⟩ : (¬ (ρ 1 < 0)) ∧ (¬ (ρ 1 < 9)) := ⟨by omega, by omega⟩
  show sn174 [ρ 0, ρ 1, ρ 2] (γ 0) 2 0 (γ 0)
  refine Eq.symm ?_
  show fn174 [ρ 0, ρ 1] (γ 0) = _
  unfold fn174
  refine (zLet_eq (show _ = ρ 0 from rfl)).trans ?_
  refine (zLet_eq (show _ = ρ 1 from rfl)).trans ?_
  refine (if_neg w_0).trans ?_
  refine (if_neg w_1).trans ?_
  rfl
set_option maxRecDepth 100000 in
theorem yn174 {S : Nat → zSpc} (hS171 : ∀ x g o v gz, S 171 x g o v gz → sn171 x g o v gz) (hS173 : ∀ x g o v gz, S 173 x g o v gz → sn173 x g o v gz) : ∀ x g o v gz, zSem uW uT w174_.2.2.2.1 w174_.2.2.1.1.length S q174 (fun i => q174a.getD i []) (zNA a174_) x g o v gz → sn174 x g o v gz := by
  intro a g o v gz h
  exact zSem_all (l0 := q174) (las := q174a) (S := S) (J := (fun _ _ _ => True)) (P := sn174 a g) (fun _ => (show zAll _ [q174_0, q174_1, q174_2, q174_3, q174_4, q174_5, q174_6, q174_7, q174_8, q174_9, q174_10] from (zAll_c (vn174_0 hS171 hS173) (zAll_c (vn174_1 hS171 hS173) (zAll_c (vn174_2 hS171 hS173) (zAll_c (vn174_3 hS171 hS173) (zAll_c (vn174_4 hS171 hS173) (zAll_c (vn174_5 hS171 hS173) (zAll_c (vn174_6 hS171 hS173) (zAll_c (vn174_7 hS171 hS173) (zAll_c (vn174_8 hS171 hS173) (zAll_c (vn174_9 hS171 hS173) (zAll_c (vn174_10 hS171 hS173) zAll_n))))))))))))) (fun _ => (show zAllI _ 0 [] from trivial)) h
set_option maxRecDepth 100000 in
theorem vn175_0 {S : Nat → zSpc} (hS171 : ∀ x g o v gz, S 171 x g o v gz → sn171 x g o v gz) {a : List Int} {g : rHp} : ∀ (ρ : Nat → Int) (γ : Nat → rHp), zO 3 S a g q175_0 ρ γ → zGl (fun _ _ _ => True) (sn175 a g) q175_0 ρ γ := by
  intro ρ γ h
  obtain ⟨ha, hg, hr, hf, hm, hc, hl⟩ := h
  have ha : a = [ρ 0, ρ 1, ρ 2] := ha
  subst ha
  subst hg
  obtain ⟨-, r1, -⟩ := hr
  have r1 : ((-2147483648) : Int) ≤ ρ 1 ∧ ρ 1 ≤ (-1) := r1
  have w_0 : ρ 1 < 0 := by omega
  obtain ⟨l0, -⟩ := hl
  have l0 : sn171 [ρ 0, ρ 2] (γ 0) 0 0 (γ 1) := hS171 _ _ _ _ _ l0
  show sn175 [ρ 0, ρ 1, ρ 2] (γ 0) 1 0 (γ 1)
  refine Eq.symm ?_
  show fn175 [ρ 0, ρ 1] (γ 0) = _
  unfold fn175
  refine (zLet_eq (show _ = ρ 0 from rfl)).trans ?_
  refine (zLet_eq (show _ = ρ 1 from rfl)).trans ?_
  refine (zLet_eq (show fn171 [ρ 0] (γ 0) = (0, 0, γ 1) from l0.symm)).trans ?_
  refine (zLet_eq (show _ = γ 1 from rfl)).trans ?_
  refine (if_pos (show (0 : Nat) = 0 by decide)).trans ?_
  refine (if_pos w_0).trans ?_
  rfl
set_option maxRecDepth 100000 in
theorem vn175_1 {S : Nat → zSpc} (hS171 : ∀ x g o v gz, S 171 x g o v gz → sn171 x g o v gz) {a : List Int} {g : rHp} : ∀ (ρ : Nat → Int) (γ : Nat → rHp), zO 3 S a g q175_1 ρ γ → zGl (fun _ _ _ => True) (sn175 a g) q175_1 ρ γ := by
  intro ρ γ h
  obtain ⟨ha, hg, hr, hf, hm, hc, hl⟩ := h
  have ha : a = [ρ 0, ρ 1, ρ 2] := ha
  subst ha
  subst hg
  obtain ⟨-, r1, -⟩ := hr
  have r1 : (0 : Int) ≤ ρ 1 ∧ ρ 1 ≤ 2147483647 := r1
  obtain ⟨f0, -⟩ := hf
  have f0 : (0 : Int) ≤ ρ 3 + -ρ 1 + (-1) := f0
  obtain ⟨w_0, w_1⟩ : (¬ (ρ 1 < 0)) ∧ (ρ 1 < ρ 3) := ⟨by omega, by omega⟩
  obtain ⟨-, m1, m2, -⟩ := hm
  have m1 : γ 0 32 0 (ρ 0) = ρ 3 := m1
  have m2 : γ 0 31 0 (ρ 1 + 8 * ρ 0) = ρ 4 := m2
  obtain ⟨l0, -⟩ := hl
  have l0 : sn171 [ρ 0, ρ 2] (γ 0) 0 0 (γ 1) := hS171 _ _ _ _ _ l0
  show sn175 [ρ 0, ρ 1, ρ 2] (γ 0) 0 (ρ 4) (γ 1)
  refine Eq.symm ?_
  show fn175 [ρ 0, ρ 1] (γ 0) = _
  unfold fn175
  refine (zLet_eq (show _ = ρ 0 from rfl)).trans ?_
  refine (zLet_eq (show _ = ρ 1 from rfl)).trans ?_
  refine (zLet_eq (show fn171 [ρ 0] (γ 0) = (0, 0, γ 1) from l0.symm)).trans ?_
  refine (zLet_eq (show _ = γ 1 from rfl)).trans ?_
  refine (if_pos (show (0 : Nat) = 0 by decide)).trans ?_
  refine (if_neg w_0).trans ?_
  refine (zLet_eq m1).trans ?_
  refine (if_pos w_1).trans ?_
  refine (zLet_eq m2).trans ?_
  rfl
set_option maxRecDepth 100000 in
theorem vn175_2 {S : Nat → zSpc} (hS171 : ∀ x g o v gz, S 171 x g o v gz → sn171 x g o v gz) {a : List Int} {g : rHp} : ∀ (ρ : Nat → Int) (γ : Nat → rHp), zO 3 S a g q175_2 ρ γ → zGl (fun _ _ _ => True) (sn175 a g) q175_2 ρ γ := by
  intro ρ γ h
  obtain ⟨ha, hg, hr, hf, hm, hc, hl⟩ := h
  have ha : a = [ρ 0, ρ 1, ρ 2] := ha
  subst ha
  subst hg
  obtain ⟨-, r1, -⟩ := hr
  have r1 : (0 : Int) ≤ ρ 1 ∧ ρ 1 ≤ 2147483647 := r1
  obtain ⟨f0, -⟩ := hf
  have f0 : (0 : Int) ≤ -ρ 3 + ρ 1 := f0
  obtain ⟨w_0, w_1⟩ : (¬ (ρ 1 < 0)) ∧ (¬ (ρ 1 < ρ 3)) := ⟨by omega, by omega⟩
  obtain ⟨-, m1, -⟩ := hm
  have m1 : γ 0 32 0 (ρ 0) = ρ 3 := m1
  obtain ⟨l0, -⟩ := hl
  have l0 : sn171 [ρ 0, ρ 2] (γ 0) 0 0 (γ 1) := hS171 _ _ _ _ _ l0
  show sn175 [ρ 0, ρ 1, ρ 2] (γ 0) 1 0 (γ 1)
  refine Eq.symm ?_
  show fn175 [ρ 0, ρ 1] (γ 0) = _
  unfold fn175
  refine (zLet_eq (show _ = ρ 0 from rfl)).trans ?_
  refine (zLet_eq (show _ = ρ 1 from rfl)).trans ?_
  refine (zLet_eq (show fn171 [ρ 0] (γ 0) = (0, 0, γ 1) from l0.symm)).trans ?_
  refine (zLet_eq (show _ = γ 1 from rfl)).trans ?_
  refine (if_pos (show (0 : Nat) = 0 by decide)).trans ?_
  refine (if_neg w_0).trans ?_
  refine (zLet_eq m1).trans ?_
  refine (if_neg w_1).trans ?_
  rfl
set_option maxRecDepth 100000 in
theorem vn175_3 {S : Nat → zSpc} (hS171 : ∀ x g o v gz, S 171 x g o v gz → sn171 x g o v gz) {a : List Int} {g : rHp} : ∀ (ρ : Nat → Int) (γ : Nat → rHp), zO 3 S a g q175_3 ρ γ → zGl (fun _ _ _ => True) (sn175 a g) q175_3 ρ γ := by
  intro ρ γ h
  obtain ⟨ha, hg, hr, hf, hm, hc, hl⟩ := h
  have ha : a = [ρ 0, ρ 1, ρ 2] := ha
  subst ha
  subst hg
  obtain ⟨l0, -⟩ := hl
  have l0 : sn171 [ρ 0, ρ 2] (γ 0) 1 0 (γ 1) := hS171 _ _ _ _ _ l0
  show sn175 [ρ 0, ρ 1, ρ 2] (γ 0) 1 0 (γ 1)
  refine Eq.symm ?_
  show fn175 [ρ 0, ρ 1] (γ 0) = _
  unfold fn175
  refine (zLet_eq (show _ = ρ 0 from rfl)).trans ?_
  refine (zLet_eq (show _ = ρ 1 from rfl)).trans ?_
  refine (zLet_eq (show fn171 [ρ 0] (γ 0) = (1, 0, γ 1) from l0.symm)).trans ?_
  refine (zLet_eq (show _ = γ 1 from rfl)).trans ?_
  refine (if_neg (show ¬ (1 : Nat) = 0 by decide)).trans ?_
  refine (if_pos (show (1 : Nat) = 1 by decide)).trans ?_
  rfl
set_option maxRecDepth 100000 in
theorem vn175_4 {S : Nat → zSpc} (hS171 : ∀ x g o v gz, S 171 x g o v gz → sn171 x g o v gz) {a : List Int} {g : rHp} : ∀ (ρ : Nat → Int) (γ : Nat → rHp), zO 3 S a g q175_4 ρ γ → zGl (fun _ _ _ => True) (sn175 a g) q175_4 ρ γ := by
  intro ρ γ h
  obtain ⟨ha, hg, hr, hf, hm, hc, hl⟩ := h
  have ha : a = [ρ 0, ρ 1, ρ 2] := ha
  subst ha
  subst hg
  obtain ⟨l0, -⟩ := hl
  have l0 : sn171 [ρ 0, ρ 2] (γ 0) 5 0 (γ 1) := hS171 _ _ _ _ _ l0
  show sn175 [ρ 0, ρ 1, ρ 2] (γ 0) 5 0 (γ 1)
  refine Eq.symm ?_
  show fn175 [ρ 0, ρ 1] (γ 0) = _
  unfold fn175
  refine (zLet_eq (show _ = ρ 0 from rfl)).trans ?_
  refine (zLet_eq (show _ = ρ 1 from rfl)).trans ?_
  refine (zLet_eq (show fn171 [ρ 0] (γ 0) = (5, 0, γ 1) from l0.symm)).trans ?_
  refine (zLet_eq (show _ = γ 1 from rfl)).trans ?_
  refine (if_neg (show ¬ (5 : Nat) = 0 by decide)).trans ?_
  refine (if_neg (show ¬ (5 : Nat) = 1 by decide)).trans ?_
  rfl
set_option maxRecDepth 100000 in
theorem yn175 {S : Nat → zSpc} (hS171 : ∀ x g o v gz, S 171 x g o v gz → sn171 x g o v gz) : ∀ x g o v gz, zSem uW uT w175_.2.2.2.1 w175_.2.2.1.1.length S q175 (fun i => q175a.getD i []) (zNA a175_) x g o v gz → sn175 x g o v gz := by
  intro a g o v gz h
  exact zSem_all (l0 := q175) (las := q175a) (S := S) (J := (fun _ _ _ => True)) (P := sn175 a g) (fun _ => (show zAll _ [q175_0, q175_1, q175_2, q175_3, q175_4] from (zAll_c (vn175_0 hS171) (zAll_c (vn175_1 hS171) (zAll_c (vn175_2 hS171) (zAll_c (vn175_3 hS171) (zAll_c (vn175_4 hS171) zAll_n))))))) (fun _ => (show zAllI _ 0 [] from trivial)) h
set_option maxRecDepth 100000 in
theorem vn176_0 {S : Nat → zSpc} (hS100 : ∀ x g o v gz, S 100 x g o v gz → sn100 x g o v gz) (hS173 : ∀ x g o v gz, S 173 x g o v gz → sn173 x g o v gz) {a : List Int} {g : rHp} : ∀ (ρ : Nat → Int) (γ : Nat → rHp), zO 2 S a g q176_0 ρ γ → zGl (fun _ _ _ => True) (sn176 a g) q176_0 ρ γ := by
  intro ρ γ h
  obtain ⟨ha, hg, hr, hf, hm, hc, hl⟩ := h
  have ha : a = [ρ 0, ρ 1] := ha
  subst ha
  subst hg
  obtain ⟨r0, -⟩ := hr
  have r0 : ((-2147483648) : Int) ≤ ρ 0 ∧ ρ 0 ≤ (-1) := r0
  have w_0 : ρ 0 < 0 := by omega
  show sn176 [ρ 0, ρ 1] (γ 0) 1 0 (γ 0)
  refine Eq.symm ?_
  show fn176 [ρ 0, ρ 1] (γ 0) = _
  unfold fn176
  refine (zLet_eq (show _ = ρ 0 from rfl)).trans ?_
  refine (zLet_eq (show _ = ρ 1 from rfl)).trans ?_
  refine (if_pos w_0).trans ?_
  rfl
set_option maxRecDepth 100000 in
theorem vn176_1 {S : Nat → zSpc} (hS100 : ∀ x g o v gz, S 100 x g o v gz → sn100 x g o v gz) (hS173 : ∀ x g o v gz, S 173 x g o v gz → sn173 x g o v gz) {a : List Int} {g : rHp} : ∀ (ρ : Nat → Int) (γ : Nat → rHp), zO 2 S a g q176_1 ρ γ → zGl (fun _ _ _ => True) (sn176 a g) q176_1 ρ γ := by
  intro ρ γ h
  obtain ⟨ha, hg, hr, hf, hm, hc, hl⟩ := h
  have ha : a = [ρ 0, ρ 1] := ha
  subst ha
  subst hg
  obtain ⟨r0, r1, -, r3, -⟩ := hr
  have r0 : (0 : Int) ≤ ρ 0 ∧ ρ 0 ≤ 2147483647 := r0
  have r1 : ((-2147483648) : Int) ≤ ρ 1 ∧ ρ 1 ≤ (-1) := r1
  have r3 : (0 : Int) ≤ ρ 3 ∧ ρ 3 ≤ 100 := r3
  obtain ⟨f0, -⟩ := hf
  have f0 : (0 : Int) ≤ ρ 3 + -ρ 0 + (-1) := f0
  obtain ⟨w_0, w_1, w_2, w_3⟩ : (¬ (ρ 0 < 0)) ∧ (0 ≤ -ρ 3 + 100) ∧ (ρ 0 < ρ 3) ∧ (ρ 1 < 0) := ⟨by omega, by omega, by omega, by omega⟩
  obtain ⟨m0, m1, -⟩ := hm
  have m0 : γ 0 0 0 5 = ρ 2 := m0
  have m1 : γ 0 8 (ρ 2) 1 = ρ 3 := m1
  obtain ⟨l0, -⟩ := hl
  have l0 : sn100 [ρ 3, 100] (γ 0) 0 (ρ 3) (γ 1) := hS100 _ _ _ _ _ l0
  show sn176 [ρ 0, ρ 1] (γ 0) 1 0 (γ 1)
  refine Eq.symm ?_
  show fn176 [ρ 0, ρ 1] (γ 0) = _
  unfold fn176
  refine (zLet_eq (show _ = ρ 0 from rfl)).trans ?_
  refine (zLet_eq (show _ = ρ 1 from rfl)).trans ?_
  refine (if_neg w_0).trans ?_
  refine (zLet_eq m0).trans ?_
  refine (zLet_eq m1).trans ?_
  refine (zLet_eq (show fn100 [ρ 3, 100] (γ 0) = (0, ρ 3, γ 1) from l0.symm)).trans ?_
  refine (zLet_eq (show _ = γ 1 from rfl)).trans ?_
  refine (if_pos w_1).trans ?_
  refine (if_pos w_2).trans ?_
  refine (if_pos w_3).trans ?_
  rfl
set_option maxRecDepth 100000 in
theorem vn176_2 {S : Nat → zSpc} (hS100 : ∀ x g o v gz, S 100 x g o v gz → sn100 x g o v gz) (hS173 : ∀ x g o v gz, S 173 x g o v gz → sn173 x g o v gz) {a : List Int} {g : rHp} : ∀ (ρ : Nat → Int) (γ : Nat → rHp), zO 2 S a g q176_2 ρ γ → zGl (fun _ _ _ => True) (sn176 a g) q176_2 ρ γ := by
  intro ρ γ h
  obtain ⟨ha, hg, hr, hf, hm, hc, hl⟩ := h
  have ha : a = [ρ 0, ρ 1] := ha
  subst ha
  subst hg
  obtain ⟨r0, r1, -, r3, -⟩ := hr
  have r0 : (0 : Int) ≤ ρ 0 ∧ ρ 0 ≤ 2147483647 := r0
  have r1 : (8 : Int) ≤ ρ 1 ∧ ρ 1 ≤ 2147483647 := r1
  have r3 : (0 : Int) ≤ ρ 3 ∧ ρ 3 ≤ 100 := r3
  obtain ⟨f0, -⟩ := hf
  have f0 : (0 : Int) ≤ ρ 3 + -ρ 0 + (-1) := f0
  obtain ⟨w_0, w_1, w_2, w_3, w_4⟩ : (¬ (ρ 0 < 0)) ∧ (0 ≤ -ρ 3 + 100) ∧ (ρ 0 < ρ 3) ∧ (¬ (ρ 1 < 0)) ∧ (ρ 1 ≥ 8) := ⟨by omega, by omega, by omega, by omega, by omega⟩
  obtain ⟨m0, m1, -⟩ := hm
  have m0 : γ 0 0 0 5 = ρ 2 := m0
  have m1 : γ 0 8 (ρ 2) 1 = ρ 3 := m1
  obtain ⟨l0, -⟩ := hl
  have l0 : sn100 [ρ 3, 100] (γ 0) 0 (ρ 3) (γ 1) := hS100 _ _ _ _ _ l0
  show sn176 [ρ 0, ρ 1] (γ 0) 1 0 (γ 1)
  refine Eq.symm ?_
  show fn176 [ρ 0, ρ 1] (γ 0) = _
  unfold fn176
  refine (zLet_eq (show _ = ρ 0 from rfl)).trans ?_
  refine (zLet_eq (show _ = ρ 1 from rfl)).trans ?_
  refine (if_neg w_0).trans ?_
  refine (zLet_eq m0).trans ?_
  refine (zLet_eq m1).trans ?_
  refine (zLet_eq (show fn100 [ρ 3, 100] (γ 0) = (0, ρ 3, γ 1) from l0.symm)).trans ?_
  refine (zLet_eq (show _ = γ 1 from rfl)).trans ?_
  refine (if_pos w_1).trans ?_
  refine (if_pos w_2).trans ?_
  refine (if_neg w_3).trans ?_
  refine (if_pos w_4).trans ?_
  rfl
set_option maxRecDepth 100000 in
theorem vn176_3 {S : Nat → zSpc} (hS100 : ∀ x g o v gz, S 100 x g o v gz → sn100 x g o v gz) (hS173 : ∀ x g o v gz, S 173 x g o v gz → sn173 x g o v gz) {a : List Int} {g : rHp} : ∀ (ρ : Nat → Int) (γ : Nat → rHp), zO 2 S a g q176_3 ρ γ → zGl (fun _ _ _ => True) (sn176 a g) q176_3 ρ γ := by
  intro ρ γ h
  obtain ⟨ha, hg, hr, hf, hm, hc, hl⟩ := h
  have ha : a = [ρ 0, ρ 1] := ha
  subst ha
  subst hg
  obtain ⟨r0, r1, -, r3, -, -, r6, -⟩ := hr
  have r0 : (0 : Int) ≤ ρ 0 ∧ ρ 0 ≤ 2147483647 := r0
  have r1 : (0 : Int) ≤ ρ 1 ∧ ρ 1 ≤ 7 := r1
  have r3 : (0 : Int) ≤ ρ 3 ∧ ρ 3 ≤ 100 := r3
  have r6 : (1 : Int) ≤ ρ 6 ∧ ρ 6 ≤ 1 := r6
  obtain ⟨f0, -⟩ := hf
  have f0 : (0 : Int) ≤ ρ 3 + -ρ 0 + (-1) := f0
  obtain ⟨w_0, w_1, w_2, w_3, w_4, w_5⟩ : (¬ (ρ 0 < 0)) ∧ (0 ≤ -ρ 3 + 100) ∧ (ρ 0 < ρ 3) ∧ (¬ (ρ 1 < 0)) ∧ (¬ (ρ 1 ≥ 8)) ∧ (ρ 6 ≠ 0) := ⟨by omega, by omega, by omega, by omega, by omega, by omega⟩
  obtain ⟨m0, m1, m2, m3, -⟩ := hm
  have m0 : γ 0 0 0 5 = ρ 2 := m0
  have m1 : γ 0 8 (ρ 2) 1 = ρ 3 := m1
  have m2 : γ 0 8 (ρ 2) 2 = ρ 4 := m2
  have m3 : γ 0 41 (ρ 2) (ρ 1 + 8 * ρ 0) = ρ 7 := m3
  obtain ⟨l0, l1, l2, l3, -⟩ := hl
  have l0 : sn100 [ρ 3, 100] (γ 0) 0 (ρ 3) (γ 1) := hS100 _ _ _ _ _ l0
  have l1 : zOpP (.ishr) (γ 0) (γ 1) [ρ 4, ρ 1] (ρ 5) := l1
  have l2 : zOpP (.iand) (γ 0) (γ 1) [ρ 5, 1] (ρ 6) := l2
  have l3 : sn173 [ρ 7] (γ 1) 0 (ρ 8) (γ 2) := hS173 _ _ _ _ _ l3
  show sn176 [ρ 0, ρ 1] (γ 0) 0 (ρ 8) (γ 2)
  refine Eq.symm ?_
  show fn176 [ρ 0, ρ 1] (γ 0) = _
  unfold fn176
  refine (zLet_eq (show _ = ρ 0 from rfl)).trans ?_
  refine (zLet_eq (show _ = ρ 1 from rfl)).trans ?_
  refine (if_neg w_0).trans ?_
  refine (zLet_eq m0).trans ?_
  refine (zLet_eq m1).trans ?_
  refine (zLet_eq (show fn100 [ρ 3, 100] (γ 0) = (0, ρ 3, γ 1) from l0.symm)).trans ?_
  refine (zLet_eq (show _ = γ 1 from rfl)).trans ?_
  refine (if_pos w_1).trans ?_
  refine (if_pos w_2).trans ?_
  refine (if_neg w_3).trans ?_
  refine (if_neg w_4).trans ?_
  refine (zLet_eq m2).trans ?_
  refine (zLet_eq (zF2_ok l1)).trans ?_
  refine (zLet_eq (zF2_ok l2)).trans ?_
  refine (if_pos w_5).trans ?_
  refine (zLet_eq m3).trans ?_
  refine (zLet_eq (show fn173 [ρ 7] (γ 1) = (0, ρ 8, γ 2) from l3.symm)).trans ?_
  refine (zLet_eq (show _ = γ 2 from rfl)).trans ?_
  refine (zLet_eq (show _ = ρ 8 from rfl)).trans ?_
  rfl
set_option maxRecDepth 100000 in
theorem vn176_4 {S : Nat → zSpc} (hS100 : ∀ x g o v gz, S 100 x g o v gz → sn100 x g o v gz) (hS173 : ∀ x g o v gz, S 173 x g o v gz → sn173 x g o v gz) {a : List Int} {g : rHp} : ∀ (ρ : Nat → Int) (γ : Nat → rHp), zO 2 S a g q176_4 ρ γ → zGl (fun _ _ _ => True) (sn176 a g) q176_4 ρ γ := by
  intro ρ γ h
  obtain ⟨ha, hg, hr, hf, hm, hc, hl⟩ := h
  have ha : a = [ρ 0, ρ 1] := ha
  subst ha
  subst hg
  obtain ⟨r0, r1, -, r3, -, -, r6, -⟩ := hr
  have r0 : (0 : Int) ≤ ρ 0 ∧ ρ 0 ≤ 2147483647 := r0
  have r1 : (0 : Int) ≤ ρ 1 ∧ ρ 1 ≤ 7 := r1
  have r3 : (0 : Int) ≤ ρ 3 ∧ ρ 3 ≤ 100 := r3
  have r6 : (0 : Int) ≤ ρ 6 ∧ ρ 6 ≤ 0 := r6
  obtain ⟨f0, -⟩ := hf
  have f0 : (0 : Int) ≤ ρ 3 + -ρ 0 + (-1) := f0
  obtain ⟨w_0, w_1, w_2, w_3, w_4, w_5⟩ : (¬ (ρ 0 < 0)) ∧ (0 ≤ -ρ 3 + 100) ∧ (ρ 0 < ρ 3) ∧ (¬ (ρ 1 < 0)) ∧ (¬ (ρ 1 ≥ 8)) ∧ (¬ (ρ 6 ≠ 0)) := ⟨by omega, by omega, by omega, by omega, by omega, by omega⟩
  obtain ⟨m0, m1, m2, -⟩ := hm
  have m0 : γ 0 0 0 5 = ρ 2 := m0
  have m1 : γ 0 8 (ρ 2) 1 = ρ 3 := m1
  have m2 : γ 0 8 (ρ 2) 2 = ρ 4 := m2
  obtain ⟨l0, l1, l2, -⟩ := hl
  have l0 : sn100 [ρ 3, 100] (γ 0) 0 (ρ 3) (γ 1) := hS100 _ _ _ _ _ l0
  have l1 : zOpP (.ishr) (γ 0) (γ 1) [ρ 4, ρ 1] (ρ 5) := l1
  have l2 : zOpP (.iand) (γ 0) (γ 1) [ρ 5, 1] (ρ 6) := l2
  show sn176 [ρ 0, ρ 1] (γ 0) 1 0 (γ 1)
  refine Eq.symm ?_
  show fn176 [ρ 0, ρ 1] (γ 0) = _
  unfold fn176
  refine (zLet_eq (show _ = ρ 0 from rfl)).trans ?_
  refine (zLet_eq (show _ = ρ 1 from rfl)).trans ?_
  refine (if_neg w_0).trans ?_
  refine (zLet_eq m0).trans ?_
  refine (zLet_eq m1).trans ?_
  refine (zLet_eq (show fn100 [ρ 3, 100] (γ 0) = (0, ρ 3, γ 1) from l0.symm)).trans ?_
  refine (zLet_eq (show _ = γ 1 from rfl)).trans ?_
  refine (if_pos w_1).trans ?_
  refine (if_pos w_2).trans ?_
  refine (if_neg w_3).trans ?_
  refine (if_neg w_4).trans ?_
  refine (zLet_eq m2).trans ?_
  refine (zLet_eq (zF2_ok l1)).trans ?_
  refine (zLet_eq (zF2_ok l2)).trans ?_
  refine (if_neg w_5).trans ?_
  rfl
set_option maxRecDepth 100000 in
theorem vn176_5 {S : Nat → zSpc} (hS100 : ∀ x g o v gz, S 100 x g o v gz → sn100 x g o v gz) (hS173 : ∀ x g o v gz, S 173 x g o v gz → sn173 x g o v gz) {a : List Int} {g : rHp} : ∀ (ρ : Nat → Int) (γ : Nat → rHp), zO 2 S a g q176_5 ρ γ → zGl (fun _ _ _ => True) (sn176 a g) q176_5 ρ γ := by
  intro ρ γ h
  obtain ⟨ha, hg, hr, hf, hm, hc, hl⟩ := h
  have ha : a = [ρ 0, ρ 1] := ha
  subst ha
  subst hg
  obtain ⟨r0, -, -, r3, -⟩ := hr
  have r0 : (0 : Int) ≤ ρ 0 ∧ ρ 0 ≤ 2147483647 := r0
  have r3 : (0 : Int) ≤ ρ 3 ∧ ρ 3 ≤ 100 := r3
  obtain ⟨f0, -⟩ := hf
  have f0 : (0 : Int) ≤ -ρ 3 + ρ 0 := f0
  obtain ⟨w_0, w_1, w_2⟩ : (¬ (ρ 0 < 0)) ∧ (0 ≤ -ρ 3 + 100) ∧ (¬ (ρ 0 < ρ 3)) := ⟨by omega, by omega, by omega⟩
  obtain ⟨m0, m1, -⟩ := hm
  have m0 : γ 0 0 0 5 = ρ 2 := m0
  have m1 : γ 0 8 (ρ 2) 1 = ρ 3 := m1
  obtain ⟨l0, -⟩ := hl
  have l0 : sn100 [ρ 3, 100] (γ 0) 0 (ρ 3) (γ 1) := hS100 _ _ _ _ _ l0
  show sn176 [ρ 0, ρ 1] (γ 0) 1 0 (γ 1)
  refine Eq.symm ?_
  show fn176 [ρ 0, ρ 1] (γ 0) = _
  unfold fn176
  refine (zLet_eq (show _ = ρ 0 from rfl)).trans ?_
  refine (zLet_eq (show _ = ρ 1 from rfl)).trans ?_
  refine (if_neg w_0).trans ?_
  refine (zLet_eq m0).trans ?_
  refine (zLet_eq m1).trans ?_
  refine (zLet_eq (show fn100 [ρ 3, 100] (γ 0) = (0, ρ 3, γ 1) from l0.symm)).trans ?_
  refine (zLet_eq (show _ = γ 1 from rfl)).trans ?_
  refine (if_pos w_1).trans ?_
  refine (if_neg w_2).trans ?_
  rfl
set_option maxRecDepth 100000 in
theorem vn176_6 {S : Nat → zSpc} (hS100 : ∀ x g o v gz, S 100 x g o v gz → sn100 x g o v gz) (hS173 : ∀ x g o v gz, S 173 x g o v gz → sn173 x g o v gz) {a : List Int} {g : rHp} : ∀ (ρ : Nat → Int) (γ : Nat → rHp), zO 2 S a g q176_6 ρ γ → zGl (fun _ _ _ => True) (sn176 a g) q176_6 ρ γ := by
  intro ρ γ h
  obtain ⟨ha, hg, hr, hf, hm, hc, hl⟩ := h
  have ha : a = [ρ 0, ρ 1] := ha
  subst ha
  subst hg
  obtain ⟨r0, r1, -, r3, -⟩ := hr
  have r0 : (0 : Int) ≤ ρ 0 ∧ ρ 0 ≤ 99 := r0
  have r1 : ((-2147483648) : Int) ≤ ρ 1 ∧ ρ 1 ≤ (-1) := r1
  have r3 : (101 : Int) ≤ ρ 3 ∧ ρ 3 ≤ 50001 := r3
  obtain ⟨w_0, w_1, w_2, w_3⟩ : (¬ (ρ 0 < 0)) ∧ (¬ (0 ≤ -ρ 3 + 100)) ∧ (ρ 0 < 100) ∧ (ρ 1 < 0) := ⟨by omega, by omega, by omega, by omega⟩
  obtain ⟨m0, m1, -⟩ := hm
  have m0 : γ 0 0 0 5 = ρ 2 := m0
  have m1 : γ 0 8 (ρ 2) 1 = ρ 3 := m1
  obtain ⟨l0, -⟩ := hl
  have l0 : sn100 [ρ 3, 100] (γ 0) 0 100 (γ 1) := hS100 _ _ _ _ _ l0
  show sn176 [ρ 0, ρ 1] (γ 0) 1 0 (γ 1)
  refine Eq.symm ?_
  show fn176 [ρ 0, ρ 1] (γ 0) = _
  unfold fn176
  refine (zLet_eq (show _ = ρ 0 from rfl)).trans ?_
  refine (zLet_eq (show _ = ρ 1 from rfl)).trans ?_
  refine (if_neg w_0).trans ?_
  refine (zLet_eq m0).trans ?_
  refine (zLet_eq m1).trans ?_
  refine (zLet_eq (show fn100 [ρ 3, 100] (γ 0) = (0, 100, γ 1) from l0.symm)).trans ?_
  refine (zLet_eq (show _ = γ 1 from rfl)).trans ?_
  refine (if_neg w_1).trans ?_
  refine (if_pos w_2).trans ?_
  refine (if_pos w_3).trans ?_
  rfl
set_option maxRecDepth 100000 in
theorem vn176_7 {S : Nat → zSpc} (hS100 : ∀ x g o v gz, S 100 x g o v gz → sn100 x g o v gz) (hS173 : ∀ x g o v gz, S 173 x g o v gz → sn173 x g o v gz) {a : List Int} {g : rHp} : ∀ (ρ : Nat → Int) (γ : Nat → rHp), zO 2 S a g q176_7 ρ γ → zGl (fun _ _ _ => True) (sn176 a g) q176_7 ρ γ := by
  intro ρ γ h
  obtain ⟨ha, hg, hr, hf, hm, hc, hl⟩ := h
  have ha : a = [ρ 0, ρ 1] := ha
  subst ha
  subst hg
  obtain ⟨r0, r1, -, r3, -⟩ := hr
  have r0 : (0 : Int) ≤ ρ 0 ∧ ρ 0 ≤ 99 := r0
  have r1 : (8 : Int) ≤ ρ 1 ∧ ρ 1 ≤ 2147483647 := r1
  have r3 : (101 : Int) ≤ ρ 3 ∧ ρ 3 ≤ 50001 := r3
  obtain ⟨w_0, w_1, w_2, w_3, w_4⟩ : (¬ (ρ 0 < 0)) ∧ (¬ (0 ≤ -ρ 3 + 100)) ∧ (ρ 0 < 100) ∧ (¬ (ρ 1 < 0)) ∧ (ρ 1 ≥ 8) := ⟨by omega, by omega, by omega, by omega, by omega⟩
  obtain ⟨m0, m1, -⟩ := hm
  have m0 : γ 0 0 0 5 = ρ 2 := m0
  have m1 : γ 0 8 (ρ 2) 1 = ρ 3 := m1
  obtain ⟨l0, -⟩ := hl
  have l0 : sn100 [ρ 3, 100] (γ 0) 0 100 (γ 1) := hS100 _ _ _ _ _ l0
  show sn176 [ρ 0, ρ 1] (γ 0) 1 0 (γ 1)
  refine Eq.symm ?_
  show fn176 [ρ 0, ρ 1] (γ 0) = _
  unfold fn176
  refine (zLet_eq (show _ = ρ 0 from rfl)).trans ?_
  refine (zLet_eq (show _ = ρ 1 from rfl)).trans ?_
  refine (if_neg w_0).trans ?_
  refine (zLet_eq m0).trans ?_
  refine (zLet_eq m1).trans ?_
  refine (zLet_eq (show fn100 [ρ 3, 100] (γ 0) = (0, 100, γ 1) from l0.symm)).trans ?_
  refine (zLet_eq (show _ = γ 1 from rfl)).trans ?_
  refine (if_neg w_1).trans ?_
  refine (if_pos w_2).trans ?_
  refine (if_neg w_3).trans ?_
  refine (if_pos w_4).trans ?_
  rfl
set_option maxRecDepth 100000 in
theorem vn176_8 {S : Nat → zSpc} (hS100 : ∀ x g o v gz, S 100 x g o v gz → sn100 x g o v gz) (hS173 : ∀ x g o v gz, S 173 x g o v gz → sn173 x g o v gz) {a : List Int} {g : rHp} : ∀ (ρ : Nat → Int) (γ : Nat → rHp), zO 2 S a g q176_8 ρ γ → zGl (fun _ _ _ => True) (sn176 a g) q176_8 ρ γ := by
  intro ρ γ h
  obtain ⟨ha, hg, hr, hf, hm, hc, hl⟩ := h
  have ha : a = [ρ 0, ρ 1] := ha
  subst ha
  subst hg
  obtain ⟨r0, r1, -, r3, -, -, r6, -⟩ := hr
  have r0 : (0 : Int) ≤ ρ 0 ∧ ρ 0 ≤ 99 := r0
  have r1 : (0 : Int) ≤ ρ 1 ∧ ρ 1 ≤ 7 := r1
  have r3 : (101 : Int) ≤ ρ 3 ∧ ρ 3 ≤ 50001 := r3
  have r6 : (1 : Int) ≤ ρ 6 ∧ ρ 6 ≤ 1 := r6
  obtain ⟨w_0, w_1, w_2, w_3, w_4, w_5⟩ : (¬ (ρ 0 < 0)) ∧ (¬ (0 ≤ -ρ 3 + 100)) ∧ (ρ 0 < 100) ∧ (¬ (ρ 1 < 0)) ∧ (¬ (ρ 1 ≥ 8)) ∧ (ρ 6 ≠ 0) := ⟨by omega, by omega, by omega, by omega, by omega, by omega⟩
  obtain ⟨m0, m1, m2, m3, -⟩ := hm
  have m0 : γ 0 0 0 5 = ρ 2 := m0
  have m1 : γ 0 8 (ρ 2) 1 = ρ 3 := m1
  have m2 : γ 0 8 (ρ 2) 2 = ρ 4 := m2
  have m3 : γ 0 41 (ρ 2) (ρ 1 + 8 * ρ 0) = ρ 7 := m3
  obtain ⟨l0, l1, l2, l3, -⟩ := hl
  have l0 : sn100 [ρ 3, 100] (γ 0) 0 100 (γ 1) := hS100 _ _ _ _ _ l0
  have l1 : zOpP (.ishr) (γ 0) (γ 1) [ρ 4, ρ 1] (ρ 5) := l1
  have l2 : zOpP (.iand) (γ 0) (γ 1) [ρ 5, 1] (ρ 6) := l2
  have l3 : sn173 [ρ 7] (γ 1) 0 (ρ 8) (γ 2) := hS173 _ _ _ _ _ l3
  show sn176 [ρ 0, ρ 1] (γ 0) 0 (ρ 8) (γ 2)
  refine Eq.symm ?_
  show fn176 [ρ 0, ρ 1] (γ 0) = _
  unfold fn176
  refine (zLet_eq (show _ = ρ 0 from rfl)).trans ?_
  refine (zLet_eq (show _ = ρ 1 from rfl)).trans ?_
  refine (if_neg w_0).trans ?_
  refine (zLet_eq m0).trans ?_
  refine (zLet_eq m1).trans ?_
  refine (zLet_eq (show fn100 [ρ 3, 100] (γ 0) = (0, 100, γ 1) from l0.symm)).trans ?_
  refine (zLet_eq (show _ = γ 1 from rfl)).trans ?_
  refine (if_neg w_1).trans ?_
  refine (if_pos w_2).trans ?_
  refine (if_neg w_3).trans ?_
  refine (if_neg w_4).trans ?_
  refine (zLet_eq m2).trans ?_
  refine (zLet_eq (zF2_ok l1)).trans ?_
  refine (zLet_eq (zF2_ok l2)).trans ?_
  refine (if_pos w_5).trans ?_
  refine (zLet_eq m3).trans ?_
  refine (zLet_eq (show fn173 [ρ 7] (γ 1) = (0, ρ 8, γ 2) from l3.symm)).trans ?_
  refine (zLet_eq (show _ = γ 2 from rfl)).trans ?_
  refine (zLet_eq (show _ = ρ 8 from rfl)).trans ?_
  rfl
set_option maxRecDepth 100000 in
theorem vn176_9 {S : Nat → zSpc} (hS100 : ∀ x g o v gz, S 100 x g o v gz → sn100 x g o v gz) (hS173 : ∀ x g o v gz, S 173 x g o v gz → sn173 x g o v gz) {a : List Int} {g : rHp} : ∀ (ρ : Nat → Int) (γ : Nat → rHp), zO 2 S a g q176_9 ρ γ → zGl (fun _ _ _ => True) (sn176 a g) q176_9 ρ γ := by
  intro ρ γ h
  obtain ⟨ha, hg, hr, hf, hm, hc, hl⟩ := h
  have ha : a = [ρ 0, ρ 1] := ha
  subst ha
  subst hg
  obtain ⟨r0, r1, -, r3, -, -, r6, -⟩ := hr
  have r0 : (0 : Int) ≤ ρ 0 ∧ ρ 0 ≤ 99 := r0
  have r1 : (0 : Int) ≤ ρ 1 ∧ ρ 1 ≤ 7 := r1
  have r3 : (101 : Int) ≤ ρ 3 ∧ ρ 3 ≤ 50001 := r3
  have r6 : (0 : Int) ≤ ρ 6 ∧ ρ 6 ≤ 0 := r6
  obtain ⟨w_0, w_1, w_2, w_3, w_4, w_5⟩ : (¬ (ρ 0 < 0)) ∧ (¬ (0 ≤ -ρ 3 + 100)) ∧ (ρ 0 < 100) ∧ (¬ (ρ 1 < 0)) ∧ (¬ (ρ 1 ≥ 8)) ∧ (¬ (ρ 6 ≠ 0)) := ⟨by omega, by omega, by omega, by omega, by omega, by omega⟩
  obtain ⟨m0, m1, m2, -⟩ := hm
  have m0 : γ 0 0 0 5 = ρ 2 := m0
  have m1 : γ 0 8 (ρ 2) 1 = ρ 3 := m1
  have m2 : γ 0 8 (ρ 2) 2 = ρ 4 := m2
  obtain ⟨l0, l1, l2, -⟩ := hl
  have l0 : sn100 [ρ 3, 100] (γ 0) 0 100 (γ 1) := hS100 _ _ _ _ _ l0
  have l1 : zOpP (.ishr) (γ 0) (γ 1) [ρ 4, ρ 1] (ρ 5) := l1
  have l2 : zOpP (.iand) (γ 0) (γ 1) [ρ 5, 1] (ρ 6) := l2
  show sn176 [ρ 0, ρ 1] (γ 0) 1 0 (γ 1)
  refine Eq.symm ?_
  show fn176 [ρ 0, ρ 1] (γ 0) = _
  unfold fn176
  refine (zLet_eq (show _ = ρ 0 from rfl)).trans ?_
  refine (zLet_eq (show _ = ρ 1 from rfl)).trans ?_
  refine (if_neg w_0).trans ?_
  refine (zLet_eq m0).trans ?_
  refine (zLet_eq m1).trans ?_
  refine (zLet_eq (show fn100 [ρ 3, 100] (γ 0) = (0, 100, γ 1) from l0.symm)).trans ?_
  refine (zLet_eq (show _ = γ 1 from rfl)).trans ?_
  refine (if_neg w_1).trans ?_
  refine (if_pos w_2).trans ?_
  refine (if_neg w_3).trans ?_
  refine (if_neg w_4).trans ?_
  refine (zLet_eq m2).trans ?_
  refine (zLet_eq (zF2_ok l1)).trans ?_
  refine (zLet_eq (zF2_ok l2)).trans ?_
  refine (if_neg w_5).trans ?_
  rfl
set_option maxRecDepth 100000 in
theorem vn176_10 {S : Nat → zSpc} (hS100 : ∀ x g o v gz, S 100 x g o v gz → sn100 x g o v gz) (hS173 : ∀ x g o v gz, S 173 x g o v gz → sn173 x g o v gz) {a : List Int} {g : rHp} : ∀ (ρ : Nat → Int) (γ : Nat → rHp), zO 2 S a g q176_10 ρ γ → zGl (fun _ _ _ => True) (sn176 a g) q176_10 ρ γ := by
  intro ρ γ h
  obtain ⟨ha, hg, hr, hf, hm, hc, hl⟩ := h
  have ha : a = [ρ 0, ρ 1] := ha
  subst ha
  subst hg
  obtain ⟨r0, -, -, r3, -⟩ := hr
  have r0 : (100 : Int) ≤ ρ 0 ∧ ρ 0 ≤ 2147483647 := r0
  have r3 : (101 : Int) ≤ ρ 3 ∧ ρ 3 ≤ 50001 := r3
  obtain ⟨w_0, w_1, w_2⟩ : (¬ (ρ 0 < 0)) ∧ (¬ (0 ≤ -ρ 3 + 100)) ∧ (¬ (ρ 0 < 100)) := ⟨by omega, by omega, by omega⟩
  obtain ⟨m0, m1, -⟩ := hm
  have m0 : γ 0 0 0 5 = ρ 2 := m0
  have m1 : γ 0 8 (ρ 2) 1 = ρ 3 := m1
  obtain ⟨l0, -⟩ := hl
  have l0 : sn100 [ρ 3, 100] (γ 0) 0 100 (γ 1) := hS100 _ _ _ _ _ l0
  show sn176 [ρ 0, ρ 1] (γ 0) 1 0 (γ 1)
  refine Eq.symm ?_
  show fn176 [ρ 0, ρ 1] (γ 0) = _
  unfold fn176
  refine (zLet_eq (show _ = ρ 0 from rfl)).trans ?_
  refine (zLet_eq (show _ = ρ 1 from rfl)).trans ?_
  refine (if_neg w_0).trans ?_
  refine (zLet_eq m0).trans ?_
  refine (zLet_eq m1).trans ?_
  refine (zLet_eq (show fn100 [ρ 3, 100] (γ 0) = (0, 100, γ 1) from l0.symm)).trans ?_
  refine (zLet_eq (show _ = γ 1 from rfl)).trans ?_
  refine (if_neg w_1).trans ?_
  refine (if_neg w_2).trans ?_
  rfl
set_option maxRecDepth 100000 in
theorem yn176 {S : Nat → zSpc} (hS100 : ∀ x g o v gz, S 100 x g o v gz → sn100 x g o v gz) (hS173 : ∀ x g o v gz, S 173 x g o v gz → sn173 x g o v gz) : ∀ x g o v gz, zSem uW uT w176_.2.2.2.1 w176_.2.2.1.1.length S q176 (fun i => q176a.getD i []) (zNA a176_) x g o v gz → sn176 x g o v gz := by
  intro a g o v gz h
  exact zSem_all (l0 := q176) (las := q176a) (S := S) (J := (fun _ _ _ => True)) (P := sn176 a g) (fun _ => (show zAll _ [q176_0, q176_1, q176_2, q176_3, q176_4, q176_5, q176_6, q176_7, q176_8, q176_9, q176_10] from (zAll_c (vn176_0 hS100 hS173) (zAll_c (vn176_1 hS100 hS173) (zAll_c (vn176_2 hS100 hS173) (zAll_c (vn176_3 hS100 hS173) (zAll_c (vn176_4 hS100 hS173) (zAll_c (vn176_5 hS100 hS173) (zAll_c (vn176_6 hS100 hS173) (zAll_c (vn176_7 hS100 hS173) (zAll_c (vn176_8 hS100 hS173) (zAll_c (vn176_9 hS100 hS173) (zAll_c (vn176_10 hS100 hS173) zAll_n))))))))))))) (fun _ => (show zAllI _ 0 [] from trivial)) h
set_option maxRecDepth 100000 in
theorem vn177_0 {S : Nat → zSpc} (hS170 : ∀ x g o v gz, S 170 x g o v gz → sn170 x g o v gz) {a : List Int} {g : rHp} : ∀ (ρ : Nat → Int) (γ : Nat → rHp), zO 2 S a g q177_0 ρ γ → zGl (fun _ _ _ => True) (sn177 a g) q177_0 ρ γ := by
  intro ρ γ h
  obtain ⟨ha, hg, hr, hf, hm, hc, hl⟩ := h
  have ha : a = [ρ 0, ρ 1] := ha
  subst ha
  subst hg
  obtain ⟨r0, -⟩ := hr
  have r0 : ((-2147483648) : Int) ≤ ρ 0 ∧ ρ 0 ≤ (-1) := r0
  have w_0 : ρ 0 < 0 := by omega
  obtain ⟨m0, -⟩ := hm
  have m0 : γ 0 1 0 7 = ρ 1 := m0
  obtain ⟨l0, -⟩ := hl
  have l0 : sn170 [] (γ 0) 0 0 (γ 1) := hS170 _ _ _ _ _ l0
  show sn177 [ρ 0, ρ 1] (γ 0) 1 0 (γ 1)
  refine Eq.symm ?_
  show fn177 [ρ 0] (γ 0) = _
  unfold fn177
  refine (zLet_eq (show _ = ρ 0 from rfl)).trans ?_
  refine (zLet_eq m0).trans ?_
  refine (zLet_eq (show fn170 [] (γ 0) = (0, 0, γ 1) from l0.symm)).trans ?_
  refine (zLet_eq (show _ = γ 1 from rfl)).trans ?_
  refine (if_pos (show (0 : Nat) = 0 by decide)).trans ?_
  refine (if_pos w_0).trans ?_
  rfl
set_option maxRecDepth 100000 in
theorem vn177_1 {S : Nat → zSpc} (hS170 : ∀ x g o v gz, S 170 x g o v gz → sn170 x g o v gz) {a : List Int} {g : rHp} : ∀ (ρ : Nat → Int) (γ : Nat → rHp), zO 2 S a g q177_1 ρ γ → zGl (fun _ _ _ => True) (sn177 a g) q177_1 ρ γ := by
  intro ρ γ h
  obtain ⟨ha, hg, hr, hf, hm, hc, hl⟩ := h
  have ha : a = [ρ 0, ρ 1] := ha
  subst ha
  subst hg
  obtain ⟨r0, -⟩ := hr
  have r0 : (0 : Int) ≤ ρ 0 ∧ ρ 0 ≤ 2147483647 := r0
  obtain ⟨f0, -⟩ := hf
  have f0 : (0 : Int) ≤ ρ 1 + -ρ 0 + (-1) := f0
  obtain ⟨w_0, w_1⟩ : (¬ (ρ 0 < 0)) ∧ (ρ 0 < ρ 1) := ⟨by omega, by omega⟩
  obtain ⟨m0, m1, -⟩ := hm
  have m0 : γ 0 1 0 7 = ρ 1 := m0
  have m1 : γ 0 18 0 (ρ 0) = ρ 2 := m1
  obtain ⟨l0, -⟩ := hl
  have l0 : sn170 [] (γ 0) 0 0 (γ 1) := hS170 _ _ _ _ _ l0
  show sn177 [ρ 0, ρ 1] (γ 0) 0 (ρ 2) (γ 1)
  refine Eq.symm ?_
  show fn177 [ρ 0] (γ 0) = _
  unfold fn177
  refine (zLet_eq (show _ = ρ 0 from rfl)).trans ?_
  refine (zLet_eq m0).trans ?_
  refine (zLet_eq (show fn170 [] (γ 0) = (0, 0, γ 1) from l0.symm)).trans ?_
  refine (zLet_eq (show _ = γ 1 from rfl)).trans ?_
  refine (if_pos (show (0 : Nat) = 0 by decide)).trans ?_
  refine (if_neg w_0).trans ?_
  refine (if_pos w_1).trans ?_
  refine (zLet_eq m1).trans ?_
  rfl
set_option maxRecDepth 100000 in
theorem vn177_2 {S : Nat → zSpc} (hS170 : ∀ x g o v gz, S 170 x g o v gz → sn170 x g o v gz) {a : List Int} {g : rHp} : ∀ (ρ : Nat → Int) (γ : Nat → rHp), zO 2 S a g q177_2 ρ γ → zGl (fun _ _ _ => True) (sn177 a g) q177_2 ρ γ := by
  intro ρ γ h
  obtain ⟨ha, hg, hr, hf, hm, hc, hl⟩ := h
  have ha : a = [ρ 0, ρ 1] := ha
  subst ha
  subst hg
  obtain ⟨r0, -⟩ := hr
  have r0 : (0 : Int) ≤ ρ 0 ∧ ρ 0 ≤ 2147483647 := r0
  obtain ⟨f0, -⟩ := hf
  have f0 : (0 : Int) ≤ -ρ 1 + ρ 0 := f0
  obtain ⟨w_0, w_1⟩ : (¬ (ρ 0 < 0)) ∧ (¬ (ρ 0 < ρ 1)) := ⟨by omega, by omega⟩
  obtain ⟨m0, -⟩ := hm
  have m0 : γ 0 1 0 7 = ρ 1 := m0
  obtain ⟨l0, -⟩ := hl
  have l0 : sn170 [] (γ 0) 0 0 (γ 1) := hS170 _ _ _ _ _ l0
  show sn177 [ρ 0, ρ 1] (γ 0) 1 0 (γ 1)
  refine Eq.symm ?_
  show fn177 [ρ 0] (γ 0) = _
  unfold fn177
  refine (zLet_eq (show _ = ρ 0 from rfl)).trans ?_
  refine (zLet_eq m0).trans ?_
  refine (zLet_eq (show fn170 [] (γ 0) = (0, 0, γ 1) from l0.symm)).trans ?_
  refine (zLet_eq (show _ = γ 1 from rfl)).trans ?_
  refine (if_pos (show (0 : Nat) = 0 by decide)).trans ?_
  refine (if_neg w_0).trans ?_
  refine (if_neg w_1).trans ?_
  rfl
set_option maxRecDepth 100000 in
theorem vn177_3 {S : Nat → zSpc} (hS170 : ∀ x g o v gz, S 170 x g o v gz → sn170 x g o v gz) {a : List Int} {g : rHp} : ∀ (ρ : Nat → Int) (γ : Nat → rHp), zO 2 S a g q177_3 ρ γ → zGl (fun _ _ _ => True) (sn177 a g) q177_3 ρ γ := by
  intro ρ γ h
  obtain ⟨ha, hg, hr, hf, hm, hc, hl⟩ := h
  have ha : a = [ρ 0, ρ 1] := ha
  subst ha
  subst hg
  obtain ⟨m0, -⟩ := hm
  have m0 : γ 0 1 0 7 = ρ 1 := m0
  obtain ⟨l0, -⟩ := hl
  have l0 : sn170 [] (γ 0) 5 0 (γ 1) := hS170 _ _ _ _ _ l0
  show sn177 [ρ 0, ρ 1] (γ 0) 5 0 (γ 1)
  refine Eq.symm ?_
  show fn177 [ρ 0] (γ 0) = _
  unfold fn177
  refine (zLet_eq (show _ = ρ 0 from rfl)).trans ?_
  refine (zLet_eq m0).trans ?_
  refine (zLet_eq (show fn170 [] (γ 0) = (5, 0, γ 1) from l0.symm)).trans ?_
  refine (zLet_eq (show _ = γ 1 from rfl)).trans ?_
  refine (if_neg (show ¬ (5 : Nat) = 0 by decide)).trans ?_
  rfl
set_option maxRecDepth 100000 in
theorem yn177 {S : Nat → zSpc} (hS170 : ∀ x g o v gz, S 170 x g o v gz → sn170 x g o v gz) : ∀ x g o v gz, zSem uW uT w177_.2.2.2.1 w177_.2.2.1.1.length S q177 (fun i => q177a.getD i []) (zNA a177_) x g o v gz → sn177 x g o v gz := by
  intro a g o v gz h
  exact zSem_all (l0 := q177) (las := q177a) (S := S) (J := (fun _ _ _ => True)) (P := sn177 a g) (fun _ => (show zAll _ [q177_0, q177_1, q177_2, q177_3] from (zAll_c (vn177_0 hS170) (zAll_c (vn177_1 hS170) (zAll_c (vn177_2 hS170) (zAll_c (vn177_3 hS170) zAll_n)))))) (fun _ => (show zAllI _ 0 [] from trivial)) h
set_option maxRecDepth 100000 in
theorem vn178_0 {S : Nat → zSpc}  {a : List Int} {g : rHp} : ∀ (ρ : Nat → Int) (γ : Nat → rHp), zO 2 S a g q178_0 ρ γ → zGl (fun i vs g1 => jn178 a g i vs g1) (sn178 a g) q178_0 ρ γ := by
  intro ρ γ h
  obtain ⟨ha, hg, hr, hf, hm, hc, hl⟩ := h
  have ha : a = [ρ 0, ρ 1] := ha
  subst ha
  subst hg
  obtain ⟨r0, -⟩ := hr
  have r0 : ((-2147483648) : Int) ≤ ρ 0 ∧ ρ 0 ≤ (-1) := r0
  have w_0 : ρ 0 < 0 := by omega
  obtain ⟨m0, -⟩ := hm
  have m0 : γ 0 7 0 1 = ρ 1 := m0
  show sn178 [ρ 0, ρ 1] (γ 0) 1 0 (γ 0)
  have hD : dn178 [ρ 0] (γ 0) = .inr (1, 0, γ 0) := by
    unfold dn178
    refine (zLet_eq (show _ = ρ 0 from rfl)).trans ?_
    refine (zLet_eq m0).trans ?_
    refine (if_pos w_0).trans ?_
    rfl
  exact zGoo_end hD
set_option maxRecDepth 100000 in
theorem vn178_1 {S : Nat → zSpc}  {a : List Int} {g : rHp} : ∀ (ρ : Nat → Int) (γ : Nat → rHp), zO 2 S a g q178_1 ρ γ → zGl (fun i vs g1 => jn178 a g i vs g1) (sn178 a g) q178_1 ρ γ := by
  intro ρ γ h
  obtain ⟨ha, hg, hr, hf, hm, hc, hl⟩ := h
  have ha : a = [ρ 0, ρ 1] := ha
  subst ha
  subst hg
  obtain ⟨r0, -⟩ := hr
  have r0 : (0 : Int) ≤ ρ 0 ∧ ρ 0 ≤ 2147483647 := r0
  obtain ⟨f0, -⟩ := hf
  have f0 : (0 : Int) ≤ ρ 1 + -ρ 0 + (-1) := f0
  obtain ⟨w_0, w_1⟩ : (¬ (ρ 0 < 0)) ∧ (ρ 0 < ρ 1) := ⟨by omega, by omega⟩
  obtain ⟨m0, -⟩ := hm
  have m0 : γ 0 7 0 1 = ρ 1 := m0
  show jn178 [ρ 0, ρ 1] (γ 0) 0 [ρ 0, ρ 1, 0, 0] (γ 0)
  have hD : dn178 [ρ 0] (γ 0) = .inl (0, [ρ 0, 0, 0], γ 0) := by
    unfold dn178
    refine (zLet_eq (show _ = ρ 0 from rfl)).trans ?_
    refine (zLet_eq m0).trans ?_
    refine (if_neg w_0).trans ?_
    refine (if_pos w_1).trans ?_
    rfl
  exact zGoo_to hD
set_option maxRecDepth 100000 in
theorem vn178_2 {S : Nat → zSpc}  {a : List Int} {g : rHp} : ∀ (ρ : Nat → Int) (γ : Nat → rHp), zO 2 S a g q178_2 ρ γ → zGl (fun i vs g1 => jn178 a g i vs g1) (sn178 a g) q178_2 ρ γ := by
  intro ρ γ h
  obtain ⟨ha, hg, hr, hf, hm, hc, hl⟩ := h
  have ha : a = [ρ 0, ρ 1] := ha
  subst ha
  subst hg
  obtain ⟨r0, -⟩ := hr
  have r0 : (0 : Int) ≤ ρ 0 ∧ ρ 0 ≤ 2147483647 := r0
  obtain ⟨f0, -⟩ := hf
  have f0 : (0 : Int) ≤ -ρ 1 + ρ 0 := f0
  obtain ⟨w_0, w_1⟩ : (¬ (ρ 0 < 0)) ∧ (¬ (ρ 0 < ρ 1)) := ⟨by omega, by omega⟩
  obtain ⟨m0, -⟩ := hm
  have m0 : γ 0 7 0 1 = ρ 1 := m0
  show sn178 [ρ 0, ρ 1] (γ 0) 1 0 (γ 0)
  have hD : dn178 [ρ 0] (γ 0) = .inr (1, 0, γ 0) := by
    unfold dn178
    refine (zLet_eq (show _ = ρ 0 from rfl)).trans ?_
    refine (zLet_eq m0).trans ?_
    refine (if_neg w_0).trans ?_
    refine (if_neg w_1).trans ?_
    rfl
  exact zGoo_end hD
set_option maxRecDepth 100000 in
theorem vn178a0_0 {S : Nat → zSpc}  {a : List Int} {g : rHp} : ∀ (ρ : Nat → Int) (γ : Nat → rHp), jn178 a g 0 (zAg (zNA a178_ 0) ρ) (γ 1) → zO 2 S a g q178a0_0 ρ γ → zGl (fun i vs g1 => jn178 a g i vs g1) (sn178 a g) q178a0_0 ρ γ := by
  intro ρ γ hJ h
  obtain ⟨ha, hg, hr, hf, hm, hc, hl⟩ := h
  have ha : a = [ρ 0, ρ 1] := ha
  subst ha
  subst hg
  have hJ : jn178 [ρ 0, ρ 1] (γ 0) 0 [ρ 0, ρ 1, ρ 2, ρ 3] (γ 1) := hJ
  obtain ⟨-, -, r2, -⟩ := hr
  have r2 : (8 : Int) ≤ ρ 2 ∧ ρ 2 ≤ 8 := r2
  have w_0 : ρ 2 ≥ 8 := by omega
  obtain ⟨m0, -⟩ := hm
  have m0 : γ 0 7 0 1 = ρ 1 := m0
  show sn178 [ρ 0, ρ 1] (γ 0) 0 (ρ 3) (γ 1)
  have hD : en178 (γ 0) (0, [ρ 0, ρ 2, ρ 3], γ 1) = .inr (0, ρ 3, γ 1) := by
    unfold en178
    refine (if_pos (show (0 : Nat) = 0 by decide)).trans ?_
    refine (zLet_eq (show _ = γ 1 from rfl)).trans ?_
    refine (zLet_eq (show _ = ρ 0 from rfl)).trans ?_
    refine (zLet_eq (show _ = ρ 2 from rfl)).trans ?_
    refine (zLet_eq (show _ = ρ 3 from rfl)).trans ?_
    refine (zLet_eq m0).trans ?_
    refine (if_pos w_0).trans ?_
    rfl
  exact zGoo_aend hJ hD
set_option maxRecDepth 100000 in
theorem vn178a0_1 {S : Nat → zSpc}  {a : List Int} {g : rHp} : ∀ (ρ : Nat → Int) (γ : Nat → rHp), jn178 a g 0 (zAg (zNA a178_ 0) ρ) (γ 1) → zO 2 S a g q178a0_1 ρ γ → zGl (fun i vs g1 => jn178 a g i vs g1) (sn178 a g) q178a0_1 ρ γ := by
  intro ρ γ hJ h
  obtain ⟨ha, hg, hr, hf, hm, hc, hl⟩ := h
  have ha : a = [ρ 0, ρ 1] := ha
  subst ha
  subst hg
  have hJ : jn178 [ρ 0, ρ 1] (γ 0) 0 [ρ 0, ρ 1, ρ 2, ρ 3] (γ 1) := hJ
  obtain ⟨-, -, r2, -⟩ := hr
  have r2 : (0 : Int) ≤ ρ 2 ∧ ρ 2 ≤ 7 := r2
  obtain ⟨f0, -⟩ := hf
  have f0 : (0 : Int) ≤ ρ 2 + (-ρ 1 + ρ 0) := f0
  obtain ⟨w_0, w_1⟩ : (¬ (ρ 2 ≥ 8)) ∧ (ρ 2 + ρ 0 ≥ ρ 1) := ⟨by omega, by omega⟩
  obtain ⟨m0, -⟩ := hm
  have m0 : γ 0 7 0 1 = ρ 1 := m0
  obtain ⟨l0, l1, -⟩ := hl
  have l0 : zOpP (.lshl) (γ 0) (γ 1) [ρ 3, 8] (ρ 4) := l0
  have l1 : zOpP (.lor) (γ 0) (γ 1) [ρ 4, 0] (ρ 5) := l1
  show jn178 [ρ 0, ρ 1] (γ 0) 0 [ρ 0, ρ 1, ρ 2 + 1, ρ 5] (γ 1)
  have hD : en178 (γ 0) (0, [ρ 0, ρ 2, ρ 3], γ 1) = .inl (0, [ρ 0, ρ 2 + 1, ρ 5], γ 1) := by
    unfold en178
    refine (if_pos (show (0 : Nat) = 0 by decide)).trans ?_
    refine (zLet_eq (show _ = γ 1 from rfl)).trans ?_
    refine (zLet_eq (show _ = ρ 0 from rfl)).trans ?_
    refine (zLet_eq (show _ = ρ 2 from rfl)).trans ?_
    refine (zLet_eq (show _ = ρ 3 from rfl)).trans ?_
    refine (zLet_eq m0).trans ?_
    refine (if_neg w_0).trans ?_
    refine (zLet_eq (zF2_ok l0)).trans ?_
    refine (if_pos w_1).trans ?_
    refine (zLet_eq (zF2_ok l1)).trans ?_
    rfl
  exact zGoo_ato hJ hD
set_option maxRecDepth 100000 in
theorem vn178a0_2 {S : Nat → zSpc}  {a : List Int} {g : rHp} : ∀ (ρ : Nat → Int) (γ : Nat → rHp), jn178 a g 0 (zAg (zNA a178_ 0) ρ) (γ 1) → zO 2 S a g q178a0_2 ρ γ → zGl (fun i vs g1 => jn178 a g i vs g1) (sn178 a g) q178a0_2 ρ γ := by
  intro ρ γ hJ h
  obtain ⟨ha, hg, hr, hf, hm, hc, hl⟩ := h
  have ha : a = [ρ 0, ρ 1] := ha
  subst ha
  subst hg
  have hJ : jn178 [ρ 0, ρ 1] (γ 0) 0 [ρ 0, ρ 1, ρ 2, ρ 3] (γ 1) := hJ
  obtain ⟨-, -, r2, -⟩ := hr
  have r2 : (0 : Int) ≤ ρ 2 ∧ ρ 2 ≤ 7 := r2
  obtain ⟨f0, -⟩ := hf
  have f0 : (0 : Int) ≤ -ρ 2 + (ρ 1 + -ρ 0) + (-1) := f0
  obtain ⟨w_0, w_1⟩ : (¬ (ρ 2 ≥ 8)) ∧ (¬ (ρ 2 + ρ 0 ≥ ρ 1)) := ⟨by omega, by omega⟩
  obtain ⟨m0, m1, -⟩ := hm
  have m0 : γ 0 7 0 1 = ρ 1 := m0
  have m1 : γ 0 39 0 (ρ 2 + ρ 0) = ρ 5 := m1
  obtain ⟨l0, l1, -⟩ := hl
  have l0 : zOpP (.lshl) (γ 0) (γ 1) [ρ 3, 8] (ρ 4) := l0
  have l1 : zOpP (.lor) (γ 0) (γ 1) [ρ 4, ρ 5] (ρ 6) := l1
  show jn178 [ρ 0, ρ 1] (γ 0) 0 [ρ 0, ρ 1, ρ 2 + 1, ρ 6] (γ 1)
  have hD : en178 (γ 0) (0, [ρ 0, ρ 2, ρ 3], γ 1) = .inl (0, [ρ 0, ρ 2 + 1, ρ 6], γ 1) := by
    unfold en178
    refine (if_pos (show (0 : Nat) = 0 by decide)).trans ?_
    refine (zLet_eq (show _ = γ 1 from rfl)).trans ?_
    refine (zLet_eq (show _ = ρ 0 from rfl)).trans ?_
    refine (zLet_eq (show _ = ρ 2 from rfl)).trans ?_
    refine (zLet_eq (show _ = ρ 3 from rfl)).trans ?_
    refine (zLet_eq m0).trans ?_
    refine (if_neg w_0).trans ?_
    refine (zLet_eq (zF2_ok l0)).trans ?_
    refine (if_neg w_1).trans ?_
    refine (zLet_eq m1).trans ?_
    refine (zLet_eq (zF2_ok l1)).trans ?_
    rfl
  exact zGoo_ato hJ hD
set_option maxRecDepth 100000 in
theorem yn178 {S : Nat → zSpc}  : ∀ x g o v gz, zSem uW uT w178_.2.2.2.1 w178_.2.2.1.1.length S q178 (fun i => q178a.getD i []) (zNA a178_) x g o v gz → sn178 x g o v gz := by
  intro a g o v gz h
  exact zSem_all (l0 := q178) (las := q178a) (S := S) (J := (fun i vs g1 => jn178 a g i vs g1)) (P := sn178 a g) (fun _ => (show zAll _ [q178_0, q178_1, q178_2] from (zAll_c (vn178_0 ) (zAll_c (vn178_1 ) (zAll_c (vn178_2 ) zAll_n))))) (fun _ => (show zAllI _ 0 [q178a0] from ⟨(show zAll _ [q178a0_0, q178a0_1, q178a0_2] from (zAll_c (vn178a0_0 ) (zAll_c (vn178a0_1 ) (zAll_c (vn178a0_2 ) zAll_n)))), trivial⟩)) h
