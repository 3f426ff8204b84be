/-! ===== the runs are the functions ===== -/
theorem vn15_0 {S : Nat → zSpc}  {a : List Int} {g : rHp} : ∀ (ρ : Nat → Int) (γ : Nat → rHp), zO 5 S a g q15_0 ρ γ → zGl (fun i vs g1 => jn15 a g i vs g1) (sn15 a g) q15_0 ρ γ := by
  intro ρ γ h
  obtain ⟨ha, hg, hr, hf, hm, hc, hl⟩ := h
  have ha : a = [ρ 0, ρ 1, ρ 2, ρ 3, ρ 4] := ha
  subst ha
  subst hg
  show jn15 [ρ 0, ρ 1, ρ 2, ρ 3, ρ 4] (γ 0) 0 [ρ 0, ρ 1, ρ 2, ρ 3, ρ 4, 0] (γ 0)
  have hD : dn15 [] (γ 0) = .inl (0, [0], γ 0) := by
    unfold dn15
    rfl
  exact zGoo_to hD
theorem vn15a0_0 {S : Nat → zSpc}  {a : List Int} {g : rHp} : ∀ (ρ : Nat → Int) (γ : Nat → rHp), jn15 a g 0 (zAg (zNA a15_ 0) ρ) (γ 1) → zO 5 S a g q15a0_0 ρ γ → zGl (fun i vs g1 => jn15 a g i vs g1) (sn15 a g) q15a0_0 ρ γ := by
  intro ρ γ hJ h
  obtain ⟨ha, hg, hr, hf, hm, hc, hl⟩ := h
  have ha : a = [ρ 0, ρ 1, ρ 2, ρ 3, ρ 4] := ha
  subst ha
  subst hg
  have hJ : jn15 [ρ 0, ρ 1, ρ 2, ρ 3, ρ 4] (γ 0) 0 [ρ 0, ρ 1, ρ 2, ρ 3, ρ 4, ρ 5] (γ 1) := hJ
  obtain ⟨f0, -⟩ := hf
  have f0 : (0 : Int) ≤ ρ 5 + -ρ 1 := f0
  have w_0 : ρ 5 ≥ ρ 1 := by omega
  obtain ⟨-, m1, m2, -, m4, -⟩ := hm
  have m1 : γ 0 15 0 8 = ρ 1 := m1
  have m2 : γ 0 15 0 9 = ρ 2 := m2
  have m4 : γ 0 15 0 38 = ρ 4 := m4
  obtain ⟨⟨-, c2⟩, c3⟩ := hc
  have c2 : γ 2 = rUp (γ 1) 62 0 (ρ 1) (ρ 2) := c2
  have c3 : γ 3 = rUp (γ 2) 63 0 (ρ 1) (ρ 4) := c3
  show jn15 [ρ 0, ρ 1, ρ 2, ρ 3, ρ 4] (γ 0) 2 [ρ 0, ρ 1, ρ 2, ρ 3, ρ 4, 0] (γ 3)
  have hD : en15 (γ 0) (0, [ρ 5], γ 1) = .inl (2, [0], γ 3) := by
    unfold en15
    refine (if_pos (show (0 : Nat) = 0 by decide)).trans ?_
    refine (zLet_eq (show _ = γ 1 from rfl)).trans ?_
    refine (zLet_eq (show _ = ρ 5 from rfl)).trans ?_
    refine (zLet_eq m1).trans ?_
    refine (zLet_eq m2).trans ?_
    refine (zLet_eq m4).trans ?_
    refine (if_pos w_0).trans ?_
    refine (zLet_eq c2.symm).trans ?_
    refine (zLet_eq c3.symm).trans ?_
    rfl
  exact zGoo_ato hJ hD
theorem vn15a0_1 {S : Nat → zSpc}  {a : List Int} {g : rHp} : ∀ (ρ : Nat → Int) (γ : Nat → rHp), jn15 a g 0 (zAg (zNA a15_ 0) ρ) (γ 1) → zO 5 S a g q15a0_1 ρ γ → zGl (fun i vs g1 => jn15 a g i vs g1) (sn15 a g) q15a0_1 ρ γ := by
  intro ρ γ hJ h
  obtain ⟨ha, hg, hr, hf, hm, hc, hl⟩ := h
  have ha : a = [ρ 0, ρ 1, ρ 2, ρ 3, ρ 4] := ha
  subst ha
  subst hg
  have hJ : jn15 [ρ 0, ρ 1, ρ 2, ρ 3, ρ 4] (γ 0) 0 [ρ 0, ρ 1, ρ 2, ρ 3, ρ 4, ρ 5] (γ 1) := hJ
  obtain ⟨r0, r1, r2, r3, r4, r5, r6, -⟩ := hr
  have r0 : (0 : Int) ≤ ρ 0 ∧ ρ 0 ≤ 2000 := r0
  have r1 : (0 : Int) ≤ ρ 1 ∧ ρ 1 ≤ 12288 := r1
  have r2 : (0 : Int) ≤ ρ 2 ∧ ρ 2 ≤ 12288 := r2
  have r3 : (0 : Int) ≤ ρ 3 ∧ ρ 3 ≤ 2000 := r3
  have r4 : (1 : Int) ≤ ρ 4 ∧ ρ 4 ≤ 12 := r4
  have r5 : (0 : Int) ≤ ρ 5 ∧ ρ 5 ≤ 12288 := r5
  have r6 : (0 : Int) ≤ ρ 6 ∧ ρ 6 ≤ 12 := r6
  obtain ⟨f0, f1, f2, f3, f4, -⟩ := hf
  have f0 : (0 : Int) ≤ -ρ 5 + ρ 1 + (-1) := f0
  have f1 : (0 : Int) ≤ -ρ 5 + ρ 1 := f1
  have f2 : (0 : Int) ≤ -ρ 4 + (-ρ 3 + ρ 0) := f2
  have f3 : (0 : Int) ≤ ρ 3 + (-ρ 2 + -ρ 0) + 12288 := f3
  have f4 : (0 : Int) ≤ ρ 3 + (-ρ 1 + -ρ 0) + 12288 := f4
  have w_0 : ¬ (ρ 5 ≥ ρ 1) := by omega
  obtain ⟨-, m1, m2, -, m4, m5, -⟩ := hm
  have m1 : γ 0 15 0 8 = ρ 1 := m1
  have m2 : γ 0 15 0 9 = ρ 2 := m2
  have m4 : γ 0 15 0 38 = ρ 4 := m4
  have m5 : γ 0 63 0 (ρ 5) = ρ 6 := m5
  obtain ⟨l0, -⟩ := hl
  have l0 : ρ 6 ≠ ρ 4 := l0
  have wl_0 : ρ 6 ≠ ρ 4 := by omega
  show jn15 [ρ 0, ρ 1, ρ 2, ρ 3, ρ 4] (γ 0) 1 [ρ 0, ρ 1, ρ 2, ρ 3, ρ 4, 0, 0, ρ 5] (γ 1)
  have hD : en15 (γ 0) (0, [ρ 5], γ 1) = .inl (1, [0, 0, ρ 5], γ 1) := by
    unfold en15
    refine (if_pos (show (0 : Nat) = 0 by decide)).trans ?_
    refine (zLet_eq (show _ = γ 1 from rfl)).trans ?_
    refine (zLet_eq (show _ = ρ 5 from rfl)).trans ?_
    refine (zLet_eq m1).trans ?_
    refine (zLet_eq m2).trans ?_
    refine (zLet_eq m4).trans ?_
    refine (if_neg w_0).trans ?_
    refine (zLet_eq m5).trans ?_
    refine (if_pos wl_0).trans ?_
    rfl
  exact zGoo_ato hJ hD
theorem vn15a0_2 {S : Nat → zSpc}  {a : List Int} {g : rHp} : ∀ (ρ : Nat → Int) (γ : Nat → rHp), jn15 a g 0 (zAg (zNA a15_ 0) ρ) (γ 1) → zO 5 S a g q15a0_2 ρ γ → zGl (fun i vs g1 => jn15 a g i vs g1) (sn15 a g) q15a0_2 ρ γ := by
  intro ρ γ hJ h
  obtain ⟨ha, hg, hr, hf, hm, hc, hl⟩ := h
  have ha : a = [ρ 0, ρ 1, ρ 2, ρ 3, ρ 4] := ha
  subst ha
  subst hg
  have hJ : jn15 [ρ 0, ρ 1, ρ 2, ρ 3, ρ 4] (γ 0) 0 [ρ 0, ρ 1, ρ 2, ρ 3, ρ 4, ρ 5] (γ 1) := hJ
  obtain ⟨f0, f1, f2, -⟩ := hf
  have f0 : (0 : Int) ≤ -ρ 6 + ρ 4 := f0
  have f1 : (0 : Int) ≤ ρ 6 + -ρ 4 := f1
  have f2 : (0 : Int) ≤ -ρ 5 + ρ 1 + (-1) := f2
  obtain ⟨w_0, w_1⟩ : (¬ (ρ 5 ≥ ρ 1)) ∧ (¬ (ρ 6 ≠ ρ 4)) := ⟨by omega, by omega⟩
  obtain ⟨-, m1, m2, -, m4, m5, -⟩ := hm
  have m1 : γ 0 15 0 8 = ρ 1 := m1
  have m2 : γ 0 15 0 9 = ρ 2 := m2
  have m4 : γ 0 15 0 38 = ρ 4 := m4
  have m5 : γ 0 63 0 (ρ 5) = ρ 6 := m5
  show jn15 [ρ 0, ρ 1, ρ 2, ρ 3, ρ 4] (γ 0) 1 [ρ 0, ρ 1, ρ 2, ρ 3, ρ 4, 0, 1, ρ 5] (γ 1)
  have hD : en15 (γ 0) (0, [ρ 5], γ 1) = .inl (1, [0, 1, ρ 5], γ 1) := by
    unfold en15
    refine (if_pos (show (0 : Nat) = 0 by decide)).trans ?_
    refine (zLet_eq (show _ = γ 1 from rfl)).trans ?_
    refine (zLet_eq (show _ = ρ 5 from rfl)).trans ?_
    refine (zLet_eq m1).trans ?_
    refine (zLet_eq m2).trans ?_
    refine (zLet_eq m4).trans ?_
    refine (if_neg w_0).trans ?_
    refine (zLet_eq m5).trans ?_
    refine (if_neg w_1).trans ?_
    rfl
  exact zGoo_ato hJ hD
theorem vn15a1_0 {S : Nat → zSpc}  {a : List Int} {g : rHp} : ∀ (ρ : Nat → Int) (γ : Nat → rHp), jn15 a g 1 (zAg (zNA a15_ 1) ρ) (γ 1) → zO 5 S a g q15a1_0 ρ γ → zGl (fun i vs g1 => jn15 a g i vs g1) (sn15 a g) q15a1_0 ρ γ := by
  intro ρ γ hJ h
  obtain ⟨ha, hg, hr, hf, hm, hc, hl⟩ := h
  have ha : a = [ρ 0, ρ 1, ρ 2, ρ 3, ρ 4] := ha
  subst ha
  subst hg
  have hJ : jn15 [ρ 0, ρ 1, ρ 2, ρ 3, ρ 4] (γ 0) 1 [ρ 0, ρ 1, ρ 2, ρ 3, ρ 4, ρ 5, ρ 6, ρ 7] (γ 1) := hJ
  obtain ⟨-, -, -, -, -, -, r6, -⟩ := hr
  have r6 : (0 : Int) ≤ ρ 6 ∧ ρ 6 ≤ 0 := r6
  obtain ⟨f0, -⟩ := hf
  have f0 : (0 : Int) ≤ ρ 5 + -ρ 4 := f0
  obtain ⟨w_0, w_1⟩ : (ρ 5 ≥ ρ 4) ∧ (ρ 6 = 0) := ⟨by omega, by omega⟩
  obtain ⟨-, -, -, m3, m4, -⟩ := hm
  have m3 : γ 0 15 0 37 = ρ 3 := m3
  have m4 : γ 0 15 0 38 = ρ 4 := m4
  show jn15 [ρ 0, ρ 1, ρ 2, ρ 3, ρ 4] (γ 0) 0 [ρ 0, ρ 1, ρ 2, ρ 3, ρ 4, ρ 7 + 1] (γ 1)
  have hD : en15 (γ 0) (1, [ρ 5, ρ 6, ρ 7], γ 1) = .inl (0, [ρ 7 + 1], γ 1) := by
    unfold en15
    refine (if_neg (show ¬ (1 : Nat) = 0 by decide)).trans ?_
    refine (if_pos (show (1 : Nat) = 1 by decide)).trans ?_
    refine (zLet_eq (show _ = γ 1 from rfl)).trans ?_
    refine (zLet_eq (show _ = ρ 5 from rfl)).trans ?_
    refine (zLet_eq (show _ = ρ 6 from rfl)).trans ?_
    refine (zLet_eq (show _ = ρ 7 from rfl)).trans ?_
    refine (zLet_eq m3).trans ?_
    refine (zLet_eq m4).trans ?_
    refine (if_pos w_0).trans ?_
    refine (if_pos w_1).trans ?_
    rfl
  exact zGoo_ato hJ hD
theorem vn15a1_1 {S : Nat → zSpc}  {a : List Int} {g : rHp} : ∀ (ρ : Nat → Int) (γ : Nat → rHp), jn15 a g 1 (zAg (zNA a15_ 1) ρ) (γ 1) → zO 5 S a g q15a1_1 ρ γ → zGl (fun i vs g1 => jn15 a g i vs g1) (sn15 a g) q15a1_1 ρ γ := by
  intro ρ γ hJ h
  obtain ⟨ha, hg, hr, hf, hm, hc, hl⟩ := h
  have ha : a = [ρ 0, ρ 1, ρ 2, ρ 3, ρ 4] := ha
  subst ha
  subst hg
  have hJ : jn15 [ρ 0, ρ 1, ρ 2, ρ 3, ρ 4] (γ 0) 1 [ρ 0, ρ 1, ρ 2, ρ 3, ρ 4, ρ 5, ρ 6, ρ 7] (γ 1) := hJ
  obtain ⟨-, -, -, -, -, -, r6, -⟩ := hr
  have r6 : (1 : Int) ≤ ρ 6 ∧ ρ 6 ≤ 1 := r6
  obtain ⟨f0, -⟩ := hf
  have f0 : (0 : Int) ≤ ρ 5 + -ρ 4 := f0
  obtain ⟨w_0, w_1⟩ : (ρ 5 ≥ ρ 4) ∧ (¬ (ρ 6 = 0)) := ⟨by omega, by omega⟩
  obtain ⟨-, -, -, m3, m4, -⟩ := hm
  have m3 : γ 0 15 0 37 = ρ 3 := m3
  have m4 : γ 0 15 0 38 = ρ 4 := m4
  show sn15 [ρ 0, ρ 1, ρ 2, ρ 3, ρ 4] (γ 0) 0 (ρ 7 + 1099511627776) (γ 1)
  have hD : en15 (γ 0) (1, [ρ 5, ρ 6, ρ 7], γ 1) = .inr (0, ρ 7 + 1099511627776, γ 1) := by
    unfold en15
    refine (if_neg (show ¬ (1 : Nat) = 0 by decide)).trans ?_
    refine (if_pos (show (1 : Nat) = 1 by decide)).trans ?_
    refine (zLet_eq (show _ = γ 1 from rfl)).trans ?_
    refine (zLet_eq (show _ = ρ 5 from rfl)).trans ?_
    refine (zLet_eq (show _ = ρ 6 from rfl)).trans ?_
    refine (zLet_eq (show _ = ρ 7 from rfl)).trans ?_
    refine (zLet_eq m3).trans ?_
    refine (zLet_eq m4).trans ?_
    refine (if_pos w_0).trans ?_
    refine (if_neg w_1).trans ?_
    rfl
  exact zGoo_aend hJ hD
theorem vn15a1_2 {S : Nat → zSpc}  {a : List Int} {g : rHp} : ∀ (ρ : Nat → Int) (γ : Nat → rHp), jn15 a g 1 (zAg (zNA a15_ 1) ρ) (γ 1) → zO 5 S a g q15a1_2 ρ γ → zGl (fun i vs g1 => jn15 a g i vs g1) (sn15 a g) q15a1_2 ρ γ := by
  intro ρ γ hJ h
  obtain ⟨ha, hg, hr, hf, hm, hc, hl⟩ := h
  have ha : a = [ρ 0, ρ 1, ρ 2, ρ 3, ρ 4] := ha
  subst ha
  subst hg
  have hJ : jn15 [ρ 0, ρ 1, ρ 2, ρ 3, ρ 4] (γ 0) 1 [ρ 0, ρ 1, ρ 2, ρ 3, ρ 4, ρ 5, ρ 6, ρ 7] (γ 1) := hJ
  obtain ⟨-, -, -, -, -, -, r6, -⟩ := hr
  have r6 : (0 : Int) ≤ ρ 6 ∧ ρ 6 ≤ 0 := r6
  obtain ⟨f0, -⟩ := hf
  have f0 : (0 : Int) ≤ -ρ 5 + ρ 4 + (-1) := f0
  obtain ⟨w_0, w_1⟩ : (¬ (ρ 5 ≥ ρ 4)) ∧ (ρ 6 = 0) := ⟨by omega, by omega⟩
  obtain ⟨-, -, -, m3, m4, -⟩ := hm
  have m3 : γ 0 15 0 37 = ρ 3 := m3
  have m4 : γ 0 15 0 38 = ρ 4 := m4
  show jn15 [ρ 0, ρ 1, ρ 2, ρ 3, ρ 4] (γ 0) 0 [ρ 0, ρ 1, ρ 2, ρ 3, ρ 4, ρ 7 + 1] (γ 1)
  have hD : en15 (γ 0) (1, [ρ 5, ρ 6, ρ 7], γ 1) = .inl (0, [ρ 7 + 1], γ 1) := by
    unfold en15
    refine (if_neg (show ¬ (1 : Nat) = 0 by decide)).trans ?_
    refine (if_pos (show (1 : Nat) = 1 by decide)).trans ?_
    refine (zLet_eq (show _ = γ 1 from rfl)).trans ?_
    refine (zLet_eq (show _ = ρ 5 from rfl)).trans ?_
    refine (zLet_eq (show _ = ρ 6 from rfl)).trans ?_
    refine (zLet_eq (show _ = ρ 7 from rfl)).trans ?_
    refine (zLet_eq m3).trans ?_
    refine (zLet_eq m4).trans ?_
    refine (if_neg w_0).trans ?_
    refine (if_pos w_1).trans ?_
    rfl
  exact zGoo_ato hJ hD
theorem vn15a1_3 {S : Nat → zSpc}  {a : List Int} {g : rHp} : ∀ (ρ : Nat → Int) (γ : Nat → rHp), jn15 a g 1 (zAg (zNA a15_ 1) ρ) (γ 1) → zO 5 S a g q15a1_3 ρ γ → zGl (fun i vs g1 => jn15 a g i vs g1) (sn15 a g) q15a1_3 ρ γ := by
  intro ρ γ hJ h
  obtain ⟨ha, hg, hr, hf, hm, hc, hl⟩ := h
  have ha : a = [ρ 0, ρ 1, ρ 2, ρ 3, ρ 4] := ha
  subst ha
  subst hg
  have hJ : jn15 [ρ 0, ρ 1, ρ 2, ρ 3, ρ 4] (γ 0) 1 [ρ 0, ρ 1, ρ 2, ρ 3, ρ 4, ρ 5, ρ 6, ρ 7] (γ 1) := hJ
  obtain ⟨-, -, -, -, -, -, r6, -, -, r9, r10, -⟩ := hr
  have r6 : (1 : Int) ≤ ρ 6 ∧ ρ 6 ≤ 1 := r6
  have r9 : ((-128) : Int) ≤ ρ 9 ∧ ρ 9 ≤ 127 := r9
  have r10 : ((-128) : Int) ≤ ρ 10 ∧ ρ 10 ≤ 127 := r10
  obtain ⟨f0, -⟩ := hf
  have f0 : (0 : Int) ≤ -ρ 5 + ρ 4 + (-1) := f0
  obtain ⟨w_0, w_1⟩ : (¬ (ρ 5 ≥ ρ 4)) ∧ (¬ (ρ 6 = 0)) := ⟨by omega, by omega⟩
  obtain ⟨-, -, -, m3, m4, m5, m6, m7, -⟩ := hm
  have m3 : γ 0 15 0 37 = ρ 3 := m3
  have m4 : γ 0 15 0 38 = ρ 4 := m4
  have m5 : γ 0 62 0 (ρ 7) = ρ 8 := m5
  have m6 : γ 0 61 0 (ρ 8 + ρ 5) = ρ 9 := m6
  have m7 : γ 0 59 0 (ρ 5 + ρ 3) = ρ 10 := m7
  obtain ⟨l0, -⟩ := hl
  have l0 : ρ 9 ≠ ρ 10 := l0
  have wl_0 : ρ 9 ≠ ρ 10 := by omega
  show jn15 [ρ 0, ρ 1, ρ 2, ρ 3, ρ 4] (γ 0) 1 [ρ 0, ρ 1, ρ 2, ρ 3, ρ 4, ρ 5 + 1, 0, ρ 7] (γ 1)
  have hD : en15 (γ 0) (1, [ρ 5, ρ 6, ρ 7], γ 1) = .inl (1, [ρ 5 + 1, 0, ρ 7], γ 1) := by
    unfold en15
    refine (if_neg (show ¬ (1 : Nat) = 0 by decide)).trans ?_
    refine (if_pos (show (1 : Nat) = 1 by decide)).trans ?_
    refine (zLet_eq (show _ = γ 1 from rfl)).trans ?_
    refine (zLet_eq (show _ = ρ 5 from rfl)).trans ?_
    refine (zLet_eq (show _ = ρ 6 from rfl)).trans ?_
    refine (zLet_eq (show _ = ρ 7 from rfl)).trans ?_
    refine (zLet_eq m3).trans ?_
    refine (zLet_eq m4).trans ?_
    refine (if_neg w_0).trans ?_
    refine (if_neg w_1).trans ?_
    refine (zLet_eq m5).trans ?_
    refine (zLet_eq m6).trans ?_
    refine (zLet_eq m7).trans ?_
    refine (if_pos wl_0).trans ?_
    rfl
  exact zGoo_ato hJ hD
theorem vn15a1_4 {S : Nat → zSpc}  {a : List Int} {g : rHp} : ∀ (ρ : Nat → Int) (γ : Nat → rHp), jn15 a g 1 (zAg (zNA a15_ 1) ρ) (γ 1) → zO 5 S a g q15a1_4 ρ γ → zGl (fun i vs g1 => jn15 a g i vs g1) (sn15 a g) q15a1_4 ρ γ := by
  intro ρ γ hJ h
  obtain ⟨ha, hg, hr, hf, hm, hc, hl⟩ := h
  have ha : a = [ρ 0, ρ 1, ρ 2, ρ 3, ρ 4] := ha
  subst ha
  subst hg
  have hJ : jn15 [ρ 0, ρ 1, ρ 2, ρ 3, ρ 4] (γ 0) 1 [ρ 0, ρ 1, ρ 2, ρ 3, ρ 4, ρ 5, ρ 6, ρ 7] (γ 1) := hJ
  obtain ⟨-, -, -, -, -, -, r6, -⟩ := hr
  have r6 : (1 : Int) ≤ ρ 6 ∧ ρ 6 ≤ 1 := r6
  obtain ⟨f0, f1, f2, -⟩ := hf
  have f0 : (0 : Int) ≤ ρ 10 + -ρ 9 := f0
  have f1 : (0 : Int) ≤ -ρ 10 + ρ 9 := f1
  have f2 : (0 : Int) ≤ -ρ 5 + ρ 4 + (-1) := f2
  obtain ⟨w_0, w_1, w_2⟩ : (¬ (ρ 5 ≥ ρ 4)) ∧ (¬ (ρ 6 = 0)) ∧ (¬ (ρ 9 ≠ ρ 10)) := ⟨by omega, by omega, by omega⟩
  obtain ⟨-, -, -, m3, m4, m5, m6, m7, -⟩ := hm
  have m3 : γ 0 15 0 37 = ρ 3 := m3
  have m4 : γ 0 15 0 38 = ρ 4 := m4
  have m5 : γ 0 62 0 (ρ 7) = ρ 8 := m5
  have m6 : γ 0 61 0 (ρ 8 + ρ 5) = ρ 9 := m6
  have m7 : γ 0 59 0 (ρ 5 + ρ 3) = ρ 10 := m7
  show jn15 [ρ 0, ρ 1, ρ 2, ρ 3, ρ 4] (γ 0) 1 [ρ 0, ρ 1, ρ 2, ρ 3, ρ 4, ρ 5 + 1, 1, ρ 7] (γ 1)
  have hD : en15 (γ 0) (1, [ρ 5, ρ 6, ρ 7], γ 1) = .inl (1, [ρ 5 + 1, 1, ρ 7], γ 1) := by
    unfold en15
    refine (if_neg (show ¬ (1 : Nat) = 0 by decide)).trans ?_
    refine (if_pos (show (1 : Nat) = 1 by decide)).trans ?_
    refine (zLet_eq (show _ = γ 1 from rfl)).trans ?_
    refine (zLet_eq (show _ = ρ 5 from rfl)).trans ?_
    refine (zLet_eq (show _ = ρ 6 from rfl)).trans ?_
    refine (zLet_eq (show _ = ρ 7 from rfl)).trans ?_
    refine (zLet_eq m3).trans ?_
    refine (zLet_eq m4).trans ?_
    refine (if_neg w_0).trans ?_
    refine (if_neg w_1).trans ?_
    refine (zLet_eq m5).trans ?_
    refine (zLet_eq m6).trans ?_
    refine (zLet_eq m7).trans ?_
    refine (if_neg w_2).trans ?_
    rfl
  exact zGoo_ato hJ hD
theorem vn15a2_0 {S : Nat → zSpc}  {a : List Int} {g : rHp} : ∀ (ρ : Nat → Int) (γ : Nat → rHp), jn15 a g 2 (zAg (zNA a15_ 2) ρ) (γ 1) → zO 5 S a g q15a2_0 ρ γ → zGl (fun i vs g1 => jn15 a g i vs g1) (sn15 a g) q15a2_0 ρ γ := by
  intro ρ γ hJ h
  obtain ⟨ha, hg, hr, hf, hm, hc, hl⟩ := h
  have ha : a = [ρ 0, ρ 1, ρ 2, ρ 3, ρ 4] := ha
  subst ha
  subst hg
  have hJ : jn15 [ρ 0, ρ 1, ρ 2, ρ 3, ρ 4] (γ 0) 2 [ρ 0, ρ 1, ρ 2, ρ 3, ρ 4, ρ 5] (γ 1) := hJ
  obtain ⟨f0, -⟩ := hf
  have f0 : (0 : Int) ≤ ρ 5 + -ρ 4 := f0
  have w_0 : ρ 5 ≥ ρ 4 := by omega
  obtain ⟨-, m1, m2, m3, m4, -⟩ := hm
  have m1 : γ 0 15 0 8 = ρ 1 := m1
  have m2 : γ 0 15 0 9 = ρ 2 := m2
  have m3 : γ 0 15 0 37 = ρ 3 := m3
  have m4 : γ 0 15 0 38 = ρ 4 := m4
  obtain ⟨⟨-, c2⟩, c3⟩ := hc
  have c2 : γ 2 = rUp (γ 1) 15 0 9 (ρ 4 + ρ 2) := c2
  have c3 : γ 3 = rUp (γ 2) 15 0 8 (ρ 1 + 1) := c3
  show sn15 [ρ 0, ρ 1, ρ 2, ρ 3, ρ 4] (γ 0) 0 (ρ 1 + 1099511627776) (γ 3)
  have hD : en15 (γ 0) (2, [ρ 5], γ 1) = .inr (0, ρ 1 + 1099511627776, γ 3) := by
    unfold en15
    refine (if_neg (show ¬ (2 : Nat) = 0 by decide)).trans ?_
    refine (if_neg (show ¬ (2 : Nat) = 1 by decide)).trans ?_
    refine (if_pos (show (2 : Nat) = 2 by decide)).trans ?_
    refine (zLet_eq (show _ = γ 1 from rfl)).trans ?_
    refine (zLet_eq (show _ = ρ 5 from rfl)).trans ?_
    refine (zLet_eq m1).trans ?_
    refine (zLet_eq m2).trans ?_
    refine (zLet_eq m3).trans ?_
    refine (zLet_eq m4).trans ?_
    refine (if_pos w_0).trans ?_
    refine (zLet_eq c2.symm).trans ?_
    refine (zLet_eq c3.symm).trans ?_
    rfl
  exact zGoo_aend hJ hD
theorem vn15a2_1 {S : Nat → zSpc}  {a : List Int} {g : rHp} : ∀ (ρ : Nat → Int) (γ : Nat → rHp), jn15 a g 2 (zAg (zNA a15_ 2) ρ) (γ 1) → zO 5 S a g q15a2_1 ρ γ → zGl (fun i vs g1 => jn15 a g i vs g1) (sn15 a g) q15a2_1 ρ γ := by
  intro ρ γ hJ h
  obtain ⟨ha, hg, hr, hf, hm, hc, hl⟩ := h
  have ha : a = [ρ 0, ρ 1, ρ 2, ρ 3, ρ 4] := ha
  subst ha
  subst hg
  have hJ : jn15 [ρ 0, ρ 1, ρ 2, ρ 3, ρ 4] (γ 0) 2 [ρ 0, ρ 1, ρ 2, ρ 3, ρ 4, ρ 5] (γ 1) := hJ
  obtain ⟨f0, -⟩ := hf
  have f0 : (0 : Int) ≤ -ρ 5 + ρ 4 + (-1) := f0
  have w_0 : ¬ (ρ 5 ≥ ρ 4) := by omega
  obtain ⟨-, m1, m2, m3, m4, m5, -⟩ := hm
  have m1 : γ 0 15 0 8 = ρ 1 := m1
  have m2 : γ 0 15 0 9 = ρ 2 := m2
  have m3 : γ 0 15 0 37 = ρ 3 := m3
  have m4 : γ 0 15 0 38 = ρ 4 := m4
  have m5 : γ 0 59 0 (ρ 5 + ρ 3) = ρ 6 := m5
  obtain ⟨-, c2⟩ := hc
  have c2 : γ 2 = rUp (γ 1) 61 0 (ρ 5 + ρ 2) (ρ 6) := c2
  show jn15 [ρ 0, ρ 1, ρ 2, ρ 3, ρ 4] (γ 0) 2 [ρ 0, ρ 1, ρ 2, ρ 3, ρ 4, ρ 5 + 1] (γ 2)
  have hD : en15 (γ 0) (2, [ρ 5], γ 1) = .inl (2, [ρ 5 + 1], γ 2) := by
    unfold en15
    refine (if_neg (show ¬ (2 : Nat) = 0 by decide)).trans ?_
    refine (if_neg (show ¬ (2 : Nat) = 1 by decide)).trans ?_
    refine (if_pos (show (2 : Nat) = 2 by decide)).trans ?_
    refine (zLet_eq (show _ = γ 1 from rfl)).trans ?_
    refine (zLet_eq (show _ = ρ 5 from rfl)).trans ?_
    refine (zLet_eq m1).trans ?_
    refine (zLet_eq m2).trans ?_
    refine (zLet_eq m3).trans ?_
    refine (zLet_eq m4).trans ?_
    refine (if_neg w_0).trans ?_
    refine (zLet_eq m5).trans ?_
    refine (zLet_eq c2.symm).trans ?_
    rfl
  exact zGoo_ato hJ hD
theorem yn15 {S : Nat → zSpc}  : ∀ x g o v gz, zSem uW uT w15_.2.2.2.1 w15_.2.2.1.1.length S q15 (fun i => q15a.getD i []) (zNA a15_) x g o v gz → sn15 x g o v gz := by
  intro a g o v gz h
  exact zSem_all (l0 := q15) (las := q15a) (S := S) (J := (fun i vs g1 => jn15 a g i vs g1)) (P := sn15 a g) (fun _ => (show zAll _ [q15_0] from (zAll_c (vn15_0 ) zAll_n))) (fun _ => (show zAllI _ 0 [q15a0, q15a1, q15a2] from ⟨(show zAll _ [q15a0_0, q15a0_1, q15a0_2] from (zAll_c (vn15a0_0 ) (zAll_c (vn15a0_1 ) (zAll_c (vn15a0_2 ) zAll_n)))), ⟨(show zAll _ [q15a1_0, q15a1_1, q15a1_2, q15a1_3, q15a1_4] from (zAll_c (vn15a1_0 ) (zAll_c (vn15a1_1 ) (zAll_c (vn15a1_2 ) (zAll_c (vn15a1_3 ) (zAll_c (vn15a1_4 ) zAll_n)))))), ⟨(show zAll _ [q15a2_0, q15a2_1] from (zAll_c (vn15a2_0 ) (zAll_c (vn15a2_1 ) zAll_n))), trivial⟩⟩⟩)) h
theorem vn16_0 {S : Nat → zSpc}  {a : List Int} {g : rHp} : ∀ (ρ : Nat → Int) (γ : Nat → rHp), zO 5 S a g q16_0 ρ γ → zGl (fun i vs g1 => jn16 a g i vs g1) (sn16 a g) q16_0 ρ γ := by
  intro ρ γ h
  obtain ⟨ha, hg, hr, hf, hm, hc, hl⟩ := h
  have ha : a = [ρ 0, ρ 1, ρ 2, ρ 3, ρ 4] := ha
  subst ha
  subst hg
  obtain ⟨f0, f1, -⟩ := hf
  have f0 : (0 : Int) ≤ ρ 4 + -ρ 1 := f0
  have f1 : (0 : Int) ≤ -ρ 4 + ρ 1 := f1
  have w_0 : ρ 1 = ρ 4 := by omega
  obtain ⟨m0, -, -, m3, -⟩ := hm
  have m0 : γ 0 83 0 (ρ 0) = ρ 1 := m0
  have m3 : γ 0 15 0 38 = ρ 4 := m3
  show jn16 [ρ 0, ρ 1, ρ 2, ρ 3, ρ 4] (γ 0) 0 [ρ 0, ρ 1, ρ 2, ρ 3, ρ 4, 0] (γ 0)
  have hD : dn16 [ρ 0] (γ 0) = .inl (0, [ρ 0, 0], γ 0) := by
    unfold dn16
    refine (zLet_eq (show _ = ρ 0 from rfl)).trans ?_
    refine (zLet_eq m0).trans ?_
    refine (zLet_eq m3).trans ?_
    refine (if_pos w_0).trans ?_
    rfl
  exact zGoo_to hD
theorem vn16_1 {S : Nat → zSpc}  {a : List Int} {g : rHp} : ∀ (ρ : Nat → Int) (γ : Nat → rHp), zO 5 S a g q16_1 ρ γ → zGl (fun i vs g1 => jn16 a g i vs g1) (sn16 a g) q16_1 ρ γ := by
  intro ρ γ h
  obtain ⟨ha, hg, hr, hf, hm, hc, hl⟩ := h
  have ha : a = [ρ 0, ρ 1, ρ 2, ρ 3, ρ 4] := ha
  subst ha
  subst hg
  obtain ⟨-, r1, r2, r3, r4, -⟩ := hr
  have r1 : (0 : Int) ≤ ρ 1 ∧ ρ 1 ≤ 12 := r1
  have r2 : (0 : Int) ≤ ρ 2 ∧ ρ 2 ≤ 2000 := r2
  have r3 : (0 : Int) ≤ ρ 3 ∧ ρ 3 ≤ 2000 := r3
  have r4 : (0 : Int) ≤ ρ 4 ∧ ρ 4 ≤ 2000 := r4
  obtain ⟨f0, f1, -⟩ := hf
  have f0 : (0 : Int) ≤ -ρ 2 + -ρ 1 + 2000 := f0
  have f1 : (0 : Int) ≤ -ρ 4 + -ρ 3 + 2000 := f1
  obtain ⟨m0, -, -, m3, -⟩ := hm
  have m0 : γ 0 83 0 (ρ 0) = ρ 1 := m0
  have m3 : γ 0 15 0 38 = ρ 4 := m3
  obtain ⟨l0, -⟩ := hl
  have l0 : ρ 1 ≠ ρ 4 := l0
  have wl_0 : ¬ (ρ 1 = ρ 4) := by omega
  show sn16 [ρ 0, ρ 1, ρ 2, ρ 3, ρ 4] (γ 0) 0 0 (γ 0)
  have hD : dn16 [ρ 0] (γ 0) = .inr (0, 0, γ 0) := by
    unfold dn16
    refine (zLet_eq (show _ = ρ 0 from rfl)).trans ?_
    refine (zLet_eq m0).trans ?_
    refine (zLet_eq m3).trans ?_
    refine (if_neg wl_0).trans ?_
    rfl
  exact zGoo_end hD
theorem vn16a0_0 {S : Nat → zSpc}  {a : List Int} {g : rHp} : ∀ (ρ : Nat → Int) (γ : Nat → rHp), jn16 a g 0 (zAg (zNA a16_ 0) ρ) (γ 1) → zO 5 S a g q16a0_0 ρ γ → zGl (fun i vs g1 => jn16 a g i vs g1) (sn16 a g) q16a0_0 ρ γ := by
  intro ρ γ hJ h
  obtain ⟨ha, hg, hr, hf, hm, hc, hl⟩ := h
  have ha : a = [ρ 0, ρ 1, ρ 2, ρ 3, ρ 4] := ha
  subst ha
  subst hg
  have hJ : jn16 [ρ 0, ρ 1, ρ 2, ρ 3, ρ 4] (γ 0) 0 [ρ 0, ρ 1, ρ 2, ρ 3, ρ 4, ρ 5] (γ 1) := hJ
  obtain ⟨f0, -⟩ := hf
  have f0 : (0 : Int) ≤ ρ 5 + -ρ 4 := f0
  have w_0 : ρ 5 ≥ ρ 4 := by omega
  obtain ⟨-, m1, m2, m3, -⟩ := hm
  have m1 : γ 0 82 0 (ρ 0) = ρ 2 := m1
  have m2 : γ 0 15 0 37 = ρ 3 := m2
  have m3 : γ 0 15 0 38 = ρ 4 := m3
  show sn16 [ρ 0, ρ 1, ρ 2, ρ 3, ρ 4] (γ 0) 0 1 (γ 1)
  have hD : en16 (γ 0) (0, [ρ 0, ρ 5], γ 1) = .inr (0, 1, γ 1) := by
    unfold en16
    refine (if_pos (show (0 : Nat) = 0 by decide)).trans ?_
    refine (zLet_eq (show _ = γ 1 from rfl)).trans ?_
    refine (zLet_eq (show _ = ρ 0 from rfl)).trans ?_
    refine (zLet_eq (show _ = ρ 5 from rfl)).trans ?_
    refine (zLet_eq m1).trans ?_
    refine (zLet_eq m2).trans ?_
    refine (zLet_eq m3).trans ?_
    refine (if_pos w_0).trans ?_
    rfl
  exact zGoo_aend hJ hD
theorem vn16a0_1 {S : Nat → zSpc}  {a : List Int} {g : rHp} : ∀ (ρ : Nat → Int) (γ : Nat → rHp), jn16 a g 0 (zAg (zNA a16_ 0) ρ) (γ 1) → zO 5 S a g q16a0_1 ρ γ → zGl (fun i vs g1 => jn16 a g i vs g1) (sn16 a g) q16a0_1 ρ γ := by
  intro ρ γ hJ h
  obtain ⟨ha, hg, hr, hf, hm, hc, hl⟩ := h
  have ha : a = [ρ 0, ρ 1, ρ 2, ρ 3, ρ 4] := ha
  subst ha
  subst hg
  have hJ : jn16 [ρ 0, ρ 1, ρ 2, ρ 3, ρ 4] (γ 0) 0 [ρ 0, ρ 1, ρ 2, ρ 3, ρ 4, ρ 5] (γ 1) := hJ
  obtain ⟨f0, f1, f2, -⟩ := hf
  have f0 : (0 : Int) ≤ ρ 7 + -ρ 6 := f0
  have f1 : (0 : Int) ≤ -ρ 7 + ρ 6 := f1
  have f2 : (0 : Int) ≤ -ρ 5 + ρ 4 + (-1) := f2
  obtain ⟨w_0, w_1⟩ : (¬ (ρ 5 ≥ ρ 4)) ∧ (ρ 6 = ρ 7) := ⟨by omega, by omega⟩
  obtain ⟨-, m1, m2, m3, m4, m5, -⟩ := hm
  have m1 : γ 0 82 0 (ρ 0) = ρ 2 := m1
  have m2 : γ 0 15 0 37 = ρ 3 := m2
  have m3 : γ 0 15 0 38 = ρ 4 := m3
  have m4 : γ 0 59 0 (ρ 5 + ρ 2) = ρ 6 := m4
  have m5 : γ 0 59 0 (ρ 5 + ρ 3) = ρ 7 := m5
  show jn16 [ρ 0, ρ 1, ρ 2, ρ 3, ρ 4] (γ 0) 0 [ρ 0, ρ 1, ρ 2, ρ 3, ρ 4, ρ 5 + 1] (γ 1)
  have hD : en16 (γ 0) (0, [ρ 0, ρ 5], γ 1) = .inl (0, [ρ 0, ρ 5 + 1], γ 1) := by
    unfold en16
    refine (if_pos (show (0 : Nat) = 0 by decide)).trans ?_
    refine (zLet_eq (show _ = γ 1 from rfl)).trans ?_
    refine (zLet_eq (show _ = ρ 0 from rfl)).trans ?_
    refine (zLet_eq (show _ = ρ 5 from rfl)).trans ?_
    refine (zLet_eq m1).trans ?_
    refine (zLet_eq m2).trans ?_
    refine (zLet_eq m3).trans ?_
    refine (if_neg w_0).trans ?_
    refine (zLet_eq m4).trans ?_
    refine (zLet_eq m5).trans ?_
    refine (if_pos w_1).trans ?_
    rfl
  exact zGoo_ato hJ hD
theorem vn16a0_2 {S : Nat → zSpc}  {a : List Int} {g : rHp} : ∀ (ρ : Nat → Int) (γ : Nat → rHp), jn16 a g 0 (zAg (zNA a16_ 0) ρ) (γ 1) → zO 5 S a g q16a0_2 ρ γ → zGl (fun i vs g1 => jn16 a g i vs g1) (sn16 a g) q16a0_2 ρ γ := by
  intro ρ γ hJ h
  obtain ⟨ha, hg, hr, hf, hm, hc, hl⟩ := h
  have ha : a = [ρ 0, ρ 1, ρ 2, ρ 3, ρ 4] := ha
  subst ha
  subst hg
  have hJ : jn16 [ρ 0, ρ 1, ρ 2, ρ 3, ρ 4] (γ 0) 0 [ρ 0, ρ 1, ρ 2, ρ 3, ρ 4, ρ 5] (γ 1) := hJ
  obtain ⟨-, -, -, -, -, -, r6, r7, -⟩ := hr
  have r6 : ((-128) : Int) ≤ ρ 6 ∧ ρ 6 ≤ 127 := r6
  have r7 : ((-128) : Int) ≤ ρ 7 ∧ ρ 7 ≤ 127 := r7
  obtain ⟨f0, -⟩ := hf
  have f0 : (0 : Int) ≤ -ρ 5 + ρ 4 + (-1) := f0
  have w_0 : ¬ (ρ 5 ≥ ρ 4) := by omega
  obtain ⟨-, m1, m2, m3, m4, m5, -⟩ := hm
  have m1 : γ 0 82 0 (ρ 0) = ρ 2 := m1
  have m2 : γ 0 15 0 37 = ρ 3 := m2
  have m3 : γ 0 15 0 38 = ρ 4 := m3
  have m4 : γ 0 59 0 (ρ 5 + ρ 2) = ρ 6 := m4
  have m5 : γ 0 59 0 (ρ 5 + ρ 3) = ρ 7 := m5
  obtain ⟨l0, -⟩ := hl
  have l0 : ρ 6 ≠ ρ 7 := l0
  have wl_0 : ¬ (ρ 6 = ρ 7) := by omega
  show sn16 [ρ 0, ρ 1, ρ 2, ρ 3, ρ 4] (γ 0) 0 0 (γ 1)
  have hD : en16 (γ 0) (0, [ρ 0, ρ 5], γ 1) = .inr (0, 0, γ 1) := by
    unfold en16
    refine (if_pos (show (0 : Nat) = 0 by decide)).trans ?_
    refine (zLet_eq (show _ = γ 1 from rfl)).trans ?_
    refine (zLet_eq (show _ = ρ 0 from rfl)).trans ?_
    refine (zLet_eq (show _ = ρ 5 from rfl)).trans ?_
    refine (zLet_eq m1).trans ?_
    refine (zLet_eq m2).trans ?_
    refine (zLet_eq m3).trans ?_
    refine (if_neg w_0).trans ?_
    refine (zLet_eq m4).trans ?_
    refine (zLet_eq m5).trans ?_
    refine (if_neg wl_0).trans ?_
    rfl
  exact zGoo_aend hJ hD
theorem yn16 {S : Nat → zSpc}  : ∀ x g o v gz, zSem uW uT w16_.2.2.2.1 w16_.2.2.1.1.length S q16 (fun i => q16a.getD i []) (zNA a16_) x g o v gz → sn16 x g o v gz := by
  intro a g o v gz h
  exact zSem_all (l0 := q16) (las := q16a) (S := S) (J := (fun i vs g1 => jn16 a g i vs g1)) (P := sn16 a g) (fun _ => (show zAll _ [q16_0, q16_1] from (zAll_c (vn16_0 ) (zAll_c (vn16_1 ) zAll_n)))) (fun _ => (show zAllI _ 0 [q16a0] from ⟨(show zAll _ [q16a0_0, q16a0_1, q16a0_2] from (zAll_c (vn16a0_0 ) (zAll_c (vn16a0_1 ) (zAll_c (vn16a0_2 ) zAll_n)))), trivial⟩)) h
theorem vn17_0 {S : Nat → zSpc} (hS8 : ∀ x g o v gz, S 8 x g o v gz → sn8 x g o v gz) (hS12 : ∀ x g o v gz, S 12 x g o v gz → sn12 x g o v gz) (hS16 : ∀ x g o v gz, S 16 x g o v gz → sn16 x g o v gz) {a : List Int} {g : rHp} : ∀ (ρ : Nat → Int) (γ : Nat → rHp), zO 9 S a g q17_0 ρ γ → zGl (fun i vs g1 => jn17 a g i vs g1) (sn17 a g) q17_0 ρ γ := by
  intro ρ γ h
  obtain ⟨ha, hg, hr, hf, hm, hc, hl⟩ := h
  have ha : a = [ρ 0, ρ 1, ρ 2, ρ 3, ρ 4, ρ 5, ρ 6, ρ 7, ρ 8] := ha
  subst ha
  subst hg
  obtain ⟨l0, -⟩ := hl
  have l0 : sn12 [ρ 0, ρ 1, ρ 5, ρ 4, ρ 6] (γ 0) 0 0 (γ 1) := hS12 _ _ _ _ _ l0
  show sn17 [ρ 0, ρ 1, ρ 2, ρ 3, ρ 4, ρ 5, ρ 6, ρ 7, ρ 8] (γ 0) 0 0 (γ 1)
  have hD : dn17 [] (γ 0) = .inr (0, 0, γ 1) := by
    unfold dn17
    refine (zLet_eq (show fn12 [] (γ 0) = (0, 0, γ 1) from l0.symm)).trans ?_
    refine (zLet_eq (show _ = γ 1 from rfl)).trans ?_
    refine (if_neg zQ0_).trans ?_
    rfl
  exact zGoo_end hD
theorem vn17_1 {S : Nat → zSpc} (hS8 : ∀ x g o v gz, S 8 x g o v gz → sn8 x g o v gz) (hS12 : ∀ x g o v gz, S 12 x g o v gz → sn12 x g o v gz) (hS16 : ∀ x g o v gz, S 16 x g o v gz → sn16 x g o v gz) {a : List Int} {g : rHp} : ∀ (ρ : Nat → Int) (γ : Nat → rHp), zO 9 S a g q17_1 ρ γ → zGl (fun i vs g1 => jn17 a g i vs g1) (sn17 a g) q17_1 ρ γ := by
  intro ρ γ h
  obtain ⟨ha, hg, hr, hf, hm, hc, hl⟩ := h
  have ha : a = [ρ 0, ρ 1, ρ 2, ρ 3, ρ 4, ρ 5, ρ 6, ρ 7, ρ 8] := ha
  subst ha
  subst hg
  obtain ⟨l0, -⟩ := hl
  have l0 : sn12 [ρ 0, ρ 1, ρ 5, ρ 4, ρ 6] (γ 0) 0 1 (γ 1) := hS12 _ _ _ _ _ l0
  show jn17 [ρ 0, ρ 1, ρ 2, ρ 3, ρ 4, ρ 5, ρ 6, ρ 7, ρ 8] (γ 0) 0 [ρ 0, ρ 1, ρ 2, ρ 3, ρ 4, ρ 5, ρ 6, ρ 7, ρ 8, 0, ρ 9, ρ 10] (γ 1)
  have hD : dn17 [] (γ 0) = .inl (0, [0], γ 1) := by
    unfold dn17
    refine (zLet_eq (show fn12 [] (γ 0) = (0, 1, γ 1) from l0.symm)).trans ?_
    refine (zLet_eq (show _ = γ 1 from rfl)).trans ?_
    refine (if_pos zQ1_).trans ?_
    rfl
  exact zGoo_to hD
theorem vn17a0_0 {S : Nat → zSpc} (hS8 : ∀ x g o v gz, S 8 x g o v gz → sn8 x g o v gz) (hS12 : ∀ x g o v gz, S 12 x g o v gz → sn12 x g o v gz) (hS16 : ∀ x g o v gz, S 16 x g o v gz → sn16 x g o v gz) {a : List Int} {g : rHp} : ∀ (ρ : Nat → Int) (γ : Nat → rHp), jn17 a g 0 (zAg (zNA a17_ 0) ρ) (γ 1) → zO 9 S a g q17a0_0 ρ γ → zGl (fun i vs g1 => jn17 a g i vs g1) (sn17 a g) q17a0_0 ρ γ := by
  intro ρ γ hJ h
  obtain ⟨ha, hg, hr, hf, hm, hc, hl⟩ := h
  have ha : a = [ρ 0, ρ 1, ρ 2, ρ 3, ρ 4, ρ 5, ρ 6, ρ 7, ρ 8] := ha
  subst ha
  subst hg
  have hJ : jn17 [ρ 0, ρ 1, ρ 2, ρ 3, ρ 4, ρ 5, ρ 6, ρ 7, ρ 8] (γ 0) 0 [ρ 0, ρ 1, ρ 2, ρ 3, ρ 4, ρ 5, ρ 6, ρ 7, ρ 8, ρ 9, ρ 10, ρ 11] (γ 1) := hJ
  obtain ⟨-, -, -, -, -, -, -, -, -, r9, -⟩ := hr
  have r9 : (0 : Int) ≤ ρ 9 ∧ ρ 9 ≤ 7 := r9
  obtain ⟨-, f1, -⟩ := hf
  have f1 : (0 : Int) ≤ ρ 9 + -ρ 8 := f1
  obtain ⟨w_0, w_1⟩ : (ρ 9 ≥ ρ 8) ∧ (ρ 9 ≠ 8) := ⟨by omega, by omega⟩
  obtain ⟨m0, -, -, -, -, -, -, m7, m8, -, -, -, m12, -⟩ := hm
  have m0 : γ 0 15 0 35 = ρ 0 := m0
  have m7 : γ 0 15 0 44 = ρ 7 := m7
  have m8 : γ 0 74 0 (ρ 7) = ρ 8 := m8
  have m12 : γ 1 15 0 38 = ρ 11 := m12
  obtain ⟨⟨⟨⟨⟨⟨⟨-, c2⟩, c3⟩, c4⟩, c5⟩, c6⟩, c7⟩, c8⟩ := hc
  have c2 : γ 2 = rUp (γ 1) 82 0 (ρ 9) (ρ 0) := c2
  have c3 : γ 3 = rUp (γ 2) 83 0 (ρ 9) (ρ 11) := c3
  have c4 : γ 4 = rUp (γ 3) 84 0 (ρ 9) 0 := c4
  have c5 : γ 5 = rUp (γ 4) 74 0 (ρ 7) (ρ 8 + 1) := c5
  have c6 : γ 6 = rUp (γ 5) 84 0 (ρ 9) 1 := c6
  have c7 : γ 7 = rUp (γ 6) 15 0 39 (ρ 9) := c7
  have c8 : γ 8 = rUp (γ 7) 15 0 40 1 := c8
  show sn17 [ρ 0, ρ 1, ρ 2, ρ 3, ρ 4, ρ 5, ρ 6, ρ 7, ρ 8] (γ 0) 0 1 (γ 8)
  have hD : en17 (γ 0) (0, [ρ 9], γ 1) = .inr (0, 1, γ 8) := by
    unfold en17
    refine (if_pos (show (0 : Nat) = 0 by decide)).trans ?_
    refine (zLet_eq (show _ = γ 1 from rfl)).trans ?_
    refine (zLet_eq (show _ = ρ 9 from rfl)).trans ?_
    refine (zLet_eq m0).trans ?_
    refine (zLet_eq m7).trans ?_
    refine (zLet_eq m8).trans ?_
    refine (zLet_eq m12).trans ?_
    refine (if_pos w_0).trans ?_
    refine (if_pos w_1).trans ?_
    refine (zLet_eq c2.symm).trans ?_
    refine (zLet_eq c3.symm).trans ?_
    refine (zLet_eq c4.symm).trans ?_
    refine (zLet_eq c5.symm).trans ?_
    refine (zLet_eq c6.symm).trans ?_
    refine (zLet_eq c7.symm).trans ?_
    refine (zLet_eq c8.symm).trans ?_
    rfl
  exact zGoo_aend hJ hD
theorem vn17a0_1 {S : Nat → zSpc} (hS8 : ∀ x g o v gz, S 8 x g o v gz → sn8 x g o v gz) (hS12 : ∀ x g o v gz, S 12 x g o v gz → sn12 x g o v gz) (hS16 : ∀ x g o v gz, S 16 x g o v gz → sn16 x g o v gz) {a : List Int} {g : rHp} : ∀ (ρ : Nat → Int) (γ : Nat → rHp), jn17 a g 0 (zAg (zNA a17_ 0) ρ) (γ 1) → zO 9 S a g q17a0_1 ρ γ → zGl (fun i vs g1 => jn17 a g i vs g1) (sn17 a g) q17a0_1 ρ γ := by
  intro ρ γ hJ h
  obtain ⟨ha, hg, hr, hf, hm, hc, hl⟩ := h
  have ha : a = [ρ 0, ρ 1, ρ 2, ρ 3, ρ 4, ρ 5, ρ 6, ρ 7, ρ 8] := ha
  subst ha
  subst hg
  have hJ : jn17 [ρ 0, ρ 1, ρ 2, ρ 3, ρ 4, ρ 5, ρ 6, ρ 7, ρ 8] (γ 0) 0 [ρ 0, ρ 1, ρ 2, ρ 3, ρ 4, ρ 5, ρ 6, ρ 7, ρ 8, ρ 9, ρ 10, ρ 11] (γ 1) := hJ
  obtain ⟨-, -, -, -, -, -, -, -, r8, r9, -⟩ := hr
  have r8 : (0 : Int) ≤ ρ 8 ∧ ρ 8 ≤ 8 := r8
  have r9 : (8 : Int) ≤ ρ 9 ∧ ρ 9 ≤ 8 := r9
  obtain ⟨w_0, w_1⟩ : (ρ 9 ≥ ρ 8) ∧ (¬ (ρ 9 ≠ 8)) := ⟨by omega, by omega⟩
  obtain ⟨m0, -, -, -, -, -, -, m7, m8, -, -, -, m12, -⟩ := hm
  have m0 : γ 0 15 0 35 = ρ 0 := m0
  have m7 : γ 0 15 0 44 = ρ 7 := m7
  have m8 : γ 0 74 0 (ρ 7) = ρ 8 := m8
  have m12 : γ 1 15 0 38 = ρ 11 := m12
  obtain ⟨l0, -⟩ := hl
  have l0 : sn8 [ρ 0, ρ 1, ρ 4] (γ 1) 0 0 (γ 2) := hS8 _ _ _ _ _ l0
  show sn17 [ρ 0, ρ 1, ρ 2, ρ 3, ρ 4, ρ 5, ρ 6, ρ 7, ρ 8] (γ 0) 0 0 (γ 2)
  have hD : en17 (γ 0) (0, [ρ 9], γ 1) = .inr (0, 0, γ 2) := by
    unfold en17
    refine (if_pos (show (0 : Nat) = 0 by decide)).trans ?_
    refine (zLet_eq (show _ = γ 1 from rfl)).trans ?_
    refine (zLet_eq (show _ = ρ 9 from rfl)).trans ?_
    refine (zLet_eq m0).trans ?_
    refine (zLet_eq m7).trans ?_
    refine (zLet_eq m8).trans ?_
    refine (zLet_eq m12).trans ?_
    refine (if_pos w_0).trans ?_
    refine (if_neg w_1).trans ?_
    refine (zLet_eq (show fn8 [ρ 0] (γ 1) = (0, 0, γ 2) from l0.symm)).trans ?_
    refine (zLet_eq (show _ = γ 2 from rfl)).trans ?_
    rfl
  exact zGoo_aend hJ hD
theorem vn17a0_2 {S : Nat → zSpc} (hS8 : ∀ x g o v gz, S 8 x g o v gz → sn8 x g o v gz) (hS12 : ∀ x g o v gz, S 12 x g o v gz → sn12 x g o v gz) (hS16 : ∀ x g o v gz, S 16 x g o v gz → sn16 x g o v gz) {a : List Int} {g : rHp} : ∀ (ρ : Nat → Int) (γ : Nat → rHp), jn17 a g 0 (zAg (zNA a17_ 0) ρ) (γ 1) → zO 9 S a g q17a0_2 ρ γ → zGl (fun i vs g1 => jn17 a g i vs g1) (sn17 a g) q17a0_2 ρ γ := by
  intro ρ γ hJ h
  obtain ⟨ha, hg, hr, hf, hm, hc, hl⟩ := h
  have ha : a = [ρ 0, ρ 1, ρ 2, ρ 3, ρ 4, ρ 5, ρ 6, ρ 7, ρ 8] := ha
  subst ha
  subst hg
  have hJ : jn17 [ρ 0, ρ 1, ρ 2, ρ 3, ρ 4, ρ 5, ρ 6, ρ 7, ρ 8] (γ 0) 0 [ρ 0, ρ 1, ρ 2, ρ 3, ρ 4, ρ 5, ρ 6, ρ 7, ρ 8, ρ 9, ρ 10, ρ 11] (γ 1) := hJ
  obtain ⟨f0, -⟩ := hf
  have f0 : (0 : Int) ≤ -ρ 9 + ρ 8 + (-1) := f0
  have w_0 : ¬ (ρ 9 ≥ ρ 8) := by omega
  obtain ⟨m0, -, -, -, -, -, -, m7, m8, -, -, -, m12, -⟩ := hm
  have m0 : γ 0 15 0 35 = ρ 0 := m0
  have m7 : γ 0 15 0 44 = ρ 7 := m7
  have m8 : γ 0 74 0 (ρ 7) = ρ 8 := m8
  have m12 : γ 1 15 0 38 = ρ 11 := m12
  obtain ⟨l0, -⟩ := hl
  have l0 : sn16 [ρ 9, ρ 12, ρ 13, ρ 0, ρ 11] (γ 1) 0 0 (γ 2) := hS16 _ _ _ _ _ l0
  show jn17 [ρ 0, ρ 1, ρ 2, ρ 3, ρ 4, ρ 5, ρ 6, ρ 7, ρ 8] (γ 0) 0 [ρ 0, ρ 1, ρ 2, ρ 3, ρ 4, ρ 5, ρ 6, ρ 7, ρ 8, ρ 9 + 1, ρ 10, ρ 11] (γ 2)
  have hD : en17 (γ 0) (0, [ρ 9], γ 1) = .inl (0, [ρ 9 + 1], γ 2) := by
    unfold en17
    refine (if_pos (show (0 : Nat) = 0 by decide)).trans ?_
    refine (zLet_eq (show _ = γ 1 from rfl)).trans ?_
    refine (zLet_eq (show _ = ρ 9 from rfl)).trans ?_
    refine (zLet_eq m0).trans ?_
    refine (zLet_eq m7).trans ?_
    refine (zLet_eq m8).trans ?_
    refine (zLet_eq m12).trans ?_
    refine (if_neg w_0).trans ?_
    refine (zLet_eq (show fn16 [ρ 9] (γ 1) = (0, 0, γ 2) from l0.symm)).trans ?_
    refine (zLet_eq (show _ = γ 2 from rfl)).trans ?_
    refine (if_neg zQ0_).trans ?_
    rfl
  exact zGoo_ato hJ hD
theorem vn17a0_3 {S : Nat → zSpc} (hS8 : ∀ x g o v gz, S 8 x g o v gz → sn8 x g o v gz) (hS12 : ∀ x g o v gz, S 12 x g o v gz → sn12 x g o v gz) (hS16 : ∀ x g o v gz, S 16 x g o v gz → sn16 x g o v gz) {a : List Int} {g : rHp} : ∀ (ρ : Nat → Int) (γ : Nat → rHp), jn17 a g 0 (zAg (zNA a17_ 0) ρ) (γ 1) → zO 9 S a g q17a0_3 ρ γ → zGl (fun i vs g1 => jn17 a g i vs g1) (sn17 a g) q17a0_3 ρ γ := by
  intro ρ γ hJ h
  obtain ⟨ha, hg, hr, hf, hm, hc, hl⟩ := h
  have ha : a = [ρ 0, ρ 1, ρ 2, ρ 3, ρ 4, ρ 5, ρ 6, ρ 7, ρ 8] := ha
  subst ha
  subst hg
  have hJ : jn17 [ρ 0, ρ 1, ρ 2, ρ 3, ρ 4, ρ 5, ρ 6, ρ 7, ρ 8] (γ 0) 0 [ρ 0, ρ 1, ρ 2, ρ 3, ρ 4, ρ 5, ρ 6, ρ 7, ρ 8, ρ 9, ρ 10, ρ 11] (γ 1) := hJ
  obtain ⟨-, -, -, -, -, -, -, -, -, r9, -⟩ := hr
  have r9 : (0 : Int) ≤ ρ 9 ∧ ρ 9 ≤ 7 := r9
  obtain ⟨f0, -⟩ := hf
  have f0 : (0 : Int) ≤ -ρ 9 + ρ 8 + (-1) := f0
  obtain ⟨w_0, w_1⟩ : (¬ (ρ 9 ≥ ρ 8)) ∧ (ρ 9 ≠ 8) := ⟨by omega, by omega⟩
  obtain ⟨m0, -, -, -, -, -, -, m7, m8, -, -, -, m12, -, -, m15, -⟩ := hm
  have m0 : γ 0 15 0 35 = ρ 0 := m0
  have m7 : γ 0 15 0 44 = ρ 7 := m7
  have m8 : γ 0 74 0 (ρ 7) = ρ 8 := m8
  have m12 : γ 1 15 0 38 = ρ 11 := m12
  have m15 : γ 0 84 0 (ρ 9) = ρ 14 := m15
  obtain ⟨⟨⟨-, c3⟩, c4⟩, c5⟩ := hc
  have c3 : γ 3 = rUp (γ 2) 84 0 (ρ 9) (ρ 15) := c3
  have c4 : γ 4 = rUp (γ 3) 15 0 39 (ρ 9) := c4
  have c5 : γ 5 = rUp (γ 4) 15 0 40 1 := c5
  obtain ⟨l0, l1, -⟩ := hl
  have l0 : sn16 [ρ 9, ρ 12, ρ 13, ρ 0, ρ 11] (γ 1) 0 1 (γ 2) := hS16 _ _ _ _ _ l0
  have l1 : zOpP (.iadd) (γ 0) (γ 1) [ρ 14, 1] (ρ 15) := l1
  show sn17 [ρ 0, ρ 1, ρ 2, ρ 3, ρ 4, ρ 5, ρ 6, ρ 7, ρ 8] (γ 0) 0 1 (γ 5)
  have hD : en17 (γ 0) (0, [ρ 9], γ 1) = .inr (0, 1, γ 5) := by
    unfold en17
    refine (if_pos (show (0 : Nat) = 0 by decide)).trans ?_
    refine (zLet_eq (show _ = γ 1 from rfl)).trans ?_
    refine (zLet_eq (show _ = ρ 9 from rfl)).trans ?_
    refine (zLet_eq m0).trans ?_
    refine (zLet_eq m7).trans ?_
    refine (zLet_eq m8).trans ?_
    refine (zLet_eq m12).trans ?_
    refine (if_neg w_0).trans ?_
    refine (zLet_eq (show fn16 [ρ 9] (γ 1) = (0, 1, γ 2) from l0.symm)).trans ?_
    refine (zLet_eq (show _ = γ 2 from rfl)).trans ?_
    refine (if_pos zQ1_).trans ?_
    refine (if_pos w_1).trans ?_
    refine (zLet_eq m15).trans ?_
    refine (zLet_eq (zF2_ok l1)).trans ?_
    refine (zLet_eq c3.symm).trans ?_
    refine (zLet_eq c4.symm).trans ?_
    refine (zLet_eq c5.symm).trans ?_
    rfl
  exact zGoo_aend hJ hD
theorem vn17a0_4 {S : Nat → zSpc} (hS8 : ∀ x g o v gz, S 8 x g o v gz → sn8 x g o v gz) (hS12 : ∀ x g o v gz, S 12 x g o v gz → sn12 x g o v gz) (hS16 : ∀ x g o v gz, S 16 x g o v gz → sn16 x g o v gz) {a : List Int} {g : rHp} : ∀ (ρ : Nat → Int) (γ : Nat → rHp), jn17 a g 0 (zAg (zNA a17_ 0) ρ) (γ 1) → zO 9 S a g q17a0_4 ρ γ → zGl (fun i vs g1 => jn17 a g i vs g1) (sn17 a g) q17a0_4 ρ γ := by
  intro ρ γ hJ h
  obtain ⟨ha, hg, hr, hf, hm, hc, hl⟩ := h
  have ha : a = [ρ 0, ρ 1, ρ 2, ρ 3, ρ 4, ρ 5, ρ 6, ρ 7, ρ 8] := ha
  subst ha
  subst hg
  have hJ : jn17 [ρ 0, ρ 1, ρ 2, ρ 3, ρ 4, ρ 5, ρ 6, ρ 7, ρ 8] (γ 0) 0 [ρ 0, ρ 1, ρ 2, ρ 3, ρ 4, ρ 5, ρ 6, ρ 7, ρ 8, ρ 9, ρ 10, ρ 11] (γ 1) := hJ
  obtain ⟨-, -, -, -, -, -, -, -, -, r9, -⟩ := hr
  have r9 : (8 : Int) ≤ ρ 9 ∧ ρ 9 ≤ 8 := r9
  obtain ⟨-, -, -, -, f4, -⟩ := hf
  have f4 : (0 : Int) ≤ -ρ 9 + ρ 8 + (-1) := f4
  obtain ⟨w_0, w_1⟩ : (¬ (ρ 9 ≥ ρ 8)) ∧ (¬ (ρ 9 ≠ 8)) := ⟨by omega, by omega⟩
  obtain ⟨m0, -, -, -, -, -, -, m7, m8, -, -, -, m12, -⟩ := hm
  have m0 : γ 0 15 0 35 = ρ 0 := m0
  have m7 : γ 0 15 0 44 = ρ 7 := m7
  have m8 : γ 0 74 0 (ρ 7) = ρ 8 := m8
  have m12 : γ 1 15 0 38 = ρ 11 := m12
  obtain ⟨l0, l1, -⟩ := hl
  have l0 : sn16 [ρ 9, ρ 12, ρ 13, ρ 0, ρ 11] (γ 1) 0 1 (γ 2) := hS16 _ _ _ _ _ l0
  have l1 : sn8 [ρ 0, ρ 1, ρ 4] (γ 2) 0 0 (γ 3) := hS8 _ _ _ _ _ l1
  show sn17 [ρ 0, ρ 1, ρ 2, ρ 3, ρ 4, ρ 5, ρ 6, ρ 7, ρ 8] (γ 0) 0 0 (γ 3)
  have hD : en17 (γ 0) (0, [ρ 9], γ 1) = .inr (0, 0, γ 3) := by
    unfold en17
    refine (if_pos (show (0 : Nat) = 0 by decide)).trans ?_
    refine (zLet_eq (show _ = γ 1 from rfl)).trans ?_
    refine (zLet_eq (show _ = ρ 9 from rfl)).trans ?_
    refine (zLet_eq m0).trans ?_
    refine (zLet_eq m7).trans ?_
    refine (zLet_eq m8).trans ?_
    refine (zLet_eq m12).trans ?_
    refine (if_neg w_0).trans ?_
    refine (zLet_eq (show fn16 [ρ 9] (γ 1) = (0, 1, γ 2) from l0.symm)).trans ?_
    refine (zLet_eq (show _ = γ 2 from rfl)).trans ?_
    refine (if_pos zQ1_).trans ?_
    refine (if_neg w_1).trans ?_
    refine (zLet_eq (show fn8 [ρ 0] (γ 2) = (0, 0, γ 3) from l1.symm)).trans ?_
    refine (zLet_eq (show _ = γ 3 from rfl)).trans ?_
    rfl
  exact zGoo_aend hJ hD
theorem yn17 {S : Nat → zSpc} (hS8 : ∀ x g o v gz, S 8 x g o v gz → sn8 x g o v gz) (hS12 : ∀ x g o v gz, S 12 x g o v gz → sn12 x g o v gz) (hS16 : ∀ x g o v gz, S 16 x g o v gz → sn16 x g o v gz) : ∀ x g o v gz, zSem uW uT w17_.2.2.2.1 w17_.2.2.1.1.length S q17 (fun i => q17a.getD i []) (zNA a17_) x g o v gz → sn17 x g o v gz := by
  intro a g o v gz h
  exact zSem_all (l0 := q17) (las := q17a) (S := S) (J := (fun i vs g1 => jn17 a g i vs g1)) (P := sn17 a g) (fun _ => (show zAll _ [q17_0, q17_1] from (zAll_c (vn17_0 hS8 hS12 hS16) (zAll_c (vn17_1 hS8 hS12 hS16) zAll_n)))) (fun _ => (show zAllI _ 0 [q17a0] from ⟨(show zAll _ [q17a0_0, q17a0_1, q17a0_2, q17a0_3, q17a0_4] from (zAll_c (vn17a0_0 hS8 hS12 hS16) (zAll_c (vn17a0_1 hS8 hS12 hS16) (zAll_c (vn17a0_2 hS8 hS12 hS16) (zAll_c (vn17a0_3 hS8 hS12 hS16) (zAll_c (vn17a0_4 hS8 hS12 hS16) zAll_n)))))), trivial⟩)) h
theorem vn18_0 {S : Nat → zSpc}  {a : List Int} {g : rHp} : ∀ (ρ : Nat → Int) (γ : Nat → rHp), zO 2 S a g q18_0 ρ γ → zGl (fun _ _ _ => True) (sn18 a g) q18_0 ρ γ := by
  intro ρ γ h
  obtain ⟨ha, hg, hr, hf, hm, hc, hl⟩ := h
  have ha : a = [ρ 0, ρ 1] := ha
  subst ha
  subst hg
  obtain ⟨-, -, -, r3, -⟩ := hr
  have r3 : (0 : Int) ≤ ρ 3 ∧ ρ 3 ≤ 0 := r3
  have w_0 : ρ 3 ≠ 1 := by omega
  obtain ⟨m0, -⟩ := hm
  have m0 : γ 0 15 0 45 = ρ 1 := m0
  obtain ⟨l0, l1, -⟩ := hl
  have l0 : zOpP (.ishr) (γ 0) (γ 1) [ρ 1, ρ 0] (ρ 2) := l0
  have l1 : zOpP (.iand) (γ 0) (γ 1) [ρ 2, 1] (ρ 3) := l1
  show sn18 [ρ 0, ρ 1] (γ 0) 0 0 (γ 0)
  refine Eq.symm ?_
  show fn18 [ρ 0] (γ 0) = _
  unfold fn18
  refine (zLet_eq (show _ = ρ 0 from rfl)).trans ?_
  refine (zLet_eq m0).trans ?_
  refine (zLet_eq (zF2_ok l0)).trans ?_
  refine (zLet_eq (zF2_ok l1)).trans ?_
  refine (if_pos w_0).trans ?_
  rfl
theorem vn18_1 {S : Nat → zSpc}  {a : List Int} {g : rHp} : ∀ (ρ : Nat → Int) (γ : Nat → rHp), zO 2 S a g q18_1 ρ γ → zGl (fun _ _ _ => True) (sn18 a g) q18_1 ρ γ := by
  intro ρ γ h
  obtain ⟨ha, hg, hr, hf, hm, hc, hl⟩ := h
  have ha : a = [ρ 0, ρ 1] := ha
  subst ha
  subst hg
  obtain ⟨-, -, -, r3, -⟩ := hr
  have r3 : (1 : Int) ≤ ρ 3 ∧ ρ 3 ≤ 1 := r3
  have w_0 : ¬ (ρ 3 ≠ 1) := by omega
  obtain ⟨m0, -⟩ := hm
  have m0 : γ 0 15 0 45 = ρ 1 := m0
  obtain ⟨l0, l1, -⟩ := hl
  have l0 : zOpP (.ishr) (γ 0) (γ 1) [ρ 1, ρ 0] (ρ 2) := l0
  have l1 : zOpP (.iand) (γ 0) (γ 1) [ρ 2, 1] (ρ 3) := l1
  show sn18 [ρ 0, ρ 1] (γ 0) 0 1 (γ 0)
  refine Eq.symm ?_
  show fn18 [ρ 0] (γ 0) = _
  unfold fn18
  refine (zLet_eq (show _ = ρ 0 from rfl)).trans ?_
  refine (zLet_eq m0).trans ?_
  refine (zLet_eq (zF2_ok l0)).trans ?_
  refine (zLet_eq (zF2_ok l1)).trans ?_
  refine (if_neg w_0).trans ?_
  rfl
theorem yn18 {S : Nat → zSpc}  : ∀ x g o v gz, zSem uW uT w18_.2.2.2.1 w18_.2.2.1.1.length S q18 (fun i => q18a.getD i []) (zNA a18_) x g o v gz → sn18 x g o v gz := by
  intro a g o v gz h
  exact zSem_all (l0 := q18) (las := q18a) (S := S) (J := (fun _ _ _ => True)) (P := sn18 a g) (fun _ => (show zAll _ [q18_0, q18_1] from (zAll_c (vn18_0 ) (zAll_c (vn18_1 ) zAll_n)))) (fun _ => (show zAllI _ 0 [] from trivial)) h
theorem vn19_0 {S : Nat → zSpc}  {a : List Int} {g : rHp} : ∀ (ρ : Nat → Int) (γ : Nat → rHp), zO 2 S a g q19_0 ρ γ → zGl (fun _ _ _ => True) (sn19 a g) q19_0 ρ γ := by
  intro ρ γ h
  obtain ⟨ha, hg, hr, hf, hm, hc, hl⟩ := h
  have ha : a = [ρ 0, ρ 1] := ha
  subst ha
  subst hg
  obtain ⟨-, -, -, -, r4, -⟩ := hr
  have r4 : (0 : Int) ≤ ρ 4 ∧ ρ 4 ≤ 0 := r4
  have w_0 : ρ 4 ≠ 1 := by omega
  obtain ⟨m0, -⟩ := hm
  have m0 : γ 0 15 0 45 = ρ 1 := m0
  obtain ⟨l0, l1, l2, -⟩ := hl
  have l0 : zOpP (.l2i) (γ 0) (γ 1) [ρ 0] (ρ 2) := l0
  have l1 : zOpP (.ishr) (γ 0) (γ 1) [ρ 1, ρ 2] (ρ 3) := l1
  have l2 : zOpP (.iand) (γ 0) (γ 1) [ρ 3, 1] (ρ 4) := l2
  show sn19 [ρ 0, ρ 1] (γ 0) 0 0 (γ 0)
  refine Eq.symm ?_
  show fn19 [ρ 0] (γ 0) = _
  unfold fn19
  refine (zLet_eq (show _ = ρ 0 from rfl)).trans ?_
  refine (zLet_eq m0).trans ?_
  refine (zLet_eq (zF1_ok l0)).trans ?_
  refine (zLet_eq (zF2_ok l1)).trans ?_
  refine (zLet_eq (zF2_ok l2)).trans ?_
  refine (if_pos w_0).trans ?_
  rfl
theorem vn19_1 {S : Nat → zSpc}  {a : List Int} {g : rHp} : ∀ (ρ : Nat → Int) (γ : Nat → rHp), zO 2 S a g q19_1 ρ γ → zGl (fun _ _ _ => True) (sn19 a g) q19_1 ρ γ := by
  intro ρ γ h
  obtain ⟨ha, hg, hr, hf, hm, hc, hl⟩ := h
  have ha : a = [ρ 0, ρ 1] := ha
  subst ha
  subst hg
  obtain ⟨-, -, -, -, r4, -⟩ := hr
  have r4 : (1 : Int) ≤ ρ 4 ∧ ρ 4 ≤ 1 := r4
  have w_0 : ¬ (ρ 4 ≠ 1) := by omega
  obtain ⟨m0, -⟩ := hm
  have m0 : γ 0 15 0 45 = ρ 1 := m0
  obtain ⟨l0, l1, l2, -⟩ := hl
  have l0 : zOpP (.l2i) (γ 0) (γ 1) [ρ 0] (ρ 2) := l0
  have l1 : zOpP (.ishr) (γ 0) (γ 1) [ρ 1, ρ 2] (ρ 3) := l1
  have l2 : zOpP (.iand) (γ 0) (γ 1) [ρ 3, 1] (ρ 4) := l2
  show sn19 [ρ 0, ρ 1] (γ 0) 0 1 (γ 0)
  refine Eq.symm ?_
  show fn19 [ρ 0] (γ 0) = _
  unfold fn19
  refine (zLet_eq (show _ = ρ 0 from rfl)).trans ?_
  refine (zLet_eq m0).trans ?_
  refine (zLet_eq (zF1_ok l0)).trans ?_
  refine (zLet_eq (zF2_ok l1)).trans ?_
  refine (zLet_eq (zF2_ok l2)).trans ?_
  refine (if_neg w_0).trans ?_
  rfl
theorem yn19 {S : Nat → zSpc}  : ∀ x g o v gz, zSem uW uT w19_.2.2.2.1 w19_.2.2.1.1.length S q19 (fun i => q19a.getD i []) (zNA a19_) x g o v gz → sn19 x g o v gz := by
  intro a g o v gz h
  exact zSem_all (l0 := q19) (las := q19a) (S := S) (J := (fun _ _ _ => True)) (P := sn19 a g) (fun _ => (show zAll _ [q19_0, q19_1] from (zAll_c (vn19_0 ) (zAll_c (vn19_1 ) zAll_n)))) (fun _ => (show zAllI _ 0 [] from trivial)) h
theorem vn20_0 {S : Nat → zSpc} (hS6 : ∀ x g o v gz, S 6 x g o v gz → sn6 x g o v gz) (hS7 : ∀ x g o v gz, S 7 x g o v gz → sn7 x g o v gz) (hS8 : ∀ x g o v gz, S 8 x g o v gz → sn8 x g o v gz) (hS9 : ∀ x g o v gz, S 9 x g o v gz → sn9 x g o v gz) (hS10 : ∀ x g o v gz, S 10 x g o v gz → sn10 x g o v gz) (hS11 : ∀ x g o v gz, S 11 x g o v gz → sn11 x g o v gz) (hS12 : ∀ x g o v gz, S 12 x g o v gz → sn12 x g o v gz) (hS14 : ∀ x g o v gz, S 14 x g o v gz → sn14 x g o v gz) (hS15 : ∀ x g o v gz, S 15 x g o v gz → sn15 x g o v gz) (hS17 : ∀ x g o v gz, S 17 x g o v gz → sn17 x g o v gz) {a : List Int} {g : rHp} : ∀ (ρ : Nat → Int) (γ : Nat → rHp), zO 11 S a g q20_0 ρ γ → zGl (fun _ _ _ => True) (sn20 a g) q20_0 ρ γ := by
  intro ρ γ h
  obtain ⟨ha, hg, hr, hf, hm, hc, hl⟩ := h
  have ha : a = [ρ 0, ρ 1, ρ 2, ρ 3, ρ 4, ρ 5, ρ 6, ρ 7, ρ 8, ρ 9, ρ 10] := ha
  subst ha
  subst hg
  obtain ⟨r0, -, -, -, -, -, -, -, -, -, -, -, r12, -⟩ := hr
  have r0 : (0 : Int) ≤ ρ 0 ∧ ρ 0 ≤ 0 := r0
  have r12 : (45 : Int) ≤ ρ 12 ∧ ρ 12 ≤ 45 := r12
  obtain ⟨f0, -⟩ := hf
  have f0 : (0 : Int) ≤ -ρ 11 + ρ 2 + (-1) := f0
  obtain ⟨w_0, w_1, w_2⟩ : (0 ≤ -ρ 11 + ρ 2 + (-1)) ∧ (ρ 0 = 0) ∧ (ρ 12 = 45) := ⟨by omega, by omega, by omega⟩
  obtain ⟨-, m1, -, -, -, -, -, -, -, -, m10, -⟩ := hm
  have m1 : γ 0 15 0 34 = ρ 2 := m1
  have m10 : γ 1 15 0 35 = ρ 11 := m10
  obtain ⟨l0, l1, l2, l3, l4, -⟩ := hl
  have l0 : sn7 [ρ 1, ρ 2] (γ 0) 0 0 (γ 1) := hS7 _ _ _ _ _ l0
  have l1 : sn6 [ρ 11, ρ 2] (γ 1) 0 (ρ 12) (γ 2) := hS6 _ _ _ _ _ l1
  have l2 : sn10 [ρ 12] (γ 2) 0 0 (γ 3) := hS10 _ _ _ _ _ l2
  have l3 : sn9 [ρ 12] (γ 3) 0 0 (γ 4) := hS9 _ _ _ _ _ l3
  have l4 : sn14 [ρ 11, ρ 2, ρ 7, ρ 6] (γ 4) 0 0 (γ 5) := hS14 _ _ _ _ _ l4
  show sn20 [ρ 0, ρ 1, ρ 2, ρ 3, ρ 4, ρ 5, ρ 6, ρ 7, ρ 8, ρ 9, ρ 10] (γ 0) 0 0 (γ 5)
  refine Eq.symm ?_
  show fn20 [ρ 0] (γ 0) = _
  unfold fn20
  refine (zLet_eq (show _ = ρ 0 from rfl)).trans ?_
  refine (zLet_eq m1).trans ?_
  refine (zLet_eq (show fn7 [] (γ 0) = (0, 0, γ 1) from l0.symm)).trans ?_
  refine (zLet_eq (show _ = γ 1 from rfl)).trans ?_
  refine (zLet_eq m10).trans ?_
  refine (zLet_eq (show fn6 [ρ 11] (γ 1) = (0, ρ 12, γ 2) from l1.symm)).trans ?_
  refine (zLet_eq (show _ = γ 2 from rfl)).trans ?_
  refine (if_pos w_0).trans ?_
  refine (zLet_eq (show _ = ρ 12 from rfl)).trans ?_
  refine (zLet_eq (show fn10 [ρ 12] (γ 2) = (0, 0, γ 3) from l2.symm)).trans ?_
  refine (zLet_eq (show _ = γ 3 from rfl)).trans ?_
  refine (if_neg zQ0_).trans ?_
  refine (zLet_eq (show fn9 [ρ 12] (γ 3) = (0, 0, γ 4) from l3.symm)).trans ?_
  refine (zLet_eq (show _ = γ 4 from rfl)).trans ?_
  refine (if_neg zQ0_).trans ?_
  refine (if_pos w_1).trans ?_
  refine (if_pos w_2).trans ?_
  refine (zLet_eq (show fn14 [] (γ 4) = (0, 0, γ 5) from l4.symm)).trans ?_
  refine (zLet_eq (show _ = γ 5 from rfl)).trans ?_
  refine (if_neg zQ0_).trans ?_
  rfl
theorem vn20_1 {S : Nat → zSpc} (hS6 : ∀ x g o v gz, S 6 x g o v gz → sn6 x g o v gz) (hS7 : ∀ x g o v gz, S 7 x g o v gz → sn7 x g o v gz) (hS8 : ∀ x g o v gz, S 8 x g o v gz → sn8 x g o v gz) (hS9 : ∀ x g o v gz, S 9 x g o v gz → sn9 x g o v gz) (hS10 : ∀ x g o v gz, S 10 x g o v gz → sn10 x g o v gz) (hS11 : ∀ x g o v gz, S 11 x g o v gz → sn11 x g o v gz) (hS12 : ∀ x g o v gz, S 12 x g o v gz → sn12 x g o v gz) (hS14 : ∀ x g o v gz, S 14 x g o v gz → sn14 x g o v gz) (hS15 : ∀ x g o v gz, S 15 x g o v gz → sn15 x g o v gz) (hS17 : ∀ x g o v gz, S 17 x g o v gz → sn17 x g o v gz) {a : List Int} {g : rHp} : ∀ (ρ : Nat → Int) (γ : Nat → rHp), zO 11 S a g q20_1 ρ γ → zGl (fun _ _ _ => True) (sn20 a g) q20_1 ρ γ := by
  intro ρ γ h
  obtain ⟨ha, hg, hr, hf, hm, hc, hl⟩ := h
  have ha : a = [ρ 0, ρ 1, ρ 2, ρ 3, ρ 4, ρ 5, ρ 6, ρ 7, ρ 8, ρ 9, ρ 10] := ha
  subst ha
  subst hg
  obtain ⟨r0, -, -, -, -, -, -, -, -, -, -, -, r12, -⟩ := hr
  have r0 : (0 : Int) ≤ ρ 0 ∧ ρ 0 ≤ 0 := r0
  have r12 : (45 : Int) ≤ ρ 12 ∧ ρ 12 ≤ 45 := r12
  obtain ⟨f0, -⟩ := hf
  have f0 : (0 : Int) ≤ -ρ 11 + ρ 2 + (-1) := f0
  obtain ⟨w_0, w_1, w_2⟩ : (0 ≤ -ρ 11 + ρ 2 + (-1)) ∧ (ρ 0 = 0) ∧ (ρ 12 = 45) := ⟨by omega, by omega, by omega⟩
  obtain ⟨-, m1, -, -, -, -, -, -, -, -, m10, -⟩ := hm
  have m1 : γ 0 15 0 34 = ρ 2 := m1
  have m10 : γ 1 15 0 35 = ρ 11 := m10
  obtain ⟨l0, l1, l2, l3, l4, -⟩ := hl
  have l0 : sn7 [ρ 1, ρ 2] (γ 0) 0 0 (γ 1) := hS7 _ _ _ _ _ l0
  have l1 : sn6 [ρ 11, ρ 2] (γ 1) 0 (ρ 12) (γ 2) := hS6 _ _ _ _ _ l1
  have l2 : sn10 [ρ 12] (γ 2) 0 0 (γ 3) := hS10 _ _ _ _ _ l2
  have l3 : sn9 [ρ 12] (γ 3) 0 0 (γ 4) := hS9 _ _ _ _ _ l3
  have l4 : sn14 [ρ 11, ρ 2, ρ 7, ρ 6] (γ 4) 0 1 (γ 5) := hS14 _ _ _ _ _ l4
  show sn20 [ρ 0, ρ 1, ρ 2, ρ 3, ρ 4, ρ 5, ρ 6, ρ 7, ρ 8, ρ 9, ρ 10] (γ 0) 0 1 (γ 5)
  refine Eq.symm ?_
  show fn20 [ρ 0] (γ 0) = _
  unfold fn20
  refine (zLet_eq (show _ = ρ 0 from rfl)).trans ?_
  refine (zLet_eq m1).trans ?_
  refine (zLet_eq (show fn7 [] (γ 0) = (0, 0, γ 1) from l0.symm)).trans ?_
  refine (zLet_eq (show _ = γ 1 from rfl)).trans ?_
  refine (zLet_eq m10).trans ?_
  refine (zLet_eq (show fn6 [ρ 11] (γ 1) = (0, ρ 12, γ 2) from l1.symm)).trans ?_
  refine (zLet_eq (show _ = γ 2 from rfl)).trans ?_
  refine (if_pos w_0).trans ?_
  refine (zLet_eq (show _ = ρ 12 from rfl)).trans ?_
  refine (zLet_eq (show fn10 [ρ 12] (γ 2) = (0, 0, γ 3) from l2.symm)).trans ?_
  refine (zLet_eq (show _ = γ 3 from rfl)).trans ?_
  refine (if_neg zQ0_).trans ?_
  refine (zLet_eq (show fn9 [ρ 12] (γ 3) = (0, 0, γ 4) from l3.symm)).trans ?_
  refine (zLet_eq (show _ = γ 4 from rfl)).trans ?_
  refine (if_neg zQ0_).trans ?_
  refine (if_pos w_1).trans ?_
  refine (if_pos w_2).trans ?_
  refine (zLet_eq (show fn14 [] (γ 4) = (0, 1, γ 5) from l4.symm)).trans ?_
  refine (zLet_eq (show _ = γ 5 from rfl)).trans ?_
  refine (if_pos zQ1_).trans ?_
  rfl
theorem vn20_2 {S : Nat → zSpc} (hS6 : ∀ x g o v gz, S 6 x g o v gz → sn6 x g o v gz) (hS7 : ∀ x g o v gz, S 7 x g o v gz → sn7 x g o v gz) (hS8 : ∀ x g o v gz, S 8 x g o v gz → sn8 x g o v gz) (hS9 : ∀ x g o v gz, S 9 x g o v gz → sn9 x g o v gz) (hS10 : ∀ x g o v gz, S 10 x g o v gz → sn10 x g o v gz) (hS11 : ∀ x g o v gz, S 11 x g o v gz → sn11 x g o v gz) (hS12 : ∀ x g o v gz, S 12 x g o v gz → sn12 x g o v gz) (hS14 : ∀ x g o v gz, S 14 x g o v gz → sn14 x g o v gz) (hS15 : ∀ x g o v gz, S 15 x g o v gz → sn15 x g o v gz) (hS17 : ∀ x g o v gz, S 17 x g o v gz → sn17 x g o v gz) {a : List Int} {g : rHp} : ∀ (ρ : Nat → Int) (γ : Nat → rHp), zO 11 S a g q20_2 ρ γ → zGl (fun _ _ _ => True) (sn20 a g) q20_2 ρ γ := by
  intro ρ γ h
  obtain ⟨ha, hg, hr, hf, hm, hc, hl⟩ := h
  have ha : a = [ρ 0, ρ 1, ρ 2, ρ 3, ρ 4, ρ 5, ρ 6, ρ 7, ρ 8, ρ 9, ρ 10] := ha
  subst ha
  subst hg
  obtain ⟨r0, -, -, -, -, -, -, -, -, -, -, -, r12, -⟩ := hr
  have r0 : (0 : Int) ≤ ρ 0 ∧ ρ 0 ≤ 0 := r0
  have r12 : ((-128) : Int) ≤ ρ 12 ∧ ρ 12 ≤ 127 := r12
  obtain ⟨-, -, f2, -⟩ := hf
  have f2 : (0 : Int) ≤ -ρ 11 + ρ 2 + (-1) := f2
  obtain ⟨w_0, w_1⟩ : (0 ≤ -ρ 11 + ρ 2 + (-1)) ∧ (ρ 0 = 0) := ⟨by omega, by omega⟩
  obtain ⟨-, m1, -, -, -, -, -, -, -, -, m10, -⟩ := hm
  have m1 : γ 0 15 0 34 = ρ 2 := m1
  have m10 : γ 1 15 0 35 = ρ 11 := m10
  obtain ⟨l0, l1, l2, l3, l4, l5, l6, -⟩ := hl
  have l0 : sn7 [ρ 1, ρ 2] (γ 0) 0 0 (γ 1) := hS7 _ _ _ _ _ l0
  have l1 : sn6 [ρ 11, ρ 2] (γ 1) 0 (ρ 12) (γ 2) := hS6 _ _ _ _ _ l1
  have l2 : sn10 [ρ 12] (γ 2) 0 0 (γ 3) := hS10 _ _ _ _ _ l2
  have l3 : sn9 [ρ 12] (γ 3) 0 0 (γ 4) := hS9 _ _ _ _ _ l3
  have l4 : ρ 12 ≠ 45 := l4
  have l5 : sn11 [ρ 12] (γ 4) 0 0 (γ 5) := hS11 _ _ _ _ _ l5
  have l6 : sn8 [ρ 11, ρ 2, ρ 7] (γ 5) 0 0 (γ 6) := hS8 _ _ _ _ _ l6
  have wl_0 : ¬ (ρ 12 = 45) := by omega
  show sn20 [ρ 0, ρ 1, ρ 2, ρ 3, ρ 4, ρ 5, ρ 6, ρ 7, ρ 8, ρ 9, ρ 10] (γ 0) 0 0 (γ 6)
  refine Eq.symm ?_
  show fn20 [ρ 0] (γ 0) = _
  unfold fn20
  refine (zLet_eq (show _ = ρ 0 from rfl)).trans ?_
  refine (zLet_eq m1).trans ?_
  refine (zLet_eq (show fn7 [] (γ 0) = (0, 0, γ 1) from l0.symm)).trans ?_
  refine (zLet_eq (show _ = γ 1 from rfl)).trans ?_
  refine (zLet_eq m10).trans ?_
  refine (zLet_eq (show fn6 [ρ 11] (γ 1) = (0, ρ 12, γ 2) from l1.symm)).trans ?_
  refine (zLet_eq (show _ = γ 2 from rfl)).trans ?_
  refine (if_pos w_0).trans ?_
  refine (zLet_eq (show _ = ρ 12 from rfl)).trans ?_
  refine (zLet_eq (show fn10 [ρ 12] (γ 2) = (0, 0, γ 3) from l2.symm)).trans ?_
  refine (zLet_eq (show _ = γ 3 from rfl)).trans ?_
  refine (if_neg zQ0_).trans ?_
  refine (zLet_eq (show fn9 [ρ 12] (γ 3) = (0, 0, γ 4) from l3.symm)).trans ?_
  refine (zLet_eq (show _ = γ 4 from rfl)).trans ?_
  refine (if_neg zQ0_).trans ?_
  refine (if_pos w_1).trans ?_
  refine (if_neg wl_0).trans ?_
  refine (zLet_eq (show fn11 [ρ 12] (γ 4) = (0, 0, γ 5) from l5.symm)).trans ?_
  refine (zLet_eq (show _ = γ 5 from rfl)).trans ?_
  refine (if_neg zQ0_).trans ?_
  refine (zLet_eq (show fn8 [ρ 11] (γ 5) = (0, 0, γ 6) from l6.symm)).trans ?_
  refine (zLet_eq (show _ = γ 6 from rfl)).trans ?_
  rfl
theorem vn20_3 {S : Nat → zSpc} (hS6 : ∀ x g o v gz, S 6 x g o v gz → sn6 x g o v gz) (hS7 : ∀ x g o v gz, S 7 x g o v gz → sn7 x g o v gz) (hS8 : ∀ x g o v gz, S 8 x g o v gz → sn8 x g o v gz) (hS9 : ∀ x g o v gz, S 9 x g o v gz → sn9 x g o v gz) (hS10 : ∀ x g o v gz, S 10 x g o v gz → sn10 x g o v gz) (hS11 : ∀ x g o v gz, S 11 x g o v gz → sn11 x g o v gz) (hS12 : ∀ x g o v gz, S 12 x g o v gz → sn12 x g o v gz) (hS14 : ∀ x g o v gz, S 14 x g o v gz → sn14 x g o v gz) (hS15 : ∀ x g o v gz, S 15 x g o v gz → sn15 x g o v gz) (hS17 : ∀ x g o v gz, S 17 x g o v gz → sn17 x g o v gz) {a : List Int} {g : rHp} : ∀ (ρ : Nat → Int) (γ : Nat → rHp), zO 11 S a g q20_3 ρ γ → zGl (fun _ _ _ => True) (sn20 a g) q20_3 ρ γ := by
  intro ρ γ h
  obtain ⟨ha, hg, hr, hf, hm, hc, hl⟩ := h
  have ha : a = [ρ 0, ρ 1, ρ 2, ρ 3, ρ 4, ρ 5, ρ 6, ρ 7, ρ 8, ρ 9, ρ 10] := ha
  subst ha
  subst hg
  obtain ⟨r0, -, -, -, -, -, -, -, -, -, -, -, r12, -⟩ := hr
  have r0 : (0 : Int) ≤ ρ 0 ∧ ρ 0 ≤ 0 := r0
  have r12 : (48 : Int) ≤ ρ 12 ∧ ρ 12 ≤ 57 := r12
  obtain ⟨f0, -⟩ := hf
  have f0 : (0 : Int) ≤ -ρ 11 + ρ 2 + (-1) := f0
  obtain ⟨w_0, w_1, w_2⟩ : (0 ≤ -ρ 11 + ρ 2 + (-1)) ∧ (ρ 0 = 0) ∧ (¬ (ρ 12 = 45)) := ⟨by omega, by omega, by omega⟩
  obtain ⟨-, m1, -, -, -, -, -, -, -, -, m10, -⟩ := hm
  have m1 : γ 0 15 0 34 = ρ 2 := m1
  have m10 : γ 1 15 0 35 = ρ 11 := m10
  obtain ⟨l0, l1, l2, l3, l4, l5, l6, -⟩ := hl
  have l0 : sn7 [ρ 1, ρ 2] (γ 0) 0 0 (γ 1) := hS7 _ _ _ _ _ l0
  have l1 : sn6 [ρ 11, ρ 2] (γ 1) 0 (ρ 12) (γ 2) := hS6 _ _ _ _ _ l1
  have l2 : sn10 [ρ 12] (γ 2) 0 0 (γ 3) := hS10 _ _ _ _ _ l2
  have l3 : sn9 [ρ 12] (γ 3) 0 0 (γ 4) := hS9 _ _ _ _ _ l3
  have l4 : ρ 12 ≠ 45 := l4
  have l5 : sn11 [ρ 12] (γ 4) 0 1 (γ 5) := hS11 _ _ _ _ _ l5
  have l6 : sn14 [ρ 11, ρ 2, ρ 7, ρ 6] (γ 5) 0 0 (γ 6) := hS14 _ _ _ _ _ l6
  show sn20 [ρ 0, ρ 1, ρ 2, ρ 3, ρ 4, ρ 5, ρ 6, ρ 7, ρ 8, ρ 9, ρ 10] (γ 0) 0 0 (γ 6)
  refine Eq.symm ?_
  show fn20 [ρ 0] (γ 0) = _
  unfold fn20
  refine (zLet_eq (show _ = ρ 0 from rfl)).trans ?_
  refine (zLet_eq m1).trans ?_
  refine (zLet_eq (show fn7 [] (γ 0) = (0, 0, γ 1) from l0.symm)).trans ?_
  refine (zLet_eq (show _ = γ 1 from rfl)).trans ?_
  refine (zLet_eq m10).trans ?_
  refine (zLet_eq (show fn6 [ρ 11] (γ 1) = (0, ρ 12, γ 2) from l1.symm)).trans ?_
  refine (zLet_eq (show _ = γ 2 from rfl)).trans ?_
  refine (if_pos w_0).trans ?_
  refine (zLet_eq (show _ = ρ 12 from rfl)).trans ?_
  refine (zLet_eq (show fn10 [ρ 12] (γ 2) = (0, 0, γ 3) from l2.symm)).trans ?_
  refine (zLet_eq (show _ = γ 3 from rfl)).trans ?_
  refine (if_neg zQ0_).trans ?_
  refine (zLet_eq (show fn9 [ρ 12] (γ 3) = (0, 0, γ 4) from l3.symm)).trans ?_
  refine (zLet_eq (show _ = γ 4 from rfl)).trans ?_
  refine (if_neg zQ0_).trans ?_
  refine (if_pos w_1).trans ?_
  refine (if_neg w_2).trans ?_
  refine (zLet_eq (show fn11 [ρ 12] (γ 4) = (0, 1, γ 5) from l5.symm)).trans ?_
  refine (zLet_eq (show _ = γ 5 from rfl)).trans ?_
  refine (if_pos zQ1_).trans ?_
  refine (zLet_eq (show fn14 [] (γ 5) = (0, 0, γ 6) from l6.symm)).trans ?_
  refine (zLet_eq (show _ = γ 6 from rfl)).trans ?_
  refine (if_neg zQ0_).trans ?_
  rfl
theorem vn20_4 {S : Nat → zSpc} (hS6 : ∀ x g o v gz, S 6 x g o v gz → sn6 x g o v gz) (hS7 : ∀ x g o v gz, S 7 x g o v gz → sn7 x g o v gz) (hS8 : ∀ x g o v gz, S 8 x g o v gz → sn8 x g o v gz) (hS9 : ∀ x g o v gz, S 9 x g o v gz → sn9 x g o v gz) (hS10 : ∀ x g o v gz, S 10 x g o v gz → sn10 x g o v gz) (hS11 : ∀ x g o v gz, S 11 x g o v gz → sn11 x g o v gz) (hS12 : ∀ x g o v gz, S 12 x g o v gz → sn12 x g o v gz) (hS14 : ∀ x g o v gz, S 14 x g o v gz → sn14 x g o v gz) (hS15 : ∀ x g o v gz, S 15 x g o v gz → sn15 x g o v gz) (hS17 : ∀ x g o v gz, S 17 x g o v gz → sn17 x g o v gz) {a : List Int} {g : rHp} : ∀ (ρ : Nat → Int) (γ : Nat → rHp), zO 11 S a g q20_4 ρ γ → zGl (fun _ _ _ => True) (sn20 a g) q20_4 ρ γ := by
  intro ρ γ h
  obtain ⟨ha, hg, hr, hf, hm, hc, hl⟩ := h
  have ha : a = [ρ 0, ρ 1, ρ 2, ρ 3, ρ 4, ρ 5, ρ 6, ρ 7, ρ 8, ρ 9, ρ 10] := ha
  subst ha
  subst hg
  obtain ⟨r0, -, -, -, -, -, -, -, -, -, -, -, r12, -⟩ := hr
  have r0 : (0 : Int) ≤ ρ 0 ∧ ρ 0 ≤ 0 := r0
  have r12 : (48 : Int) ≤ ρ 12 ∧ ρ 12 ≤ 57 := r12
  obtain ⟨f0, -⟩ := hf
  have f0 : (0 : Int) ≤ -ρ 11 + ρ 2 + (-1) := f0
  obtain ⟨w_0, w_1, w_2⟩ : (0 ≤ -ρ 11 + ρ 2 + (-1)) ∧ (ρ 0 = 0) ∧ (¬ (ρ 12 = 45)) := ⟨by omega, by omega, by omega⟩
  obtain ⟨-, m1, -, -, -, -, -, -, -, -, m10, -⟩ := hm
  have m1 : γ 0 15 0 34 = ρ 2 := m1
  have m10 : γ 1 15 0 35 = ρ 11 := m10
  obtain ⟨l0, l1, l2, l3, l4, l5, l6, -⟩ := hl
  have l0 : sn7 [ρ 1, ρ 2] (γ 0) 0 0 (γ 1) := hS7 _ _ _ _ _ l0
  have l1 : sn6 [ρ 11, ρ 2] (γ 1) 0 (ρ 12) (γ 2) := hS6 _ _ _ _ _ l1
  have l2 : sn10 [ρ 12] (γ 2) 0 0 (γ 3) := hS10 _ _ _ _ _ l2
  have l3 : sn9 [ρ 12] (γ 3) 0 0 (γ 4) := hS9 _ _ _ _ _ l3
  have l4 : ρ 12 ≠ 45 := l4
  have l5 : sn11 [ρ 12] (γ 4) 0 1 (γ 5) := hS11 _ _ _ _ _ l5
  have l6 : sn14 [ρ 11, ρ 2, ρ 7, ρ 6] (γ 5) 0 1 (γ 6) := hS14 _ _ _ _ _ l6
  show sn20 [ρ 0, ρ 1, ρ 2, ρ 3, ρ 4, ρ 5, ρ 6, ρ 7, ρ 8, ρ 9, ρ 10] (γ 0) 0 1 (γ 6)
  refine Eq.symm ?_
  show fn20 [ρ 0] (γ 0) = _
  unfold fn20
  refine (zLet_eq (show _ = ρ 0 from rfl)).trans ?_
  refine (zLet_eq m1).trans ?_
  refine (zLet_eq (show fn7 [] (γ 0) = (0, 0, γ 1) from l0.symm)).trans ?_
  refine (zLet_eq (show _ = γ 1 from rfl)).trans ?_
  refine (zLet_eq m10).trans ?_
  refine (zLet_eq (show fn6 [ρ 11] (γ 1) = (0, ρ 12, γ 2) from l1.symm)).trans ?_
  refine (zLet_eq (show _ = γ 2 from rfl)).trans ?_
  refine (if_pos w_0).trans ?_
  refine (zLet_eq (show _ = ρ 12 from rfl)).trans ?_
  refine (zLet_eq (show fn10 [ρ 12] (γ 2) = (0, 0, γ 3) from l2.symm)).trans ?_
  refine (zLet_eq (show _ = γ 3 from rfl)).trans ?_
  refine (if_neg zQ0_).trans ?_
  refine (zLet_eq (show fn9 [ρ 12] (γ 3) = (0, 0, γ 4) from l3.symm)).trans ?_
  refine (zLet_eq (show _ = γ 4 from rfl)).trans ?_
  refine (if_neg zQ0_).trans ?_
  refine (if_pos w_1).trans ?_
  refine (if_neg w_2).trans ?_
  refine (zLet_eq (show fn11 [ρ 12] (γ 4) = (0, 1, γ 5) from l5.symm)).trans ?_
  refine (zLet_eq (show _ = γ 5 from rfl)).trans ?_
  refine (if_pos zQ1_).trans ?_
  refine (zLet_eq (show fn14 [] (γ 5) = (0, 1, γ 6) from l6.symm)).trans ?_
  refine (zLet_eq (show _ = γ 6 from rfl)).trans ?_
  refine (if_pos zQ1_).trans ?_
  rfl
theorem vn20_5 {S : Nat → zSpc} (hS6 : ∀ x g o v gz, S 6 x g o v gz → sn6 x g o v gz) (hS7 : ∀ x g o v gz, S 7 x g o v gz → sn7 x g o v gz) (hS8 : ∀ x g o v gz, S 8 x g o v gz → sn8 x g o v gz) (hS9 : ∀ x g o v gz, S 9 x g o v gz → sn9 x g o v gz) (hS10 : ∀ x g o v gz, S 10 x g o v gz → sn10 x g o v gz) (hS11 : ∀ x g o v gz, S 11 x g o v gz → sn11 x g o v gz) (hS12 : ∀ x g o v gz, S 12 x g o v gz → sn12 x g o v gz) (hS14 : ∀ x g o v gz, S 14 x g o v gz → sn14 x g o v gz) (hS15 : ∀ x g o v gz, S 15 x g o v gz → sn15 x g o v gz) (hS17 : ∀ x g o v gz, S 17 x g o v gz → sn17 x g o v gz) {a : List Int} {g : rHp} : ∀ (ρ : Nat → Int) (γ : Nat → rHp), zO 11 S a g q20_5 ρ γ → zGl (fun _ _ _ => True) (sn20 a g) q20_5 ρ γ := by
  intro ρ γ h
  obtain ⟨ha, hg, hr, hf, hm, hc, hl⟩ := h
  have ha : a = [ρ 0, ρ 1, ρ 2, ρ 3, ρ 4, ρ 5, ρ 6, ρ 7, ρ 8, ρ 9, ρ 10] := ha
  subst ha
  subst hg
  obtain ⟨r0, -, -, -, -, -, -, -, -, -, -, -, r12, -⟩ := hr
  have r0 : (1 : Int) ≤ ρ 0 ∧ ρ 0 ≤ 1 := r0
  have r12 : (45 : Int) ≤ ρ 12 ∧ ρ 12 ≤ 45 := r12
  obtain ⟨f0, -⟩ := hf
  have f0 : (0 : Int) ≤ -ρ 11 + ρ 2 + (-1) := f0
  obtain ⟨w_0, w_1, w_2, w_3⟩ : (0 ≤ -ρ 11 + ρ 2 + (-1)) ∧ (¬ (ρ 0 = 0)) ∧ (ρ 12 ≠ 95) ∧ (ρ 12 = 45) := ⟨by omega, by omega, by omega, by omega⟩
  obtain ⟨-, m1, -, -, -, -, -, -, -, -, m10, -⟩ := hm
  have m1 : γ 0 15 0 34 = ρ 2 := m1
  have m10 : γ 1 15 0 35 = ρ 11 := m10
  obtain ⟨l0, l1, l2, l3, l4, l5, -⟩ := hl
  have l0 : sn7 [ρ 1, ρ 2] (γ 0) 0 0 (γ 1) := hS7 _ _ _ _ _ l0
  have l1 : sn6 [ρ 11, ρ 2] (γ 1) 0 (ρ 12) (γ 2) := hS6 _ _ _ _ _ l1
  have l2 : sn10 [ρ 12] (γ 2) 0 0 (γ 3) := hS10 _ _ _ _ _ l2
  have l3 : sn9 [ρ 12] (γ 3) 0 0 (γ 4) := hS9 _ _ _ _ _ l3
  have l4 : ρ 12 ≠ 95 := l4
  have l5 : sn14 [ρ 11, ρ 2, ρ 7, ρ 6] (γ 4) 0 0 (γ 5) := hS14 _ _ _ _ _ l5
  show sn20 [ρ 0, ρ 1, ρ 2, ρ 3, ρ 4, ρ 5, ρ 6, ρ 7, ρ 8, ρ 9, ρ 10] (γ 0) 0 0 (γ 5)
  refine Eq.symm ?_
  show fn20 [ρ 0] (γ 0) = _
  unfold fn20
  refine (zLet_eq (show _ = ρ 0 from rfl)).trans ?_
  refine (zLet_eq m1).trans ?_
  refine (zLet_eq (show fn7 [] (γ 0) = (0, 0, γ 1) from l0.symm)).trans ?_
  refine (zLet_eq (show _ = γ 1 from rfl)).trans ?_
  refine (zLet_eq m10).trans ?_
  refine (zLet_eq (show fn6 [ρ 11] (γ 1) = (0, ρ 12, γ 2) from l1.symm)).trans ?_
  refine (zLet_eq (show _ = γ 2 from rfl)).trans ?_
  refine (if_pos w_0).trans ?_
  refine (zLet_eq (show _ = ρ 12 from rfl)).trans ?_
  refine (zLet_eq (show fn10 [ρ 12] (γ 2) = (0, 0, γ 3) from l2.symm)).trans ?_
  refine (zLet_eq (show _ = γ 3 from rfl)).trans ?_
  refine (if_neg zQ0_).trans ?_
  refine (zLet_eq (show fn9 [ρ 12] (γ 3) = (0, 0, γ 4) from l3.symm)).trans ?_
  refine (zLet_eq (show _ = γ 4 from rfl)).trans ?_
  refine (if_neg zQ0_).trans ?_
  refine (if_neg w_1).trans ?_
  refine (if_pos w_2).trans ?_
  refine (if_pos w_3).trans ?_
  refine (zLet_eq (show fn14 [] (γ 4) = (0, 0, γ 5) from l5.symm)).trans ?_
  refine (zLet_eq (show _ = γ 5 from rfl)).trans ?_
  refine (if_neg zQ0_).trans ?_
  rfl
theorem vn20_6 {S : Nat → zSpc} (hS6 : ∀ x g o v gz, S 6 x g o v gz → sn6 x g o v gz) (hS7 : ∀ x g o v gz, S 7 x g o v gz → sn7 x g o v gz) (hS8 : ∀ x g o v gz, S 8 x g o v gz → sn8 x g o v gz) (hS9 : ∀ x g o v gz, S 9 x g o v gz → sn9 x g o v gz) (hS10 : ∀ x g o v gz, S 10 x g o v gz → sn10 x g o v gz) (hS11 : ∀ x g o v gz, S 11 x g o v gz → sn11 x g o v gz) (hS12 : ∀ x g o v gz, S 12 x g o v gz → sn12 x g o v gz) (hS14 : ∀ x g o v gz, S 14 x g o v gz → sn14 x g o v gz) (hS15 : ∀ x g o v gz, S 15 x g o v gz → sn15 x g o v gz) (hS17 : ∀ x g o v gz, S 17 x g o v gz → sn17 x g o v gz) {a : List Int} {g : rHp} : ∀ (ρ : Nat → Int) (γ : Nat → rHp), zO 11 S a g q20_6 ρ γ → zGl (fun _ _ _ => True) (sn20 a g) q20_6 ρ γ := by
  intro ρ γ h
  obtain ⟨ha, hg, hr, hf, hm, hc, hl⟩ := h
  have ha : a = [ρ 0, ρ 1, ρ 2, ρ 3, ρ 4, ρ 5, ρ 6, ρ 7, ρ 8, ρ 9, ρ 10] := ha
  subst ha
  subst hg
  obtain ⟨r0, -, -, -, -, -, -, -, -, -, -, -, r12, -⟩ := hr
  have r0 : (1 : Int) ≤ ρ 0 ∧ ρ 0 ≤ 1 := r0
  have r12 : (45 : Int) ≤ ρ 12 ∧ ρ 12 ≤ 45 := r12
  obtain ⟨f0, -⟩ := hf
  have f0 : (0 : Int) ≤ -ρ 11 + ρ 2 + (-1) := f0
  obtain ⟨w_0, w_1, w_2, w_3⟩ : (0 ≤ -ρ 11 + ρ 2 + (-1)) ∧ (¬ (ρ 0 = 0)) ∧ (ρ 12 ≠ 95) ∧ (ρ 12 = 45) := ⟨by omega, by omega, by omega, by omega⟩
  obtain ⟨-, m1, -, -, -, -, -, -, -, -, m10, -⟩ := hm
  have m1 : γ 0 15 0 34 = ρ 2 := m1
  have m10 : γ 1 15 0 35 = ρ 11 := m10
  obtain ⟨l0, l1, l2, l3, l4, l5, -⟩ := hl
  have l0 : sn7 [ρ 1, ρ 2] (γ 0) 0 0 (γ 1) := hS7 _ _ _ _ _ l0
  have l1 : sn6 [ρ 11, ρ 2] (γ 1) 0 (ρ 12) (γ 2) := hS6 _ _ _ _ _ l1
  have l2 : sn10 [ρ 12] (γ 2) 0 0 (γ 3) := hS10 _ _ _ _ _ l2
  have l3 : sn9 [ρ 12] (γ 3) 0 0 (γ 4) := hS9 _ _ _ _ _ l3
  have l4 : ρ 12 ≠ 95 := l4
  have l5 : sn14 [ρ 11, ρ 2, ρ 7, ρ 6] (γ 4) 0 1 (γ 5) := hS14 _ _ _ _ _ l5
  show sn20 [ρ 0, ρ 1, ρ 2, ρ 3, ρ 4, ρ 5, ρ 6, ρ 7, ρ 8, ρ 9, ρ 10] (γ 0) 0 1 (γ 5)
  refine Eq.symm ?_
  show fn20 [ρ 0] (γ 0) = _
  unfold fn20
  refine (zLet_eq (show _ = ρ 0 from rfl)).trans ?_
  refine (zLet_eq m1).trans ?_
  refine (zLet_eq (show fn7 [] (γ 0) = (0, 0, γ 1) from l0.symm)).trans ?_
  refine (zLet_eq (show _ = γ 1 from rfl)).trans ?_
  refine (zLet_eq m10).trans ?_
  refine (zLet_eq (show fn6 [ρ 11] (γ 1) = (0, ρ 12, γ 2) from l1.symm)).trans ?_
  refine (zLet_eq (show _ = γ 2 from rfl)).trans ?_
  refine (if_pos w_0).trans ?_
  refine (zLet_eq (show _ = ρ 12 from rfl)).trans ?_
  refine (zLet_eq (show fn10 [ρ 12] (γ 2) = (0, 0, γ 3) from l2.symm)).trans ?_
  refine (zLet_eq (show _ = γ 3 from rfl)).trans ?_
  refine (if_neg zQ0_).trans ?_
  refine (zLet_eq (show fn9 [ρ 12] (γ 3) = (0, 0, γ 4) from l3.symm)).trans ?_
  refine (zLet_eq (show _ = γ 4 from rfl)).trans ?_
  refine (if_neg zQ0_).trans ?_
  refine (if_neg w_1).trans ?_
  refine (if_pos w_2).trans ?_
  refine (if_pos w_3).trans ?_
  refine (zLet_eq (show fn14 [] (γ 4) = (0, 1, γ 5) from l5.symm)).trans ?_
  refine (zLet_eq (show _ = γ 5 from rfl)).trans ?_
  refine (if_pos zQ1_).trans ?_
  rfl
theorem vn20_7 {S : Nat → zSpc} (hS6 : ∀ x g o v gz, S 6 x g o v gz → sn6 x g o v gz) (hS7 : ∀ x g o v gz, S 7 x g o v gz → sn7 x g o v gz) (hS8 : ∀ x g o v gz, S 8 x g o v gz → sn8 x g o v gz) (hS9 : ∀ x g o v gz, S 9 x g o v gz → sn9 x g o v gz) (hS10 : ∀ x g o v gz, S 10 x g o v gz → sn10 x g o v gz) (hS11 : ∀ x g o v gz, S 11 x g o v gz → sn11 x g o v gz) (hS12 : ∀ x g o v gz, S 12 x g o v gz → sn12 x g o v gz) (hS14 : ∀ x g o v gz, S 14 x g o v gz → sn14 x g o v gz) (hS15 : ∀ x g o v gz, S 15 x g o v gz → sn15 x g o v gz) (hS17 : ∀ x g o v gz, S 17 x g o v gz → sn17 x g o v gz) {a : List Int} {g : rHp} : ∀ (ρ : Nat → Int) (γ : Nat → rHp), zO 11 S a g q20_7 ρ γ → zGl (fun _ _ _ => True) (sn20 a g) q20_7 ρ γ := by
  intro ρ γ h
  obtain ⟨ha, hg, hr, hf, hm, hc, hl⟩ := h
  have ha : a = [ρ 0, ρ 1, ρ 2, ρ 3, ρ 4, ρ 5, ρ 6, ρ 7, ρ 8, ρ 9, ρ 10] := ha
  subst ha
  subst hg
  obtain ⟨r0, -, -, -, -, -, -, -, -, -, -, -, r12, -⟩ := hr
  have r0 : (1 : Int) ≤ ρ 0 ∧ ρ 0 ≤ 1 := r0
  have r12 : ((-128) : Int) ≤ ρ 12 ∧ ρ 12 ≤ 127 := r12
  obtain ⟨-, -, f2, -⟩ := hf
  have f2 : (0 : Int) ≤ -ρ 11 + ρ 2 + (-1) := f2
  obtain ⟨w_0, w_1⟩ : (0 ≤ -ρ 11 + ρ 2 + (-1)) ∧ (¬ (ρ 0 = 0)) := ⟨by omega, by omega⟩
  obtain ⟨-, m1, -, -, -, -, -, -, -, -, m10, -⟩ := hm
  have m1 : γ 0 15 0 34 = ρ 2 := m1
  have m10 : γ 1 15 0 35 = ρ 11 := m10
  obtain ⟨l0, l1, l2, l3, l4, l5, l6, l7, -⟩ := hl
  have l0 : sn7 [ρ 1, ρ 2] (γ 0) 0 0 (γ 1) := hS7 _ _ _ _ _ l0
  have l1 : sn6 [ρ 11, ρ 2] (γ 1) 0 (ρ 12) (γ 2) := hS6 _ _ _ _ _ l1
  have l2 : sn10 [ρ 12] (γ 2) 0 0 (γ 3) := hS10 _ _ _ _ _ l2
  have l3 : sn9 [ρ 12] (γ 3) 0 0 (γ 4) := hS9 _ _ _ _ _ l3
  have l4 : ρ 12 ≠ 95 := l4
  have l5 : ρ 12 ≠ 45 := l5
  have l6 : sn11 [ρ 12] (γ 4) 0 0 (γ 5) := hS11 _ _ _ _ _ l6
  have l7 : sn8 [ρ 11, ρ 2, ρ 7] (γ 5) 0 0 (γ 6) := hS8 _ _ _ _ _ l7
  obtain ⟨wl_0, wl_1⟩ : (ρ 12 ≠ 95) ∧ (¬ (ρ 12 = 45)) := ⟨by omega, by omega⟩
  show sn20 [ρ 0, ρ 1, ρ 2, ρ 3, ρ 4, ρ 5, ρ 6, ρ 7, ρ 8, ρ 9, ρ 10] (γ 0) 0 0 (γ 6)
  refine Eq.symm ?_
  show fn20 [ρ 0] (γ 0) = _
  unfold fn20
  refine (zLet_eq (show _ = ρ 0 from rfl)).trans ?_
  refine (zLet_eq m1).trans ?_
  refine (zLet_eq (show fn7 [] (γ 0) = (0, 0, γ 1) from l0.symm)).trans ?_
  refine (zLet_eq (show _ = γ 1 from rfl)).trans ?_
  refine (zLet_eq m10).trans ?_
  refine (zLet_eq (show fn6 [ρ 11] (γ 1) = (0, ρ 12, γ 2) from l1.symm)).trans ?_
  refine (zLet_eq (show _ = γ 2 from rfl)).trans ?_
  refine (if_pos w_0).trans ?_
  refine (zLet_eq (show _ = ρ 12 from rfl)).trans ?_
  refine (zLet_eq (show fn10 [ρ 12] (γ 2) = (0, 0, γ 3) from l2.symm)).trans ?_
  refine (zLet_eq (show _ = γ 3 from rfl)).trans ?_
  refine (if_neg zQ0_).trans ?_
  refine (zLet_eq (show fn9 [ρ 12] (γ 3) = (0, 0, γ 4) from l3.symm)).trans ?_
  refine (zLet_eq (show _ = γ 4 from rfl)).trans ?_
  refine (if_neg zQ0_).trans ?_
  refine (if_neg w_1).trans ?_
  refine (if_pos wl_0).trans ?_
  refine (if_neg wl_1).trans ?_
  refine (zLet_eq (show fn11 [ρ 12] (γ 4) = (0, 0, γ 5) from l6.symm)).trans ?_
  refine (zLet_eq (show _ = γ 5 from rfl)).trans ?_
  refine (if_neg zQ0_).trans ?_
  refine (zLet_eq (show fn8 [ρ 11] (γ 5) = (0, 0, γ 6) from l7.symm)).trans ?_
  refine (zLet_eq (show _ = γ 6 from rfl)).trans ?_
  rfl
theorem vn20_8 {S : Nat → zSpc} (hS6 : ∀ x g o v gz, S 6 x g o v gz → sn6 x g o v gz) (hS7 : ∀ x g o v gz, S 7 x g o v gz → sn7 x g o v gz) (hS8 : ∀ x g o v gz, S 8 x g o v gz → sn8 x g o v gz) (hS9 : ∀ x g o v gz, S 9 x g o v gz → sn9 x g o v gz) (hS10 : ∀ x g o v gz, S 10 x g o v gz → sn10 x g o v gz) (hS11 : ∀ x g o v gz, S 11 x g o v gz → sn11 x g o v gz) (hS12 : ∀ x g o v gz, S 12 x g o v gz → sn12 x g o v gz) (hS14 : ∀ x g o v gz, S 14 x g o v gz → sn14 x g o v gz) (hS15 : ∀ x g o v gz, S 15 x g o v gz → sn15 x g o v gz) (hS17 : ∀ x g o v gz, S 17 x g o v gz → sn17 x g o v gz) {a : List Int} {g : rHp} : ∀ (ρ : Nat → Int) (γ : Nat → rHp), zO 11 S a g q20_8 ρ γ → zGl (fun _ _ _ => True) (sn20 a g) q20_8 ρ γ := by
  intro ρ γ h
  obtain ⟨ha, hg, hr, hf, hm, hc, hl⟩ := h
  have ha : a = [ρ 0, ρ 1, ρ 2, ρ 3, ρ 4, ρ 5, ρ 6, ρ 7, ρ 8, ρ 9, ρ 10] := ha
  subst ha
  subst hg
  obtain ⟨r0, -, -, -, -, -, -, -, -, -, -, -, r12, -⟩ := hr
  have r0 : (1 : Int) ≤ ρ 0 ∧ ρ 0 ≤ 1 := r0
  have r12 : (48 : Int) ≤ ρ 12 ∧ ρ 12 ≤ 57 := r12
  obtain ⟨f0, -⟩ := hf
  have f0 : (0 : Int) ≤ -ρ 11 + ρ 2 + (-1) := f0
  obtain ⟨w_0, w_1, w_2, w_3⟩ : (0 ≤ -ρ 11 + ρ 2 + (-1)) ∧ (¬ (ρ 0 = 0)) ∧ (ρ 12 ≠ 95) ∧ (¬ (ρ 12 = 45)) := ⟨by omega, by omega, by omega, by omega⟩
  obtain ⟨-, m1, -, -, -, -, -, -, -, -, m10, -⟩ := hm
  have m1 : γ 0 15 0 34 = ρ 2 := m1
  have m10 : γ 1 15 0 35 = ρ 11 := m10
  obtain ⟨l0, l1, l2, l3, l4, l5, l6, l7, -⟩ := hl
  have l0 : sn7 [ρ 1, ρ 2] (γ 0) 0 0 (γ 1) := hS7 _ _ _ _ _ l0
  have l1 : sn6 [ρ 11, ρ 2] (γ 1) 0 (ρ 12) (γ 2) := hS6 _ _ _ _ _ l1
  have l2 : sn10 [ρ 12] (γ 2) 0 0 (γ 3) := hS10 _ _ _ _ _ l2
  have l3 : sn9 [ρ 12] (γ 3) 0 0 (γ 4) := hS9 _ _ _ _ _ l3
  have l4 : ρ 12 ≠ 95 := l4
  have l5 : ρ 12 ≠ 45 := l5
  have l6 : sn11 [ρ 12] (γ 4) 0 1 (γ 5) := hS11 _ _ _ _ _ l6
  have l7 : sn14 [ρ 11, ρ 2, ρ 7, ρ 6] (γ 5) 0 0 (γ 6) := hS14 _ _ _ _ _ l7
  show sn20 [ρ 0, ρ 1, ρ 2, ρ 3, ρ 4, ρ 5, ρ 6, ρ 7, ρ 8, ρ 9, ρ 10] (γ 0) 0 0 (γ 6)
  refine Eq.symm ?_
  show fn20 [ρ 0] (γ 0) = _
  unfold fn20
  refine (zLet_eq (show _ = ρ 0 from rfl)).trans ?_
  refine (zLet_eq m1).trans ?_
  refine (zLet_eq (show fn7 [] (γ 0) = (0, 0, γ 1) from l0.symm)).trans ?_
  refine (zLet_eq (show _ = γ 1 from rfl)).trans ?_
  refine (zLet_eq m10).trans ?_
  refine (zLet_eq (show fn6 [ρ 11] (γ 1) = (0, ρ 12, γ 2) from l1.symm)).trans ?_
  refine (zLet_eq (show _ = γ 2 from rfl)).trans ?_
  refine (if_pos w_0).trans ?_
  refine (zLet_eq (show _ = ρ 12 from rfl)).trans ?_
  refine (zLet_eq (show fn10 [ρ 12] (γ 2) = (0, 0, γ 3) from l2.symm)).trans ?_
  refine (zLet_eq (show _ = γ 3 from rfl)).trans ?_
  refine (if_neg zQ0_).trans ?_
  refine (zLet_eq (show fn9 [ρ 12] (γ 3) = (0, 0, γ 4) from l3.symm)).trans ?_
  refine (zLet_eq (show _ = γ 4 from rfl)).trans ?_
  refine (if_neg zQ0_).trans ?_
  refine (if_neg w_1).trans ?_
  refine (if_pos w_2).trans ?_
  refine (if_neg w_3).trans ?_
  refine (zLet_eq (show fn11 [ρ 12] (γ 4) = (0, 1, γ 5) from l6.symm)).trans ?_
  refine (zLet_eq (show _ = γ 5 from rfl)).trans ?_
  refine (if_pos zQ1_).trans ?_
  refine (zLet_eq (show fn14 [] (γ 5) = (0, 0, γ 6) from l7.symm)).trans ?_
  refine (zLet_eq (show _ = γ 6 from rfl)).trans ?_
  refine (if_neg zQ0_).trans ?_
  rfl
theorem vn20_9 {S : Nat → zSpc} (hS6 : ∀ x g o v gz, S 6 x g o v gz → sn6 x g o v gz) (hS7 : ∀ x g o v gz, S 7 x g o v gz → sn7 x g o v gz) (hS8 : ∀ x g o v gz, S 8 x g o v gz → sn8 x g o v gz) (hS9 : ∀ x g o v gz, S 9 x g o v gz → sn9 x g o v gz) (hS10 : ∀ x g o v gz, S 10 x g o v gz → sn10 x g o v gz) (hS11 : ∀ x g o v gz, S 11 x g o v gz → sn11 x g o v gz) (hS12 : ∀ x g o v gz, S 12 x g o v gz → sn12 x g o v gz) (hS14 : ∀ x g o v gz, S 14 x g o v gz → sn14 x g o v gz) (hS15 : ∀ x g o v gz, S 15 x g o v gz → sn15 x g o v gz) (hS17 : ∀ x g o v gz, S 17 x g o v gz → sn17 x g o v gz) {a : List Int} {g : rHp} : ∀ (ρ : Nat → Int) (γ : Nat → rHp), zO 11 S a g q20_9 ρ γ → zGl (fun _ _ _ => True) (sn20 a g) q20_9 ρ γ := by
  intro ρ γ h
  obtain ⟨ha, hg, hr, hf, hm, hc, hl⟩ := h
  have ha : a = [ρ 0, ρ 1, ρ 2, ρ 3, ρ 4, ρ 5, ρ 6, ρ 7, ρ 8, ρ 9, ρ 10] := ha
  subst ha
  subst hg
  obtain ⟨r0, -, -, -, -, -, -, -, -, -, -, -, r12, -⟩ := hr
  have r0 : (1 : Int) ≤ ρ 0 ∧ ρ 0 ≤ 1 := r0
  have r12 : (48 : Int) ≤ ρ 12 ∧ ρ 12 ≤ 57 := r12
  obtain ⟨f0, -⟩ := hf
  have f0 : (0 : Int) ≤ -ρ 11 + ρ 2 + (-1) := f0
  obtain ⟨w_0, w_1, w_2, w_3⟩ : (0 ≤ -ρ 11 + ρ 2 + (-1)) ∧ (¬ (ρ 0 = 0)) ∧ (ρ 12 ≠ 95) ∧ (¬ (ρ 12 = 45)) := ⟨by omega, by omega, by omega, by omega⟩
  obtain ⟨-, m1, -, -, -, -, -, -, -, -, m10, -⟩ := hm
  have m1 : γ 0 15 0 34 = ρ 2 := m1
  have m10 : γ 1 15 0 35 = ρ 11 := m10
  obtain ⟨l0, l1, l2, l3, l4, l5, l6, l7, -⟩ := hl
  have l0 : sn7 [ρ 1, ρ 2] (γ 0) 0 0 (γ 1) := hS7 _ _ _ _ _ l0
  have l1 : sn6 [ρ 11, ρ 2] (γ 1) 0 (ρ 12) (γ 2) := hS6 _ _ _ _ _ l1
  have l2 : sn10 [ρ 12] (γ 2) 0 0 (γ 3) := hS10 _ _ _ _ _ l2
  have l3 : sn9 [ρ 12] (γ 3) 0 0 (γ 4) := hS9 _ _ _ _ _ l3
  have l4 : ρ 12 ≠ 95 := l4
  have l5 : ρ 12 ≠ 45 := l5
  have l6 : sn11 [ρ 12] (γ 4) 0 1 (γ 5) := hS11 _ _ _ _ _ l6
  have l7 : sn14 [ρ 11, ρ 2, ρ 7, ρ 6] (γ 5) 0 1 (γ 6) := hS14 _ _ _ _ _ l7
  show sn20 [ρ 0, ρ 1, ρ 2, ρ 3, ρ 4, ρ 5, ρ 6, ρ 7, ρ 8, ρ 9, ρ 10] (γ 0) 0 1 (γ 6)
  refine Eq.symm ?_
  show fn20 [ρ 0] (γ 0) = _
  unfold fn20
  refine (zLet_eq (show _ = ρ 0 from rfl)).trans ?_
  refine (zLet_eq m1).trans ?_
  refine (zLet_eq (show fn7 [] (γ 0) = (0, 0, γ 1) from l0.symm)).trans ?_
  refine (zLet_eq (show _ = γ 1 from rfl)).trans ?_
  refine (zLet_eq m10).trans ?_
  refine (zLet_eq (show fn6 [ρ 11] (γ 1) = (0, ρ 12, γ 2) from l1.symm)).trans ?_
  refine (zLet_eq (show _ = γ 2 from rfl)).trans ?_
  refine (if_pos w_0).trans ?_
  refine (zLet_eq (show _ = ρ 12 from rfl)).trans ?_
  refine (zLet_eq (show fn10 [ρ 12] (γ 2) = (0, 0, γ 3) from l2.symm)).trans ?_
  refine (zLet_eq (show _ = γ 3 from rfl)).trans ?_
  refine (if_neg zQ0_).trans ?_
  refine (zLet_eq (show fn9 [ρ 12] (γ 3) = (0, 0, γ 4) from l3.symm)).trans ?_
  refine (zLet_eq (show _ = γ 4 from rfl)).trans ?_
  refine (if_neg zQ0_).trans ?_
  refine (if_neg w_1).trans ?_
  refine (if_pos w_2).trans ?_
  refine (if_neg w_3).trans ?_
  refine (zLet_eq (show fn11 [ρ 12] (γ 4) = (0, 1, γ 5) from l6.symm)).trans ?_
  refine (zLet_eq (show _ = γ 5 from rfl)).trans ?_
  refine (if_pos zQ1_).trans ?_
  refine (zLet_eq (show fn14 [] (γ 5) = (0, 1, γ 6) from l7.symm)).trans ?_
  refine (zLet_eq (show _ = γ 6 from rfl)).trans ?_
  refine (if_pos zQ1_).trans ?_
  rfl
theorem vn20_10 {S : Nat → zSpc} (hS6 : ∀ x g o v gz, S 6 x g o v gz → sn6 x g o v gz) (hS7 : ∀ x g o v gz, S 7 x g o v gz → sn7 x g o v gz) (hS8 : ∀ x g o v gz, S 8 x g o v gz → sn8 x g o v gz) (hS9 : ∀ x g o v gz, S 9 x g o v gz → sn9 x g o v gz) (hS10 : ∀ x g o v gz, S 10 x g o v gz → sn10 x g o v gz) (hS11 : ∀ x g o v gz, S 11 x g o v gz → sn11 x g o v gz) (hS12 : ∀ x g o v gz, S 12 x g o v gz → sn12 x g o v gz) (hS14 : ∀ x g o v gz, S 14 x g o v gz → sn14 x g o v gz) (hS15 : ∀ x g o v gz, S 15 x g o v gz → sn15 x g o v gz) (hS17 : ∀ x g o v gz, S 17 x g o v gz → sn17 x g o v gz) {a : List Int} {g : rHp} : ∀ (ρ : Nat → Int) (γ : Nat → rHp), zO 11 S a g q20_10 ρ γ → zGl (fun _ _ _ => True) (sn20 a g) q20_10 ρ γ := by
  intro ρ γ h
  obtain ⟨ha, hg, hr, hf, hm, hc, hl⟩ := h
  have ha : a = [ρ 0, ρ 1, ρ 2, ρ 3, ρ 4, ρ 5, ρ 6, ρ 7, ρ 8, ρ 9, ρ 10] := ha
  subst ha
  subst hg
  obtain ⟨r0, -, -, -, -, -, -, -, -, -, -, -, r12, -⟩ := hr
  have r0 : (1 : Int) ≤ ρ 0 ∧ ρ 0 ≤ 1 := r0
  have r12 : (95 : Int) ≤ ρ 12 ∧ ρ 12 ≤ 95 := r12
  obtain ⟨f0, -⟩ := hf
  have f0 : (0 : Int) ≤ -ρ 11 + ρ 2 + (-1) := f0
  obtain ⟨w_0, w_1, w_2⟩ : (0 ≤ -ρ 11 + ρ 2 + (-1)) ∧ (¬ (ρ 0 = 0)) ∧ (¬ (ρ 12 ≠ 95)) := ⟨by omega, by omega, by omega⟩
  obtain ⟨-, m1, -, -, -, -, -, -, -, -, m10, -⟩ := hm
  have m1 : γ 0 15 0 34 = ρ 2 := m1
  have m10 : γ 1 15 0 35 = ρ 11 := m10
  obtain ⟨⟨⟨-, c5⟩, c6⟩, c7⟩ := hc
  have c5 : γ 5 = rUp (γ 4) 15 0 35 (ρ 11 + 1) := c5
  have c6 : γ 6 = rUp (γ 5) 15 0 40 2 := c6
  have c7 : γ 7 = rUp (γ 6) 15 0 39 0 := c7
  obtain ⟨l0, l1, l2, l3, -⟩ := hl
  have l0 : sn7 [ρ 1, ρ 2] (γ 0) 0 0 (γ 1) := hS7 _ _ _ _ _ l0
  have l1 : sn6 [ρ 11, ρ 2] (γ 1) 0 (ρ 12) (γ 2) := hS6 _ _ _ _ _ l1
  have l2 : sn10 [ρ 12] (γ 2) 0 0 (γ 3) := hS10 _ _ _ _ _ l2
  have l3 : sn9 [ρ 12] (γ 3) 0 0 (γ 4) := hS9 _ _ _ _ _ l3
  show sn20 [ρ 0, ρ 1, ρ 2, ρ 3, ρ 4, ρ 5, ρ 6, ρ 7, ρ 8, ρ 9, ρ 10] (γ 0) 0 1 (γ 7)
  refine Eq.symm ?_
  show fn20 [ρ 0] (γ 0) = _
  unfold fn20
  refine (zLet_eq (show _ = ρ 0 from rfl)).trans ?_
  refine (zLet_eq m1).trans ?_
  refine (zLet_eq (show fn7 [] (γ 0) = (0, 0, γ 1) from l0.symm)).trans ?_
  refine (zLet_eq (show _ = γ 1 from rfl)).trans ?_
  refine (zLet_eq m10).trans ?_
  refine (zLet_eq (show fn6 [ρ 11] (γ 1) = (0, ρ 12, γ 2) from l1.symm)).trans ?_
  refine (zLet_eq (show _ = γ 2 from rfl)).trans ?_
  refine (if_pos w_0).trans ?_
  refine (zLet_eq (show _ = ρ 12 from rfl)).trans ?_
  refine (zLet_eq (show fn10 [ρ 12] (γ 2) = (0, 0, γ 3) from l2.symm)).trans ?_
  refine (zLet_eq (show _ = γ 3 from rfl)).trans ?_
  refine (if_neg zQ0_).trans ?_
  refine (zLet_eq (show fn9 [ρ 12] (γ 3) = (0, 0, γ 4) from l3.symm)).trans ?_
  refine (zLet_eq (show _ = γ 4 from rfl)).trans ?_
  refine (if_neg zQ0_).trans ?_
  refine (if_neg w_1).trans ?_
  refine (if_neg w_2).trans ?_
  refine (zLet_eq c5.symm).trans ?_
  refine (zLet_eq c6.symm).trans ?_
  refine (zLet_eq c7.symm).trans ?_
  rfl
theorem vn20_11 {S : Nat → zSpc} (hS6 : ∀ x g o v gz, S 6 x g o v gz → sn6 x g o v gz) (hS7 : ∀ x g o v gz, S 7 x g o v gz → sn7 x g o v gz) (hS8 : ∀ x g o v gz, S 8 x g o v gz → sn8 x g o v gz) (hS9 : ∀ x g o v gz, S 9 x g o v gz → sn9 x g o v gz) (hS10 : ∀ x g o v gz, S 10 x g o v gz → sn10 x g o v gz) (hS11 : ∀ x g o v gz, S 11 x g o v gz → sn11 x g o v gz) (hS12 : ∀ x g o v gz, S 12 x g o v gz → sn12 x g o v gz) (hS14 : ∀ x g o v gz, S 14 x g o v gz → sn14 x g o v gz) (hS15 : ∀ x g o v gz, S 15 x g o v gz → sn15 x g o v gz) (hS17 : ∀ x g o v gz, S 17 x g o v gz → sn17 x g o v gz) {a : List Int} {g : rHp} : ∀ (ρ : Nat → Int) (γ : Nat → rHp), zO 11 S a g q20_11 ρ γ → zGl (fun _ _ _ => True) (sn20 a g) q20_11 ρ γ := by
  intro ρ γ h
  obtain ⟨ha, hg, hr, hf, hm, hc, hl⟩ := h
  have ha : a = [ρ 0, ρ 1, ρ 2, ρ 3, ρ 4, ρ 5, ρ 6, ρ 7, ρ 8, ρ 9, ρ 10] := ha
  subst ha
  subst hg
  obtain ⟨f0, -⟩ := hf
  have f0 : (0 : Int) ≤ -ρ 11 + ρ 2 + (-1) := f0
  have w_0 : 0 ≤ -ρ 11 + ρ 2 + (-1) := by omega
  obtain ⟨-, m1, -, -, -, -, -, -, -, -, m10, -⟩ := hm
  have m1 : γ 0 15 0 34 = ρ 2 := m1
  have m10 : γ 1 15 0 35 = ρ 11 := m10
  obtain ⟨l0, l1, l2, l3, l4, -⟩ := hl
  have l0 : sn7 [ρ 1, ρ 2] (γ 0) 0 0 (γ 1) := hS7 _ _ _ _ _ l0
  have l1 : sn6 [ρ 11, ρ 2] (γ 1) 0 (ρ 12) (γ 2) := hS6 _ _ _ _ _ l1
  have l2 : sn10 [ρ 12] (γ 2) 0 0 (γ 3) := hS10 _ _ _ _ _ l2
  have l3 : sn9 [ρ 12] (γ 3) 0 1 (γ 4) := hS9 _ _ _ _ _ l3
  have l4 : sn12 [ρ 11, ρ 2, ρ 8, ρ 7, ρ 9] (γ 4) 0 0 (γ 5) := hS12 _ _ _ _ _ l4
  show sn20 [ρ 0, ρ 1, ρ 2, ρ 3, ρ 4, ρ 5, ρ 6, ρ 7, ρ 8, ρ 9, ρ 10] (γ 0) 0 0 (γ 5)
  refine Eq.symm ?_
  show fn20 [ρ 0] (γ 0) = _
  unfold fn20
  refine (zLet_eq (show _ = ρ 0 from rfl)).trans ?_
  refine (zLet_eq m1).trans ?_
  refine (zLet_eq (show fn7 [] (γ 0) = (0, 0, γ 1) from l0.symm)).trans ?_
  refine (zLet_eq (show _ = γ 1 from rfl)).trans ?_
  refine (zLet_eq m10).trans ?_
  refine (zLet_eq (show fn6 [ρ 11] (γ 1) = (0, ρ 12, γ 2) from l1.symm)).trans ?_
  refine (zLet_eq (show _ = γ 2 from rfl)).trans ?_
  refine (if_pos w_0).trans ?_
  refine (zLet_eq (show _ = ρ 12 from rfl)).trans ?_
  refine (zLet_eq (show fn10 [ρ 12] (γ 2) = (0, 0, γ 3) from l2.symm)).trans ?_
  refine (zLet_eq (show _ = γ 3 from rfl)).trans ?_
  refine (if_neg zQ0_).trans ?_
  refine (zLet_eq (show fn9 [ρ 12] (γ 3) = (0, 1, γ 4) from l3.symm)).trans ?_
  refine (zLet_eq (show _ = γ 4 from rfl)).trans ?_
  refine (if_pos zQ1_).trans ?_
  refine (zLet_eq (show fn12 [] (γ 4) = (0, 0, γ 5) from l4.symm)).trans ?_
  refine (zLet_eq (show _ = γ 5 from rfl)).trans ?_
  refine (if_neg zQ0_).trans ?_
  rfl
theorem vn20_12 {S : Nat → zSpc} (hS6 : ∀ x g o v gz, S 6 x g o v gz → sn6 x g o v gz) (hS7 : ∀ x g o v gz, S 7 x g o v gz → sn7 x g o v gz) (hS8 : ∀ x g o v gz, S 8 x g o v gz → sn8 x g o v gz) (hS9 : ∀ x g o v gz, S 9 x g o v gz → sn9 x g o v gz) (hS10 : ∀ x g o v gz, S 10 x g o v gz → sn10 x g o v gz) (hS11 : ∀ x g o v gz, S 11 x g o v gz → sn11 x g o v gz) (hS12 : ∀ x g o v gz, S 12 x g o v gz → sn12 x g o v gz) (hS14 : ∀ x g o v gz, S 14 x g o v gz → sn14 x g o v gz) (hS15 : ∀ x g o v gz, S 15 x g o v gz → sn15 x g o v gz) (hS17 : ∀ x g o v gz, S 17 x g o v gz → sn17 x g o v gz) {a : List Int} {g : rHp} : ∀ (ρ : Nat → Int) (γ : Nat → rHp), zO 11 S a g q20_12 ρ γ → zGl (fun _ _ _ => True) (sn20 a g) q20_12 ρ γ := by
  intro ρ γ h
  obtain ⟨ha, hg, hr, hf, hm, hc, hl⟩ := h
  have ha : a = [ρ 0, ρ 1, ρ 2, ρ 3, ρ 4, ρ 5, ρ 6, ρ 7, ρ 8, ρ 9, ρ 10] := ha
  subst ha
  subst hg
  obtain ⟨-, -, -, -, -, -, -, f7, -⟩ := hf
  have f7 : (0 : Int) ≤ -ρ 11 + ρ 2 + (-1) := f7
  have w_0 : 0 ≤ -ρ 11 + ρ 2 + (-1) := by omega
  obtain ⟨-, m1, -, -, -, -, -, -, -, -, m10, -⟩ := hm
  have m1 : γ 0 15 0 34 = ρ 2 := m1
  have m10 : γ 1 15 0 35 = ρ 11 := m10
  obtain ⟨⟨-, c7⟩, c8⟩ := hc
  have c7 : γ 7 = rUp (γ 6) 15 0 39 (ρ 15) := c7
  have c8 : γ 8 = rUp (γ 7) 15 0 40 0 := c8
  obtain ⟨l0, l1, l2, l3, l4, l5, -⟩ := hl
  have l0 : sn7 [ρ 1, ρ 2] (γ 0) 0 0 (γ 1) := hS7 _ _ _ _ _ l0
  have l1 : sn6 [ρ 11, ρ 2] (γ 1) 0 (ρ 12) (γ 2) := hS6 _ _ _ _ _ l1
  have l2 : sn10 [ρ 12] (γ 2) 0 0 (γ 3) := hS10 _ _ _ _ _ l2
  have l3 : sn9 [ρ 12] (γ 3) 0 1 (γ 4) := hS9 _ _ _ _ _ l3
  have l4 : sn12 [ρ 11, ρ 2, ρ 8, ρ 7, ρ 9] (γ 4) 0 1 (γ 5) := hS12 _ _ _ _ _ l4
  have l5 : sn15 [ρ 2, ρ 3, ρ 4, ρ 11, ρ 14] (γ 5) 0 (ρ 15) (γ 6) := hS15 _ _ _ _ _ l5
  show sn20 [ρ 0, ρ 1, ρ 2, ρ 3, ρ 4, ρ 5, ρ 6, ρ 7, ρ 8, ρ 9, ρ 10] (γ 0) 0 1 (γ 8)
  refine Eq.symm ?_
  show fn20 [ρ 0] (γ 0) = _
  unfold fn20
  refine (zLet_eq (show _ = ρ 0 from rfl)).trans ?_
  refine (zLet_eq m1).trans ?_
  refine (zLet_eq (show fn7 [] (γ 0) = (0, 0, γ 1) from l0.symm)).trans ?_
  refine (zLet_eq (show _ = γ 1 from rfl)).trans ?_
  refine (zLet_eq m10).trans ?_
  refine (zLet_eq (show fn6 [ρ 11] (γ 1) = (0, ρ 12, γ 2) from l1.symm)).trans ?_
  refine (zLet_eq (show _ = γ 2 from rfl)).trans ?_
  refine (if_pos w_0).trans ?_
  refine (zLet_eq (show _ = ρ 12 from rfl)).trans ?_
  refine (zLet_eq (show fn10 [ρ 12] (γ 2) = (0, 0, γ 3) from l2.symm)).trans ?_
  refine (zLet_eq (show _ = γ 3 from rfl)).trans ?_
  refine (if_neg zQ0_).trans ?_
  refine (zLet_eq (show fn9 [ρ 12] (γ 3) = (0, 1, γ 4) from l3.symm)).trans ?_
  refine (zLet_eq (show _ = γ 4 from rfl)).trans ?_
  refine (if_pos zQ1_).trans ?_
  refine (zLet_eq (show fn12 [] (γ 4) = (0, 1, γ 5) from l4.symm)).trans ?_
  refine (zLet_eq (show _ = γ 5 from rfl)).trans ?_
  refine (if_pos zQ1_).trans ?_
  refine (zLet_eq (show fn15 [] (γ 5) = (0, ρ 15, γ 6) from l5.symm)).trans ?_
  refine (zLet_eq (show _ = γ 6 from rfl)).trans ?_
  refine (zLet_eq (show _ = ρ 15 from rfl)).trans ?_
  refine (zLet_eq c7.symm).trans ?_
  refine (zLet_eq c8.symm).trans ?_
  rfl
theorem vn20_13 {S : Nat → zSpc} (hS6 : ∀ x g o v gz, S 6 x g o v gz → sn6 x g o v gz) (hS7 : ∀ x g o v gz, S 7 x g o v gz → sn7 x g o v gz) (hS8 : ∀ x g o v gz, S 8 x g o v gz → sn8 x g o v gz) (hS9 : ∀ x g o v gz, S 9 x g o v gz → sn9 x g o v gz) (hS10 : ∀ x g o v gz, S 10 x g o v gz → sn10 x g o v gz) (hS11 : ∀ x g o v gz, S 11 x g o v gz → sn11 x g o v gz) (hS12 : ∀ x g o v gz, S 12 x g o v gz → sn12 x g o v gz) (hS14 : ∀ x g o v gz, S 14 x g o v gz → sn14 x g o v gz) (hS15 : ∀ x g o v gz, S 15 x g o v gz → sn15 x g o v gz) (hS17 : ∀ x g o v gz, S 17 x g o v gz → sn17 x g o v gz) {a : List Int} {g : rHp} : ∀ (ρ : Nat → Int) (γ : Nat → rHp), zO 11 S a g q20_13 ρ γ → zGl (fun _ _ _ => True) (sn20 a g) q20_13 ρ γ := by
  intro ρ γ h
  obtain ⟨ha, hg, hr, hf, hm, hc, hl⟩ := h
  have ha : a = [ρ 0, ρ 1, ρ 2, ρ 3, ρ 4, ρ 5, ρ 6, ρ 7, ρ 8, ρ 9, ρ 10] := ha
  subst ha
  subst hg
  obtain ⟨f0, -⟩ := hf
  have f0 : (0 : Int) ≤ -ρ 11 + ρ 2 + (-1) := f0
  have w_0 : 0 ≤ -ρ 11 + ρ 2 + (-1) := by omega
  obtain ⟨-, m1, -, -, -, -, -, -, -, -, m10, -⟩ := hm
  have m1 : γ 0 15 0 34 = ρ 2 := m1
  have m10 : γ 1 15 0 35 = ρ 11 := m10
  obtain ⟨l0, l1, l2, l3, -⟩ := hl
  have l0 : sn7 [ρ 1, ρ 2] (γ 0) 0 0 (γ 1) := hS7 _ _ _ _ _ l0
  have l1 : sn6 [ρ 11, ρ 2] (γ 1) 0 (ρ 12) (γ 2) := hS6 _ _ _ _ _ l1
  have l2 : sn10 [ρ 12] (γ 2) 0 1 (γ 3) := hS10 _ _ _ _ _ l2
  have l3 : sn17 [ρ 11, ρ 2, ρ 5, ρ 6, ρ 7, ρ 8, ρ 9, ρ 10, ρ 13] (γ 3) 0 0 (γ 4) := hS17 _ _ _ _ _ l3
  show sn20 [ρ 0, ρ 1, ρ 2, ρ 3, ρ 4, ρ 5, ρ 6, ρ 7, ρ 8, ρ 9, ρ 10] (γ 0) 0 0 (γ 4)
  refine Eq.symm ?_
  show fn20 [ρ 0] (γ 0) = _
  unfold fn20
  refine (zLet_eq (show _ = ρ 0 from rfl)).trans ?_
  refine (zLet_eq m1).trans ?_
  refine (zLet_eq (show fn7 [] (γ 0) = (0, 0, γ 1) from l0.symm)).trans ?_
  refine (zLet_eq (show _ = γ 1 from rfl)).trans ?_
  refine (zLet_eq m10).trans ?_
  refine (zLet_eq (show fn6 [ρ 11] (γ 1) = (0, ρ 12, γ 2) from l1.symm)).trans ?_
  refine (zLet_eq (show _ = γ 2 from rfl)).trans ?_
  refine (if_pos w_0).trans ?_
  refine (zLet_eq (show _ = ρ 12 from rfl)).trans ?_
  refine (zLet_eq (show fn10 [ρ 12] (γ 2) = (0, 1, γ 3) from l2.symm)).trans ?_
  refine (zLet_eq (show _ = γ 3 from rfl)).trans ?_
  refine (if_pos zQ1_).trans ?_
  refine (zLet_eq (show fn17 [] (γ 3) = (0, 0, γ 4) from l3.symm)).trans ?_
  refine (zLet_eq (show _ = γ 4 from rfl)).trans ?_
  refine (if_neg zQ0_).trans ?_
  rfl
theorem vn20_14 {S : Nat → zSpc} (hS6 : ∀ x g o v gz, S 6 x g o v gz → sn6 x g o v gz) (hS7 : ∀ x g o v gz, S 7 x g o v gz → sn7 x g o v gz) (hS8 : ∀ x g o v gz, S 8 x g o v gz → sn8 x g o v gz) (hS9 : ∀ x g o v gz, S 9 x g o v gz → sn9 x g o v gz) (hS10 : ∀ x g o v gz, S 10 x g o v gz → sn10 x g o v gz) (hS11 : ∀ x g o v gz, S 11 x g o v gz → sn11 x g o v gz) (hS12 : ∀ x g o v gz, S 12 x g o v gz → sn12 x g o v gz) (hS14 : ∀ x g o v gz, S 14 x g o v gz → sn14 x g o v gz) (hS15 : ∀ x g o v gz, S 15 x g o v gz → sn15 x g o v gz) (hS17 : ∀ x g o v gz, S 17 x g o v gz → sn17 x g o v gz) {a : List Int} {g : rHp} : ∀ (ρ : Nat → Int) (γ : Nat → rHp), zO 11 S a g q20_14 ρ γ → zGl (fun _ _ _ => True) (sn20 a g) q20_14 ρ γ := by
  intro ρ γ h
  obtain ⟨ha, hg, hr, hf, hm, hc, hl⟩ := h
  have ha : a = [ρ 0, ρ 1, ρ 2, ρ 3, ρ 4, ρ 5, ρ 6, ρ 7, ρ 8, ρ 9, ρ 10] := ha
  subst ha
  subst hg
  obtain ⟨f0, -⟩ := hf
  have f0 : (0 : Int) ≤ -ρ 11 + ρ 2 + (-1) := f0
  have w_0 : 0 ≤ -ρ 11 + ρ 2 + (-1) := by omega
  obtain ⟨-, m1, -, -, -, -, -, -, -, -, m10, -⟩ := hm
  have m1 : γ 0 15 0 34 = ρ 2 := m1
  have m10 : γ 1 15 0 35 = ρ 11 := m10
  obtain ⟨l0, l1, l2, l3, -⟩ := hl
  have l0 : sn7 [ρ 1, ρ 2] (γ 0) 0 0 (γ 1) := hS7 _ _ _ _ _ l0
  have l1 : sn6 [ρ 11, ρ 2] (γ 1) 0 (ρ 12) (γ 2) := hS6 _ _ _ _ _ l1
  have l2 : sn10 [ρ 12] (γ 2) 0 1 (γ 3) := hS10 _ _ _ _ _ l2
  have l3 : sn17 [ρ 11, ρ 2, ρ 5, ρ 6, ρ 7, ρ 8, ρ 9, ρ 10, ρ 13] (γ 3) 0 1 (γ 4) := hS17 _ _ _ _ _ l3
  show sn20 [ρ 0, ρ 1, ρ 2, ρ 3, ρ 4, ρ 5, ρ 6, ρ 7, ρ 8, ρ 9, ρ 10] (γ 0) 0 1 (γ 4)
  refine Eq.symm ?_
  show fn20 [ρ 0] (γ 0) = _
  unfold fn20
  refine (zLet_eq (show _ = ρ 0 from rfl)).trans ?_
  refine (zLet_eq m1).trans ?_
  refine (zLet_eq (show fn7 [] (γ 0) = (0, 0, γ 1) from l0.symm)).trans ?_
  refine (zLet_eq (show _ = γ 1 from rfl)).trans ?_
  refine (zLet_eq m10).trans ?_
  refine (zLet_eq (show fn6 [ρ 11] (γ 1) = (0, ρ 12, γ 2) from l1.symm)).trans ?_
  refine (zLet_eq (show _ = γ 2 from rfl)).trans ?_
  refine (if_pos w_0).trans ?_
  refine (zLet_eq (show _ = ρ 12 from rfl)).trans ?_
  refine (zLet_eq (show fn10 [ρ 12] (γ 2) = (0, 1, γ 3) from l2.symm)).trans ?_
  refine (zLet_eq (show _ = γ 3 from rfl)).trans ?_
  refine (if_pos zQ1_).trans ?_
  refine (zLet_eq (show fn17 [] (γ 3) = (0, 1, γ 4) from l3.symm)).trans ?_
  refine (zLet_eq (show _ = γ 4 from rfl)).trans ?_
  refine (if_pos zQ1_).trans ?_
  rfl
theorem vn20_15 {S : Nat → zSpc} (hS6 : ∀ x g o v gz, S 6 x g o v gz → sn6 x g o v gz) (hS7 : ∀ x g o v gz, S 7 x g o v gz → sn7 x g o v gz) (hS8 : ∀ x g o v gz, S 8 x g o v gz → sn8 x g o v gz) (hS9 : ∀ x g o v gz, S 9 x g o v gz → sn9 x g o v gz) (hS10 : ∀ x g o v gz, S 10 x g o v gz → sn10 x g o v gz) (hS11 : ∀ x g o v gz, S 11 x g o v gz → sn11 x g o v gz) (hS12 : ∀ x g o v gz, S 12 x g o v gz → sn12 x g o v gz) (hS14 : ∀ x g o v gz, S 14 x g o v gz → sn14 x g o v gz) (hS15 : ∀ x g o v gz, S 15 x g o v gz → sn15 x g o v gz) (hS17 : ∀ x g o v gz, S 17 x g o v gz → sn17 x g o v gz) {a : List Int} {g : rHp} : ∀ (ρ : Nat → Int) (γ : Nat → rHp), zO 11 S a g q20_15 ρ γ → zGl (fun _ _ _ => True) (sn20 a g) q20_15 ρ γ := by
  intro ρ γ h
  obtain ⟨ha, hg, hr, hf, hm, hc, hl⟩ := h
  have ha : a = [ρ 0, ρ 1, ρ 2, ρ 3, ρ 4, ρ 5, ρ 6, ρ 7, ρ 8, ρ 9, ρ 10] := ha
  subst ha
  subst hg
  obtain ⟨-, -, f2, -⟩ := hf
  have f2 : (0 : Int) ≤ ρ 11 + -ρ 2 := f2
  have w_0 : ¬ (0 ≤ -ρ 11 + ρ 2 + (-1)) := by omega
  obtain ⟨-, m1, -, -, -, -, -, -, -, -, m10, -⟩ := hm
  have m1 : γ 0 15 0 34 = ρ 2 := m1
  have m10 : γ 1 15 0 35 = ρ 11 := m10
  obtain ⟨l0, l1, l2, l3, l4, l5, -⟩ := hl
  have l0 : sn7 [ρ 1, ρ 2] (γ 0) 0 0 (γ 1) := hS7 _ _ _ _ _ l0
  have l1 : sn6 [ρ 11, ρ 2] (γ 1) 0 (-1) (γ 2) := hS6 _ _ _ _ _ l1
  have l2 : sn10 [(-1)] (γ 2) 0 0 (γ 3) := hS10 _ _ _ _ _ l2
  have l3 : sn9 [(-1)] (γ 3) 0 0 (γ 4) := hS9 _ _ _ _ _ l3
  have l4 : sn11 [(-1)] (γ 4) 0 0 (γ 5) := hS11 _ _ _ _ _ l4
  have l5 : sn8 [ρ 11, ρ 2, ρ 7] (γ 5) 0 0 (γ 6) := hS8 _ _ _ _ _ l5
  show sn20 [ρ 0, ρ 1, ρ 2, ρ 3, ρ 4, ρ 5, ρ 6, ρ 7, ρ 8, ρ 9, ρ 10] (γ 0) 0 0 (γ 6)
  refine Eq.symm ?_
  show fn20 [ρ 0] (γ 0) = _
  unfold fn20
  refine (zLet_eq (show _ = ρ 0 from rfl)).trans ?_
  refine (zLet_eq m1).trans ?_
  refine (zLet_eq (show fn7 [] (γ 0) = (0, 0, γ 1) from l0.symm)).trans ?_
  refine (zLet_eq (show _ = γ 1 from rfl)).trans ?_
  refine (zLet_eq m10).trans ?_
  refine (zLet_eq (show fn6 [ρ 11] (γ 1) = (0, (-1), γ 2) from l1.symm)).trans ?_
  refine (zLet_eq (show _ = γ 2 from rfl)).trans ?_
  refine (if_neg w_0).trans ?_
  refine (zLet_eq (show fn10 [(-1)] (γ 2) = (0, 0, γ 3) from l2.symm)).trans ?_
  refine (zLet_eq (show _ = γ 3 from rfl)).trans ?_
  refine (zLet_eq (show fn9 [(-1)] (γ 3) = (0, 0, γ 4) from l3.symm)).trans ?_
  refine (zLet_eq (show _ = γ 4 from rfl)).trans ?_
  refine (zLet_eq (show fn11 [(-1)] (γ 4) = (0, 0, γ 5) from l4.symm)).trans ?_
  refine (zLet_eq (show _ = γ 5 from rfl)).trans ?_
  refine (zLet_eq (show fn8 [ρ 11] (γ 5) = (0, 0, γ 6) from l5.symm)).trans ?_
  refine (zLet_eq (show _ = γ 6 from rfl)).trans ?_
  rfl
theorem vn20_16 {S : Nat → zSpc} (hS6 : ∀ x g o v gz, S 6 x g o v gz → sn6 x g o v gz) (hS7 : ∀ x g o v gz, S 7 x g o v gz → sn7 x g o v gz) (hS8 : ∀ x g o v gz, S 8 x g o v gz → sn8 x g o v gz) (hS9 : ∀ x g o v gz, S 9 x g o v gz → sn9 x g o v gz) (hS10 : ∀ x g o v gz, S 10 x g o v gz → sn10 x g o v gz) (hS11 : ∀ x g o v gz, S 11 x g o v gz → sn11 x g o v gz) (hS12 : ∀ x g o v gz, S 12 x g o v gz → sn12 x g o v gz) (hS14 : ∀ x g o v gz, S 14 x g o v gz → sn14 x g o v gz) (hS15 : ∀ x g o v gz, S 15 x g o v gz → sn15 x g o v gz) (hS17 : ∀ x g o v gz, S 17 x g o v gz → sn17 x g o v gz) {a : List Int} {g : rHp} : ∀ (ρ : Nat → Int) (γ : Nat → rHp), zO 11 S a g q20_16 ρ γ → zGl (fun _ _ _ => True) (sn20 a g) q20_16 ρ γ := by
  intro ρ γ h
  obtain ⟨ha, hg, hr, hf, hm, hc, hl⟩ := h
  have ha : a = [ρ 0, ρ 1, ρ 2, ρ 3, ρ 4, ρ 5, ρ 6, ρ 7, ρ 8, ρ 9, ρ 10] := ha
  subst ha
  subst hg
  obtain ⟨-, -, f2, -⟩ := hf
  have f2 : (0 : Int) ≤ ρ 11 + -ρ 2 := f2
  have w_0 : ¬ (0 ≤ -ρ 11 + ρ 2 + (-1)) := by omega
  obtain ⟨-, m1, -, -, -, -, -, -, -, -, m10, -⟩ := hm
  have m1 : γ 0 15 0 34 = ρ 2 := m1
  have m10 : γ 1 15 0 35 = ρ 11 := m10
  obtain ⟨l0, l1, l2, l3, l4, l5, -⟩ := hl
  have l0 : sn7 [ρ 1, ρ 2] (γ 0) 0 0 (γ 1) := hS7 _ _ _ _ _ l0
  have l1 : sn6 [ρ 11, ρ 2] (γ 1) 0 (-1) (γ 2) := hS6 _ _ _ _ _ l1
  have l2 : sn10 [(-1)] (γ 2) 0 0 (γ 3) := hS10 _ _ _ _ _ l2
  have l3 : sn9 [(-1)] (γ 3) 0 0 (γ 4) := hS9 _ _ _ _ _ l3
  have l4 : sn11 [(-1)] (γ 4) 0 0 (γ 5) := hS11 _ _ _ _ _ l4
  have l5 : sn8 [ρ 11, ρ 2, ρ 7] (γ 5) 0 0 (γ 6) := hS8 _ _ _ _ _ l5
  show sn20 [ρ 0, ρ 1, ρ 2, ρ 3, ρ 4, ρ 5, ρ 6, ρ 7, ρ 8, ρ 9, ρ 10] (γ 0) 0 0 (γ 6)
  refine Eq.symm ?_
  show fn20 [ρ 0] (γ 0) = _
  unfold fn20
  refine (zLet_eq (show _ = ρ 0 from rfl)).trans ?_
  refine (zLet_eq m1).trans ?_
  refine (zLet_eq (show fn7 [] (γ 0) = (0, 0, γ 1) from l0.symm)).trans ?_
  refine (zLet_eq (show _ = γ 1 from rfl)).trans ?_
  refine (zLet_eq m10).trans ?_
  refine (zLet_eq (show fn6 [ρ 11] (γ 1) = (0, (-1), γ 2) from l1.symm)).trans ?_
  refine (zLet_eq (show _ = γ 2 from rfl)).trans ?_
  refine (if_neg w_0).trans ?_
  refine (zLet_eq (show fn10 [(-1)] (γ 2) = (0, 0, γ 3) from l2.symm)).trans ?_
  refine (zLet_eq (show _ = γ 3 from rfl)).trans ?_
  refine (zLet_eq (show fn9 [(-1)] (γ 3) = (0, 0, γ 4) from l3.symm)).trans ?_
  refine (zLet_eq (show _ = γ 4 from rfl)).trans ?_
  refine (zLet_eq (show fn11 [(-1)] (γ 4) = (0, 0, γ 5) from l4.symm)).trans ?_
  refine (zLet_eq (show _ = γ 5 from rfl)).trans ?_
  refine (zLet_eq (show fn8 [ρ 11] (γ 5) = (0, 0, γ 6) from l5.symm)).trans ?_
  refine (zLet_eq (show _ = γ 6 from rfl)).trans ?_
  rfl
theorem yn20 {S : Nat → zSpc} (hS6 : ∀ x g o v gz, S 6 x g o v gz → sn6 x g o v gz) (hS7 : ∀ x g o v gz, S 7 x g o v gz → sn7 x g o v gz) (hS8 : ∀ x g o v gz, S 8 x g o v gz → sn8 x g o v gz) (hS9 : ∀ x g o v gz, S 9 x g o v gz → sn9 x g o v gz) (hS10 : ∀ x g o v gz, S 10 x g o v gz → sn10 x g o v gz) (hS11 : ∀ x g o v gz, S 11 x g o v gz → sn11 x g o v gz) (hS12 : ∀ x g o v gz, S 12 x g o v gz → sn12 x g o v gz) (hS14 : ∀ x g o v gz, S 14 x g o v gz → sn14 x g o v gz) (hS15 : ∀ x g o v gz, S 15 x g o v gz → sn15 x g o v gz) (hS17 : ∀ x g o v gz, S 17 x g o v gz → sn17 x g o v gz) : ∀ x g o v gz, zSem uW uT w20_.2.2.2.1 w20_.2.2.1.1.length S q20 (fun i => q20a.getD i []) (zNA a20_) x g o v gz → sn20 x g o v gz := by
  intro a g o v gz h
  exact zSem_all (l0 := q20) (las := q20a) (S := S) (J := (fun _ _ _ => True)) (P := sn20 a g) (fun _ => (show zAll _ [q20_0, q20_1, q20_2, q20_3, q20_4, q20_5, q20_6, q20_7, q20_8, q20_9, q20_10, q20_11, q20_12, q20_13, q20_14, q20_15, q20_16] from (zAll_c (vn20_0 hS6 hS7 hS8 hS9 hS10 hS11 hS12 hS14 hS15 hS17) (zAll_c (vn20_1 hS6 hS7 hS8 hS9 hS10 hS11 hS12 hS14 hS15 hS17) (zAll_c (vn20_2 hS6 hS7 hS8 hS9 hS10 hS11 hS12 hS14 hS15 hS17) (zAll_c (vn20_3 hS6 hS7 hS8 hS9 hS10 hS11 hS12 hS14 hS15 hS17) (zAll_c (vn20_4 hS6 hS7 hS8 hS9 hS10 hS11 hS12 hS14 hS15 hS17) (zAll_c (vn20_5 hS6 hS7 hS8 hS9 hS10 hS11 hS12 hS14 hS15 hS17) (zAll_c (vn20_6 hS6 hS7 hS8 hS9 hS10 hS11 hS12 hS14 hS15 hS17) (zAll_c (vn20_7 hS6 hS7 hS8 hS9 hS10 hS11 hS12 hS14 hS15 hS17) (zAll_c (vn20_8 hS6 hS7 hS8 hS9 hS10 hS11 hS12 hS14 hS15 hS17) (zAll_c (vn20_9 hS6 hS7 hS8 hS9 hS10 hS11 hS12 hS14 hS15 hS17) (zAll_c (vn20_10 hS6 hS7 hS8 hS9 hS10 hS11 hS12 hS14 hS15 hS17) (zAll_c (vn20_11 hS6 hS7 hS8 hS9 hS10 hS11 hS12 hS14 hS15 hS17) (zAll_c (vn20_12 hS6 hS7 hS8 hS9 hS10 hS11 hS12 hS14 hS15 hS17) (zAll_c (vn20_13 hS6 hS7 hS8 hS9 hS10 hS11 hS12 hS14 hS15 hS17) (zAll_c (vn20_14 hS6 hS7 hS8 hS9 hS10 hS11 hS12 hS14 hS15 hS17) (zAll_c (vn20_15 hS6 hS7 hS8 hS9 hS10 hS11 hS12 hS14 hS15 hS17) (zAll_c (vn20_16 hS6 hS7 hS8 hS9 hS10 hS11 hS12 hS14 hS15 hS17) zAll_n))))))))))))))))))) (fun _ => (show zAllI _ 0 [] from trivial)) h
theorem vn21_0 {S : Nat → zSpc}  {a : List Int} {g : rHp} : ∀ (ρ : Nat → Int) (γ : Nat → rHp), zO 4 S a g q21_0 ρ γ → zGl (fun i vs g1 => jn21 a g i vs g1) (sn21 a g) q21_0 ρ γ := by
  intro ρ γ h
  obtain ⟨ha, hg, hr, hf, hm, hc, hl⟩ := h
  have ha : a = [ρ 0, ρ 1, ρ 2, ρ 3] := ha
  subst ha
  subst hg
  show jn21 [ρ 0, ρ 1, ρ 2, ρ 3] (γ 0) 0 [ρ 0, ρ 1, ρ 2, ρ 3, 0] (γ 0)
  have hD : dn21 [ρ 0, ρ 1, ρ 2] (γ 0) = .inl (0, [ρ 0, ρ 1, ρ 2, 0], γ 0) := by
    unfold dn21
    refine (zLet_eq (show _ = ρ 0 from rfl)).trans ?_
    refine (zLet_eq (show _ = ρ 1 from rfl)).trans ?_
    refine (zLet_eq (show _ = ρ 2 from rfl)).trans ?_
    rfl
  exact zGoo_to hD
theorem vn21a0_0 {S : Nat → zSpc}  {a : List Int} {g : rHp} : ∀ (ρ : Nat → Int) (γ : Nat → rHp), jn21 a g 0 (zAg (zNA a21_ 0) ρ) (γ 1) → zO 4 S a g q21a0_0 ρ γ → zGl (fun i vs g1 => jn21 a g i vs g1) (sn21 a g) q21a0_0 ρ γ := by
  intro ρ γ hJ h
  obtain ⟨ha, hg, hr, hf, hm, hc, hl⟩ := h
  have ha : a = [ρ 0, ρ 1, ρ 2, ρ 3] := ha
  subst ha
  subst hg
  have hJ : jn21 [ρ 0, ρ 1, ρ 2, ρ 3] (γ 0) 0 [ρ 0, ρ 1, ρ 2, ρ 3, ρ 4] (γ 1) := hJ
  obtain ⟨f0, -⟩ := hf
  have f0 : (0 : Int) ≤ ρ 4 + -ρ 3 := f0
  have w_0 : ρ 4 ≥ ρ 3 := by omega
  obtain ⟨m0, -⟩ := hm
  have m0 : γ 0 15 0 14 = ρ 3 := m0
  show sn21 [ρ 0, ρ 1, ρ 2, ρ 3] (γ 0) 0 (-1) (γ 1)
  have hD : en21 (γ 0) (0, [ρ 0, ρ 1, ρ 2, ρ 4], γ 1) = .inr (0, (-1), γ 1) := by
    unfold en21
    refine (if_pos (show (0 : Nat) = 0 by decide)).trans ?_
    refine (zLet_eq (show _ = γ 1 from rfl)).trans ?_
    refine (zLet_eq (show _ = ρ 0 from rfl)).trans ?_
    refine (zLet_eq (show _ = ρ 1 from rfl)).trans ?_
    refine (zLet_eq (show _ = ρ 2 from rfl)).trans ?_
    refine (zLet_eq (show _ = ρ 4 from rfl)).trans ?_
    refine (zLet_eq m0).trans ?_
    refine (if_pos w_0).trans ?_
    rfl
  exact zGoo_aend hJ hD
theorem vn21a0_1 {S : Nat → zSpc}  {a : List Int} {g : rHp} : ∀ (ρ : Nat → Int) (γ : Nat → rHp), jn21 a g 0 (zAg (zNA a21_ 0) ρ) (γ 1) → zO 4 S a g q21a0_1 ρ γ → zGl (fun i vs g1 => jn21 a g i vs g1) (sn21 a g) q21a0_1 ρ γ := by
  intro ρ γ hJ h
  obtain ⟨ha, hg, hr, hf, hm, hc, hl⟩ := h
  have ha : a = [ρ 0, ρ 1, ρ 2, ρ 3] := ha
  subst ha
  subst hg
  have hJ : jn21 [ρ 0, ρ 1, ρ 2, ρ 3] (γ 0) 0 [ρ 0, ρ 1, ρ 2, ρ 3, ρ 4] (γ 1) := hJ
  obtain ⟨-, -, r2, -, -, r5, -⟩ := hr
  have r2 : (0 : Int) ≤ ρ 2 ∧ ρ 2 ≤ 4 := r2
  have r5 : (0 : Int) ≤ ρ 5 ∧ ρ 5 ≤ 4 := r5
  obtain ⟨f0, -⟩ := hf
  have f0 : (0 : Int) ≤ -ρ 4 + ρ 3 + (-1) := f0
  have w_0 : ¬ (ρ 4 ≥ ρ 3) := by omega
  obtain ⟨m0, m1, -⟩ := hm
  have m0 : γ 0 15 0 14 = ρ 3 := m0
  have m1 : γ 0 66 0 (ρ 4) = ρ 5 := m1
  obtain ⟨l0, -⟩ := hl
  have l0 : ρ 5 ≠ ρ 2 := l0
  have wl_0 : ρ 5 ≠ ρ 2 := by omega
  show jn21 [ρ 0, ρ 1, ρ 2, ρ 3] (γ 0) 1 [ρ 0, ρ 1, ρ 2, ρ 3, 0, 0, ρ 4] (γ 1)
  have hD : en21 (γ 0) (0, [ρ 0, ρ 1, ρ 2, ρ 4], γ 1) = .inl (1, [ρ 0, ρ 1, ρ 2, 0, 0, ρ 4], γ 1) := by
    unfold en21
    refine (if_pos (show (0 : Nat) = 0 by decide)).trans ?_
    refine (zLet_eq (show _ = γ 1 from rfl)).trans ?_
    refine (zLet_eq (show _ = ρ 0 from rfl)).trans ?_
    refine (zLet_eq (show _ = ρ 1 from rfl)).trans ?_
    refine (zLet_eq (show _ = ρ 2 from rfl)).trans ?_
    refine (zLet_eq (show _ = ρ 4 from rfl)).trans ?_
    refine (zLet_eq m0).trans ?_
    refine (if_neg w_0).trans ?_
    refine (zLet_eq m1).trans ?_
    refine (if_pos wl_0).trans ?_
    rfl
  exact zGoo_ato hJ hD
theorem vn21a0_2 {S : Nat → zSpc}  {a : List Int} {g : rHp} : ∀ (ρ : Nat → Int) (γ : Nat → rHp), jn21 a g 0 (zAg (zNA a21_ 0) ρ) (γ 1) → zO 4 S a g q21a0_2 ρ γ → zGl (fun i vs g1 => jn21 a g i vs g1) (sn21 a g) q21a0_2 ρ γ := by
  intro ρ γ hJ h
  obtain ⟨ha, hg, hr, hf, hm, hc, hl⟩ := h
  have ha : a = [ρ 0, ρ 1, ρ 2, ρ 3] := ha
  subst ha
  subst hg
  have hJ : jn21 [ρ 0, ρ 1, ρ 2, ρ 3] (γ 0) 0 [ρ 0, ρ 1, ρ 2, ρ 3, ρ 4] (γ 1) := hJ
  obtain ⟨r0, r1, -, -, -, -, r6, -⟩ := hr
  have r0 : (0 : Int) ≤ ρ 0 ∧ ρ 0 ≤ 2000 := r0
  have r1 : (0 : Int) ≤ ρ 1 ∧ ρ 1 ≤ 12 := r1
  have r6 : (0 : Int) ≤ ρ 6 ∧ ρ 6 ≤ 12 := r6
  obtain ⟨f0, f1, f2, -, f4, -⟩ := hf
  have f0 : (0 : Int) ≤ -ρ 5 + ρ 2 := f0
  have f1 : (0 : Int) ≤ ρ 5 + -ρ 2 := f1
  have f2 : (0 : Int) ≤ -ρ 4 + ρ 3 + (-1) := f2
  have f4 : (0 : Int) ≤ -ρ 1 + -ρ 0 + 2000 := f4
  obtain ⟨w_0, w_1⟩ : (¬ (ρ 4 ≥ ρ 3)) ∧ (¬ (ρ 5 ≠ ρ 2)) := ⟨by omega, by omega⟩
  obtain ⟨m0, m1, m2, -⟩ := hm
  have m0 : γ 0 15 0 14 = ρ 3 := m0
  have m1 : γ 0 66 0 (ρ 4) = ρ 5 := m1
  have m2 : γ 0 65 0 (ρ 4) = ρ 6 := m2
  obtain ⟨l0, -⟩ := hl
  have l0 : ρ 6 ≠ ρ 1 := l0
  have wl_0 : ρ 6 ≠ ρ 1 := by omega
  show jn21 [ρ 0, ρ 1, ρ 2, ρ 3] (γ 0) 1 [ρ 0, ρ 1, ρ 2, ρ 3, 0, 0, ρ 4] (γ 1)
  have hD : en21 (γ 0) (0, [ρ 0, ρ 1, ρ 2, ρ 4], γ 1) = .inl (1, [ρ 0, ρ 1, ρ 2, 0, 0, ρ 4], γ 1) := by
    unfold en21
    refine (if_pos (show (0 : Nat) = 0 by decide)).trans ?_
    refine (zLet_eq (show _ = γ 1 from rfl)).trans ?_
    refine (zLet_eq (show _ = ρ 0 from rfl)).trans ?_
    refine (zLet_eq (show _ = ρ 1 from rfl)).trans ?_
    refine (zLet_eq (show _ = ρ 2 from rfl)).trans ?_
    refine (zLet_eq (show _ = ρ 4 from rfl)).trans ?_
    refine (zLet_eq m0).trans ?_
    refine (if_neg w_0).trans ?_
    refine (zLet_eq m1).trans ?_
    refine (if_neg w_1).trans ?_
    refine (zLet_eq m2).trans ?_
    refine (if_pos wl_0).trans ?_
    rfl
  exact zGoo_ato hJ hD
theorem vn21a0_3 {S : Nat → zSpc}  {a : List Int} {g : rHp} : ∀ (ρ : Nat → Int) (γ : Nat → rHp), jn21 a g 0 (zAg (zNA a21_ 0) ρ) (γ 1) → zO 4 S a g q21a0_3 ρ γ → zGl (fun i vs g1 => jn21 a g i vs g1) (sn21 a g) q21a0_3 ρ γ := by
  intro ρ γ hJ h
  obtain ⟨ha, hg, hr, hf, hm, hc, hl⟩ := h
  have ha : a = [ρ 0, ρ 1, ρ 2, ρ 3] := ha
  subst ha
  subst hg
  have hJ : jn21 [ρ 0, ρ 1, ρ 2, ρ 3] (γ 0) 0 [ρ 0, ρ 1, ρ 2, ρ 3, ρ 4] (γ 1) := hJ
  obtain ⟨f0, f1, f2, f3, f4, -⟩ := hf
  have f0 : (0 : Int) ≤ -ρ 6 + ρ 1 := f0
  have f1 : (0 : Int) ≤ ρ 6 + -ρ 1 := f1
  have f2 : (0 : Int) ≤ -ρ 5 + ρ 2 := f2
  have f3 : (0 : Int) ≤ ρ 5 + -ρ 2 := f3
  have f4 : (0 : Int) ≤ -ρ 4 + ρ 3 + (-1) := f4
  obtain ⟨w_0, w_1, w_2⟩ : (¬ (ρ 4 ≥ ρ 3)) ∧ (¬ (ρ 5 ≠ ρ 2)) ∧ (¬ (ρ 6 ≠ ρ 1)) := ⟨by omega, by omega, by omega⟩
  obtain ⟨m0, m1, m2, -⟩ := hm
  have m0 : γ 0 15 0 14 = ρ 3 := m0
  have m1 : γ 0 66 0 (ρ 4) = ρ 5 := m1
  have m2 : γ 0 65 0 (ρ 4) = ρ 6 := m2
  show jn21 [ρ 0, ρ 1, ρ 2, ρ 3] (γ 0) 1 [ρ 0, ρ 1, ρ 2, ρ 3, 0, 1, ρ 4] (γ 1)
  have hD : en21 (γ 0) (0, [ρ 0, ρ 1, ρ 2, ρ 4], γ 1) = .inl (1, [ρ 0, ρ 1, ρ 2, 0, 1, ρ 4], γ 1) := by
    unfold en21
    refine (if_pos (show (0 : Nat) = 0 by decide)).trans ?_
    refine (zLet_eq (show _ = γ 1 from rfl)).trans ?_
    refine (zLet_eq (show _ = ρ 0 from rfl)).trans ?_
    refine (zLet_eq (show _ = ρ 1 from rfl)).trans ?_
    refine (zLet_eq (show _ = ρ 2 from rfl)).trans ?_
    refine (zLet_eq (show _ = ρ 4 from rfl)).trans ?_
    refine (zLet_eq m0).trans ?_
    refine (if_neg w_0).trans ?_
    refine (zLet_eq m1).trans ?_
    refine (if_neg w_1).trans ?_
    refine (zLet_eq m2).trans ?_
    refine (if_neg w_2).trans ?_
    rfl
  exact zGoo_ato hJ hD
theorem vn21a1_0 {S : Nat → zSpc}  {a : List Int} {g : rHp} : ∀ (ρ : Nat → Int) (γ : Nat → rHp), jn21 a g 1 (zAg (zNA a21_ 1) ρ) (γ 1) → zO 4 S a g q21a1_0 ρ γ → zGl (fun i vs g1 => jn21 a g i vs g1) (sn21 a g) q21a1_0 ρ γ := by
  intro ρ γ hJ h
  obtain ⟨ha, hg, hr, hf, hm, hc, hl⟩ := h
  have ha : a = [ρ 0, ρ 1, ρ 2, ρ 3] := ha
  subst ha
  subst hg
  have hJ : jn21 [ρ 0, ρ 1, ρ 2, ρ 3] (γ 0) 1 [ρ 0, ρ 1, ρ 2, ρ 3, ρ 4, ρ 5, ρ 6] (γ 1) := hJ
  obtain ⟨-, -, -, -, -, r5, -⟩ := hr
  have r5 : (0 : Int) ≤ ρ 5 ∧ ρ 5 ≤ 0 := r5
  obtain ⟨f0, -⟩ := hf
  have f0 : (0 : Int) ≤ ρ 4 + -ρ 1 := f0
  obtain ⟨w_0, w_1⟩ : (ρ 4 ≥ ρ 1) ∧ (ρ 5 = 0) := ⟨by omega, by omega⟩
  show jn21 [ρ 0, ρ 1, ρ 2, ρ 3] (γ 0) 0 [ρ 0, ρ 1, ρ 2, ρ 3, ρ 6 + 1] (γ 1)
  have hD : en21 (γ 0) (1, [ρ 0, ρ 1, ρ 2, ρ 4, ρ 5, ρ 6], γ 1) = .inl (0, [ρ 0, ρ 1, ρ 2, ρ 6 + 1], γ 1) := by
    unfold en21
    refine (if_neg (show ¬ (1 : Nat) = 0 by decide)).trans ?_
    refine (if_pos (show (1 : Nat) = 1 by decide)).trans ?_
    refine (zLet_eq (show _ = γ 1 from rfl)).trans ?_
    refine (zLet_eq (show _ = ρ 0 from rfl)).trans ?_
    refine (zLet_eq (show _ = ρ 1 from rfl)).trans ?_
    refine (zLet_eq (show _ = ρ 2 from rfl)).trans ?_
    refine (zLet_eq (show _ = ρ 4 from rfl)).trans ?_
    refine (zLet_eq (show _ = ρ 5 from rfl)).trans ?_
    refine (zLet_eq (show _ = ρ 6 from rfl)).trans ?_
    refine (if_pos w_0).trans ?_
    refine (if_pos w_1).trans ?_
    rfl
  exact zGoo_ato hJ hD
theorem vn21a1_1 {S : Nat → zSpc}  {a : List Int} {g : rHp} : ∀ (ρ : Nat → Int) (γ : Nat → rHp), jn21 a g 1 (zAg (zNA a21_ 1) ρ) (γ 1) → zO 4 S a g q21a1_1 ρ γ → zGl (fun i vs g1 => jn21 a g i vs g1) (sn21 a g) q21a1_1 ρ γ := by
  intro ρ γ hJ h
  obtain ⟨ha, hg, hr, hf, hm, hc, hl⟩ := h
  have ha : a = [ρ 0, ρ 1, ρ 2, ρ 3] := ha
  subst ha
  subst hg
  have hJ : jn21 [ρ 0, ρ 1, ρ 2, ρ 3] (γ 0) 1 [ρ 0, ρ 1, ρ 2, ρ 3, ρ 4, ρ 5, ρ 6] (γ 1) := hJ
  obtain ⟨-, -, -, -, -, r5, -⟩ := hr
  have r5 : (1 : Int) ≤ ρ 5 ∧ ρ 5 ≤ 1 := r5
  obtain ⟨f0, -⟩ := hf
  have f0 : (0 : Int) ≤ ρ 4 + -ρ 1 := f0
  obtain ⟨w_0, w_1⟩ : (ρ 4 ≥ ρ 1) ∧ (¬ (ρ 5 = 0)) := ⟨by omega, by omega⟩
  show sn21 [ρ 0, ρ 1, ρ 2, ρ 3] (γ 0) 0 (ρ 6) (γ 1)
  have hD : en21 (γ 0) (1, [ρ 0, ρ 1, ρ 2, ρ 4, ρ 5, ρ 6], γ 1) = .inr (0, ρ 6, γ 1) := by
    unfold en21
    refine (if_neg (show ¬ (1 : Nat) = 0 by decide)).trans ?_
    refine (if_pos (show (1 : Nat) = 1 by decide)).trans ?_
    refine (zLet_eq (show _ = γ 1 from rfl)).trans ?_
    refine (zLet_eq (show _ = ρ 0 from rfl)).trans ?_
    refine (zLet_eq (show _ = ρ 1 from rfl)).trans ?_
    refine (zLet_eq (show _ = ρ 2 from rfl)).trans ?_
    refine (zLet_eq (show _ = ρ 4 from rfl)).trans ?_
    refine (zLet_eq (show _ = ρ 5 from rfl)).trans ?_
    refine (zLet_eq (show _ = ρ 6 from rfl)).trans ?_
    refine (if_pos w_0).trans ?_
    refine (if_neg w_1).trans ?_
    rfl
  exact zGoo_aend hJ hD
theorem vn21a1_2 {S : Nat → zSpc}  {a : List Int} {g : rHp} : ∀ (ρ : Nat → Int) (γ : Nat → rHp), jn21 a g 1 (zAg (zNA a21_ 1) ρ) (γ 1) → zO 4 S a g q21a1_2 ρ γ → zGl (fun i vs g1 => jn21 a g i vs g1) (sn21 a g) q21a1_2 ρ γ := by
  intro ρ γ hJ h
  obtain ⟨ha, hg, hr, hf, hm, hc, hl⟩ := h
  have ha : a = [ρ 0, ρ 1, ρ 2, ρ 3] := ha
  subst ha
  subst hg
  have hJ : jn21 [ρ 0, ρ 1, ρ 2, ρ 3] (γ 0) 1 [ρ 0, ρ 1, ρ 2, ρ 3, ρ 4, ρ 5, ρ 6] (γ 1) := hJ
  obtain ⟨-, -, -, -, -, r5, -⟩ := hr
  have r5 : (0 : Int) ≤ ρ 5 ∧ ρ 5 ≤ 0 := r5
  obtain ⟨f0, -⟩ := hf
  have f0 : (0 : Int) ≤ -ρ 4 + ρ 1 + (-1) := f0
  obtain ⟨w_0, w_1⟩ : (¬ (ρ 4 ≥ ρ 1)) ∧ (ρ 5 = 0) := ⟨by omega, by omega⟩
  show jn21 [ρ 0, ρ 1, ρ 2, ρ 3] (γ 0) 0 [ρ 0, ρ 1, ρ 2, ρ 3, ρ 6 + 1] (γ 1)
  have hD : en21 (γ 0) (1, [ρ 0, ρ 1, ρ 2, ρ 4, ρ 5, ρ 6], γ 1) = .inl (0, [ρ 0, ρ 1, ρ 2, ρ 6 + 1], γ 1) := by
    unfold en21
    refine (if_neg (show ¬ (1 : Nat) = 0 by decide)).trans ?_
    refine (if_pos (show (1 : Nat) = 1 by decide)).trans ?_
    refine (zLet_eq (show _ = γ 1 from rfl)).trans ?_
    refine (zLet_eq (show _ = ρ 0 from rfl)).trans ?_
    refine (zLet_eq (show _ = ρ 1 from rfl)).trans ?_
    refine (zLet_eq (show _ = ρ 2 from rfl)).trans ?_
    refine (zLet_eq (show _ = ρ 4 from rfl)).trans ?_
    refine (zLet_eq (show _ = ρ 5 from rfl)).trans ?_
    refine (zLet_eq (show _ = ρ 6 from rfl)).trans ?_
    refine (if_neg w_0).trans ?_
    refine (if_pos w_1).trans ?_
    rfl
  exact zGoo_ato hJ hD
theorem vn21a1_3 {S : Nat → zSpc}  {a : List Int} {g : rHp} : ∀ (ρ : Nat → Int) (γ : Nat → rHp), jn21 a g 1 (zAg (zNA a21_ 1) ρ) (γ 1) → zO 4 S a g q21a1_3 ρ γ → zGl (fun i vs g1 => jn21 a g i vs g1) (sn21 a g) q21a1_3 ρ γ := by
  intro ρ γ hJ h
  obtain ⟨ha, hg, hr, hf, hm, hc, hl⟩ := h
  have ha : a = [ρ 0, ρ 1, ρ 2, ρ 3] := ha
  subst ha
  subst hg
  have hJ : jn21 [ρ 0, ρ 1, ρ 2, ρ 3] (γ 0) 1 [ρ 0, ρ 1, ρ 2, ρ 3, ρ 4, ρ 5, ρ 6] (γ 1) := hJ
  obtain ⟨-, -, -, -, -, r5, -, r7, r8, -⟩ := hr
  have r5 : (1 : Int) ≤ ρ 5 ∧ ρ 5 ≤ 1 := r5
  have r7 : ((-128) : Int) ≤ ρ 7 ∧ ρ 7 ≤ 127 := r7
  have r8 : ((-128) : Int) ≤ ρ 8 ∧ ρ 8 ≤ 127 := r8
  obtain ⟨f0, -⟩ := hf
  have f0 : (0 : Int) ≤ -ρ 4 + ρ 1 + (-1) := f0
  obtain ⟨w_0, w_1⟩ : (¬ (ρ 4 ≥ ρ 1)) ∧ (¬ (ρ 5 = 0)) := ⟨by omega, by omega⟩
  obtain ⟨-, m1, m2, -⟩ := hm
  have m1 : γ 0 64 0 (12 * ρ 6 + ρ 4) = ρ 7 := m1
  have m2 : γ 0 59 0 (ρ 4 + ρ 0) = ρ 8 := m2
  obtain ⟨l0, -⟩ := hl
  have l0 : ρ 7 ≠ ρ 8 := l0
  have wl_0 : ρ 7 ≠ ρ 8 := by omega
  show jn21 [ρ 0, ρ 1, ρ 2, ρ 3] (γ 0) 1 [ρ 0, ρ 1, ρ 2, ρ 3, ρ 4 + 1, 0, ρ 6] (γ 1)
  have hD : en21 (γ 0) (1, [ρ 0, ρ 1, ρ 2, ρ 4, ρ 5, ρ 6], γ 1) = .inl (1, [ρ 0, ρ 1, ρ 2, ρ 4 + 1, 0, ρ 6], γ 1) := by
    unfold en21
    refine (if_neg (show ¬ (1 : Nat) = 0 by decide)).trans ?_
    refine (if_pos (show (1 : Nat) = 1 by decide)).trans ?_
    refine (zLet_eq (show _ = γ 1 from rfl)).trans ?_
    refine (zLet_eq (show _ = ρ 0 from rfl)).trans ?_
    refine (zLet_eq (show _ = ρ 1 from rfl)).trans ?_
    refine (zLet_eq (show _ = ρ 2 from rfl)).trans ?_
    refine (zLet_eq (show _ = ρ 4 from rfl)).trans ?_
    refine (zLet_eq (show _ = ρ 5 from rfl)).trans ?_
    refine (zLet_eq (show _ = ρ 6 from rfl)).trans ?_
    refine (if_neg w_0).trans ?_
    refine (if_neg w_1).trans ?_
    refine (zLet_eq m1).trans ?_
    refine (zLet_eq m2).trans ?_
    refine (if_pos wl_0).trans ?_
    rfl
  exact zGoo_ato hJ hD
theorem vn21a1_4 {S : Nat → zSpc}  {a : List Int} {g : rHp} : ∀ (ρ : Nat → Int) (γ : Nat → rHp), jn21 a g 1 (zAg (zNA a21_ 1) ρ) (γ 1) → zO 4 S a g q21a1_4 ρ γ → zGl (fun i vs g1 => jn21 a g i vs g1) (sn21 a g) q21a1_4 ρ γ := by
  intro ρ γ hJ h
  obtain ⟨ha, hg, hr, hf, hm, hc, hl⟩ := h
  have ha : a = [ρ 0, ρ 1, ρ 2, ρ 3] := ha
  subst ha
  subst hg
  have hJ : jn21 [ρ 0, ρ 1, ρ 2, ρ 3] (γ 0) 1 [ρ 0, ρ 1, ρ 2, ρ 3, ρ 4, ρ 5, ρ 6] (γ 1) := hJ
  obtain ⟨-, -, -, -, -, r5, -⟩ := hr
  have r5 : (1 : Int) ≤ ρ 5 ∧ ρ 5 ≤ 1 := r5
  obtain ⟨f0, f1, f2, -⟩ := hf
  have f0 : (0 : Int) ≤ ρ 8 + -ρ 7 := f0
  have f1 : (0 : Int) ≤ -ρ 8 + ρ 7 := f1
  have f2 : (0 : Int) ≤ -ρ 4 + ρ 1 + (-1) := f2
  obtain ⟨w_0, w_1, w_2⟩ : (¬ (ρ 4 ≥ ρ 1)) ∧ (¬ (ρ 5 = 0)) ∧ (¬ (ρ 7 ≠ ρ 8)) := ⟨by omega, by omega, by omega⟩
  obtain ⟨-, m1, m2, -⟩ := hm
  have m1 : γ 0 64 0 (12 * ρ 6 + ρ 4) = ρ 7 := m1
  have m2 : γ 0 59 0 (ρ 4 + ρ 0) = ρ 8 := m2
  show jn21 [ρ 0, ρ 1, ρ 2, ρ 3] (γ 0) 1 [ρ 0, ρ 1, ρ 2, ρ 3, ρ 4 + 1, 1, ρ 6] (γ 1)
  have hD : en21 (γ 0) (1, [ρ 0, ρ 1, ρ 2, ρ 4, ρ 5, ρ 6], γ 1) = .inl (1, [ρ 0, ρ 1, ρ 2, ρ 4 + 1, 1, ρ 6], γ 1) := by
    unfold en21
    refine (if_neg (show ¬ (1 : Nat) = 0 by decide)).trans ?_
    refine (if_pos (show (1 : Nat) = 1 by decide)).trans ?_
    refine (zLet_eq (show _ = γ 1 from rfl)).trans ?_
    refine (zLet_eq (show _ = ρ 0 from rfl)).trans ?_
    refine (zLet_eq (show _ = ρ 1 from rfl)).trans ?_
    refine (zLet_eq (show _ = ρ 2 from rfl)).trans ?_
    refine (zLet_eq (show _ = ρ 4 from rfl)).trans ?_
    refine (zLet_eq (show _ = ρ 5 from rfl)).trans ?_
    refine (zLet_eq (show _ = ρ 6 from rfl)).trans ?_
    refine (if_neg w_0).trans ?_
    refine (if_neg w_1).trans ?_
    refine (zLet_eq m1).trans ?_
    refine (zLet_eq m2).trans ?_
    refine (if_neg w_2).trans ?_
    rfl
  exact zGoo_ato hJ hD
theorem yn21 {S : Nat → zSpc}  : ∀ x g o v gz, zSem uW uT w21_.2.2.2.1 w21_.2.2.1.1.length S q21 (fun i => q21a.getD i []) (zNA a21_) x g o v gz → sn21 x g o v gz := by
  intro a g o v gz h
  exact zSem_all (l0 := q21) (las := q21a) (S := S) (J := (fun i vs g1 => jn21 a g i vs g1)) (P := sn21 a g) (fun _ => (show zAll _ [q21_0] from (zAll_c (vn21_0 ) zAll_n))) (fun _ => (show zAllI _ 0 [q21a0, q21a1] from ⟨(show zAll _ [q21a0_0, q21a0_1, q21a0_2, q21a0_3] from (zAll_c (vn21a0_0 ) (zAll_c (vn21a0_1 ) (zAll_c (vn21a0_2 ) (zAll_c (vn21a0_3 ) zAll_n))))), ⟨(show zAll _ [q21a1_0, q21a1_1, q21a1_2, q21a1_3, q21a1_4] from (zAll_c (vn21a1_0 ) (zAll_c (vn21a1_1 ) (zAll_c (vn21a1_2 ) (zAll_c (vn21a1_3 ) (zAll_c (vn21a1_4 ) zAll_n)))))), trivial⟩⟩)) h
theorem vn22_0 {S : Nat → zSpc}  {a : List Int} {g : rHp} : ∀ (ρ : Nat → Int) (γ : Nat → rHp), zO 4 S a g q22_0 ρ γ → zGl (fun i vs g1 => jn22 a g i vs g1) (sn22 a g) q22_0 ρ γ := by
  intro ρ γ h
  obtain ⟨ha, hg, hr, hf, hm, hc, hl⟩ := h
  have ha : a = [ρ 0, ρ 1, ρ 2, ρ 3] := ha
  subst ha
  subst hg
  obtain ⟨m0, -⟩ := hm
  have m0 : γ 0 15 0 14 = ρ 3 := m0
  obtain ⟨⟨-, c1⟩, c2⟩ := hc
  have c1 : γ 1 = rUp (γ 0) 66 0 (ρ 3) (ρ 2) := c1
  have c2 : γ 2 = rUp (γ 1) 65 0 (ρ 3) (ρ 1) := c2
  show jn22 [ρ 0, ρ 1, ρ 2, ρ 3] (γ 0) 0 [ρ 0, ρ 1, ρ 2, ρ 3, 0] (γ 2)
  have hD : dn22 [ρ 0, ρ 1, ρ 2] (γ 0) = .inl (0, [ρ 0, ρ 1, ρ 2, 0], γ 2) := by
    unfold dn22
    refine (zLet_eq (show _ = ρ 0 from rfl)).trans ?_
    refine (zLet_eq (show _ = ρ 1 from rfl)).trans ?_
    refine (zLet_eq (show _ = ρ 2 from rfl)).trans ?_
    refine (zLet_eq m0).trans ?_
    refine (zLet_eq c1.symm).trans ?_
    refine (zLet_eq c2.symm).trans ?_
    rfl
  exact zGoo_to hD
theorem vn22a0_0 {S : Nat → zSpc}  {a : List Int} {g : rHp} : ∀ (ρ : Nat → Int) (γ : Nat → rHp), jn22 a g 0 (zAg (zNA a22_ 0) ρ) (γ 1) → zO 4 S a g q22a0_0 ρ γ → zGl (fun i vs g1 => jn22 a g i vs g1) (sn22 a g) q22a0_0 ρ γ := by
  intro ρ γ hJ h
  obtain ⟨ha, hg, hr, hf, hm, hc, hl⟩ := h
  have ha : a = [ρ 0, ρ 1, ρ 2, ρ 3] := ha
  subst ha
  subst hg
  have hJ : jn22 [ρ 0, ρ 1, ρ 2, ρ 3] (γ 0) 0 [ρ 0, ρ 1, ρ 2, ρ 3, ρ 4] (γ 1) := hJ
  obtain ⟨f0, -⟩ := hf
  have f0 : (0 : Int) ≤ ρ 4 + -ρ 1 := f0
  have w_0 : ρ 4 ≥ ρ 1 := by omega
  obtain ⟨m0, -⟩ := hm
  have m0 : γ 0 15 0 14 = ρ 3 := m0
  obtain ⟨-, c2⟩ := hc
  have c2 : γ 2 = rUp (γ 1) 15 0 14 (ρ 3 + 1) := c2
  show sn22 [ρ 0, ρ 1, ρ 2, ρ 3] (γ 0) 0 (ρ 3) (γ 2)
  have hD : en22 (γ 0) (0, [ρ 0, ρ 1, ρ 2, ρ 4], γ 1) = .inr (0, ρ 3, γ 2) := by
    unfold en22
    refine (if_pos (show (0 : Nat) = 0 by decide)).trans ?_
    refine (zLet_eq (show _ = γ 1 from rfl)).trans ?_
    refine (zLet_eq (show _ = ρ 0 from rfl)).trans ?_
    refine (zLet_eq (show _ = ρ 1 from rfl)).trans ?_
    refine (zLet_eq (show _ = ρ 2 from rfl)).trans ?_
    refine (zLet_eq (show _ = ρ 4 from rfl)).trans ?_
    refine (zLet_eq m0).trans ?_
    refine (if_pos w_0).trans ?_
    refine (zLet_eq c2.symm).trans ?_
    rfl
  exact zGoo_aend hJ hD
theorem vn22a0_1 {S : Nat → zSpc}  {a : List Int} {g : rHp} : ∀ (ρ : Nat → Int) (γ : Nat → rHp), jn22 a g 0 (zAg (zNA a22_ 0) ρ) (γ 1) → zO 4 S a g q22a0_1 ρ γ → zGl (fun i vs g1 => jn22 a g i vs g1) (sn22 a g) q22a0_1 ρ γ := by
  intro ρ γ hJ h
  obtain ⟨ha, hg, hr, hf, hm, hc, hl⟩ := h
  have ha : a = [ρ 0, ρ 1, ρ 2, ρ 3] := ha
  subst ha
  subst hg
  have hJ : jn22 [ρ 0, ρ 1, ρ 2, ρ 3] (γ 0) 0 [ρ 0, ρ 1, ρ 2, ρ 3, ρ 4] (γ 1) := hJ
  obtain ⟨f0, -⟩ := hf
  have f0 : (0 : Int) ≤ -ρ 4 + ρ 1 + (-1) := f0
  have w_0 : ¬ (ρ 4 ≥ ρ 1) := by omega
  obtain ⟨m0, m1, -⟩ := hm
  have m0 : γ 0 15 0 14 = ρ 3 := m0
  have m1 : γ 0 59 0 (ρ 4 + ρ 0) = ρ 5 := m1
  obtain ⟨-, c2⟩ := hc
  have c2 : γ 2 = rUp (γ 1) 64 0 (ρ 4 + 12 * ρ 3) (ρ 5) := c2
  show jn22 [ρ 0, ρ 1, ρ 2, ρ 3] (γ 0) 0 [ρ 0, ρ 1, ρ 2, ρ 3, ρ 4 + 1] (γ 2)
  have hD : en22 (γ 0) (0, [ρ 0, ρ 1, ρ 2, ρ 4], γ 1) = .inl (0, [ρ 0, ρ 1, ρ 2, ρ 4 + 1], γ 2) := by
    unfold en22
    refine (if_pos (show (0 : Nat) = 0 by decide)).trans ?_
    refine (zLet_eq (show _ = γ 1 from rfl)).trans ?_
    refine (zLet_eq (show _ = ρ 0 from rfl)).trans ?_
    refine (zLet_eq (show _ = ρ 1 from rfl)).trans ?_
    refine (zLet_eq (show _ = ρ 2 from rfl)).trans ?_
    refine (zLet_eq (show _ = ρ 4 from rfl)).trans ?_
    refine (zLet_eq m0).trans ?_
    refine (if_neg w_0).trans ?_
    refine (zLet_eq m1).trans ?_
    refine (zLet_eq c2.symm).trans ?_
    rfl
  exact zGoo_ato hJ hD
theorem yn22 {S : Nat → zSpc}  : ∀ x g o v gz, zSem uW uT w22_.2.2.2.1 w22_.2.2.1.1.length S q22 (fun i => q22a.getD i []) (zNA a22_) x g o v gz → sn22 x g o v gz := by
  intro a g o v gz h
  exact zSem_all (l0 := q22) (las := q22a) (S := S) (J := (fun i vs g1 => jn22 a g i vs g1)) (P := sn22 a g) (fun _ => (show zAll _ [q22_0] from (zAll_c (vn22_0 ) zAll_n))) (fun _ => (show zAllI _ 0 [q22a0] from ⟨(show zAll _ [q22a0_0, q22a0_1] from (zAll_c (vn22a0_0 ) (zAll_c (vn22a0_1 ) zAll_n))), trivial⟩)) h
theorem vn23_0 {S : Nat → zSpc} (hS6 : ∀ x g o v gz, S 6 x g o v gz → sn6 x g o v gz) (hS7 : ∀ x g o v gz, S 7 x g o v gz → sn7 x g o v gz) (hS8 : ∀ x g o v gz, S 8 x g o v gz → sn8 x g o v gz) (hS9 : ∀ x g o v gz, S 9 x g o v gz → sn9 x g o v gz) (hS12 : ∀ x g o v gz, S 12 x g o v gz → sn12 x g o v gz) {a : List Int} {g : rHp} : ∀ (ρ : Nat → Int) (γ : Nat → rHp), zO 5 S a g q23_0 ρ γ → zGl (fun _ _ _ => True) (sn23 a g) q23_0 ρ γ := by
  intro ρ γ h
  obtain ⟨ha, hg, hr, hf, hm, hc, hl⟩ := h
  have ha : a = [ρ 0, ρ 1, ρ 2, ρ 3, ρ 4] := ha
  subst ha
  subst hg
  obtain ⟨-, -, f2, -⟩ := hf
  have f2 : (0 : Int) ≤ -ρ 5 + ρ 1 + (-1) := f2
  have w_0 : 0 ≤ -ρ 5 + ρ 1 + (-1) := by omega
  obtain ⟨-, m1, -, -, -, m5, -⟩ := hm
  have m1 : γ 0 15 0 34 = ρ 1 := m1
  have m5 : γ 1 15 0 35 = ρ 5 := m5
  obtain ⟨l0, l1, l2, l3, -⟩ := hl
  have l0 : sn7 [ρ 0, ρ 1] (γ 0) 0 0 (γ 1) := hS7 _ _ _ _ _ l0
  have l1 : sn6 [ρ 5, ρ 1] (γ 1) 0 (ρ 6) (γ 2) := hS6 _ _ _ _ _ l1
  have l2 : sn9 [ρ 6] (γ 2) 0 0 (γ 3) := hS9 _ _ _ _ _ l2
  have l3 : sn8 [ρ 5, ρ 1, ρ 2] (γ 3) 0 0 (γ 4) := hS8 _ _ _ _ _ l3
  show sn23 [ρ 0, ρ 1, ρ 2, ρ 3, ρ 4] (γ 0) 0 0 (γ 4)
  refine Eq.symm ?_
  show fn23 [] (γ 0) = _
  unfold fn23
  refine (zLet_eq m1).trans ?_
  refine (zLet_eq (show fn7 [] (γ 0) = (0, 0, γ 1) from l0.symm)).trans ?_
  refine (zLet_eq (show _ = γ 1 from rfl)).trans ?_
  refine (zLet_eq m5).trans ?_
  refine (zLet_eq (show fn6 [ρ 5] (γ 1) = (0, ρ 6, γ 2) from l1.symm)).trans ?_
  refine (zLet_eq (show _ = γ 2 from rfl)).trans ?_
  refine (if_pos w_0).trans ?_
  refine (zLet_eq (show _ = ρ 6 from rfl)).trans ?_
  refine (zLet_eq (show fn9 [ρ 6] (γ 2) = (0, 0, γ 3) from l2.symm)).trans ?_
  refine (zLet_eq (show _ = γ 3 from rfl)).trans ?_
  refine (if_neg zQ0_).trans ?_
  refine (zLet_eq (show fn8 [ρ 5] (γ 3) = (0, 0, γ 4) from l3.symm)).trans ?_
  refine (zLet_eq (show _ = γ 4 from rfl)).trans ?_
  rfl
theorem vn23_1 {S : Nat → zSpc} (hS6 : ∀ x g o v gz, S 6 x g o v gz → sn6 x g o v gz) (hS7 : ∀ x g o v gz, S 7 x g o v gz → sn7 x g o v gz) (hS8 : ∀ x g o v gz, S 8 x g o v gz → sn8 x g o v gz) (hS9 : ∀ x g o v gz, S 9 x g o v gz → sn9 x g o v gz) (hS12 : ∀ x g o v gz, S 12 x g o v gz → sn12 x g o v gz) {a : List Int} {g : rHp} : ∀ (ρ : Nat → Int) (γ : Nat → rHp), zO 5 S a g q23_1 ρ γ → zGl (fun _ _ _ => True) (sn23 a g) q23_1 ρ γ := by
  intro ρ γ h
  obtain ⟨ha, hg, hr, hf, hm, hc, hl⟩ := h
  have ha : a = [ρ 0, ρ 1, ρ 2, ρ 3, ρ 4] := ha
  subst ha
  subst hg
  obtain ⟨f0, -⟩ := hf
  have f0 : (0 : Int) ≤ -ρ 5 + ρ 1 + (-1) := f0
  have w_0 : 0 ≤ -ρ 5 + ρ 1 + (-1) := by omega
  obtain ⟨-, m1, -, -, -, m5, -⟩ := hm
  have m1 : γ 0 15 0 34 = ρ 1 := m1
  have m5 : γ 1 15 0 35 = ρ 5 := m5
  obtain ⟨l0, l1, l2, l3, -⟩ := hl
  have l0 : sn7 [ρ 0, ρ 1] (γ 0) 0 0 (γ 1) := hS7 _ _ _ _ _ l0
  have l1 : sn6 [ρ 5, ρ 1] (γ 1) 0 (ρ 6) (γ 2) := hS6 _ _ _ _ _ l1
  have l2 : sn9 [ρ 6] (γ 2) 0 1 (γ 3) := hS9 _ _ _ _ _ l2
  have l3 : sn12 [ρ 5, ρ 1, ρ 3, ρ 2, ρ 4] (γ 3) 0 0 (γ 4) := hS12 _ _ _ _ _ l3
  show sn23 [ρ 0, ρ 1, ρ 2, ρ 3, ρ 4] (γ 0) 0 0 (γ 4)
  refine Eq.symm ?_
  show fn23 [] (γ 0) = _
  unfold fn23
  refine (zLet_eq m1).trans ?_
  refine (zLet_eq (show fn7 [] (γ 0) = (0, 0, γ 1) from l0.symm)).trans ?_
  refine (zLet_eq (show _ = γ 1 from rfl)).trans ?_
  refine (zLet_eq m5).trans ?_
  refine (zLet_eq (show fn6 [ρ 5] (γ 1) = (0, ρ 6, γ 2) from l1.symm)).trans ?_
  refine (zLet_eq (show _ = γ 2 from rfl)).trans ?_
  refine (if_pos w_0).trans ?_
  refine (zLet_eq (show _ = ρ 6 from rfl)).trans ?_
  refine (zLet_eq (show fn9 [ρ 6] (γ 2) = (0, 1, γ 3) from l2.symm)).trans ?_
  refine (zLet_eq (show _ = γ 3 from rfl)).trans ?_
  refine (if_pos zQ1_).trans ?_
  refine (zLet_eq (show fn12 [] (γ 3) = (0, 0, γ 4) from l3.symm)).trans ?_
  refine (zLet_eq (show _ = γ 4 from rfl)).trans ?_
  refine (if_neg zQ0_).trans ?_
  rfl
theorem vn23_2 {S : Nat → zSpc} (hS6 : ∀ x g o v gz, S 6 x g o v gz → sn6 x g o v gz) (hS7 : ∀ x g o v gz, S 7 x g o v gz → sn7 x g o v gz) (hS8 : ∀ x g o v gz, S 8 x g o v gz → sn8 x g o v gz) (hS9 : ∀ x g o v gz, S 9 x g o v gz → sn9 x g o v gz) (hS12 : ∀ x g o v gz, S 12 x g o v gz → sn12 x g o v gz) {a : List Int} {g : rHp} : ∀ (ρ : Nat → Int) (γ : Nat → rHp), zO 5 S a g q23_2 ρ γ → zGl (fun _ _ _ => True) (sn23 a g) q23_2 ρ γ := by
  intro ρ γ h
  obtain ⟨ha, hg, hr, hf, hm, hc, hl⟩ := h
  have ha : a = [ρ 0, ρ 1, ρ 2, ρ 3, ρ 4] := ha
  subst ha
  subst hg
  obtain ⟨f0, -⟩ := hf
  have f0 : (0 : Int) ≤ -ρ 5 + ρ 1 + (-1) := f0
  have w_0 : 0 ≤ -ρ 5 + ρ 1 + (-1) := by omega
  obtain ⟨-, m1, -, -, -, m5, -⟩ := hm
  have m1 : γ 0 15 0 34 = ρ 1 := m1
  have m5 : γ 1 15 0 35 = ρ 5 := m5
  obtain ⟨l0, l1, l2, l3, -⟩ := hl
  have l0 : sn7 [ρ 0, ρ 1] (γ 0) 0 0 (γ 1) := hS7 _ _ _ _ _ l0
  have l1 : sn6 [ρ 5, ρ 1] (γ 1) 0 (ρ 6) (γ 2) := hS6 _ _ _ _ _ l1
  have l2 : sn9 [ρ 6] (γ 2) 0 1 (γ 3) := hS9 _ _ _ _ _ l2
  have l3 : sn12 [ρ 5, ρ 1, ρ 3, ρ 2, ρ 4] (γ 3) 0 1 (γ 4) := hS12 _ _ _ _ _ l3
  show sn23 [ρ 0, ρ 1, ρ 2, ρ 3, ρ 4] (γ 0) 0 1 (γ 4)
  refine Eq.symm ?_
  show fn23 [] (γ 0) = _
  unfold fn23
  refine (zLet_eq m1).trans ?_
  refine (zLet_eq (show fn7 [] (γ 0) = (0, 0, γ 1) from l0.symm)).trans ?_
  refine (zLet_eq (show _ = γ 1 from rfl)).trans ?_
  refine (zLet_eq m5).trans ?_
  refine (zLet_eq (show fn6 [ρ 5] (γ 1) = (0, ρ 6, γ 2) from l1.symm)).trans ?_
  refine (zLet_eq (show _ = γ 2 from rfl)).trans ?_
  refine (if_pos w_0).trans ?_
  refine (zLet_eq (show _ = ρ 6 from rfl)).trans ?_
  refine (zLet_eq (show fn9 [ρ 6] (γ 2) = (0, 1, γ 3) from l2.symm)).trans ?_
  refine (zLet_eq (show _ = γ 3 from rfl)).trans ?_
  refine (if_pos zQ1_).trans ?_
  refine (zLet_eq (show fn12 [] (γ 3) = (0, 1, γ 4) from l3.symm)).trans ?_
  refine (zLet_eq (show _ = γ 4 from rfl)).trans ?_
  refine (if_pos zQ1_).trans ?_
  rfl
theorem vn23_3 {S : Nat → zSpc} (hS6 : ∀ x g o v gz, S 6 x g o v gz → sn6 x g o v gz) (hS7 : ∀ x g o v gz, S 7 x g o v gz → sn7 x g o v gz) (hS8 : ∀ x g o v gz, S 8 x g o v gz → sn8 x g o v gz) (hS9 : ∀ x g o v gz, S 9 x g o v gz → sn9 x g o v gz) (hS12 : ∀ x g o v gz, S 12 x g o v gz → sn12 x g o v gz) {a : List Int} {g : rHp} : ∀ (ρ : Nat → Int) (γ : Nat → rHp), zO 5 S a g q23_3 ρ γ → zGl (fun _ _ _ => True) (sn23 a g) q23_3 ρ γ := by
  intro ρ γ h
  obtain ⟨ha, hg, hr, hf, hm, hc, hl⟩ := h
  have ha : a = [ρ 0, ρ 1, ρ 2, ρ 3, ρ 4] := ha
  subst ha
  subst hg
  obtain ⟨-, -, f2, -⟩ := hf
  have f2 : (0 : Int) ≤ ρ 5 + -ρ 1 := f2
  have w_0 : ¬ (0 ≤ -ρ 5 + ρ 1 + (-1)) := by omega
  obtain ⟨-, m1, -, -, -, m5, -⟩ := hm
  have m1 : γ 0 15 0 34 = ρ 1 := m1
  have m5 : γ 1 15 0 35 = ρ 5 := m5
  obtain ⟨l0, l1, l2, l3, -⟩ := hl
  have l0 : sn7 [ρ 0, ρ 1] (γ 0) 0 0 (γ 1) := hS7 _ _ _ _ _ l0
  have l1 : sn6 [ρ 5, ρ 1] (γ 1) 0 (-1) (γ 2) := hS6 _ _ _ _ _ l1
  have l2 : sn9 [(-1)] (γ 2) 0 0 (γ 3) := hS9 _ _ _ _ _ l2
  have l3 : sn8 [ρ 5, ρ 1, ρ 2] (γ 3) 0 0 (γ 4) := hS8 _ _ _ _ _ l3
  show sn23 [ρ 0, ρ 1, ρ 2, ρ 3, ρ 4] (γ 0) 0 0 (γ 4)
  refine Eq.symm ?_
  show fn23 [] (γ 0) = _
  unfold fn23
  refine (zLet_eq m1).trans ?_
  refine (zLet_eq (show fn7 [] (γ 0) = (0, 0, γ 1) from l0.symm)).trans ?_
  refine (zLet_eq (show _ = γ 1 from rfl)).trans ?_
  refine (zLet_eq m5).trans ?_
  refine (zLet_eq (show fn6 [ρ 5] (γ 1) = (0, (-1), γ 2) from l1.symm)).trans ?_
  refine (zLet_eq (show _ = γ 2 from rfl)).trans ?_
  refine (if_neg w_0).trans ?_
  refine (zLet_eq (show fn9 [(-1)] (γ 2) = (0, 0, γ 3) from l2.symm)).trans ?_
  refine (zLet_eq (show _ = γ 3 from rfl)).trans ?_
  refine (zLet_eq (show fn8 [ρ 5] (γ 3) = (0, 0, γ 4) from l3.symm)).trans ?_
  refine (zLet_eq (show _ = γ 4 from rfl)).trans ?_
  rfl
theorem yn23 {S : Nat → zSpc} (hS6 : ∀ x g o v gz, S 6 x g o v gz → sn6 x g o v gz) (hS7 : ∀ x g o v gz, S 7 x g o v gz → sn7 x g o v gz) (hS8 : ∀ x g o v gz, S 8 x g o v gz → sn8 x g o v gz) (hS9 : ∀ x g o v gz, S 9 x g o v gz → sn9 x g o v gz) (hS12 : ∀ x g o v gz, S 12 x g o v gz → sn12 x g o v gz) : ∀ x g o v gz, zSem uW uT w23_.2.2.2.1 w23_.2.2.1.1.length S q23 (fun i => q23a.getD i []) (zNA a23_) x g o v gz → sn23 x g o v gz := by
  intro a g o v gz h
  exact zSem_all (l0 := q23) (las := q23a) (S := S) (J := (fun _ _ _ => True)) (P := sn23 a g) (fun _ => (show zAll _ [q23_0, q23_1, q23_2, q23_3] from (zAll_c (vn23_0 hS6 hS7 hS8 hS9 hS12) (zAll_c (vn23_1 hS6 hS7 hS8 hS9 hS12) (zAll_c (vn23_2 hS6 hS7 hS8 hS9 hS12) (zAll_c (vn23_3 hS6 hS7 hS8 hS9 hS12) zAll_n)))))) (fun _ => (show zAllI _ 0 [] from trivial)) h
theorem vn24_0 {S : Nat → zSpc} (hS6 : ∀ x g o v gz, S 6 x g o v gz → sn6 x g o v gz) (hS7 : ∀ x g o v gz, S 7 x g o v gz → sn7 x g o v gz) (hS8 : ∀ x g o v gz, S 8 x g o v gz → sn8 x g o v gz) {a : List Int} {g : rHp} : ∀ (ρ : Nat → Int) (γ : Nat → rHp), zO 4 S a g q24_0 ρ γ → zGl (fun _ _ _ => True) (sn24 a g) q24_0 ρ γ := by
  intro ρ γ h
  obtain ⟨ha, hg, hr, hf, hm, hc, hl⟩ := h
  have ha : a = [ρ 0, ρ 1, ρ 2, ρ 3] := ha
  subst ha
  subst hg
  obtain ⟨f0, f1, f2, -⟩ := hf
  have f0 : (0 : Int) ≤ -ρ 5 + ρ 0 := f0
  have f1 : (0 : Int) ≤ ρ 5 + -ρ 0 := f1
  have f2 : (0 : Int) ≤ -ρ 4 + ρ 2 + (-1) := f2
  obtain ⟨w_0, w_1⟩ : (0 ≤ -ρ 4 + ρ 2 + (-1)) ∧ (ρ 5 = ρ 0) := ⟨by omega, by omega⟩
  obtain ⟨-, m1, -, m3, -⟩ := hm
  have m1 : γ 0 15 0 34 = ρ 2 := m1
  have m3 : γ 1 15 0 35 = ρ 4 := m3
  obtain ⟨-, c3⟩ := hc
  have c3 : γ 3 = rUp (γ 2) 15 0 35 (ρ 4 + 1) := c3
  obtain ⟨l0, l1, -⟩ := hl
  have l0 : sn7 [ρ 1, ρ 2] (γ 0) 0 0 (γ 1) := hS7 _ _ _ _ _ l0
  have l1 : sn6 [ρ 4, ρ 2] (γ 1) 0 (ρ 5) (γ 2) := hS6 _ _ _ _ _ l1
  show sn24 [ρ 0, ρ 1, ρ 2, ρ 3] (γ 0) 0 1 (γ 3)
  refine Eq.symm ?_
  show fn24 [ρ 0] (γ 0) = _
  unfold fn24
  refine (zLet_eq (show _ = ρ 0 from rfl)).trans ?_
  refine (zLet_eq m1).trans ?_
  refine (zLet_eq (show fn7 [] (γ 0) = (0, 0, γ 1) from l0.symm)).trans ?_
  refine (zLet_eq (show _ = γ 1 from rfl)).trans ?_
  refine (zLet_eq m3).trans ?_
  refine (zLet_eq (show fn6 [ρ 4] (γ 1) = (0, ρ 5, γ 2) from l1.symm)).trans ?_
  refine (zLet_eq (show _ = γ 2 from rfl)).trans ?_
  refine (if_pos w_0).trans ?_
  refine (zLet_eq (show _ = ρ 5 from rfl)).trans ?_
  refine (if_pos w_1).trans ?_
  refine (zLet_eq c3.symm).trans ?_
  rfl
theorem vn24_1 {S : Nat → zSpc} (hS6 : ∀ x g o v gz, S 6 x g o v gz → sn6 x g o v gz) (hS7 : ∀ x g o v gz, S 7 x g o v gz → sn7 x g o v gz) (hS8 : ∀ x g o v gz, S 8 x g o v gz → sn8 x g o v gz) {a : List Int} {g : rHp} : ∀ (ρ : Nat → Int) (γ : Nat → rHp), zO 4 S a g q24_1 ρ γ → zGl (fun _ _ _ => True) (sn24 a g) q24_1 ρ γ := by
  intro ρ γ h
  obtain ⟨ha, hg, hr, hf, hm, hc, hl⟩ := h
  have ha : a = [ρ 0, ρ 1, ρ 2, ρ 3] := ha
  subst ha
  subst hg
  obtain ⟨r0, -, -, -, -, r5, -⟩ := hr
  have r0 : (0 : Int) ≤ ρ 0 ∧ ρ 0 ≤ 255 := r0
  have r5 : ((-128) : Int) ≤ ρ 5 ∧ ρ 5 ≤ 127 := r5
  obtain ⟨-, -, f2, -⟩ := hf
  have f2 : (0 : Int) ≤ -ρ 4 + ρ 2 + (-1) := f2
  have w_0 : 0 ≤ -ρ 4 + ρ 2 + (-1) := by omega
  obtain ⟨-, m1, -, m3, -⟩ := hm
  have m1 : γ 0 15 0 34 = ρ 2 := m1
  have m3 : γ 1 15 0 35 = ρ 4 := m3
  obtain ⟨l0, l1, l2, l3, -⟩ := hl
  have l0 : sn7 [ρ 1, ρ 2] (γ 0) 0 0 (γ 1) := hS7 _ _ _ _ _ l0
  have l1 : sn6 [ρ 4, ρ 2] (γ 1) 0 (ρ 5) (γ 2) := hS6 _ _ _ _ _ l1
  have l2 : ρ 5 ≠ ρ 0 := l2
  have l3 : sn8 [ρ 4, ρ 2, ρ 3] (γ 2) 0 0 (γ 3) := hS8 _ _ _ _ _ l3
  have wl_0 : ¬ (ρ 5 = ρ 0) := by omega
  show sn24 [ρ 0, ρ 1, ρ 2, ρ 3] (γ 0) 0 0 (γ 3)
  refine Eq.symm ?_
  show fn24 [ρ 0] (γ 0) = _
  unfold fn24
  refine (zLet_eq (show _ = ρ 0 from rfl)).trans ?_
  refine (zLet_eq m1).trans ?_
  refine (zLet_eq (show fn7 [] (γ 0) = (0, 0, γ 1) from l0.symm)).trans ?_
  refine (zLet_eq (show _ = γ 1 from rfl)).trans ?_
  refine (zLet_eq m3).trans ?_
  refine (zLet_eq (show fn6 [ρ 4] (γ 1) = (0, ρ 5, γ 2) from l1.symm)).trans ?_
  refine (zLet_eq (show _ = γ 2 from rfl)).trans ?_
  refine (if_pos w_0).trans ?_
  refine (zLet_eq (show _ = ρ 5 from rfl)).trans ?_
  refine (if_neg wl_0).trans ?_
  refine (zLet_eq (show fn8 [ρ 4] (γ 2) = (0, 0, γ 3) from l3.symm)).trans ?_
  refine (zLet_eq (show _ = γ 3 from rfl)).trans ?_
  rfl
theorem vn24_2 {S : Nat → zSpc} (hS6 : ∀ x g o v gz, S 6 x g o v gz → sn6 x g o v gz) (hS7 : ∀ x g o v gz, S 7 x g o v gz → sn7 x g o v gz) (hS8 : ∀ x g o v gz, S 8 x g o v gz → sn8 x g o v gz) {a : List Int} {g : rHp} : ∀ (ρ : Nat → Int) (γ : Nat → rHp), zO 4 S a g q24_2 ρ γ → zGl (fun _ _ _ => True) (sn24 a g) q24_2 ρ γ := by
  intro ρ γ h
  obtain ⟨ha, hg, hr, hf, hm, hc, hl⟩ := h
  have ha : a = [ρ 0, ρ 1, ρ 2, ρ 3] := ha
  subst ha
  subst hg
  obtain ⟨-, -, f2, -⟩ := hf
  have f2 : (0 : Int) ≤ ρ 4 + -ρ 2 := f2
  have w_0 : ¬ (0 ≤ -ρ 4 + ρ 2 + (-1)) := by omega
  obtain ⟨-, m1, -, m3, -⟩ := hm
  have m1 : γ 0 15 0 34 = ρ 2 := m1
  have m3 : γ 1 15 0 35 = ρ 4 := m3
  obtain ⟨l0, l1, l2, -⟩ := hl
  have l0 : sn7 [ρ 1, ρ 2] (γ 0) 0 0 (γ 1) := hS7 _ _ _ _ _ l0
  have l1 : sn6 [ρ 4, ρ 2] (γ 1) 0 (-1) (γ 2) := hS6 _ _ _ _ _ l1
  have l2 : sn8 [ρ 4, ρ 2, ρ 3] (γ 2) 0 0 (γ 3) := hS8 _ _ _ _ _ l2
  show sn24 [ρ 0, ρ 1, ρ 2, ρ 3] (γ 0) 0 0 (γ 3)
  refine Eq.symm ?_
  show fn24 [ρ 0] (γ 0) = _
  unfold fn24
  refine (zLet_eq (show _ = ρ 0 from rfl)).trans ?_
  refine (zLet_eq m1).trans ?_
  refine (zLet_eq (show fn7 [] (γ 0) = (0, 0, γ 1) from l0.symm)).trans ?_
  refine (zLet_eq (show _ = γ 1 from rfl)).trans ?_
  refine (zLet_eq m3).trans ?_
  refine (zLet_eq (show fn6 [ρ 4] (γ 1) = (0, (-1), γ 2) from l1.symm)).trans ?_
  refine (zLet_eq (show _ = γ 2 from rfl)).trans ?_
  refine (if_neg w_0).trans ?_
  refine (zLet_eq (show fn8 [ρ 4] (γ 2) = (0, 0, γ 3) from l2.symm)).trans ?_
  refine (zLet_eq (show _ = γ 3 from rfl)).trans ?_
  rfl
theorem yn24 {S : Nat → zSpc} (hS6 : ∀ x g o v gz, S 6 x g o v gz → sn6 x g o v gz) (hS7 : ∀ x g o v gz, S 7 x g o v gz → sn7 x g o v gz) (hS8 : ∀ x g o v gz, S 8 x g o v gz → sn8 x g o v gz) : ∀ x g o v gz, zSem uW uT w24_.2.2.2.1 w24_.2.2.1.1.length S q24 (fun i => q24a.getD i []) (zNA a24_) x g o v gz → sn24 x g o v gz := by
  intro a g o v gz h
  exact zSem_all (l0 := q24) (las := q24a) (S := S) (J := (fun _ _ _ => True)) (P := sn24 a g) (fun _ => (show zAll _ [q24_0, q24_1, q24_2] from (zAll_c (vn24_0 hS6 hS7 hS8) (zAll_c (vn24_1 hS6 hS7 hS8) (zAll_c (vn24_2 hS6 hS7 hS8) zAll_n))))) (fun _ => (show zAllI _ 0 [] from trivial)) h
theorem vn25_0 {S : Nat → zSpc}  {a : List Int} {g : rHp} : ∀ (ρ : Nat → Int) (γ : Nat → rHp), zO 5 S a g q25_0 ρ γ → zGl (fun _ _ _ => True) (sn25 a g) q25_0 ρ γ := by
  intro ρ γ h
  obtain ⟨ha, hg, hr, hf, hm, hc, hl⟩ := h
  have ha : a = [ρ 0, ρ 1, ρ 2, ρ 3, ρ 4] := ha
  subst ha
  subst hg
  obtain ⟨m0, m1, -⟩ := hm
  have m0 : γ 0 15 0 58 = ρ 3 := m0
  have m1 : γ 0 15 0 45 = ρ 4 := m1
  obtain ⟨⟨⟨⟨⟨-, c1⟩, c2⟩, c3⟩, c4⟩, c5⟩ := hc
  have c1 : γ 1 = rUp (γ 0) 88 0 (ρ 3) (ρ 0) := c1
  have c2 : γ 2 = rUp (γ 1) 89 0 (ρ 3) (ρ 1) := c2
  have c3 : γ 3 = rUp (γ 2) 91 0 (ρ 3) (ρ 2) := c3
  have c4 : γ 4 = rUp (γ 3) 90 0 (ρ 3) (ρ 4) := c4
  have c5 : γ 5 = rUp (γ 4) 15 0 58 (ρ 3 + 1) := c5
  show sn25 [ρ 0, ρ 1, ρ 2, ρ 3, ρ 4] (γ 0) 0 0 (γ 5)
  refine Eq.symm ?_
  show fn25 [ρ 0, ρ 1, ρ 2] (γ 0) = _
  unfold fn25
  refine (zLet_eq (show _ = ρ 0 from rfl)).trans ?_
  refine (zLet_eq (show _ = ρ 1 from rfl)).trans ?_
  refine (zLet_eq (show _ = ρ 2 from rfl)).trans ?_
  refine (zLet_eq m0).trans ?_
  refine (zLet_eq m1).trans ?_
  refine (zLet_eq c1.symm).trans ?_
  refine (zLet_eq c2.symm).trans ?_
  refine (zLet_eq c3.symm).trans ?_
  refine (zLet_eq c4.symm).trans ?_
  refine (zLet_eq c5.symm).trans ?_
  rfl
theorem yn25 {S : Nat → zSpc}  : ∀ x g o v gz, zSem uW uT w25_.2.2.2.1 w25_.2.2.1.1.length S q25 (fun i => q25a.getD i []) (zNA a25_) x g o v gz → sn25 x g o v gz := by
  intro a g o v gz h
  exact zSem_all (l0 := q25) (las := q25a) (S := S) (J := (fun _ _ _ => True)) (P := sn25 a g) (fun _ => (show zAll _ [q25_0] from (zAll_c (vn25_0 ) zAll_n))) (fun _ => (show zAllI _ 0 [] from trivial)) h
theorem vn26_0 {S : Nat → zSpc} (hS6 : ∀ x g o v gz, S 6 x g o v gz → sn6 x g o v gz) (hS7 : ∀ x g o v gz, S 7 x g o v gz → sn7 x g o v gz) (hS8 : ∀ x g o v gz, S 8 x g o v gz → sn8 x g o v gz) (hS10 : ∀ x g o v gz, S 10 x g o v gz → sn10 x g o v gz) (hS13 : ∀ x g o v gz, S 13 x g o v gz → sn13 x g o v gz) (hS17 : ∀ x g o v gz, S 17 x g o v gz → sn17 x g o v gz) (hS23 : ∀ x g o v gz, S 23 x g o v gz → sn23 x g o v gz) (hS25 : ∀ x g o v gz, S 25 x g o v gz → sn25 x g o v gz) {a : List Int} {g : rHp} : ∀ (ρ : Nat → Int) (γ : Nat → rHp), zO 13 S a g q26_0 ρ γ → zGl (fun _ _ _ => True) (sn26 a g) q26_0 ρ γ := by
  intro ρ γ h
  obtain ⟨ha, hg, hr, hf, hm, hc, hl⟩ := h
  have ha : a = [ρ 0, ρ 1, ρ 2, ρ 3, ρ 4, ρ 5, ρ 6, ρ 7, ρ 8, ρ 9, ρ 10, ρ 11, ρ 12] := ha
  subst ha
  subst hg
  obtain ⟨-, -, -, -, -, r5, -⟩ := hr
  have r5 : (0 : Int) ≤ ρ 5 ∧ ρ 5 ≤ 0 := r5
  have w_0 : ρ 5 ≤ 0 := by omega
  obtain ⟨m0, m1, -, -, -, m5, -⟩ := hm
  have m0 : γ 0 15 0 35 = ρ 0 := m0
  have m1 : γ 0 15 0 34 = ρ 1 := m1
  have m5 : γ 0 15 0 49 = ρ 5 := m5
  obtain ⟨⟨-, c1⟩, -⟩ := hc
  have c1 : γ 1 = rUp (γ 0) 15 0 35 (ρ 0 + 1) := c1
  obtain ⟨l0, -⟩ := hl
  have l0 : sn23 [ρ 0 + 1, ρ 1, ρ 7, ρ 8, ρ 9] (γ 1) 0 0 (γ 2) := hS23 _ _ _ _ _ l0
  show sn26 [ρ 0, ρ 1, ρ 2, ρ 3, ρ 4, ρ 5, ρ 6, ρ 7, ρ 8, ρ 9, ρ 10, ρ 11, ρ 12] (γ 0) 0 0 (γ 2)
  refine Eq.symm ?_
  show fn26 [] (γ 0) = _
  unfold fn26
  refine (zLet_eq m0).trans ?_
  refine (zLet_eq m1).trans ?_
  refine (zLet_eq m5).trans ?_
  refine (if_pos w_0).trans ?_
  refine (zLet_eq c1.symm).trans ?_
  refine (zLet_eq (show fn23 [] (γ 1) = (0, 0, γ 2) from l0.symm)).trans ?_
  refine (zLet_eq (show _ = γ 2 from rfl)).trans ?_
  refine (if_neg zQ0_).trans ?_
  rfl
theorem vn26_1 {S : Nat → zSpc} (hS6 : ∀ x g o v gz, S 6 x g o v gz → sn6 x g o v gz) (hS7 : ∀ x g o v gz, S 7 x g o v gz → sn7 x g o v gz) (hS8 : ∀ x g o v gz, S 8 x g o v gz → sn8 x g o v gz) (hS10 : ∀ x g o v gz, S 10 x g o v gz → sn10 x g o v gz) (hS13 : ∀ x g o v gz, S 13 x g o v gz → sn13 x g o v gz) (hS17 : ∀ x g o v gz, S 17 x g o v gz → sn17 x g o v gz) (hS23 : ∀ x g o v gz, S 23 x g o v gz → sn23 x g o v gz) (hS25 : ∀ x g o v gz, S 25 x g o v gz → sn25 x g o v gz) {a : List Int} {g : rHp} : ∀ (ρ : Nat → Int) (γ : Nat → rHp), zO 13 S a g q26_1 ρ γ → zGl (fun _ _ _ => True) (sn26 a g) q26_1 ρ γ := by
  intro ρ γ h
  obtain ⟨ha, hg, hr, hf, hm, hc, hl⟩ := h
  have ha : a = [ρ 0, ρ 1, ρ 2, ρ 3, ρ 4, ρ 5, ρ 6, ρ 7, ρ 8, ρ 9, ρ 10, ρ 11, ρ 12] := ha
  subst ha
  subst hg
  obtain ⟨-, -, -, -, -, r5, -⟩ := hr
  have r5 : (0 : Int) ≤ ρ 5 ∧ ρ 5 ≤ 0 := r5
  have w_0 : ρ 5 ≤ 0 := by omega
  obtain ⟨m0, m1, -, -, -, m5, -, -, -, -, -, -, -, -, -, m15, -⟩ := hm
  have m0 : γ 0 15 0 35 = ρ 0 := m0
  have m1 : γ 0 15 0 34 = ρ 1 := m1
  have m5 : γ 0 15 0 49 = ρ 5 := m5
  have m15 : γ 2 15 0 37 = ρ 14 := m15
  obtain ⟨⟨⟨⟨⟨⟨⟨⟨-, c1⟩, -⟩, -⟩, -⟩, -⟩, -⟩, c7⟩, -⟩ := hc
  have c1 : γ 1 = rUp (γ 0) 15 0 35 (ρ 0 + 1) := c1
  have c7 : γ 7 = rUp (γ 6) 15 0 49 0 := c7
  obtain ⟨l0, l1, l2, l3, l4, l5, -⟩ := hl
  have l0 : sn23 [ρ 0 + 1, ρ 1, ρ 7, ρ 8, ρ 9] (γ 1) 0 1 (γ 2) := hS23 _ _ _ _ _ l0
  have l1 : sn13 [99, 111, 117, 110, 116, ρ 14, ρ 15] (γ 2) 0 0 (γ 3) := hS13 _ _ _ _ _ l1
  have l2 : sn13 [115, 117, 109, 0, 0, ρ 14, ρ 15] (γ 3) 0 0 (γ 4) := hS13 _ _ _ _ _ l2
  have l3 : sn13 [109, 105, 110, 0, 0, ρ 14, ρ 15] (γ 4) 0 0 (γ 5) := hS13 _ _ _ _ _ l3
  have l4 : sn13 [109, 97, 120, 0, 0, ρ 14, ρ 15] (γ 5) 0 0 (γ 6) := hS13 _ _ _ _ _ l4
  have l5 : sn8 [ρ 14, ρ 1, ρ 7] (γ 7) 0 0 (γ 8) := hS8 _ _ _ _ _ l5
  show sn26 [ρ 0, ρ 1, ρ 2, ρ 3, ρ 4, ρ 5, ρ 6, ρ 7, ρ 8, ρ 9, ρ 10, ρ 11, ρ 12] (γ 0) 0 0 (γ 8)
  refine Eq.symm ?_
  show fn26 [] (γ 0) = _
  unfold fn26
  refine (zLet_eq m0).trans ?_
  refine (zLet_eq m1).trans ?_
  refine (zLet_eq m5).trans ?_
  refine (if_pos w_0).trans ?_
  refine (zLet_eq c1.symm).trans ?_
  refine (zLet_eq (show fn23 [] (γ 1) = (0, 1, γ 2) from l0.symm)).trans ?_
  refine (zLet_eq (show _ = γ 2 from rfl)).trans ?_
  refine (if_pos zQ1_).trans ?_
  refine (zLet_eq m15).trans ?_
  refine (zLet_eq (show fn13 [99, 111, 117, 110, 116] (γ 2) = (0, 0, γ 3) from l1.symm)).trans ?_
  refine (zLet_eq (show _ = γ 3 from rfl)).trans ?_
  refine (if_neg zQ0_).trans ?_
  refine (zLet_eq (show fn13 [115, 117, 109, 0, 0] (γ 3) = (0, 0, γ 4) from l2.symm)).trans ?_
  refine (zLet_eq (show _ = γ 4 from rfl)).trans ?_
  refine (if_neg zQ0_).trans ?_
  refine (zLet_eq (show fn13 [109, 105, 110, 0, 0] (γ 4) = (0, 0, γ 5) from l3.symm)).trans ?_
  refine (zLet_eq (show _ = γ 5 from rfl)).trans ?_
  refine (if_neg zQ0_).trans ?_
  refine (zLet_eq (show fn13 [109, 97, 120, 0, 0] (γ 5) = (0, 0, γ 6) from l4.symm)).trans ?_
  refine (zLet_eq (show _ = γ 6 from rfl)).trans ?_
  refine (if_neg zQ0_).trans ?_
  refine (zLet_eq c7.symm).trans ?_
  refine (zLet_eq (show fn8 [ρ 14] (γ 7) = (0, 0, γ 8) from l5.symm)).trans ?_
  refine (zLet_eq (show _ = γ 8 from rfl)).trans ?_
  rfl
theorem vn26_2 {S : Nat → zSpc} (hS6 : ∀ x g o v gz, S 6 x g o v gz → sn6 x g o v gz) (hS7 : ∀ x g o v gz, S 7 x g o v gz → sn7 x g o v gz) (hS8 : ∀ x g o v gz, S 8 x g o v gz → sn8 x g o v gz) (hS10 : ∀ x g o v gz, S 10 x g o v gz → sn10 x g o v gz) (hS13 : ∀ x g o v gz, S 13 x g o v gz → sn13 x g o v gz) (hS17 : ∀ x g o v gz, S 17 x g o v gz → sn17 x g o v gz) (hS23 : ∀ x g o v gz, S 23 x g o v gz → sn23 x g o v gz) (hS25 : ∀ x g o v gz, S 25 x g o v gz → sn25 x g o v gz) {a : List Int} {g : rHp} : ∀ (ρ : Nat → Int) (γ : Nat → rHp), zO 13 S a g q26_2 ρ γ → zGl (fun _ _ _ => True) (sn26 a g) q26_2 ρ γ := by
  intro ρ γ h
  obtain ⟨ha, hg, hr, hf, hm, hc, hl⟩ := h
  have ha : a = [ρ 0, ρ 1, ρ 2, ρ 3, ρ 4, ρ 5, ρ 6, ρ 7, ρ 8, ρ 9, ρ 10, ρ 11, ρ 12] := ha
  subst ha
  subst hg
  obtain ⟨-, -, -, -, -, r5, -⟩ := hr
  have r5 : (0 : Int) ≤ ρ 5 ∧ ρ 5 ≤ 0 := r5
  obtain ⟨-, -, f2, -⟩ := hf
  have f2 : (0 : Int) ≤ -ρ 16 + ρ 1 + (-1) := f2
  obtain ⟨w_0, w_1⟩ : (ρ 5 ≤ 0) ∧ (0 ≤ -ρ 16 + ρ 1 + (-1)) := ⟨by omega, by omega⟩
  obtain ⟨m0, m1, -, -, -, m5, -, -, -, -, -, -, -, -, -, m15, -, m17, -⟩ := hm
  have m0 : γ 0 15 0 35 = ρ 0 := m0
  have m1 : γ 0 15 0 34 = ρ 1 := m1
  have m5 : γ 0 15 0 49 = ρ 5 := m5
  have m15 : γ 2 15 0 37 = ρ 14 := m15
  have m17 : γ 8 15 0 35 = ρ 16 := m17
  obtain ⟨⟨⟨⟨⟨⟨⟨⟨⟨⟨⟨-, c1⟩, -⟩, -⟩, -⟩, -⟩, -⟩, c7⟩, -⟩, -⟩, -⟩, -⟩ := hc
  have c1 : γ 1 = rUp (γ 0) 15 0 35 (ρ 0 + 1) := c1
  have c7 : γ 7 = rUp (γ 6) 15 0 49 4 := c7
  obtain ⟨l0, l1, l2, l3, l4, l5, l6, l7, l8, -⟩ := hl
  have l0 : sn23 [ρ 0 + 1, ρ 1, ρ 7, ρ 8, ρ 9] (γ 1) 0 1 (γ 2) := hS23 _ _ _ _ _ l0
  have l1 : sn13 [99, 111, 117, 110, 116, ρ 14, ρ 15] (γ 2) 0 0 (γ 3) := hS13 _ _ _ _ _ l1
  have l2 : sn13 [115, 117, 109, 0, 0, ρ 14, ρ 15] (γ 3) 0 0 (γ 4) := hS13 _ _ _ _ _ l2
  have l3 : sn13 [109, 105, 110, 0, 0, ρ 14, ρ 15] (γ 4) 0 0 (γ 5) := hS13 _ _ _ _ _ l3
  have l4 : sn13 [109, 97, 120, 0, 0, ρ 14, ρ 15] (γ 5) 0 1 (γ 6) := hS13 _ _ _ _ _ l4
  have l5 : sn7 [ρ 13, ρ 1] (γ 7) 0 0 (γ 8) := hS7 _ _ _ _ _ l5
  have l6 : sn6 [ρ 16, ρ 1] (γ 8) 0 (ρ 17) (γ 9) := hS6 _ _ _ _ _ l6
  have l7 : sn10 [ρ 17] (γ 9) 0 0 (γ 10) := hS10 _ _ _ _ _ l7
  have l8 : sn8 [ρ 16, ρ 1, ρ 7] (γ 10) 0 0 (γ 11) := hS8 _ _ _ _ _ l8
  show sn26 [ρ 0, ρ 1, ρ 2, ρ 3, ρ 4, ρ 5, ρ 6, ρ 7, ρ 8, ρ 9, ρ 10, ρ 11, ρ 12] (γ 0) 0 0 (γ 11)
  refine Eq.symm ?_
  show fn26 [] (γ 0) = _
  unfold fn26
  refine (zLet_eq m0).trans ?_
  refine (zLet_eq m1).trans ?_
  refine (zLet_eq m5).trans ?_
  refine (if_pos w_0).trans ?_
  refine (zLet_eq c1.symm).trans ?_
  refine (zLet_eq (show fn23 [] (γ 1) = (0, 1, γ 2) from l0.symm)).trans ?_
  refine (zLet_eq (show _ = γ 2 from rfl)).trans ?_
  refine (if_pos zQ1_).trans ?_
  refine (zLet_eq m15).trans ?_
  refine (zLet_eq (show fn13 [99, 111, 117, 110, 116] (γ 2) = (0, 0, γ 3) from l1.symm)).trans ?_
  refine (zLet_eq (show _ = γ 3 from rfl)).trans ?_
  refine (if_neg zQ0_).trans ?_
  refine (zLet_eq (show fn13 [115, 117, 109, 0, 0] (γ 3) = (0, 0, γ 4) from l2.symm)).trans ?_
  refine (zLet_eq (show _ = γ 4 from rfl)).trans ?_
  refine (if_neg zQ0_).trans ?_
  refine (zLet_eq (show fn13 [109, 105, 110, 0, 0] (γ 4) = (0, 0, γ 5) from l3.symm)).trans ?_
  refine (zLet_eq (show _ = γ 5 from rfl)).trans ?_
  refine (if_neg zQ0_).trans ?_
  refine (zLet_eq (show fn13 [109, 97, 120, 0, 0] (γ 5) = (0, 1, γ 6) from l4.symm)).trans ?_
  refine (zLet_eq (show _ = γ 6 from rfl)).trans ?_
  refine (if_pos zQ1_).trans ?_
  refine (zLet_eq c7.symm).trans ?_
  refine (zLet_eq (show fn7 [] (γ 7) = (0, 0, γ 8) from l5.symm)).trans ?_
  refine (zLet_eq (show _ = γ 8 from rfl)).trans ?_
  refine (zLet_eq m17).trans ?_
  refine (zLet_eq (show fn6 [ρ 16] (γ 8) = (0, ρ 17, γ 9) from l6.symm)).trans ?_
  refine (zLet_eq (show _ = γ 9 from rfl)).trans ?_
  refine (if_pos w_1).trans ?_
  refine (zLet_eq (show _ = ρ 17 from rfl)).trans ?_
  refine (zLet_eq (show fn10 [ρ 17] (γ 9) = (0, 0, γ 10) from l7.symm)).trans ?_
  refine (zLet_eq (show _ = γ 10 from rfl)).trans ?_
  refine (if_neg zQ0_).trans ?_
  refine (zLet_eq (show fn8 [ρ 16] (γ 10) = (0, 0, γ 11) from l8.symm)).trans ?_
  refine (zLet_eq (show _ = γ 11 from rfl)).trans ?_
  rfl
theorem vn26_3 {S : Nat → zSpc} (hS6 : ∀ x g o v gz, S 6 x g o v gz → sn6 x g o v gz) (hS7 : ∀ x g o v gz, S 7 x g o v gz → sn7 x g o v gz) (hS8 : ∀ x g o v gz, S 8 x g o v gz → sn8 x g o v gz) (hS10 : ∀ x g o v gz, S 10 x g o v gz → sn10 x g o v gz) (hS13 : ∀ x g o v gz, S 13 x g o v gz → sn13 x g o v gz) (hS17 : ∀ x g o v gz, S 17 x g o v gz → sn17 x g o v gz) (hS23 : ∀ x g o v gz, S 23 x g o v gz → sn23 x g o v gz) (hS25 : ∀ x g o v gz, S 25 x g o v gz → sn25 x g o v gz) {a : List Int} {g : rHp} : ∀ (ρ : Nat → Int) (γ : Nat → rHp), zO 13 S a g q26_3 ρ γ → zGl (fun _ _ _ => True) (sn26 a g) q26_3 ρ γ := by
  intro ρ γ h
  obtain ⟨ha, hg, hr, hf, hm, hc, hl⟩ := h
  have ha : a = [ρ 0, ρ 1, ρ 2, ρ 3, ρ 4, ρ 5, ρ 6, ρ 7, ρ 8, ρ 9, ρ 10, ρ 11, ρ 12] := ha
  subst ha
  subst hg
  obtain ⟨-, -, -, -, -, r5, -⟩ := hr
  have r5 : (0 : Int) ≤ ρ 5 ∧ ρ 5 ≤ 0 := r5
  obtain ⟨f0, -⟩ := hf
  have f0 : (0 : Int) ≤ -ρ 16 + ρ 1 + (-1) := f0
  obtain ⟨w_0, w_1⟩ : (ρ 5 ≤ 0) ∧ (0 ≤ -ρ 16 + ρ 1 + (-1)) := ⟨by omega, by omega⟩
  obtain ⟨m0, m1, -, -, -, m5, -, -, -, -, -, -, -, -, -, m15, -, m17, -⟩ := hm
  have m0 : γ 0 15 0 35 = ρ 0 := m0
  have m1 : γ 0 15 0 34 = ρ 1 := m1
  have m5 : γ 0 15 0 49 = ρ 5 := m5
  have m15 : γ 2 15 0 37 = ρ 14 := m15
  have m17 : γ 8 15 0 35 = ρ 16 := m17
  obtain ⟨⟨⟨⟨⟨⟨⟨⟨⟨⟨⟨-, c1⟩, -⟩, -⟩, -⟩, -⟩, -⟩, c7⟩, -⟩, -⟩, -⟩, -⟩ := hc
  have c1 : γ 1 = rUp (γ 0) 15 0 35 (ρ 0 + 1) := c1
  have c7 : γ 7 = rUp (γ 6) 15 0 49 4 := c7
  obtain ⟨l0, l1, l2, l3, l4, l5, l6, l7, l8, -⟩ := hl
  have l0 : sn23 [ρ 0 + 1, ρ 1, ρ 7, ρ 8, ρ 9] (γ 1) 0 1 (γ 2) := hS23 _ _ _ _ _ l0
  have l1 : sn13 [99, 111, 117, 110, 116, ρ 14, ρ 15] (γ 2) 0 0 (γ 3) := hS13 _ _ _ _ _ l1
  have l2 : sn13 [115, 117, 109, 0, 0, ρ 14, ρ 15] (γ 3) 0 0 (γ 4) := hS13 _ _ _ _ _ l2
  have l3 : sn13 [109, 105, 110, 0, 0, ρ 14, ρ 15] (γ 4) 0 0 (γ 5) := hS13 _ _ _ _ _ l3
  have l4 : sn13 [109, 97, 120, 0, 0, ρ 14, ρ 15] (γ 5) 0 1 (γ 6) := hS13 _ _ _ _ _ l4
  have l5 : sn7 [ρ 13, ρ 1] (γ 7) 0 0 (γ 8) := hS7 _ _ _ _ _ l5
  have l6 : sn6 [ρ 16, ρ 1] (γ 8) 0 (ρ 17) (γ 9) := hS6 _ _ _ _ _ l6
  have l7 : sn10 [ρ 17] (γ 9) 0 1 (γ 10) := hS10 _ _ _ _ _ l7
  have l8 : sn17 [ρ 16, ρ 1, ρ 18, ρ 10, ρ 7, ρ 14, ρ 15, ρ 11, ρ 19] (γ 10) 0 0 (γ 11) := hS17 _ _ _ _ _ l8
  show sn26 [ρ 0, ρ 1, ρ 2, ρ 3, ρ 4, ρ 5, ρ 6, ρ 7, ρ 8, ρ 9, ρ 10, ρ 11, ρ 12] (γ 0) 0 0 (γ 11)
  refine Eq.symm ?_
  show fn26 [] (γ 0) = _
  unfold fn26
  refine (zLet_eq m0).trans ?_
  refine (zLet_eq m1).trans ?_
  refine (zLet_eq m5).trans ?_
  refine (if_pos w_0).trans ?_
  refine (zLet_eq c1.symm).trans ?_
  refine (zLet_eq (show fn23 [] (γ 1) = (0, 1, γ 2) from l0.symm)).trans ?_
  refine (zLet_eq (show _ = γ 2 from rfl)).trans ?_
  refine (if_pos zQ1_).trans ?_
  refine (zLet_eq m15).trans ?_
  refine (zLet_eq (show fn13 [99, 111, 117, 110, 116] (γ 2) = (0, 0, γ 3) from l1.symm)).trans ?_
  refine (zLet_eq (show _ = γ 3 from rfl)).trans ?_
  refine (if_neg zQ0_).trans ?_
  refine (zLet_eq (show fn13 [115, 117, 109, 0, 0] (γ 3) = (0, 0, γ 4) from l2.symm)).trans ?_
  refine (zLet_eq (show _ = γ 4 from rfl)).trans ?_
  refine (if_neg zQ0_).trans ?_
  refine (zLet_eq (show fn13 [109, 105, 110, 0, 0] (γ 4) = (0, 0, γ 5) from l3.symm)).trans ?_
  refine (zLet_eq (show _ = γ 5 from rfl)).trans ?_
  refine (if_neg zQ0_).trans ?_
  refine (zLet_eq (show fn13 [109, 97, 120, 0, 0] (γ 5) = (0, 1, γ 6) from l4.symm)).trans ?_
  refine (zLet_eq (show _ = γ 6 from rfl)).trans ?_
  refine (if_pos zQ1_).trans ?_
  refine (zLet_eq c7.symm).trans ?_
  refine (zLet_eq (show fn7 [] (γ 7) = (0, 0, γ 8) from l5.symm)).trans ?_
  refine (zLet_eq (show _ = γ 8 from rfl)).trans ?_
  refine (zLet_eq m17).trans ?_
  refine (zLet_eq (show fn6 [ρ 16] (γ 8) = (0, ρ 17, γ 9) from l6.symm)).trans ?_
  refine (zLet_eq (show _ = γ 9 from rfl)).trans ?_
  refine (if_pos w_1).trans ?_
  refine (zLet_eq (show _ = ρ 17 from rfl)).trans ?_
  refine (zLet_eq (show fn10 [ρ 17] (γ 9) = (0, 1, γ 10) from l7.symm)).trans ?_
  refine (zLet_eq (show _ = γ 10 from rfl)).trans ?_
  refine (if_pos zQ1_).trans ?_
  refine (zLet_eq (show fn17 [] (γ 10) = (0, 0, γ 11) from l8.symm)).trans ?_
  refine (zLet_eq (show _ = γ 11 from rfl)).trans ?_
  refine (if_neg zQ0_).trans ?_
  rfl
theorem vn26_4 {S : Nat → zSpc} (hS6 : ∀ x g o v gz, S 6 x g o v gz → sn6 x g o v gz) (hS7 : ∀ x g o v gz, S 7 x g o v gz → sn7 x g o v gz) (hS8 : ∀ x g o v gz, S 8 x g o v gz → sn8 x g o v gz) (hS10 : ∀ x g o v gz, S 10 x g o v gz → sn10 x g o v gz) (hS13 : ∀ x g o v gz, S 13 x g o v gz → sn13 x g o v gz) (hS17 : ∀ x g o v gz, S 17 x g o v gz → sn17 x g o v gz) (hS23 : ∀ x g o v gz, S 23 x g o v gz → sn23 x g o v gz) (hS25 : ∀ x g o v gz, S 25 x g o v gz → sn25 x g o v gz) {a : List Int} {g : rHp} : ∀ (ρ : Nat → Int) (γ : Nat → rHp), zO 13 S a g q26_4 ρ γ → zGl (fun _ _ _ => True) (sn26 a g) q26_4 ρ γ := by
  intro ρ γ h
  obtain ⟨ha, hg, hr, hf, hm, hc, hl⟩ := h
  have ha : a = [ρ 0, ρ 1, ρ 2, ρ 3, ρ 4, ρ 5, ρ 6, ρ 7, ρ 8, ρ 9, ρ 10, ρ 11, ρ 12] := ha
  subst ha
  subst hg
  obtain ⟨-, -, -, -, -, r5, -⟩ := hr
  have r5 : (0 : Int) ≤ ρ 5 ∧ ρ 5 ≤ 0 := r5
  obtain ⟨f0, -⟩ := hf
  have f0 : (0 : Int) ≤ -ρ 16 + ρ 1 + (-1) := f0
  obtain ⟨w_0, w_1⟩ : (ρ 5 ≤ 0) ∧ (0 ≤ -ρ 16 + ρ 1 + (-1)) := ⟨by omega, by omega⟩
  obtain ⟨m0, m1, -, -, -, m5, -, -, -, -, -, -, -, -, -, m15, -, m17, -, -, -, m21, -⟩ := hm
  have m0 : γ 0 15 0 35 = ρ 0 := m0
  have m1 : γ 0 15 0 34 = ρ 1 := m1
  have m5 : γ 0 15 0 49 = ρ 5 := m5
  have m15 : γ 2 15 0 37 = ρ 14 := m15
  have m17 : γ 8 15 0 35 = ρ 16 := m17
  have m21 : γ 11 15 0 39 = ρ 21 := m21
  obtain ⟨⟨⟨⟨⟨⟨⟨⟨⟨⟨⟨⟨⟨⟨⟨-, c1⟩, -⟩, -⟩, -⟩, -⟩, -⟩, c7⟩, -⟩, -⟩, -⟩, -⟩, c12⟩, -⟩, c14⟩, c15⟩ := hc
  have c1 : γ 1 = rUp (γ 0) 15 0 35 (ρ 0 + 1) := c1
  have c7 : γ 7 = rUp (γ 6) 15 0 49 4 := c7
  have c12 : γ 12 = rUp (γ 11) 15 0 50 (ρ 21) := c12
  have c14 : γ 14 = rUp (γ 13) 15 0 40 3 := c14
  have c15 : γ 15 = rUp (γ 14) 15 0 39 0 := c15
  obtain ⟨l0, l1, l2, l3, l4, l5, l6, l7, l8, l9, -⟩ := hl
  have l0 : sn23 [ρ 0 + 1, ρ 1, ρ 7, ρ 8, ρ 9] (γ 1) 0 1 (γ 2) := hS23 _ _ _ _ _ l0
  have l1 : sn13 [99, 111, 117, 110, 116, ρ 14, ρ 15] (γ 2) 0 0 (γ 3) := hS13 _ _ _ _ _ l1
  have l2 : sn13 [115, 117, 109, 0, 0, ρ 14, ρ 15] (γ 3) 0 0 (γ 4) := hS13 _ _ _ _ _ l2
  have l3 : sn13 [109, 105, 110, 0, 0, ρ 14, ρ 15] (γ 4) 0 0 (γ 5) := hS13 _ _ _ _ _ l3
  have l4 : sn13 [109, 97, 120, 0, 0, ρ 14, ρ 15] (γ 5) 0 1 (γ 6) := hS13 _ _ _ _ _ l4
  have l5 : sn7 [ρ 13, ρ 1] (γ 7) 0 0 (γ 8) := hS7 _ _ _ _ _ l5
  have l6 : sn6 [ρ 16, ρ 1] (γ 8) 0 (ρ 17) (γ 9) := hS6 _ _ _ _ _ l6
  have l7 : sn10 [ρ 17] (γ 9) 0 1 (γ 10) := hS10 _ _ _ _ _ l7
  have l8 : sn17 [ρ 16, ρ 1, ρ 18, ρ 10, ρ 7, ρ 14, ρ 15, ρ 11, ρ 19] (γ 10) 0 1 (γ 11) := hS17 _ _ _ _ _ l8
  have l9 : sn25 [ρ 16, ρ 21, 0, ρ 4, ρ 12] (γ 12) 0 0 (γ 13) := hS25 _ _ _ _ _ l9
  show sn26 [ρ 0, ρ 1, ρ 2, ρ 3, ρ 4, ρ 5, ρ 6, ρ 7, ρ 8, ρ 9, ρ 10, ρ 11, ρ 12] (γ 0) 0 1 (γ 15)
  refine Eq.symm ?_
  show fn26 [] (γ 0) = _
  unfold fn26
  refine (zLet_eq m0).trans ?_
  refine (zLet_eq m1).trans ?_
  refine (zLet_eq m5).trans ?_
  refine (if_pos w_0).trans ?_
  refine (zLet_eq c1.symm).trans ?_
  refine (zLet_eq (show fn23 [] (γ 1) = (0, 1, γ 2) from l0.symm)).trans ?_
  refine (zLet_eq (show _ = γ 2 from rfl)).trans ?_
  refine (if_pos zQ1_).trans ?_
  refine (zLet_eq m15).trans ?_
  refine (zLet_eq (show fn13 [99, 111, 117, 110, 116] (γ 2) = (0, 0, γ 3) from l1.symm)).trans ?_
  refine (zLet_eq (show _ = γ 3 from rfl)).trans ?_
  refine (if_neg zQ0_).trans ?_
  refine (zLet_eq (show fn13 [115, 117, 109, 0, 0] (γ 3) = (0, 0, γ 4) from l2.symm)).trans ?_
  refine (zLet_eq (show _ = γ 4 from rfl)).trans ?_
  refine (if_neg zQ0_).trans ?_
  refine (zLet_eq (show fn13 [109, 105, 110, 0, 0] (γ 4) = (0, 0, γ 5) from l3.symm)).trans ?_
  refine (zLet_eq (show _ = γ 5 from rfl)).trans ?_
  refine (if_neg zQ0_).trans ?_
  refine (zLet_eq (show fn13 [109, 97, 120, 0, 0] (γ 5) = (0, 1, γ 6) from l4.symm)).trans ?_
  refine (zLet_eq (show _ = γ 6 from rfl)).trans ?_
  refine (if_pos zQ1_).trans ?_
  refine (zLet_eq c7.symm).trans ?_
  refine (zLet_eq (show fn7 [] (γ 7) = (0, 0, γ 8) from l5.symm)).trans ?_
  refine (zLet_eq (show _ = γ 8 from rfl)).trans ?_
  refine (zLet_eq m17).trans ?_
  refine (zLet_eq (show fn6 [ρ 16] (γ 8) = (0, ρ 17, γ 9) from l6.symm)).trans ?_
  refine (zLet_eq (show _ = γ 9 from rfl)).trans ?_
  refine (if_pos w_1).trans ?_
  refine (zLet_eq (show _ = ρ 17 from rfl)).trans ?_
  refine (zLet_eq (show fn10 [ρ 17] (γ 9) = (0, 1, γ 10) from l7.symm)).trans ?_
  refine (zLet_eq (show _ = γ 10 from rfl)).trans ?_
  refine (if_pos zQ1_).trans ?_
  refine (zLet_eq (show fn17 [] (γ 10) = (0, 1, γ 11) from l8.symm)).trans ?_
  refine (zLet_eq (show _ = γ 11 from rfl)).trans ?_
  refine (if_pos zQ1_).trans ?_
  refine (zLet_eq m21).trans ?_
  refine (zLet_eq c12.symm).trans ?_
  refine (zLet_eq (show fn25 [ρ 16, ρ 21, 0] (γ 12) = (0, 0, γ 13) from l9.symm)).trans ?_
  refine (zLet_eq (show _ = γ 13 from rfl)).trans ?_
  refine (zLet_eq c14.symm).trans ?_
  refine (zLet_eq c15.symm).trans ?_
  rfl
theorem vn26_5 {S : Nat → zSpc} (hS6 : ∀ x g o v gz, S 6 x g o v gz → sn6 x g o v gz) (hS7 : ∀ x g o v gz, S 7 x g o v gz → sn7 x g o v gz) (hS8 : ∀ x g o v gz, S 8 x g o v gz → sn8 x g o v gz) (hS10 : ∀ x g o v gz, S 10 x g o v gz → sn10 x g o v gz) (hS13 : ∀ x g o v gz, S 13 x g o v gz → sn13 x g o v gz) (hS17 : ∀ x g o v gz, S 17 x g o v gz → sn17 x g o v gz) (hS23 : ∀ x g o v gz, S 23 x g o v gz → sn23 x g o v gz) (hS25 : ∀ x g o v gz, S 25 x g o v gz → sn25 x g o v gz) {a : List Int} {g : rHp} : ∀ (ρ : Nat → Int) (γ : Nat → rHp), zO 13 S a g q26_5 ρ γ → zGl (fun _ _ _ => True) (sn26 a g) q26_5 ρ γ := by
  intro ρ γ h
  obtain ⟨ha, hg, hr, hf, hm, hc, hl⟩ := h
  have ha : a = [ρ 0, ρ 1, ρ 2, ρ 3, ρ 4, ρ 5, ρ 6, ρ 7, ρ 8, ρ 9, ρ 10, ρ 11, ρ 12] := ha
  subst ha
  subst hg
  obtain ⟨-, -, -, -, -, r5, -⟩ := hr
  have r5 : (0 : Int) ≤ ρ 5 ∧ ρ 5 ≤ 0 := r5
  obtain ⟨-, -, f2, -⟩ := hf
  have f2 : (0 : Int) ≤ ρ 16 + -ρ 1 := f2
  obtain ⟨w_0, w_1⟩ : (ρ 5 ≤ 0) ∧ (¬ (0 ≤ -ρ 16 + ρ 1 + (-1))) := ⟨by omega, by omega⟩
  obtain ⟨m0, m1, -, -, -, m5, -, -, -, -, -, -, -, -, -, m15, -, m17, -⟩ := hm
  have m0 : γ 0 15 0 35 = ρ 0 := m0
  have m1 : γ 0 15 0 34 = ρ 1 := m1
  have m5 : γ 0 15 0 49 = ρ 5 := m5
  have m15 : γ 2 15 0 37 = ρ 14 := m15
  have m17 : γ 8 15 0 35 = ρ 16 := m17
  obtain ⟨⟨⟨⟨⟨⟨⟨⟨⟨⟨⟨-, c1⟩, -⟩, -⟩, -⟩, -⟩, -⟩, c7⟩, -⟩, -⟩, -⟩, -⟩ := hc
  have c1 : γ 1 = rUp (γ 0) 15 0 35 (ρ 0 + 1) := c1
  have c7 : γ 7 = rUp (γ 6) 15 0 49 4 := c7
  obtain ⟨l0, l1, l2, l3, l4, l5, l6, l7, l8, -⟩ := hl
  have l0 : sn23 [ρ 0 + 1, ρ 1, ρ 7, ρ 8, ρ 9] (γ 1) 0 1 (γ 2) := hS23 _ _ _ _ _ l0
  have l1 : sn13 [99, 111, 117, 110, 116, ρ 14, ρ 15] (γ 2) 0 0 (γ 3) := hS13 _ _ _ _ _ l1
  have l2 : sn13 [115, 117, 109, 0, 0, ρ 14, ρ 15] (γ 3) 0 0 (γ 4) := hS13 _ _ _ _ _ l2
  have l3 : sn13 [109, 105, 110, 0, 0, ρ 14, ρ 15] (γ 4) 0 0 (γ 5) := hS13 _ _ _ _ _ l3
  have l4 : sn13 [109, 97, 120, 0, 0, ρ 14, ρ 15] (γ 5) 0 1 (γ 6) := hS13 _ _ _ _ _ l4
  have l5 : sn7 [ρ 13, ρ 1] (γ 7) 0 0 (γ 8) := hS7 _ _ _ _ _ l5
  have l6 : sn6 [ρ 16, ρ 1] (γ 8) 0 (-1) (γ 9) := hS6 _ _ _ _ _ l6
  have l7 : sn10 [(-1)] (γ 9) 0 0 (γ 10) := hS10 _ _ _ _ _ l7
  have l8 : sn8 [ρ 16, ρ 1, ρ 7] (γ 10) 0 0 (γ 11) := hS8 _ _ _ _ _ l8
  show sn26 [ρ 0, ρ 1, ρ 2, ρ 3, ρ 4, ρ 5, ρ 6, ρ 7, ρ 8, ρ 9, ρ 10, ρ 11, ρ 12] (γ 0) 0 0 (γ 11)
  refine Eq.symm ?_
  show fn26 [] (γ 0) = _
  unfold fn26
  refine (zLet_eq m0).trans ?_
  refine (zLet_eq m1).trans ?_
  refine (zLet_eq m5).trans ?_
  refine (if_pos w_0).trans ?_
  refine (zLet_eq c1.symm).trans ?_
  refine (zLet_eq (show fn23 [] (γ 1) = (0, 1, γ 2) from l0.symm)).trans ?_
  refine (zLet_eq (show _ = γ 2 from rfl)).trans ?_
  refine (if_pos zQ1_).trans ?_
  refine (zLet_eq m15).trans ?_
  refine (zLet_eq (show fn13 [99, 111, 117, 110, 116] (γ 2) = (0, 0, γ 3) from l1.symm)).trans ?_
  refine (zLet_eq (show _ = γ 3 from rfl)).trans ?_
  refine (if_neg zQ0_).trans ?_
  refine (zLet_eq (show fn13 [115, 117, 109, 0, 0] (γ 3) = (0, 0, γ 4) from l2.symm)).trans ?_
  refine (zLet_eq (show _ = γ 4 from rfl)).trans ?_
  refine (if_neg zQ0_).trans ?_
  refine (zLet_eq (show fn13 [109, 105, 110, 0, 0] (γ 4) = (0, 0, γ 5) from l3.symm)).trans ?_
  refine (zLet_eq (show _ = γ 5 from rfl)).trans ?_
  refine (if_neg zQ0_).trans ?_
  refine (zLet_eq (show fn13 [109, 97, 120, 0, 0] (γ 5) = (0, 1, γ 6) from l4.symm)).trans ?_
  refine (zLet_eq (show _ = γ 6 from rfl)).trans ?_
  refine (if_pos zQ1_).trans ?_
  refine (zLet_eq c7.symm).trans ?_
  refine (zLet_eq (show fn7 [] (γ 7) = (0, 0, γ 8) from l5.symm)).trans ?_
  refine (zLet_eq (show _ = γ 8 from rfl)).trans ?_
  refine (zLet_eq m17).trans ?_
  refine (zLet_eq (show fn6 [ρ 16] (γ 8) = (0, (-1), γ 9) from l6.symm)).trans ?_
  refine (zLet_eq (show _ = γ 9 from rfl)).trans ?_
  refine (if_neg w_1).trans ?_
  refine (zLet_eq (show fn10 [(-1)] (γ 9) = (0, 0, γ 10) from l7.symm)).trans ?_
  refine (zLet_eq (show _ = γ 10 from rfl)).trans ?_
  refine (zLet_eq (show fn8 [ρ 16] (γ 10) = (0, 0, γ 11) from l8.symm)).trans ?_
  refine (zLet_eq (show _ = γ 11 from rfl)).trans ?_
  rfl
theorem vn26_6 {S : Nat → zSpc} (hS6 : ∀ x g o v gz, S 6 x g o v gz → sn6 x g o v gz) (hS7 : ∀ x g o v gz, S 7 x g o v gz → sn7 x g o v gz) (hS8 : ∀ x g o v gz, S 8 x g o v gz → sn8 x g o v gz) (hS10 : ∀ x g o v gz, S 10 x g o v gz → sn10 x g o v gz) (hS13 : ∀ x g o v gz, S 13 x g o v gz → sn13 x g o v gz) (hS17 : ∀ x g o v gz, S 17 x g o v gz → sn17 x g o v gz) (hS23 : ∀ x g o v gz, S 23 x g o v gz → sn23 x g o v gz) (hS25 : ∀ x g o v gz, S 25 x g o v gz → sn25 x g o v gz) {a : List Int} {g : rHp} : ∀ (ρ : Nat → Int) (γ : Nat → rHp), zO 13 S a g q26_6 ρ γ → zGl (fun _ _ _ => True) (sn26 a g) q26_6 ρ γ := by
  intro ρ γ h
  obtain ⟨ha, hg, hr, hf, hm, hc, hl⟩ := h
  have ha : a = [ρ 0, ρ 1, ρ 2, ρ 3, ρ 4, ρ 5, ρ 6, ρ 7, ρ 8, ρ 9, ρ 10, ρ 11, ρ 12] := ha
  subst ha
  subst hg
  obtain ⟨-, -, -, -, -, r5, -⟩ := hr
  have r5 : (0 : Int) ≤ ρ 5 ∧ ρ 5 ≤ 0 := r5
  obtain ⟨-, -, f2, -⟩ := hf
  have f2 : (0 : Int) ≤ -ρ 16 + ρ 1 + (-1) := f2
  obtain ⟨w_0, w_1⟩ : (ρ 5 ≤ 0) ∧ (0 ≤ -ρ 16 + ρ 1 + (-1)) := ⟨by omega, by omega⟩
  obtain ⟨m0, m1, -, -, -, m5, -, -, -, -, -, -, -, -, -, m15, -, m17, -⟩ := hm
  have m0 : γ 0 15 0 35 = ρ 0 := m0
  have m1 : γ 0 15 0 34 = ρ 1 := m1
  have m5 : γ 0 15 0 49 = ρ 5 := m5
  have m15 : γ 2 15 0 37 = ρ 14 := m15
  have m17 : γ 7 15 0 35 = ρ 16 := m17
  obtain ⟨⟨⟨⟨⟨⟨⟨⟨⟨⟨-, c1⟩, -⟩, -⟩, -⟩, -⟩, c6⟩, -⟩, -⟩, -⟩, -⟩ := hc
  have c1 : γ 1 = rUp (γ 0) 15 0 35 (ρ 0 + 1) := c1
  have c6 : γ 6 = rUp (γ 5) 15 0 49 3 := c6
  obtain ⟨l0, l1, l2, l3, l4, l5, l6, l7, -⟩ := hl
  have l0 : sn23 [ρ 0 + 1, ρ 1, ρ 7, ρ 8, ρ 9] (γ 1) 0 1 (γ 2) := hS23 _ _ _ _ _ l0
  have l1 : sn13 [99, 111, 117, 110, 116, ρ 14, ρ 15] (γ 2) 0 0 (γ 3) := hS13 _ _ _ _ _ l1
  have l2 : sn13 [115, 117, 109, 0, 0, ρ 14, ρ 15] (γ 3) 0 0 (γ 4) := hS13 _ _ _ _ _ l2
  have l3 : sn13 [109, 105, 110, 0, 0, ρ 14, ρ 15] (γ 4) 0 1 (γ 5) := hS13 _ _ _ _ _ l3
  have l4 : sn7 [ρ 13, ρ 1] (γ 6) 0 0 (γ 7) := hS7 _ _ _ _ _ l4
  have l5 : sn6 [ρ 16, ρ 1] (γ 7) 0 (ρ 17) (γ 8) := hS6 _ _ _ _ _ l5
  have l6 : sn10 [ρ 17] (γ 8) 0 0 (γ 9) := hS10 _ _ _ _ _ l6
  have l7 : sn8 [ρ 16, ρ 1, ρ 7] (γ 9) 0 0 (γ 10) := hS8 _ _ _ _ _ l7
  show sn26 [ρ 0, ρ 1, ρ 2, ρ 3, ρ 4, ρ 5, ρ 6, ρ 7, ρ 8, ρ 9, ρ 10, ρ 11, ρ 12] (γ 0) 0 0 (γ 10)
  refine Eq.symm ?_
  show fn26 [] (γ 0) = _
  unfold fn26
  refine (zLet_eq m0).trans ?_
  refine (zLet_eq m1).trans ?_
  refine (zLet_eq m5).trans ?_
  refine (if_pos w_0).trans ?_
  refine (zLet_eq c1.symm).trans ?_
  refine (zLet_eq (show fn23 [] (γ 1) = (0, 1, γ 2) from l0.symm)).trans ?_
  refine (zLet_eq (show _ = γ 2 from rfl)).trans ?_
  refine (if_pos zQ1_).trans ?_
  refine (zLet_eq m15).trans ?_
  refine (zLet_eq (show fn13 [99, 111, 117, 110, 116] (γ 2) = (0, 0, γ 3) from l1.symm)).trans ?_
  refine (zLet_eq (show _ = γ 3 from rfl)).trans ?_
  refine (if_neg zQ0_).trans ?_
  refine (zLet_eq (show fn13 [115, 117, 109, 0, 0] (γ 3) = (0, 0, γ 4) from l2.symm)).trans ?_
  refine (zLet_eq (show _ = γ 4 from rfl)).trans ?_
  refine (if_neg zQ0_).trans ?_
  refine (zLet_eq (show fn13 [109, 105, 110, 0, 0] (γ 4) = (0, 1, γ 5) from l3.symm)).trans ?_
  refine (zLet_eq (show _ = γ 5 from rfl)).trans ?_
  refine (if_pos zQ1_).trans ?_
  refine (zLet_eq c6.symm).trans ?_
  refine (zLet_eq (show fn7 [] (γ 6) = (0, 0, γ 7) from l4.symm)).trans ?_
  refine (zLet_eq (show _ = γ 7 from rfl)).trans ?_
  refine (zLet_eq m17).trans ?_
  refine (zLet_eq (show fn6 [ρ 16] (γ 7) = (0, ρ 17, γ 8) from l5.symm)).trans ?_
  refine (zLet_eq (show _ = γ 8 from rfl)).trans ?_
  refine (if_pos w_1).trans ?_
  refine (zLet_eq (show _ = ρ 17 from rfl)).trans ?_
  refine (zLet_eq (show fn10 [ρ 17] (γ 8) = (0, 0, γ 9) from l6.symm)).trans ?_
  refine (zLet_eq (show _ = γ 9 from rfl)).trans ?_
  refine (if_neg zQ0_).trans ?_
  refine (zLet_eq (show fn8 [ρ 16] (γ 9) = (0, 0, γ 10) from l7.symm)).trans ?_
  refine (zLet_eq (show _ = γ 10 from rfl)).trans ?_
  rfl
theorem vn26_7 {S : Nat → zSpc} (hS6 : ∀ x g o v gz, S 6 x g o v gz → sn6 x g o v gz) (hS7 : ∀ x g o v gz, S 7 x g o v gz → sn7 x g o v gz) (hS8 : ∀ x g o v gz, S 8 x g o v gz → sn8 x g o v gz) (hS10 : ∀ x g o v gz, S 10 x g o v gz → sn10 x g o v gz) (hS13 : ∀ x g o v gz, S 13 x g o v gz → sn13 x g o v gz) (hS17 : ∀ x g o v gz, S 17 x g o v gz → sn17 x g o v gz) (hS23 : ∀ x g o v gz, S 23 x g o v gz → sn23 x g o v gz) (hS25 : ∀ x g o v gz, S 25 x g o v gz → sn25 x g o v gz) {a : List Int} {g : rHp} : ∀ (ρ : Nat → Int) (γ : Nat → rHp), zO 13 S a g q26_7 ρ γ → zGl (fun _ _ _ => True) (sn26 a g) q26_7 ρ γ := by
  intro ρ γ h
  obtain ⟨ha, hg, hr, hf, hm, hc, hl⟩ := h
  have ha : a = [ρ 0, ρ 1, ρ 2, ρ 3, ρ 4, ρ 5, ρ 6, ρ 7, ρ 8, ρ 9, ρ 10, ρ 11, ρ 12] := ha
  subst ha
  subst hg
  obtain ⟨-, -, -, -, -, r5, -⟩ := hr
  have r5 : (0 : Int) ≤ ρ 5 ∧ ρ 5 ≤ 0 := r5
  obtain ⟨f0, -⟩ := hf
  have f0 : (0 : Int) ≤ -ρ 16 + ρ 1 + (-1) := f0
  obtain ⟨w_0, w_1⟩ : (ρ 5 ≤ 0) ∧ (0 ≤ -ρ 16 + ρ 1 + (-1)) := ⟨by omega, by omega⟩
  obtain ⟨m0, m1, -, -, -, m5, -, -, -, -, -, -, -, -, -, m15, -, m17, -⟩ := hm
  have m0 : γ 0 15 0 35 = ρ 0 := m0
  have m1 : γ 0 15 0 34 = ρ 1 := m1
  have m5 : γ 0 15 0 49 = ρ 5 := m5
  have m15 : γ 2 15 0 37 = ρ 14 := m15
  have m17 : γ 7 15 0 35 = ρ 16 := m17
  obtain ⟨⟨⟨⟨⟨⟨⟨⟨⟨⟨-, c1⟩, -⟩, -⟩, -⟩, -⟩, c6⟩, -⟩, -⟩, -⟩, -⟩ := hc
  have c1 : γ 1 = rUp (γ 0) 15 0 35 (ρ 0 + 1) := c1
  have c6 : γ 6 = rUp (γ 5) 15 0 49 3 := c6
  obtain ⟨l0, l1, l2, l3, l4, l5, l6, l7, -⟩ := hl
  have l0 : sn23 [ρ 0 + 1, ρ 1, ρ 7, ρ 8, ρ 9] (γ 1) 0 1 (γ 2) := hS23 _ _ _ _ _ l0
  have l1 : sn13 [99, 111, 117, 110, 116, ρ 14, ρ 15] (γ 2) 0 0 (γ 3) := hS13 _ _ _ _ _ l1
  have l2 : sn13 [115, 117, 109, 0, 0, ρ 14, ρ 15] (γ 3) 0 0 (γ 4) := hS13 _ _ _ _ _ l2
  have l3 : sn13 [109, 105, 110, 0, 0, ρ 14, ρ 15] (γ 4) 0 1 (γ 5) := hS13 _ _ _ _ _ l3
  have l4 : sn7 [ρ 13, ρ 1] (γ 6) 0 0 (γ 7) := hS7 _ _ _ _ _ l4
  have l5 : sn6 [ρ 16, ρ 1] (γ 7) 0 (ρ 17) (γ 8) := hS6 _ _ _ _ _ l5
  have l6 : sn10 [ρ 17] (γ 8) 0 1 (γ 9) := hS10 _ _ _ _ _ l6
  have l7 : sn17 [ρ 16, ρ 1, ρ 18, ρ 10, ρ 7, ρ 14, ρ 15, ρ 11, ρ 19] (γ 9) 0 0 (γ 10) := hS17 _ _ _ _ _ l7
  show sn26 [ρ 0, ρ 1, ρ 2, ρ 3, ρ 4, ρ 5, ρ 6, ρ 7, ρ 8, ρ 9, ρ 10, ρ 11, ρ 12] (γ 0) 0 0 (γ 10)
  refine Eq.symm ?_
  show fn26 [] (γ 0) = _
  unfold fn26
  refine (zLet_eq m0).trans ?_
  refine (zLet_eq m1).trans ?_
  refine (zLet_eq m5).trans ?_
  refine (if_pos w_0).trans ?_
  refine (zLet_eq c1.symm).trans ?_
  refine (zLet_eq (show fn23 [] (γ 1) = (0, 1, γ 2) from l0.symm)).trans ?_
  refine (zLet_eq (show _ = γ 2 from rfl)).trans ?_
  refine (if_pos zQ1_).trans ?_
  refine (zLet_eq m15).trans ?_
  refine (zLet_eq (show fn13 [99, 111, 117, 110, 116] (γ 2) = (0, 0, γ 3) from l1.symm)).trans ?_
  refine (zLet_eq (show _ = γ 3 from rfl)).trans ?_
  refine (if_neg zQ0_).trans ?_
  refine (zLet_eq (show fn13 [115, 117, 109, 0, 0] (γ 3) = (0, 0, γ 4) from l2.symm)).trans ?_
  refine (zLet_eq (show _ = γ 4 from rfl)).trans ?_
  refine (if_neg zQ0_).trans ?_
  refine (zLet_eq (show fn13 [109, 105, 110, 0, 0] (γ 4) = (0, 1, γ 5) from l3.symm)).trans ?_
  refine (zLet_eq (show _ = γ 5 from rfl)).trans ?_
  refine (if_pos zQ1_).trans ?_
  refine (zLet_eq c6.symm).trans ?_
  refine (zLet_eq (show fn7 [] (γ 6) = (0, 0, γ 7) from l4.symm)).trans ?_
  refine (zLet_eq (show _ = γ 7 from rfl)).trans ?_
  refine (zLet_eq m17).trans ?_
  refine (zLet_eq (show fn6 [ρ 16] (γ 7) = (0, ρ 17, γ 8) from l5.symm)).trans ?_
  refine (zLet_eq (show _ = γ 8 from rfl)).trans ?_
  refine (if_pos w_1).trans ?_
  refine (zLet_eq (show _ = ρ 17 from rfl)).trans ?_
  refine (zLet_eq (show fn10 [ρ 17] (γ 8) = (0, 1, γ 9) from l6.symm)).trans ?_
  refine (zLet_eq (show _ = γ 9 from rfl)).trans ?_
  refine (if_pos zQ1_).trans ?_
  refine (zLet_eq (show fn17 [] (γ 9) = (0, 0, γ 10) from l7.symm)).trans ?_
  refine (zLet_eq (show _ = γ 10 from rfl)).trans ?_
  refine (if_neg zQ0_).trans ?_
  rfl
theorem vn26_8 {S : Nat → zSpc} (hS6 : ∀ x g o v gz, S 6 x g o v gz → sn6 x g o v gz) (hS7 : ∀ x g o v gz, S 7 x g o v gz → sn7 x g o v gz) (hS8 : ∀ x g o v gz, S 8 x g o v gz → sn8 x g o v gz) (hS10 : ∀ x g o v gz, S 10 x g o v gz → sn10 x g o v gz) (hS13 : ∀ x g o v gz, S 13 x g o v gz → sn13 x g o v gz) (hS17 : ∀ x g o v gz, S 17 x g o v gz → sn17 x g o v gz) (hS23 : ∀ x g o v gz, S 23 x g o v gz → sn23 x g o v gz) (hS25 : ∀ x g o v gz, S 25 x g o v gz → sn25 x g o v gz) {a : List Int} {g : rHp} : ∀ (ρ : Nat → Int) (γ : Nat → rHp), zO 13 S a g q26_8 ρ γ → zGl (fun _ _ _ => True) (sn26 a g) q26_8 ρ γ := by
  intro ρ γ h
  obtain ⟨ha, hg, hr, hf, hm, hc, hl⟩ := h
  have ha : a = [ρ 0, ρ 1, ρ 2, ρ 3, ρ 4, ρ 5, ρ 6, ρ 7, ρ 8, ρ 9, ρ 10, ρ 11, ρ 12] := ha
  subst ha
  subst hg
  obtain ⟨-, -, -, -, -, r5, -⟩ := hr
  have r5 : (0 : Int) ≤ ρ 5 ∧ ρ 5 ≤ 0 := r5
  obtain ⟨f0, -⟩ := hf
  have f0 : (0 : Int) ≤ -ρ 16 + ρ 1 + (-1) := f0
  obtain ⟨w_0, w_1⟩ : (ρ 5 ≤ 0) ∧ (0 ≤ -ρ 16 + ρ 1 + (-1)) := ⟨by omega, by omega⟩
  obtain ⟨m0, m1, -, -, -, m5, -, -, -, -, -, -, -, -, -, m15, -, m17, -, -, -, m21, -⟩ := hm
  have m0 : γ 0 15 0 35 = ρ 0 := m0
  have m1 : γ 0 15 0 34 = ρ 1 := m1
  have m5 : γ 0 15 0 49 = ρ 5 := m5
  have m15 : γ 2 15 0 37 = ρ 14 := m15
  have m17 : γ 7 15 0 35 = ρ 16 := m17
  have m21 : γ 10 15 0 39 = ρ 21 := m21
  obtain ⟨⟨⟨⟨⟨⟨⟨⟨⟨⟨⟨⟨⟨⟨-, c1⟩, -⟩, -⟩, -⟩, -⟩, c6⟩, -⟩, -⟩, -⟩, -⟩, c11⟩, -⟩, c13⟩, c14⟩ := hc
  have c1 : γ 1 = rUp (γ 0) 15 0 35 (ρ 0 + 1) := c1
  have c6 : γ 6 = rUp (γ 5) 15 0 49 3 := c6
  have c11 : γ 11 = rUp (γ 10) 15 0 50 (ρ 21) := c11
  have c13 : γ 13 = rUp (γ 12) 15 0 40 3 := c13
  have c14 : γ 14 = rUp (γ 13) 15 0 39 0 := c14
  obtain ⟨l0, l1, l2, l3, l4, l5, l6, l7, l8, -⟩ := hl
  have l0 : sn23 [ρ 0 + 1, ρ 1, ρ 7, ρ 8, ρ 9] (γ 1) 0 1 (γ 2) := hS23 _ _ _ _ _ l0
  have l1 : sn13 [99, 111, 117, 110, 116, ρ 14, ρ 15] (γ 2) 0 0 (γ 3) := hS13 _ _ _ _ _ l1
  have l2 : sn13 [115, 117, 109, 0, 0, ρ 14, ρ 15] (γ 3) 0 0 (γ 4) := hS13 _ _ _ _ _ l2
  have l3 : sn13 [109, 105, 110, 0, 0, ρ 14, ρ 15] (γ 4) 0 1 (γ 5) := hS13 _ _ _ _ _ l3
  have l4 : sn7 [ρ 13, ρ 1] (γ 6) 0 0 (γ 7) := hS7 _ _ _ _ _ l4
  have l5 : sn6 [ρ 16, ρ 1] (γ 7) 0 (ρ 17) (γ 8) := hS6 _ _ _ _ _ l5
  have l6 : sn10 [ρ 17] (γ 8) 0 1 (γ 9) := hS10 _ _ _ _ _ l6
  have l7 : sn17 [ρ 16, ρ 1, ρ 18, ρ 10, ρ 7, ρ 14, ρ 15, ρ 11, ρ 19] (γ 9) 0 1 (γ 10) := hS17 _ _ _ _ _ l7
  have l8 : sn25 [ρ 16, ρ 21, 0, ρ 4, ρ 12] (γ 11) 0 0 (γ 12) := hS25 _ _ _ _ _ l8
  show sn26 [ρ 0, ρ 1, ρ 2, ρ 3, ρ 4, ρ 5, ρ 6, ρ 7, ρ 8, ρ 9, ρ 10, ρ 11, ρ 12] (γ 0) 0 1 (γ 14)
  refine Eq.symm ?_
  show fn26 [] (γ 0) = _
  unfold fn26
  refine (zLet_eq m0).trans ?_
  refine (zLet_eq m1).trans ?_
  refine (zLet_eq m5).trans ?_
  refine (if_pos w_0).trans ?_
  refine (zLet_eq c1.symm).trans ?_
  refine (zLet_eq (show fn23 [] (γ 1) = (0, 1, γ 2) from l0.symm)).trans ?_
  refine (zLet_eq (show _ = γ 2 from rfl)).trans ?_
  refine (if_pos zQ1_).trans ?_
  refine (zLet_eq m15).trans ?_
  refine (zLet_eq (show fn13 [99, 111, 117, 110, 116] (γ 2) = (0, 0, γ 3) from l1.symm)).trans ?_
  refine (zLet_eq (show _ = γ 3 from rfl)).trans ?_
  refine (if_neg zQ0_).trans ?_
  refine (zLet_eq (show fn13 [115, 117, 109, 0, 0] (γ 3) = (0, 0, γ 4) from l2.symm)).trans ?_
  refine (zLet_eq (show _ = γ 4 from rfl)).trans ?_
  refine (if_neg zQ0_).trans ?_
  refine (zLet_eq (show fn13 [109, 105, 110, 0, 0] (γ 4) = (0, 1, γ 5) from l3.symm)).trans ?_
  refine (zLet_eq (show _ = γ 5 from rfl)).trans ?_
  refine (if_pos zQ1_).trans ?_
  refine (zLet_eq c6.symm).trans ?_
  refine (zLet_eq (show fn7 [] (γ 6) = (0, 0, γ 7) from l4.symm)).trans ?_
  refine (zLet_eq (show _ = γ 7 from rfl)).trans ?_
  refine (zLet_eq m17).trans ?_
  refine (zLet_eq (show fn6 [ρ 16] (γ 7) = (0, ρ 17, γ 8) from l5.symm)).trans ?_
  refine (zLet_eq (show _ = γ 8 from rfl)).trans ?_
  refine (if_pos w_1).trans ?_
  refine (zLet_eq (show _ = ρ 17 from rfl)).trans ?_
  refine (zLet_eq (show fn10 [ρ 17] (γ 8) = (0, 1, γ 9) from l6.symm)).trans ?_
  refine (zLet_eq (show _ = γ 9 from rfl)).trans ?_
  refine (if_pos zQ1_).trans ?_
  refine (zLet_eq (show fn17 [] (γ 9) = (0, 1, γ 10) from l7.symm)).trans ?_
  refine (zLet_eq (show _ = γ 10 from rfl)).trans ?_
  refine (if_pos zQ1_).trans ?_
  refine (zLet_eq m21).trans ?_
  refine (zLet_eq c11.symm).trans ?_
  refine (zLet_eq (show fn25 [ρ 16, ρ 21, 0] (γ 11) = (0, 0, γ 12) from l8.symm)).trans ?_
  refine (zLet_eq (show _ = γ 12 from rfl)).trans ?_
  refine (zLet_eq c13.symm).trans ?_
  refine (zLet_eq c14.symm).trans ?_
  rfl
theorem vn26_9 {S : Nat → zSpc} (hS6 : ∀ x g o v gz, S 6 x g o v gz → sn6 x g o v gz) (hS7 : ∀ x g o v gz, S 7 x g o v gz → sn7 x g o v gz) (hS8 : ∀ x g o v gz, S 8 x g o v gz → sn8 x g o v gz) (hS10 : ∀ x g o v gz, S 10 x g o v gz → sn10 x g o v gz) (hS13 : ∀ x g o v gz, S 13 x g o v gz → sn13 x g o v gz) (hS17 : ∀ x g o v gz, S 17 x g o v gz → sn17 x g o v gz) (hS23 : ∀ x g o v gz, S 23 x g o v gz → sn23 x g o v gz) (hS25 : ∀ x g o v gz, S 25 x g o v gz → sn25 x g o v gz) {a : List Int} {g : rHp} : ∀ (ρ : Nat → Int) (γ : Nat → rHp), zO 13 S a g q26_9 ρ γ → zGl (fun _ _ _ => True) (sn26 a g) q26_9 ρ γ := by
  intro ρ γ h
  obtain ⟨ha, hg, hr, hf, hm, hc, hl⟩ := h
  have ha : a = [ρ 0, ρ 1, ρ 2, ρ 3, ρ 4, ρ 5, ρ 6, ρ 7, ρ 8, ρ 9, ρ 10, ρ 11, ρ 12] := ha
  subst ha
  subst hg
  obtain ⟨-, -, -, -, -, r5, -⟩ := hr
  have r5 : (0 : Int) ≤ ρ 5 ∧ ρ 5 ≤ 0 := r5
  obtain ⟨-, -, f2, -⟩ := hf
  have f2 : (0 : Int) ≤ ρ 16 + -ρ 1 := f2
  obtain ⟨w_0, w_1⟩ : (ρ 5 ≤ 0) ∧ (¬ (0 ≤ -ρ 16 + ρ 1 + (-1))) := ⟨by omega, by omega⟩
  obtain ⟨m0, m1, -, -, -, m5, -, -, -, -, -, -, -, -, -, m15, -, m17, -⟩ := hm
  have m0 : γ 0 15 0 35 = ρ 0 := m0
  have m1 : γ 0 15 0 34 = ρ 1 := m1
  have m5 : γ 0 15 0 49 = ρ 5 := m5
  have m15 : γ 2 15 0 37 = ρ 14 := m15
  have m17 : γ 7 15 0 35 = ρ 16 := m17
  obtain ⟨⟨⟨⟨⟨⟨⟨⟨⟨⟨-, c1⟩, -⟩, -⟩, -⟩, -⟩, c6⟩, -⟩, -⟩, -⟩, -⟩ := hc
  have c1 : γ 1 = rUp (γ 0) 15 0 35 (ρ 0 + 1) := c1
  have c6 : γ 6 = rUp (γ 5) 15 0 49 3 := c6
  obtain ⟨l0, l1, l2, l3, l4, l5, l6, l7, -⟩ := hl
  have l0 : sn23 [ρ 0 + 1, ρ 1, ρ 7, ρ 8, ρ 9] (γ 1) 0 1 (γ 2) := hS23 _ _ _ _ _ l0
  have l1 : sn13 [99, 111, 117, 110, 116, ρ 14, ρ 15] (γ 2) 0 0 (γ 3) := hS13 _ _ _ _ _ l1
  have l2 : sn13 [115, 117, 109, 0, 0, ρ 14, ρ 15] (γ 3) 0 0 (γ 4) := hS13 _ _ _ _ _ l2
  have l3 : sn13 [109, 105, 110, 0, 0, ρ 14, ρ 15] (γ 4) 0 1 (γ 5) := hS13 _ _ _ _ _ l3
  have l4 : sn7 [ρ 13, ρ 1] (γ 6) 0 0 (γ 7) := hS7 _ _ _ _ _ l4
  have l5 : sn6 [ρ 16, ρ 1] (γ 7) 0 (-1) (γ 8) := hS6 _ _ _ _ _ l5
  have l6 : sn10 [(-1)] (γ 8) 0 0 (γ 9) := hS10 _ _ _ _ _ l6
  have l7 : sn8 [ρ 16, ρ 1, ρ 7] (γ 9) 0 0 (γ 10) := hS8 _ _ _ _ _ l7
  show sn26 [ρ 0, ρ 1, ρ 2, ρ 3, ρ 4, ρ 5, ρ 6, ρ 7, ρ 8, ρ 9, ρ 10, ρ 11, ρ 12] (γ 0) 0 0 (γ 10)
  refine Eq.symm ?_
  show fn26 [] (γ 0) = _
  unfold fn26
  refine (zLet_eq m0).trans ?_
  refine (zLet_eq m1).trans ?_
  refine (zLet_eq m5).trans ?_
  refine (if_pos w_0).trans ?_
  refine (zLet_eq c1.symm).trans ?_
  refine (zLet_eq (show fn23 [] (γ 1) = (0, 1, γ 2) from l0.symm)).trans ?_
  refine (zLet_eq (show _ = γ 2 from rfl)).trans ?_
  refine (if_pos zQ1_).trans ?_
  refine (zLet_eq m15).trans ?_
  refine (zLet_eq (show fn13 [99, 111, 117, 110, 116] (γ 2) = (0, 0, γ 3) from l1.symm)).trans ?_
  refine (zLet_eq (show _ = γ 3 from rfl)).trans ?_
  refine (if_neg zQ0_).trans ?_
  refine (zLet_eq (show fn13 [115, 117, 109, 0, 0] (γ 3) = (0, 0, γ 4) from l2.symm)).trans ?_
  refine (zLet_eq (show _ = γ 4 from rfl)).trans ?_
  refine (if_neg zQ0_).trans ?_
  refine (zLet_eq (show fn13 [109, 105, 110, 0, 0] (γ 4) = (0, 1, γ 5) from l3.symm)).trans ?_
  refine (zLet_eq (show _ = γ 5 from rfl)).trans ?_
  refine (if_pos zQ1_).trans ?_
  refine (zLet_eq c6.symm).trans ?_
  refine (zLet_eq (show fn7 [] (γ 6) = (0, 0, γ 7) from l4.symm)).trans ?_
  refine (zLet_eq (show _ = γ 7 from rfl)).trans ?_
  refine (zLet_eq m17).trans ?_
  refine (zLet_eq (show fn6 [ρ 16] (γ 7) = (0, (-1), γ 8) from l5.symm)).trans ?_
  refine (zLet_eq (show _ = γ 8 from rfl)).trans ?_
  refine (if_neg w_1).trans ?_
  refine (zLet_eq (show fn10 [(-1)] (γ 8) = (0, 0, γ 9) from l6.symm)).trans ?_
  refine (zLet_eq (show _ = γ 9 from rfl)).trans ?_
  refine (zLet_eq (show fn8 [ρ 16] (γ 9) = (0, 0, γ 10) from l7.symm)).trans ?_
  refine (zLet_eq (show _ = γ 10 from rfl)).trans ?_
  rfl
theorem vn26_10 {S : Nat → zSpc} (hS6 : ∀ x g o v gz, S 6 x g o v gz → sn6 x g o v gz) (hS7 : ∀ x g o v gz, S 7 x g o v gz → sn7 x g o v gz) (hS8 : ∀ x g o v gz, S 8 x g o v gz → sn8 x g o v gz) (hS10 : ∀ x g o v gz, S 10 x g o v gz → sn10 x g o v gz) (hS13 : ∀ x g o v gz, S 13 x g o v gz → sn13 x g o v gz) (hS17 : ∀ x g o v gz, S 17 x g o v gz → sn17 x g o v gz) (hS23 : ∀ x g o v gz, S 23 x g o v gz → sn23 x g o v gz) (hS25 : ∀ x g o v gz, S 25 x g o v gz → sn25 x g o v gz) {a : List Int} {g : rHp} : ∀ (ρ : Nat → Int) (γ : Nat → rHp), zO 13 S a g q26_10 ρ γ → zGl (fun _ _ _ => True) (sn26 a g) q26_10 ρ γ := by
  intro ρ γ h
  obtain ⟨ha, hg, hr, hf, hm, hc, hl⟩ := h
  have ha : a = [ρ 0, ρ 1, ρ 2, ρ 3, ρ 4, ρ 5, ρ 6, ρ 7, ρ 8, ρ 9, ρ 10, ρ 11, ρ 12] := ha
  subst ha
  subst hg
  obtain ⟨-, -, -, -, -, r5, -⟩ := hr
  have r5 : (0 : Int) ≤ ρ 5 ∧ ρ 5 ≤ 0 := r5
  obtain ⟨-, -, f2, -⟩ := hf
  have f2 : (0 : Int) ≤ -ρ 16 + ρ 1 + (-1) := f2
  obtain ⟨w_0, w_1⟩ : (ρ 5 ≤ 0) ∧ (0 ≤ -ρ 16 + ρ 1 + (-1)) := ⟨by omega, by omega⟩
  obtain ⟨m0, m1, -, -, -, m5, -, -, -, -, -, -, -, -, -, m15, -, m17, -⟩ := hm
  have m0 : γ 0 15 0 35 = ρ 0 := m0
  have m1 : γ 0 15 0 34 = ρ 1 := m1
  have m5 : γ 0 15 0 49 = ρ 5 := m5
  have m15 : γ 2 15 0 37 = ρ 14 := m15
  have m17 : γ 6 15 0 35 = ρ 16 := m17
  obtain ⟨⟨⟨⟨⟨⟨⟨⟨⟨-, c1⟩, -⟩, -⟩, -⟩, c5⟩, -⟩, -⟩, -⟩, -⟩ := hc
  have c1 : γ 1 = rUp (γ 0) 15 0 35 (ρ 0 + 1) := c1
  have c5 : γ 5 = rUp (γ 4) 15 0 49 2 := c5
  obtain ⟨l0, l1, l2, l3, l4, l5, l6, -⟩ := hl
  have l0 : sn23 [ρ 0 + 1, ρ 1, ρ 7, ρ 8, ρ 9] (γ 1) 0 1 (γ 2) := hS23 _ _ _ _ _ l0
  have l1 : sn13 [99, 111, 117, 110, 116, ρ 14, ρ 15] (γ 2) 0 0 (γ 3) := hS13 _ _ _ _ _ l1
  have l2 : sn13 [115, 117, 109, 0, 0, ρ 14, ρ 15] (γ 3) 0 1 (γ 4) := hS13 _ _ _ _ _ l2
  have l3 : sn7 [ρ 13, ρ 1] (γ 5) 0 0 (γ 6) := hS7 _ _ _ _ _ l3
  have l4 : sn6 [ρ 16, ρ 1] (γ 6) 0 (ρ 17) (γ 7) := hS6 _ _ _ _ _ l4
  have l5 : sn10 [ρ 17] (γ 7) 0 0 (γ 8) := hS10 _ _ _ _ _ l5
  have l6 : sn8 [ρ 16, ρ 1, ρ 7] (γ 8) 0 0 (γ 9) := hS8 _ _ _ _ _ l6
  show sn26 [ρ 0, ρ 1, ρ 2, ρ 3, ρ 4, ρ 5, ρ 6, ρ 7, ρ 8, ρ 9, ρ 10, ρ 11, ρ 12] (γ 0) 0 0 (γ 9)
  refine Eq.symm ?_
  show fn26 [] (γ 0) = _
  unfold fn26
  refine (zLet_eq m0).trans ?_
  refine (zLet_eq m1).trans ?_
  refine (zLet_eq m5).trans ?_
  refine (if_pos w_0).trans ?_
  refine (zLet_eq c1.symm).trans ?_
  refine (zLet_eq (show fn23 [] (γ 1) = (0, 1, γ 2) from l0.symm)).trans ?_
  refine (zLet_eq (show _ = γ 2 from rfl)).trans ?_
  refine (if_pos zQ1_).trans ?_
  refine (zLet_eq m15).trans ?_
  refine (zLet_eq (show fn13 [99, 111, 117, 110, 116] (γ 2) = (0, 0, γ 3) from l1.symm)).trans ?_
  refine (zLet_eq (show _ = γ 3 from rfl)).trans ?_
  refine (if_neg zQ0_).trans ?_
  refine (zLet_eq (show fn13 [115, 117, 109, 0, 0] (γ 3) = (0, 1, γ 4) from l2.symm)).trans ?_
  refine (zLet_eq (show _ = γ 4 from rfl)).trans ?_
  refine (if_pos zQ1_).trans ?_
  refine (zLet_eq c5.symm).trans ?_
  refine (zLet_eq (show fn7 [] (γ 5) = (0, 0, γ 6) from l3.symm)).trans ?_
  refine (zLet_eq (show _ = γ 6 from rfl)).trans ?_
  refine (zLet_eq m17).trans ?_
  refine (zLet_eq (show fn6 [ρ 16] (γ 6) = (0, ρ 17, γ 7) from l4.symm)).trans ?_
  refine (zLet_eq (show _ = γ 7 from rfl)).trans ?_
  refine (if_pos w_1).trans ?_
  refine (zLet_eq (show _ = ρ 17 from rfl)).trans ?_
  refine (zLet_eq (show fn10 [ρ 17] (γ 7) = (0, 0, γ 8) from l5.symm)).trans ?_
  refine (zLet_eq (show _ = γ 8 from rfl)).trans ?_
  refine (if_neg zQ0_).trans ?_
  refine (zLet_eq (show fn8 [ρ 16] (γ 8) = (0, 0, γ 9) from l6.symm)).trans ?_
  refine (zLet_eq (show _ = γ 9 from rfl)).trans ?_
  rfl
theorem vn26_11 {S : Nat → zSpc} (hS6 : ∀ x g o v gz, S 6 x g o v gz → sn6 x g o v gz) (hS7 : ∀ x g o v gz, S 7 x g o v gz → sn7 x g o v gz) (hS8 : ∀ x g o v gz, S 8 x g o v gz → sn8 x g o v gz) (hS10 : ∀ x g o v gz, S 10 x g o v gz → sn10 x g o v gz) (hS13 : ∀ x g o v gz, S 13 x g o v gz → sn13 x g o v gz) (hS17 : ∀ x g o v gz, S 17 x g o v gz → sn17 x g o v gz) (hS23 : ∀ x g o v gz, S 23 x g o v gz → sn23 x g o v gz) (hS25 : ∀ x g o v gz, S 25 x g o v gz → sn25 x g o v gz) {a : List Int} {g : rHp} : ∀ (ρ : Nat → Int) (γ : Nat → rHp), zO 13 S a g q26_11 ρ γ → zGl (fun _ _ _ => True) (sn26 a g) q26_11 ρ γ := by
  intro ρ γ h
  obtain ⟨ha, hg, hr, hf, hm, hc, hl⟩ := h
  have ha : a = [ρ 0, ρ 1, ρ 2, ρ 3, ρ 4, ρ 5, ρ 6, ρ 7, ρ 8, ρ 9, ρ 10, ρ 11, ρ 12] := ha
  subst ha
  subst hg
  obtain ⟨-, -, -, -, -, r5, -⟩ := hr
  have r5 : (0 : Int) ≤ ρ 5 ∧ ρ 5 ≤ 0 := r5
  obtain ⟨f0, -⟩ := hf
  have f0 : (0 : Int) ≤ -ρ 16 + ρ 1 + (-1) := f0
  obtain ⟨w_0, w_1⟩ : (ρ 5 ≤ 0) ∧ (0 ≤ -ρ 16 + ρ 1 + (-1)) := ⟨by omega, by omega⟩
  obtain ⟨m0, m1, -, -, -, m5, -, -, -, -, -, -, -, -, -, m15, -, m17, -⟩ := hm
  have m0 : γ 0 15 0 35 = ρ 0 := m0
  have m1 : γ 0 15 0 34 = ρ 1 := m1
  have m5 : γ 0 15 0 49 = ρ 5 := m5
  have m15 : γ 2 15 0 37 = ρ 14 := m15
  have m17 : γ 6 15 0 35 = ρ 16 := m17
  obtain ⟨⟨⟨⟨⟨⟨⟨⟨⟨-, c1⟩, -⟩, -⟩, -⟩, c5⟩, -⟩, -⟩, -⟩, -⟩ := hc
  have c1 : γ 1 = rUp (γ 0) 15 0 35 (ρ 0 + 1) := c1
  have c5 : γ 5 = rUp (γ 4) 15 0 49 2 := c5
  obtain ⟨l0, l1, l2, l3, l4, l5, l6, -⟩ := hl
  have l0 : sn23 [ρ 0 + 1, ρ 1, ρ 7, ρ 8, ρ 9] (γ 1) 0 1 (γ 2) := hS23 _ _ _ _ _ l0
  have l1 : sn13 [99, 111, 117, 110, 116, ρ 14, ρ 15] (γ 2) 0 0 (γ 3) := hS13 _ _ _ _ _ l1
  have l2 : sn13 [115, 117, 109, 0, 0, ρ 14, ρ 15] (γ 3) 0 1 (γ 4) := hS13 _ _ _ _ _ l2
  have l3 : sn7 [ρ 13, ρ 1] (γ 5) 0 0 (γ 6) := hS7 _ _ _ _ _ l3
  have l4 : sn6 [ρ 16, ρ 1] (γ 6) 0 (ρ 17) (γ 7) := hS6 _ _ _ _ _ l4
  have l5 : sn10 [ρ 17] (γ 7) 0 1 (γ 8) := hS10 _ _ _ _ _ l5
  have l6 : sn17 [ρ 16, ρ 1, ρ 18, ρ 10, ρ 7, ρ 14, ρ 15, ρ 11, ρ 19] (γ 8) 0 0 (γ 9) := hS17 _ _ _ _ _ l6
  show sn26 [ρ 0, ρ 1, ρ 2, ρ 3, ρ 4, ρ 5, ρ 6, ρ 7, ρ 8, ρ 9, ρ 10, ρ 11, ρ 12] (γ 0) 0 0 (γ 9)
  refine Eq.symm ?_
  show fn26 [] (γ 0) = _
  unfold fn26
  refine (zLet_eq m0).trans ?_
  refine (zLet_eq m1).trans ?_
  refine (zLet_eq m5).trans ?_
  refine (if_pos w_0).trans ?_
  refine (zLet_eq c1.symm).trans ?_
  refine (zLet_eq (show fn23 [] (γ 1) = (0, 1, γ 2) from l0.symm)).trans ?_
  refine (zLet_eq (show _ = γ 2 from rfl)).trans ?_
  refine (if_pos zQ1_).trans ?_
  refine (zLet_eq m15).trans ?_
  refine (zLet_eq (show fn13 [99, 111, 117, 110, 116] (γ 2) = (0, 0, γ 3) from l1.symm)).trans ?_
  refine (zLet_eq (show _ = γ 3 from rfl)).trans ?_
  refine (if_neg zQ0_).trans ?_
  refine (zLet_eq (show fn13 [115, 117, 109, 0, 0] (γ 3) = (0, 1, γ 4) from l2.symm)).trans ?_
  refine (zLet_eq (show _ = γ 4 from rfl)).trans ?_
  refine (if_pos zQ1_).trans ?_
  refine (zLet_eq c5.symm).trans ?_
  refine (zLet_eq (show fn7 [] (γ 5) = (0, 0, γ 6) from l3.symm)).trans ?_
  refine (zLet_eq (show _ = γ 6 from rfl)).trans ?_
  refine (zLet_eq m17).trans ?_
  refine (zLet_eq (show fn6 [ρ 16] (γ 6) = (0, ρ 17, γ 7) from l4.symm)).trans ?_
  refine (zLet_eq (show _ = γ 7 from rfl)).trans ?_
  refine (if_pos w_1).trans ?_
  refine (zLet_eq (show _ = ρ 17 from rfl)).trans ?_
  refine (zLet_eq (show fn10 [ρ 17] (γ 7) = (0, 1, γ 8) from l5.symm)).trans ?_
  refine (zLet_eq (show _ = γ 8 from rfl)).trans ?_
  refine (if_pos zQ1_).trans ?_
  refine (zLet_eq (show fn17 [] (γ 8) = (0, 0, γ 9) from l6.symm)).trans ?_
  refine (zLet_eq (show _ = γ 9 from rfl)).trans ?_
  refine (if_neg zQ0_).trans ?_
  rfl
theorem vn26_12 {S : Nat → zSpc} (hS6 : ∀ x g o v gz, S 6 x g o v gz → sn6 x g o v gz) (hS7 : ∀ x g o v gz, S 7 x g o v gz → sn7 x g o v gz) (hS8 : ∀ x g o v gz, S 8 x g o v gz → sn8 x g o v gz) (hS10 : ∀ x g o v gz, S 10 x g o v gz → sn10 x g o v gz) (hS13 : ∀ x g o v gz, S 13 x g o v gz → sn13 x g o v gz) (hS17 : ∀ x g o v gz, S 17 x g o v gz → sn17 x g o v gz) (hS23 : ∀ x g o v gz, S 23 x g o v gz → sn23 x g o v gz) (hS25 : ∀ x g o v gz, S 25 x g o v gz → sn25 x g o v gz) {a : List Int} {g : rHp} : ∀ (ρ : Nat → Int) (γ : Nat → rHp), zO 13 S a g q26_12 ρ γ → zGl (fun _ _ _ => True) (sn26 a g) q26_12 ρ γ := by
  intro ρ γ h
  obtain ⟨ha, hg, hr, hf, hm, hc, hl⟩ := h
  have ha : a = [ρ 0, ρ 1, ρ 2, ρ 3, ρ 4, ρ 5, ρ 6, ρ 7, ρ 8, ρ 9, ρ 10, ρ 11, ρ 12] := ha
  subst ha
  subst hg
  obtain ⟨-, -, -, -, -, r5, -⟩ := hr
  have r5 : (0 : Int) ≤ ρ 5 ∧ ρ 5 ≤ 0 := r5
  obtain ⟨f0, -⟩ := hf
  have f0 : (0 : Int) ≤ -ρ 16 + ρ 1 + (-1) := f0
  obtain ⟨w_0, w_1⟩ : (ρ 5 ≤ 0) ∧ (0 ≤ -ρ 16 + ρ 1 + (-1)) := ⟨by omega, by omega⟩
  obtain ⟨m0, m1, -, -, -, m5, -, -, -, -, -, -, -, -, -, m15, -, m17, -, -, -, m21, -⟩ := hm
  have m0 : γ 0 15 0 35 = ρ 0 := m0
  have m1 : γ 0 15 0 34 = ρ 1 := m1
  have m5 : γ 0 15 0 49 = ρ 5 := m5
  have m15 : γ 2 15 0 37 = ρ 14 := m15
  have m17 : γ 6 15 0 35 = ρ 16 := m17
  have m21 : γ 9 15 0 39 = ρ 21 := m21
  obtain ⟨⟨⟨⟨⟨⟨⟨⟨⟨⟨⟨⟨⟨-, c1⟩, -⟩, -⟩, -⟩, c5⟩, -⟩, -⟩, -⟩, -⟩, c10⟩, -⟩, c12⟩, c13⟩ := hc
  have c1 : γ 1 = rUp (γ 0) 15 0 35 (ρ 0 + 1) := c1
  have c5 : γ 5 = rUp (γ 4) 15 0 49 2 := c5
  have c10 : γ 10 = rUp (γ 9) 15 0 50 (ρ 21) := c10
  have c12 : γ 12 = rUp (γ 11) 15 0 40 3 := c12
  have c13 : γ 13 = rUp (γ 12) 15 0 39 0 := c13
  obtain ⟨l0, l1, l2, l3, l4, l5, l6, l7, -⟩ := hl
  have l0 : sn23 [ρ 0 + 1, ρ 1, ρ 7, ρ 8, ρ 9] (γ 1) 0 1 (γ 2) := hS23 _ _ _ _ _ l0
  have l1 : sn13 [99, 111, 117, 110, 116, ρ 14, ρ 15] (γ 2) 0 0 (γ 3) := hS13 _ _ _ _ _ l1
  have l2 : sn13 [115, 117, 109, 0, 0, ρ 14, ρ 15] (γ 3) 0 1 (γ 4) := hS13 _ _ _ _ _ l2
  have l3 : sn7 [ρ 13, ρ 1] (γ 5) 0 0 (γ 6) := hS7 _ _ _ _ _ l3
  have l4 : sn6 [ρ 16, ρ 1] (γ 6) 0 (ρ 17) (γ 7) := hS6 _ _ _ _ _ l4
  have l5 : sn10 [ρ 17] (γ 7) 0 1 (γ 8) := hS10 _ _ _ _ _ l5
  have l6 : sn17 [ρ 16, ρ 1, ρ 18, ρ 10, ρ 7, ρ 14, ρ 15, ρ 11, ρ 19] (γ 8) 0 1 (γ 9) := hS17 _ _ _ _ _ l6
  have l7 : sn25 [ρ 16, ρ 21, 0, ρ 4, ρ 12] (γ 10) 0 0 (γ 11) := hS25 _ _ _ _ _ l7
  show sn26 [ρ 0, ρ 1, ρ 2, ρ 3, ρ 4, ρ 5, ρ 6, ρ 7, ρ 8, ρ 9, ρ 10, ρ 11, ρ 12] (γ 0) 0 1 (γ 13)
  refine Eq.symm ?_
  show fn26 [] (γ 0) = _
  unfold fn26
  refine (zLet_eq m0).trans ?_
  refine (zLet_eq m1).trans ?_
  refine (zLet_eq m5).trans ?_
  refine (if_pos w_0).trans ?_
  refine (zLet_eq c1.symm).trans ?_
  refine (zLet_eq (show fn23 [] (γ 1) = (0, 1, γ 2) from l0.symm)).trans ?_
  refine (zLet_eq (show _ = γ 2 from rfl)).trans ?_
  refine (if_pos zQ1_).trans ?_
  refine (zLet_eq m15).trans ?_
  refine (zLet_eq (show fn13 [99, 111, 117, 110, 116] (γ 2) = (0, 0, γ 3) from l1.symm)).trans ?_
  refine (zLet_eq (show _ = γ 3 from rfl)).trans ?_
  refine (if_neg zQ0_).trans ?_
  refine (zLet_eq (show fn13 [115, 117, 109, 0, 0] (γ 3) = (0, 1, γ 4) from l2.symm)).trans ?_
  refine (zLet_eq (show _ = γ 4 from rfl)).trans ?_
  refine (if_pos zQ1_).trans ?_
  refine (zLet_eq c5.symm).trans ?_
  refine (zLet_eq (show fn7 [] (γ 5) = (0, 0, γ 6) from l3.symm)).trans ?_
  refine (zLet_eq (show _ = γ 6 from rfl)).trans ?_
  refine (zLet_eq m17).trans ?_
  refine (zLet_eq (show fn6 [ρ 16] (γ 6) = (0, ρ 17, γ 7) from l4.symm)).trans ?_
  refine (zLet_eq (show _ = γ 7 from rfl)).trans ?_
  refine (if_pos w_1).trans ?_
  refine (zLet_eq (show _ = ρ 17 from rfl)).trans ?_
  refine (zLet_eq (show fn10 [ρ 17] (γ 7) = (0, 1, γ 8) from l5.symm)).trans ?_
  refine (zLet_eq (show _ = γ 8 from rfl)).trans ?_
  refine (if_pos zQ1_).trans ?_
  refine (zLet_eq (show fn17 [] (γ 8) = (0, 1, γ 9) from l6.symm)).trans ?_
  refine (zLet_eq (show _ = γ 9 from rfl)).trans ?_
  refine (if_pos zQ1_).trans ?_
  refine (zLet_eq m21).trans ?_
  refine (zLet_eq c10.symm).trans ?_
  refine (zLet_eq (show fn25 [ρ 16, ρ 21, 0] (γ 10) = (0, 0, γ 11) from l7.symm)).trans ?_
  refine (zLet_eq (show _ = γ 11 from rfl)).trans ?_
  refine (zLet_eq c12.symm).trans ?_
  refine (zLet_eq c13.symm).trans ?_
  rfl
theorem vn26_13 {S : Nat → zSpc} (hS6 : ∀ x g o v gz, S 6 x g o v gz → sn6 x g o v gz) (hS7 : ∀ x g o v gz, S 7 x g o v gz → sn7 x g o v gz) (hS8 : ∀ x g o v gz, S 8 x g o v gz → sn8 x g o v gz) (hS10 : ∀ x g o v gz, S 10 x g o v gz → sn10 x g o v gz) (hS13 : ∀ x g o v gz, S 13 x g o v gz → sn13 x g o v gz) (hS17 : ∀ x g o v gz, S 17 x g o v gz → sn17 x g o v gz) (hS23 : ∀ x g o v gz, S 23 x g o v gz → sn23 x g o v gz) (hS25 : ∀ x g o v gz, S 25 x g o v gz → sn25 x g o v gz) {a : List Int} {g : rHp} : ∀ (ρ : Nat → Int) (γ : Nat → rHp), zO 13 S a g q26_13 ρ γ → zGl (fun _ _ _ => True) (sn26 a g) q26_13 ρ γ := by
  intro ρ γ h
  obtain ⟨ha, hg, hr, hf, hm, hc, hl⟩ := h
  have ha : a = [ρ 0, ρ 1, ρ 2, ρ 3, ρ 4, ρ 5, ρ 6, ρ 7, ρ 8, ρ 9, ρ 10, ρ 11, ρ 12] := ha
  subst ha
  subst hg
  obtain ⟨-, -, -, -, -, r5, -⟩ := hr
  have r5 : (0 : Int) ≤ ρ 5 ∧ ρ 5 ≤ 0 := r5
  obtain ⟨-, -, f2, -⟩ := hf
  have f2 : (0 : Int) ≤ ρ 16 + -ρ 1 := f2
  obtain ⟨w_0, w_1⟩ : (ρ 5 ≤ 0) ∧ (¬ (0 ≤ -ρ 16 + ρ 1 + (-1))) := ⟨by omega, by omega⟩
  obtain ⟨m0, m1, -, -, -, m5, -, -, -, -, -, -, -, -, -, m15, -, m17, -⟩ := hm
  have m0 : γ 0 15 0 35 = ρ 0 := m0
  have m1 : γ 0 15 0 34 = ρ 1 := m1
  have m5 : γ 0 15 0 49 = ρ 5 := m5
  have m15 : γ 2 15 0 37 = ρ 14 := m15
  have m17 : γ 6 15 0 35 = ρ 16 := m17
  obtain ⟨⟨⟨⟨⟨⟨⟨⟨⟨-, c1⟩, -⟩, -⟩, -⟩, c5⟩, -⟩, -⟩, -⟩, -⟩ := hc
  have c1 : γ 1 = rUp (γ 0) 15 0 35 (ρ 0 + 1) := c1
  have c5 : γ 5 = rUp (γ 4) 15 0 49 2 := c5
  obtain ⟨l0, l1, l2, l3, l4, l5, l6, -⟩ := hl
  have l0 : sn23 [ρ 0 + 1, ρ 1, ρ 7, ρ 8, ρ 9] (γ 1) 0 1 (γ 2) := hS23 _ _ _ _ _ l0
  have l1 : sn13 [99, 111, 117, 110, 116, ρ 14, ρ 15] (γ 2) 0 0 (γ 3) := hS13 _ _ _ _ _ l1
  have l2 : sn13 [115, 117, 109, 0, 0, ρ 14, ρ 15] (γ 3) 0 1 (γ 4) := hS13 _ _ _ _ _ l2
  have l3 : sn7 [ρ 13, ρ 1] (γ 5) 0 0 (γ 6) := hS7 _ _ _ _ _ l3
  have l4 : sn6 [ρ 16, ρ 1] (γ 6) 0 (-1) (γ 7) := hS6 _ _ _ _ _ l4
  have l5 : sn10 [(-1)] (γ 7) 0 0 (γ 8) := hS10 _ _ _ _ _ l5
  have l6 : sn8 [ρ 16, ρ 1, ρ 7] (γ 8) 0 0 (γ 9) := hS8 _ _ _ _ _ l6
  show sn26 [ρ 0, ρ 1, ρ 2, ρ 3, ρ 4, ρ 5, ρ 6, ρ 7, ρ 8, ρ 9, ρ 10, ρ 11, ρ 12] (γ 0) 0 0 (γ 9)
  refine Eq.symm ?_
  show fn26 [] (γ 0) = _
  unfold fn26
  refine (zLet_eq m0).trans ?_
  refine (zLet_eq m1).trans ?_
  refine (zLet_eq m5).trans ?_
  refine (if_pos w_0).trans ?_
  refine (zLet_eq c1.symm).trans ?_
  refine (zLet_eq (show fn23 [] (γ 1) = (0, 1, γ 2) from l0.symm)).trans ?_
  refine (zLet_eq (show _ = γ 2 from rfl)).trans ?_
  refine (if_pos zQ1_).trans ?_
  refine (zLet_eq m15).trans ?_
  refine (zLet_eq (show fn13 [99, 111, 117, 110, 116] (γ 2) = (0, 0, γ 3) from l1.symm)).trans ?_
  refine (zLet_eq (show _ = γ 3 from rfl)).trans ?_
  refine (if_neg zQ0_).trans ?_
  refine (zLet_eq (show fn13 [115, 117, 109, 0, 0] (γ 3) = (0, 1, γ 4) from l2.symm)).trans ?_
  refine (zLet_eq (show _ = γ 4 from rfl)).trans ?_
  refine (if_pos zQ1_).trans ?_
  refine (zLet_eq c5.symm).trans ?_
  refine (zLet_eq (show fn7 [] (γ 5) = (0, 0, γ 6) from l3.symm)).trans ?_
  refine (zLet_eq (show _ = γ 6 from rfl)).trans ?_
  refine (zLet_eq m17).trans ?_
  refine (zLet_eq (show fn6 [ρ 16] (γ 6) = (0, (-1), γ 7) from l4.symm)).trans ?_
  refine (zLet_eq (show _ = γ 7 from rfl)).trans ?_
  refine (if_neg w_1).trans ?_
  refine (zLet_eq (show fn10 [(-1)] (γ 7) = (0, 0, γ 8) from l5.symm)).trans ?_
  refine (zLet_eq (show _ = γ 8 from rfl)).trans ?_
  refine (zLet_eq (show fn8 [ρ 16] (γ 8) = (0, 0, γ 9) from l6.symm)).trans ?_
  refine (zLet_eq (show _ = γ 9 from rfl)).trans ?_
  rfl
theorem vn26_14 {S : Nat → zSpc} (hS6 : ∀ x g o v gz, S 6 x g o v gz → sn6 x g o v gz) (hS7 : ∀ x g o v gz, S 7 x g o v gz → sn7 x g o v gz) (hS8 : ∀ x g o v gz, S 8 x g o v gz → sn8 x g o v gz) (hS10 : ∀ x g o v gz, S 10 x g o v gz → sn10 x g o v gz) (hS13 : ∀ x g o v gz, S 13 x g o v gz → sn13 x g o v gz) (hS17 : ∀ x g o v gz, S 17 x g o v gz → sn17 x g o v gz) (hS23 : ∀ x g o v gz, S 23 x g o v gz → sn23 x g o v gz) (hS25 : ∀ x g o v gz, S 25 x g o v gz → sn25 x g o v gz) {a : List Int} {g : rHp} : ∀ (ρ : Nat → Int) (γ : Nat → rHp), zO 13 S a g q26_14 ρ γ → zGl (fun _ _ _ => True) (sn26 a g) q26_14 ρ γ := by
  intro ρ γ h
  obtain ⟨ha, hg, hr, hf, hm, hc, hl⟩ := h
  have ha : a = [ρ 0, ρ 1, ρ 2, ρ 3, ρ 4, ρ 5, ρ 6, ρ 7, ρ 8, ρ 9, ρ 10, ρ 11, ρ 12] := ha
  subst ha
  subst hg
  obtain ⟨-, -, -, -, -, r5, -⟩ := hr
  have r5 : (0 : Int) ≤ ρ 5 ∧ ρ 5 ≤ 0 := r5
  have w_0 : ρ 5 ≤ 0 := by omega
  obtain ⟨m0, m1, -, -, -, m5, -, -, -, -, -, -, -, -, -, m15, -⟩ := hm
  have m0 : γ 0 15 0 35 = ρ 0 := m0
  have m1 : γ 0 15 0 34 = ρ 1 := m1
  have m5 : γ 0 15 0 49 = ρ 5 := m5
  have m15 : γ 2 15 0 37 = ρ 14 := m15
  obtain ⟨⟨⟨⟨⟨⟨-, c1⟩, -⟩, -⟩, c4⟩, c5⟩, c6⟩ := hc
  have c1 : γ 1 = rUp (γ 0) 15 0 35 (ρ 0 + 1) := c1
  have c4 : γ 4 = rUp (γ 3) 15 0 49 1 := c4
  have c5 : γ 5 = rUp (γ 4) 15 0 40 3 := c5
  have c6 : γ 6 = rUp (γ 5) 15 0 39 0 := c6
  obtain ⟨l0, l1, -⟩ := hl
  have l0 : sn23 [ρ 0 + 1, ρ 1, ρ 7, ρ 8, ρ 9] (γ 1) 0 1 (γ 2) := hS23 _ _ _ _ _ l0
  have l1 : sn13 [99, 111, 117, 110, 116, ρ 14, ρ 15] (γ 2) 0 1 (γ 3) := hS13 _ _ _ _ _ l1
  show sn26 [ρ 0, ρ 1, ρ 2, ρ 3, ρ 4, ρ 5, ρ 6, ρ 7, ρ 8, ρ 9, ρ 10, ρ 11, ρ 12] (γ 0) 0 1 (γ 6)
  refine Eq.symm ?_
  show fn26 [] (γ 0) = _
  unfold fn26
  refine (zLet_eq m0).trans ?_
  refine (zLet_eq m1).trans ?_
  refine (zLet_eq m5).trans ?_
  refine (if_pos w_0).trans ?_
  refine (zLet_eq c1.symm).trans ?_
  refine (zLet_eq (show fn23 [] (γ 1) = (0, 1, γ 2) from l0.symm)).trans ?_
  refine (zLet_eq (show _ = γ 2 from rfl)).trans ?_
  refine (if_pos zQ1_).trans ?_
  refine (zLet_eq m15).trans ?_
  refine (zLet_eq (show fn13 [99, 111, 117, 110, 116] (γ 2) = (0, 1, γ 3) from l1.symm)).trans ?_
  refine (zLet_eq (show _ = γ 3 from rfl)).trans ?_
  refine (if_pos zQ1_).trans ?_
  refine (zLet_eq c4.symm).trans ?_
  refine (zLet_eq c5.symm).trans ?_
  refine (zLet_eq c6.symm).trans ?_
  rfl
theorem vn26_15 {S : Nat → zSpc} (hS6 : ∀ x g o v gz, S 6 x g o v gz → sn6 x g o v gz) (hS7 : ∀ x g o v gz, S 7 x g o v gz → sn7 x g o v gz) (hS8 : ∀ x g o v gz, S 8 x g o v gz → sn8 x g o v gz) (hS10 : ∀ x g o v gz, S 10 x g o v gz → sn10 x g o v gz) (hS13 : ∀ x g o v gz, S 13 x g o v gz → sn13 x g o v gz) (hS17 : ∀ x g o v gz, S 17 x g o v gz → sn17 x g o v gz) (hS23 : ∀ x g o v gz, S 23 x g o v gz → sn23 x g o v gz) (hS25 : ∀ x g o v gz, S 25 x g o v gz → sn25 x g o v gz) {a : List Int} {g : rHp} : ∀ (ρ : Nat → Int) (γ : Nat → rHp), zO 13 S a g q26_15 ρ γ → zGl (fun _ _ _ => True) (sn26 a g) q26_15 ρ γ := by
  intro ρ γ h
  obtain ⟨ha, hg, hr, hf, hm, hc, hl⟩ := h
  have ha : a = [ρ 0, ρ 1, ρ 2, ρ 3, ρ 4, ρ 5, ρ 6, ρ 7, ρ 8, ρ 9, ρ 10, ρ 11, ρ 12] := ha
  subst ha
  subst hg
  obtain ⟨-, -, -, -, -, r5, -⟩ := hr
  have r5 : (1 : Int) ≤ ρ 5 ∧ ρ 5 ≤ 4 := r5
  have w_0 : ¬ (ρ 5 ≤ 0) := by omega
  obtain ⟨m0, m1, -, -, -, m5, -⟩ := hm
  have m0 : γ 0 15 0 35 = ρ 0 := m0
  have m1 : γ 0 15 0 34 = ρ 1 := m1
  have m5 : γ 0 15 0 49 = ρ 5 := m5
  obtain ⟨l0, -⟩ := hl
  have l0 : sn8 [ρ 0, ρ 1, ρ 7] (γ 0) 0 0 (γ 1) := hS8 _ _ _ _ _ l0
  show sn26 [ρ 0, ρ 1, ρ 2, ρ 3, ρ 4, ρ 5, ρ 6, ρ 7, ρ 8, ρ 9, ρ 10, ρ 11, ρ 12] (γ 0) 0 0 (γ 1)
  refine Eq.symm ?_
  show fn26 [] (γ 0) = _
  unfold fn26
  refine (zLet_eq m0).trans ?_
  refine (zLet_eq m1).trans ?_
  refine (zLet_eq m5).trans ?_
  refine (if_neg w_0).trans ?_
  refine (zLet_eq (show fn8 [ρ 0] (γ 0) = (0, 0, γ 1) from l0.symm)).trans ?_
  refine (zLet_eq (show _ = γ 1 from rfl)).trans ?_
  rfl
theorem yn26 {S : Nat → zSpc} (hS6 : ∀ x g o v gz, S 6 x g o v gz → sn6 x g o v gz) (hS7 : ∀ x g o v gz, S 7 x g o v gz → sn7 x g o v gz) (hS8 : ∀ x g o v gz, S 8 x g o v gz → sn8 x g o v gz) (hS10 : ∀ x g o v gz, S 10 x g o v gz → sn10 x g o v gz) (hS13 : ∀ x g o v gz, S 13 x g o v gz → sn13 x g o v gz) (hS17 : ∀ x g o v gz, S 17 x g o v gz → sn17 x g o v gz) (hS23 : ∀ x g o v gz, S 23 x g o v gz → sn23 x g o v gz) (hS25 : ∀ x g o v gz, S 25 x g o v gz → sn25 x g o v gz) : ∀ x g o v gz, zSem uW uT w26_.2.2.2.1 w26_.2.2.1.1.length S q26 (fun i => q26a.getD i []) (zNA a26_) x g o v gz → sn26 x g o v gz := by
  intro a g o v gz h
  exact zSem_all (l0 := q26) (las := q26a) (S := S) (J := (fun _ _ _ => True)) (P := sn26 a g) (fun _ => (show zAll _ [q26_0, q26_1, q26_2, q26_3, q26_4, q26_5, q26_6, q26_7, q26_8, q26_9, q26_10, q26_11, q26_12, q26_13, q26_14, q26_15] from (zAll_c (vn26_0 hS6 hS7 hS8 hS10 hS13 hS17 hS23 hS25) (zAll_c (vn26_1 hS6 hS7 hS8 hS10 hS13 hS17 hS23 hS25) (zAll_c (vn26_2 hS6 hS7 hS8 hS10 hS13 hS17 hS23 hS25) (zAll_c (vn26_3 hS6 hS7 hS8 hS10 hS13 hS17 hS23 hS25) (zAll_c (vn26_4 hS6 hS7 hS8 hS10 hS13 hS17 hS23 hS25) (zAll_c (vn26_5 hS6 hS7 hS8 hS10 hS13 hS17 hS23 hS25) (zAll_c (vn26_6 hS6 hS7 hS8 hS10 hS13 hS17 hS23 hS25) (zAll_c (vn26_7 hS6 hS7 hS8 hS10 hS13 hS17 hS23 hS25) (zAll_c (vn26_8 hS6 hS7 hS8 hS10 hS13 hS17 hS23 hS25) (zAll_c (vn26_9 hS6 hS7 hS8 hS10 hS13 hS17 hS23 hS25) (zAll_c (vn26_10 hS6 hS7 hS8 hS10 hS13 hS17 hS23 hS25) (zAll_c (vn26_11 hS6 hS7 hS8 hS10 hS13 hS17 hS23 hS25) (zAll_c (vn26_12 hS6 hS7 hS8 hS10 hS13 hS17 hS23 hS25) (zAll_c (vn26_13 hS6 hS7 hS8 hS10 hS13 hS17 hS23 hS25) (zAll_c (vn26_14 hS6 hS7 hS8 hS10 hS13 hS17 hS23 hS25) (zAll_c (vn26_15 hS6 hS7 hS8 hS10 hS13 hS17 hS23 hS25) zAll_n)))))))))))))))))) (fun _ => (show zAllI _ 0 [] from trivial)) h
