/-! ===== the runs are the functions ===== -/
theorem vn15_0 {S : Nat → zSpc}  {a : List Int} {g : rHp} : ∀ (ρ : Nat → Int) (γ : Nat → rHp), zO 5 S a g q15_0 ρ γ → zGl (fun i vs g1 => jn15 a g i vs g1) (sn15 a g) q15_0 ρ γ := by
  intro ρ γ h
  obtain ⟨ha, hg, hr, hf, hm, hc, hl⟩ := h
  have ha : a = [ρ 0, ρ 1, ρ 2, ρ 3, ρ 4] := ha
  subst ha
  subst hg
  show jn15 [ρ 0, ρ 1, ρ 2, ρ 3, ρ 4] (γ 0) 0 [ρ 0, ρ 1, ρ 2, ρ 3, ρ 4, 0] (γ 0)
  have hD : dn15 [] (γ 0) = .inl (0, [0], γ 0) := by
    unfold dn15
    rfl
  exact zGoo_to hD
theorem vn15a0_0 {S : Nat → zSpc}  {a : List Int} {g : rHp} : ∀ (ρ : Nat → Int) (γ : Nat → rHp), jn15 a g 0 (zAg (zNA a15_ 0) ρ) (γ 1) → zO 5 S a g q15a0_0 ρ γ → zGl (fun i vs g1 => jn15 a g i vs g1) (sn15 a g) q15a0_0 ρ γ := by
  intro ρ γ hJ h
  obtain ⟨ha, hg, hr, hf, hm, hc, hl⟩ := h
  have ha : a = [ρ 0, ρ 1, ρ 2, ρ 3, ρ 4] := ha
  subst ha
  subst hg
  have hJ : jn15 [ρ 0, ρ 1, ρ 2, ρ 3, ρ 4] (γ 0) 0 [ρ 0, ρ 1, ρ 2, ρ 3, ρ 4, ρ 5] (γ 1) := hJ
  have f0 : (0 : Int) ≤ ρ 5 + -ρ 1 := zAllA hf 0
  have w_0 : ρ 5 ≥ ρ 1 := by omega
  have m1 : γ 0 15 0 8 = ρ 1 := zAllA hm 1
  have m2 : γ 0 15 0 9 = ρ 2 := zAllA hm 2
  have m4 : γ 0 15 0 38 = ρ 4 := zAllA hm 4
  have c2 : γ 2 = rUp (γ 1) 62 0 (ρ 1) (ρ 2) := And.right (zChA hc 1)
  have c3 : γ 3 = rUp (γ 2) 63 0 (ρ 1) (ρ 4) := And.right (zChA hc 0)
  show jn15 [ρ 0, ρ 1, ρ 2, ρ 3, ρ 4] (γ 0) 2 [ρ 0, ρ 1, ρ 2, ρ 3, ρ 4, 0] (γ 3)
  have hD : en15 (γ 0) (0, [ρ 5], γ 1) = .inl (2, [0], γ 3) := by
    unfold en15
    refine zIP (show (0 : Nat) = 0 by decide) (zLV (γ 1) rfl (zLV (ρ 5) rfl (zLE m1 (zLE m2 (zLE m4 (zIP w_0 (zLE c2.symm ?_)))))))
    refine zLE c3.symm ?_
    rfl
  exact zGoo_ato hJ hD
theorem vn15a0_1 {S : Nat → zSpc}  {a : List Int} {g : rHp} : ∀ (ρ : Nat → Int) (γ : Nat → rHp), jn15 a g 0 (zAg (zNA a15_ 0) ρ) (γ 1) → zO 5 S a g q15a0_1 ρ γ → zGl (fun i vs g1 => jn15 a g i vs g1) (sn15 a g) q15a0_1 ρ γ := by
  intro ρ γ hJ h
  obtain ⟨ha, hg, hr, hf, hm, hc, hl⟩ := h
  have ha : a = [ρ 0, ρ 1, ρ 2, ρ 3, ρ 4] := ha
  subst ha
  subst hg
  have hJ : jn15 [ρ 0, ρ 1, ρ 2, ρ 3, ρ 4] (γ 0) 0 [ρ 0, ρ 1, ρ 2, ρ 3, ρ 4, ρ 5] (γ 1) := hJ
  have r0 : (0 : Int) ≤ ρ 0 ∧ ρ 0 ≤ 2000 := zRnA hr 0
  have r1 : (0 : Int) ≤ ρ 1 ∧ ρ 1 ≤ 12288 := zRnA hr 1
  have r2 : (0 : Int) ≤ ρ 2 ∧ ρ 2 ≤ 12288 := zRnA hr 2
  have r3 : (0 : Int) ≤ ρ 3 ∧ ρ 3 ≤ 2000 := zRnA hr 3
  have r4 : (1 : Int) ≤ ρ 4 ∧ ρ 4 ≤ 12 := zRnA hr 4
  have r5 : (0 : Int) ≤ ρ 5 ∧ ρ 5 ≤ 12288 := zRnA hr 5
  have r6 : (0 : Int) ≤ ρ 6 ∧ ρ 6 ≤ 12 := zRnA hr 6
  have f0 : (0 : Int) ≤ -ρ 5 + ρ 1 + (-1) := zAllA hf 0
  have f1 : (0 : Int) ≤ -ρ 5 + ρ 1 := zAllA hf 1
  have f2 : (0 : Int) ≤ -ρ 4 + (-ρ 3 + ρ 0) := zAllA hf 2
  have f3 : (0 : Int) ≤ ρ 3 + (-ρ 2 + -ρ 0) + 12288 := zAllA hf 3
  have f4 : (0 : Int) ≤ ρ 3 + (-ρ 1 + -ρ 0) + 12288 := zAllA hf 4
  have w_0 : ¬ (ρ 5 ≥ ρ 1) := by omega
  have m1 : γ 0 15 0 8 = ρ 1 := zAllA hm 1
  have m2 : γ 0 15 0 9 = ρ 2 := zAllA hm 2
  have m4 : γ 0 15 0 38 = ρ 4 := zAllA hm 4
  have m5 : γ 0 63 0 (ρ 5) = ρ 6 := zAllA hm 5
  have l0 : ρ 6 ≠ ρ 4 := zAllA hl 0
  have wl_0 : ρ 6 ≠ ρ 4 := by omega
  show jn15 [ρ 0, ρ 1, ρ 2, ρ 3, ρ 4] (γ 0) 1 [ρ 0, ρ 1, ρ 2, ρ 3, ρ 4, 0, 0, ρ 5] (γ 1)
  have hD : en15 (γ 0) (0, [ρ 5], γ 1) = .inl (1, [0, 0, ρ 5], γ 1) := by
    unfold en15
    refine zIP (show (0 : Nat) = 0 by decide) (zLV (γ 1) rfl (zLV (ρ 5) rfl (zLE m1 (zLE m2 (zLE m4 (zIN w_0 (zLE m5 ?_)))))))
    refine zIP wl_0 ?_
    rfl
  exact zGoo_ato hJ hD
theorem vn15a0_2 {S : Nat → zSpc}  {a : List Int} {g : rHp} : ∀ (ρ : Nat → Int) (γ : Nat → rHp), jn15 a g 0 (zAg (zNA a15_ 0) ρ) (γ 1) → zO 5 S a g q15a0_2 ρ γ → zGl (fun i vs g1 => jn15 a g i vs g1) (sn15 a g) q15a0_2 ρ γ := by
  intro ρ γ hJ h
  obtain ⟨ha, hg, hr, hf, hm, hc, hl⟩ := h
  have ha : a = [ρ 0, ρ 1, ρ 2, ρ 3, ρ 4] := ha
  subst ha
  subst hg
  have hJ : jn15 [ρ 0, ρ 1, ρ 2, ρ 3, ρ 4] (γ 0) 0 [ρ 0, ρ 1, ρ 2, ρ 3, ρ 4, ρ 5] (γ 1) := hJ
  have f0 : (0 : Int) ≤ -ρ 6 + ρ 4 := zAllA hf 0
  have f1 : (0 : Int) ≤ ρ 6 + -ρ 4 := zAllA hf 1
  have f2 : (0 : Int) ≤ -ρ 5 + ρ 1 + (-1) := zAllA hf 2
  obtain ⟨w_0, w_1⟩ : (¬ (ρ 5 ≥ ρ 1)) ∧ (¬ (ρ 6 ≠ ρ 4)) := ⟨by omega, by omega⟩
  have m1 : γ 0 15 0 8 = ρ 1 := zAllA hm 1
  have m2 : γ 0 15 0 9 = ρ 2 := zAllA hm 2
  have m4 : γ 0 15 0 38 = ρ 4 := zAllA hm 4
  have m5 : γ 0 63 0 (ρ 5) = ρ 6 := zAllA hm 5
  show jn15 [ρ 0, ρ 1, ρ 2, ρ 3, ρ 4] (γ 0) 1 [ρ 0, ρ 1, ρ 2, ρ 3, ρ 4, 0, 1, ρ 5] (γ 1)
  have hD : en15 (γ 0) (0, [ρ 5], γ 1) = .inl (1, [0, 1, ρ 5], γ 1) := by
    unfold en15
    refine zIP (show (0 : Nat) = 0 by decide) (zLV (γ 1) rfl (zLV (ρ 5) rfl (zLE m1 (zLE m2 (zLE m4 (zIN w_0 (zLE m5 ?_)))))))
    refine zIN w_1 ?_
    rfl
  exact zGoo_ato hJ hD
theorem vn15a1_0 {S : Nat → zSpc}  {a : List Int} {g : rHp} : ∀ (ρ : Nat → Int) (γ : Nat → rHp), jn15 a g 1 (zAg (zNA a15_ 1) ρ) (γ 1) → zO 5 S a g q15a1_0 ρ γ → zGl (fun i vs g1 => jn15 a g i vs g1) (sn15 a g) q15a1_0 ρ γ := by
  intro ρ γ hJ h
  obtain ⟨ha, hg, hr, hf, hm, hc, hl⟩ := h
  have ha : a = [ρ 0, ρ 1, ρ 2, ρ 3, ρ 4] := ha
  subst ha
  subst hg
  have hJ : jn15 [ρ 0, ρ 1, ρ 2, ρ 3, ρ 4] (γ 0) 1 [ρ 0, ρ 1, ρ 2, ρ 3, ρ 4, ρ 5, ρ 6, ρ 7] (γ 1) := hJ
  have r6 : (0 : Int) ≤ ρ 6 ∧ ρ 6 ≤ 0 := zRnA hr 6
  have f0 : (0 : Int) ≤ ρ 5 + -ρ 4 := zAllA hf 0
  obtain ⟨w_0, w_1⟩ : (ρ 5 ≥ ρ 4) ∧ (ρ 6 = 0) := ⟨by omega, by omega⟩
  have m3 : γ 0 15 0 37 = ρ 3 := zAllA hm 3
  have m4 : γ 0 15 0 38 = ρ 4 := zAllA hm 4
  show jn15 [ρ 0, ρ 1, ρ 2, ρ 3, ρ 4] (γ 0) 0 [ρ 0, ρ 1, ρ 2, ρ 3, ρ 4, ρ 7 + 1] (γ 1)
  have hD : en15 (γ 0) (1, [ρ 5, ρ 6, ρ 7], γ 1) = .inl (0, [ρ 7 + 1], γ 1) := by
    unfold en15
    refine zIN (show ¬ (1 : Nat) = 0 by decide) (zIP (show (1 : Nat) = 1 by decide) (zLV (γ 1) rfl (zLV (ρ 5) rfl (zLV (ρ 6) rfl (zLV (ρ 7) rfl (zLE m3 (zLE m4 ?_)))))))
    refine zIP w_0 (zIP w_1 ?_)
    rfl
  exact zGoo_ato hJ hD
theorem vn15a1_1 {S : Nat → zSpc}  {a : List Int} {g : rHp} : ∀ (ρ : Nat → Int) (γ : Nat → rHp), jn15 a g 1 (zAg (zNA a15_ 1) ρ) (γ 1) → zO 5 S a g q15a1_1 ρ γ → zGl (fun i vs g1 => jn15 a g i vs g1) (sn15 a g) q15a1_1 ρ γ := by
  intro ρ γ hJ h
  obtain ⟨ha, hg, hr, hf, hm, hc, hl⟩ := h
  have ha : a = [ρ 0, ρ 1, ρ 2, ρ 3, ρ 4] := ha
  subst ha
  subst hg
  have hJ : jn15 [ρ 0, ρ 1, ρ 2, ρ 3, ρ 4] (γ 0) 1 [ρ 0, ρ 1, ρ 2, ρ 3, ρ 4, ρ 5, ρ 6, ρ 7] (γ 1) := hJ
  have r6 : (1 : Int) ≤ ρ 6 ∧ ρ 6 ≤ 1 := zRnA hr 6
  have f0 : (0 : Int) ≤ ρ 5 + -ρ 4 := zAllA hf 0
  obtain ⟨w_0, w_1⟩ : (ρ 5 ≥ ρ 4) ∧ (¬ (ρ 6 = 0)) := ⟨by omega, by omega⟩
  have m3 : γ 0 15 0 37 = ρ 3 := zAllA hm 3
  have m4 : γ 0 15 0 38 = ρ 4 := zAllA hm 4
  show sn15 [ρ 0, ρ 1, ρ 2, ρ 3, ρ 4] (γ 0) 0 (ρ 7 + 1099511627776) (γ 1)
  have hD : en15 (γ 0) (1, [ρ 5, ρ 6, ρ 7], γ 1) = .inr (0, ρ 7 + 1099511627776, γ 1) := by
    unfold en15
    refine zIN (show ¬ (1 : Nat) = 0 by decide) (zIP (show (1 : Nat) = 1 by decide) (zLV (γ 1) rfl (zLV (ρ 5) rfl (zLV (ρ 6) rfl (zLV (ρ 7) rfl (zLE m3 (zLE m4 ?_)))))))
    refine zIP w_0 (zIN w_1 ?_)
    rfl
  exact zGoo_aend hJ hD
theorem vn15a1_2 {S : Nat → zSpc}  {a : List Int} {g : rHp} : ∀ (ρ : Nat → Int) (γ : Nat → rHp), jn15 a g 1 (zAg (zNA a15_ 1) ρ) (γ 1) → zO 5 S a g q15a1_2 ρ γ → zGl (fun i vs g1 => jn15 a g i vs g1) (sn15 a g) q15a1_2 ρ γ := by
  intro ρ γ hJ h
  obtain ⟨ha, hg, hr, hf, hm, hc, hl⟩ := h
  have ha : a = [ρ 0, ρ 1, ρ 2, ρ 3, ρ 4] := ha
  subst ha
  subst hg
  have hJ : jn15 [ρ 0, ρ 1, ρ 2, ρ 3, ρ 4] (γ 0) 1 [ρ 0, ρ 1, ρ 2, ρ 3, ρ 4, ρ 5, ρ 6, ρ 7] (γ 1) := hJ
  have r6 : (0 : Int) ≤ ρ 6 ∧ ρ 6 ≤ 0 := zRnA hr 6
  have f0 : (0 : Int) ≤ -ρ 5 + ρ 4 + (-1) := zAllA hf 0
  obtain ⟨w_0, w_1⟩ : (¬ (ρ 5 ≥ ρ 4)) ∧ (ρ 6 = 0) := ⟨by omega, by omega⟩
  have m3 : γ 0 15 0 37 = ρ 3 := zAllA hm 3
  have m4 : γ 0 15 0 38 = ρ 4 := zAllA hm 4
  show jn15 [ρ 0, ρ 1, ρ 2, ρ 3, ρ 4] (γ 0) 0 [ρ 0, ρ 1, ρ 2, ρ 3, ρ 4, ρ 7 + 1] (γ 1)
  have hD : en15 (γ 0) (1, [ρ 5, ρ 6, ρ 7], γ 1) = .inl (0, [ρ 7 + 1], γ 1) := by
    unfold en15
    refine zIN (show ¬ (1 : Nat) = 0 by decide) (zIP (show (1 : Nat) = 1 by decide) (zLV (γ 1) rfl (zLV (ρ 5) rfl (zLV (ρ 6) rfl (zLV (ρ 7) rfl (zLE m3 (zLE m4 ?_)))))))
    refine zIN w_0 (zIP w_1 ?_)
    rfl
  exact zGoo_ato hJ hD
theorem vn15a1_3 {S : Nat → zSpc}  {a : List Int} {g : rHp} : ∀ (ρ : Nat → Int) (γ : Nat → rHp), jn15 a g 1 (zAg (zNA a15_ 1) ρ) (γ 1) → zO 5 S a g q15a1_3 ρ γ → zGl (fun i vs g1 => jn15 a g i vs g1) (sn15 a g) q15a1_3 ρ γ := by
  intro ρ γ hJ h
  obtain ⟨ha, hg, hr, hf, hm, hc, hl⟩ := h
  have ha : a = [ρ 0, ρ 1, ρ 2, ρ 3, ρ 4] := ha
  subst ha
  subst hg
  have hJ : jn15 [ρ 0, ρ 1, ρ 2, ρ 3, ρ 4] (γ 0) 1 [ρ 0, ρ 1, ρ 2, ρ 3, ρ 4, ρ 5, ρ 6, ρ 7] (γ 1) := hJ
  have r6 : (1 : Int) ≤ ρ 6 ∧ ρ 6 ≤ 1 := zRnA hr 6
  have r9 : ((-128) : Int) ≤ ρ 9 ∧ ρ 9 ≤ 127 := zRnA hr 9
  have r10 : ((-128) : Int) ≤ ρ 10 ∧ ρ 10 ≤ 127 := zRnA hr 10
  have f0 : (0 : Int) ≤ -ρ 5 + ρ 4 + (-1) := zAllA hf 0
  obtain ⟨w_0, w_1⟩ : (¬ (ρ 5 ≥ ρ 4)) ∧ (¬ (ρ 6 = 0)) := ⟨by omega, by omega⟩
  have m3 : γ 0 15 0 37 = ρ 3 := zAllA hm 3
  have m4 : γ 0 15 0 38 = ρ 4 := zAllA hm 4
  have m5 : γ 0 62 0 (ρ 7) = ρ 8 := zAllA hm 5
  have m6 : γ 0 61 0 (ρ 8 + ρ 5) = ρ 9 := zAllA hm 6
  have m7 : γ 0 59 0 (ρ 5 + ρ 3) = ρ 10 := zAllA hm 7
  have l0 : ρ 9 ≠ ρ 10 := zAllA hl 0
  have wl_0 : ρ 9 ≠ ρ 10 := by omega
  show jn15 [ρ 0, ρ 1, ρ 2, ρ 3, ρ 4] (γ 0) 1 [ρ 0, ρ 1, ρ 2, ρ 3, ρ 4, ρ 5 + 1, 0, ρ 7] (γ 1)
  have hD : en15 (γ 0) (1, [ρ 5, ρ 6, ρ 7], γ 1) = .inl (1, [ρ 5 + 1, 0, ρ 7], γ 1) := by
    unfold en15
    refine zIN (show ¬ (1 : Nat) = 0 by decide) (zIP (show (1 : Nat) = 1 by decide) (zLV (γ 1) rfl (zLV (ρ 5) rfl (zLV (ρ 6) rfl (zLV (ρ 7) rfl (zLE m3 (zLE m4 ?_)))))))
    refine zIN w_0 (zIN w_1 (zLE m5 (zLE m6 (zLE m7 (zIP wl_0 ?_)))))
    rfl
  exact zGoo_ato hJ hD
theorem vn15a1_4 {S : Nat → zSpc}  {a : List Int} {g : rHp} : ∀ (ρ : Nat → Int) (γ : Nat → rHp), jn15 a g 1 (zAg (zNA a15_ 1) ρ) (γ 1) → zO 5 S a g q15a1_4 ρ γ → zGl (fun i vs g1 => jn15 a g i vs g1) (sn15 a g) q15a1_4 ρ γ := by
  intro ρ γ hJ h
  obtain ⟨ha, hg, hr, hf, hm, hc, hl⟩ := h
  have ha : a = [ρ 0, ρ 1, ρ 2, ρ 3, ρ 4] := ha
  subst ha
  subst hg
  have hJ : jn15 [ρ 0, ρ 1, ρ 2, ρ 3, ρ 4] (γ 0) 1 [ρ 0, ρ 1, ρ 2, ρ 3, ρ 4, ρ 5, ρ 6, ρ 7] (γ 1) := hJ
  have r6 : (1 : Int) ≤ ρ 6 ∧ ρ 6 ≤ 1 := zRnA hr 6
  have f0 : (0 : Int) ≤ ρ 10 + -ρ 9 := zAllA hf 0
  have f1 : (0 : Int) ≤ -ρ 10 + ρ 9 := zAllA hf 1
  have f2 : (0 : Int) ≤ -ρ 5 + ρ 4 + (-1) := zAllA hf 2
  obtain ⟨w_0, w_1, w_2⟩ : (¬ (ρ 5 ≥ ρ 4)) ∧ (¬ (ρ 6 = 0)) ∧ (¬ (ρ 9 ≠ ρ 10)) := ⟨by omega, by omega, by omega⟩
  have m3 : γ 0 15 0 37 = ρ 3 := zAllA hm 3
  have m4 : γ 0 15 0 38 = ρ 4 := zAllA hm 4
  have m5 : γ 0 62 0 (ρ 7) = ρ 8 := zAllA hm 5
  have m6 : γ 0 61 0 (ρ 8 + ρ 5) = ρ 9 := zAllA hm 6
  have m7 : γ 0 59 0 (ρ 5 + ρ 3) = ρ 10 := zAllA hm 7
  show jn15 [ρ 0, ρ 1, ρ 2, ρ 3, ρ 4] (γ 0) 1 [ρ 0, ρ 1, ρ 2, ρ 3, ρ 4, ρ 5 + 1, 1, ρ 7] (γ 1)
  have hD : en15 (γ 0) (1, [ρ 5, ρ 6, ρ 7], γ 1) = .inl (1, [ρ 5 + 1, 1, ρ 7], γ 1) := by
    unfold en15
    refine zIN (show ¬ (1 : Nat) = 0 by decide) (zIP (show (1 : Nat) = 1 by decide) (zLV (γ 1) rfl (zLV (ρ 5) rfl (zLV (ρ 6) rfl (zLV (ρ 7) rfl (zLE m3 (zLE m4 ?_)))))))
    refine zIN w_0 (zIN w_1 (zLE m5 (zLE m6 (zLE m7 (zIN w_2 ?_)))))
    rfl
  exact zGoo_ato hJ hD
theorem vn15a2_0 {S : Nat → zSpc}  {a : List Int} {g : rHp} : ∀ (ρ : Nat → Int) (γ : Nat → rHp), jn15 a g 2 (zAg (zNA a15_ 2) ρ) (γ 1) → zO 5 S a g q15a2_0 ρ γ → zGl (fun i vs g1 => jn15 a g i vs g1) (sn15 a g) q15a2_0 ρ γ := by
  intro ρ γ hJ h
  obtain ⟨ha, hg, hr, hf, hm, hc, hl⟩ := h
  have ha : a = [ρ 0, ρ 1, ρ 2, ρ 3, ρ 4] := ha
  subst ha
  subst hg
  have hJ : jn15 [ρ 0, ρ 1, ρ 2, ρ 3, ρ 4] (γ 0) 2 [ρ 0, ρ 1, ρ 2, ρ 3, ρ 4, ρ 5] (γ 1) := hJ
  have f0 : (0 : Int) ≤ ρ 5 + -ρ 4 := zAllA hf 0
  have w_0 : ρ 5 ≥ ρ 4 := by omega
  have m1 : γ 0 15 0 8 = ρ 1 := zAllA hm 1
  have m2 : γ 0 15 0 9 = ρ 2 := zAllA hm 2
  have m3 : γ 0 15 0 37 = ρ 3 := zAllA hm 3
  have m4 : γ 0 15 0 38 = ρ 4 := zAllA hm 4
  have c2 : γ 2 = rUp (γ 1) 15 0 9 (ρ 4 + ρ 2) := And.right (zChA hc 1)
  have c3 : γ 3 = rUp (γ 2) 15 0 8 (ρ 1 + 1) := And.right (zChA hc 0)
  show sn15 [ρ 0, ρ 1, ρ 2, ρ 3, ρ 4] (γ 0) 0 (ρ 1 + 1099511627776) (γ 3)
  have hD : en15 (γ 0) (2, [ρ 5], γ 1) = .inr (0, ρ 1 + 1099511627776, γ 3) := by
    unfold en15
    refine zIN (show ¬ (2 : Nat) = 0 by decide) (zIN (show ¬ (2 : Nat) = 1 by decide) (zIP (show (2 : Nat) = 2 by decide) (zLV (γ 1) rfl (zLV (ρ 5) rfl (zLE m1 (zLE m2 (zLE m3 ?_)))))))
    refine zLE m4 (zIP w_0 (zLE c2.symm (zLE c3.symm ?_)))
    rfl
  exact zGoo_aend hJ hD
theorem vn15a2_1 {S : Nat → zSpc}  {a : List Int} {g : rHp} : ∀ (ρ : Nat → Int) (γ : Nat → rHp), jn15 a g 2 (zAg (zNA a15_ 2) ρ) (γ 1) → zO 5 S a g q15a2_1 ρ γ → zGl (fun i vs g1 => jn15 a g i vs g1) (sn15 a g) q15a2_1 ρ γ := by
  intro ρ γ hJ h
  obtain ⟨ha, hg, hr, hf, hm, hc, hl⟩ := h
  have ha : a = [ρ 0, ρ 1, ρ 2, ρ 3, ρ 4] := ha
  subst ha
  subst hg
  have hJ : jn15 [ρ 0, ρ 1, ρ 2, ρ 3, ρ 4] (γ 0) 2 [ρ 0, ρ 1, ρ 2, ρ 3, ρ 4, ρ 5] (γ 1) := hJ
  have f0 : (0 : Int) ≤ -ρ 5 + ρ 4 + (-1) := zAllA hf 0
  have w_0 : ¬ (ρ 5 ≥ ρ 4) := by omega
  have m1 : γ 0 15 0 8 = ρ 1 := zAllA hm 1
  have m2 : γ 0 15 0 9 = ρ 2 := zAllA hm 2
  have m3 : γ 0 15 0 37 = ρ 3 := zAllA hm 3
  have m4 : γ 0 15 0 38 = ρ 4 := zAllA hm 4
  have m5 : γ 0 59 0 (ρ 5 + ρ 3) = ρ 6 := zAllA hm 5
  have c2 : γ 2 = rUp (γ 1) 61 0 (ρ 5 + ρ 2) (ρ 6) := And.right (zChA hc 0)
  show jn15 [ρ 0, ρ 1, ρ 2, ρ 3, ρ 4] (γ 0) 2 [ρ 0, ρ 1, ρ 2, ρ 3, ρ 4, ρ 5 + 1] (γ 2)
  have hD : en15 (γ 0) (2, [ρ 5], γ 1) = .inl (2, [ρ 5 + 1], γ 2) := by
    unfold en15
    refine zIN (show ¬ (2 : Nat) = 0 by decide) (zIN (show ¬ (2 : Nat) = 1 by decide) (zIP (show (2 : Nat) = 2 by decide) (zLV (γ 1) rfl (zLV (ρ 5) rfl (zLE m1 (zLE m2 (zLE m3 ?_)))))))
    refine zLE m4 (zIN w_0 (zLE m5 (zLE c2.symm ?_)))
    rfl
  exact zGoo_ato hJ hD
theorem yn15 {S : Nat → zSpc}  : ∀ x g o v gz, zSem uW uT w15_.2.2.2.1 w15_.2.2.1.1.length S q15 (fun i => q15a.getD i []) (zNA a15_) x g o v gz → sn15 x g o v gz := by
  intro a g o v gz h
  exact zSem_all (l0 := q15) (las := q15a) (S := S) (J := (fun i vs g1 => jn15 a g i vs g1)) (P := sn15 a g) (fun _ => (show zAll _ [q15_0] from (zAll_c (vn15_0 ) zAll_n))) (fun _ => (show zAllI _ 0 [q15a0, q15a1, q15a2] from ⟨(show zAll _ [q15a0_0, q15a0_1, q15a0_2] from (zAll_c (vn15a0_0 ) (zAll_c (vn15a0_1 ) (zAll_c (vn15a0_2 ) zAll_n)))), ⟨(show zAll _ [q15a1_0, q15a1_1, q15a1_2, q15a1_3, q15a1_4] from (zAll_c (vn15a1_0 ) (zAll_c (vn15a1_1 ) (zAll_c (vn15a1_2 ) (zAll_c (vn15a1_3 ) (zAll_c (vn15a1_4 ) zAll_n)))))), ⟨(show zAll _ [q15a2_0, q15a2_1] from (zAll_c (vn15a2_0 ) (zAll_c (vn15a2_1 ) zAll_n))), trivial⟩⟩⟩)) h
theorem vn16_0 {S : Nat → zSpc}  {a : List Int} {g : rHp} : ∀ (ρ : Nat → Int) (γ : Nat → rHp), zO 5 S a g q16_0 ρ γ → zGl (fun i vs g1 => jn16 a g i vs g1) (sn16 a g) q16_0 ρ γ := by
  intro ρ γ h
  obtain ⟨ha, hg, hr, hf, hm, hc, hl⟩ := h
  have ha : a = [ρ 0, ρ 1, ρ 2, ρ 3, ρ 4] := ha
  subst ha
  subst hg
  have f0 : (0 : Int) ≤ ρ 4 + -ρ 1 := zAllA hf 0
  have f1 : (0 : Int) ≤ -ρ 4 + ρ 1 := zAllA hf 1
  have w_0 : ρ 1 = ρ 4 := by omega
  have m0 : γ 0 83 0 (ρ 0) = ρ 1 := zAllA hm 0
  have m3 : γ 0 15 0 38 = ρ 4 := zAllA hm 3
  show jn16 [ρ 0, ρ 1, ρ 2, ρ 3, ρ 4] (γ 0) 0 [ρ 0, ρ 1, ρ 2, ρ 3, ρ 4, 0] (γ 0)
  have hD : dn16 [ρ 0] (γ 0) = .inl (0, [ρ 0, 0], γ 0) := by
    unfold dn16
    refine zLV (ρ 0) rfl (zLE m0 (zLE m3 (zIP w_0 ?_)))
    rfl
  exact zGoo_to hD
theorem vn16_1 {S : Nat → zSpc}  {a : List Int} {g : rHp} : ∀ (ρ : Nat → Int) (γ : Nat → rHp), zO 5 S a g q16_1 ρ γ → zGl (fun i vs g1 => jn16 a g i vs g1) (sn16 a g) q16_1 ρ γ := by
  intro ρ γ h
  obtain ⟨ha, hg, hr, hf, hm, hc, hl⟩ := h
  have ha : a = [ρ 0, ρ 1, ρ 2, ρ 3, ρ 4] := ha
  subst ha
  subst hg
  have r1 : (0 : Int) ≤ ρ 1 ∧ ρ 1 ≤ 12 := zRnA hr 1
  have r2 : (0 : Int) ≤ ρ 2 ∧ ρ 2 ≤ 2000 := zRnA hr 2
  have r3 : (0 : Int) ≤ ρ 3 ∧ ρ 3 ≤ 2000 := zRnA hr 3
  have r4 : (0 : Int) ≤ ρ 4 ∧ ρ 4 ≤ 2000 := zRnA hr 4
  have f0 : (0 : Int) ≤ -ρ 2 + -ρ 1 + 2000 := zAllA hf 0
  have f1 : (0 : Int) ≤ -ρ 4 + -ρ 3 + 2000 := zAllA hf 1
  have m0 : γ 0 83 0 (ρ 0) = ρ 1 := zAllA hm 0
  have m3 : γ 0 15 0 38 = ρ 4 := zAllA hm 3
  have l0 : ρ 1 ≠ ρ 4 := zAllA hl 0
  have wl_0 : ¬ (ρ 1 = ρ 4) := by omega
  show sn16 [ρ 0, ρ 1, ρ 2, ρ 3, ρ 4] (γ 0) 0 0 (γ 0)
  have hD : dn16 [ρ 0] (γ 0) = .inr (0, 0, γ 0) := by
    unfold dn16
    refine zLV (ρ 0) rfl (zLE m0 (zLE m3 (zIN wl_0 ?_)))
    rfl
  exact zGoo_end hD
theorem vn16a0_0 {S : Nat → zSpc}  {a : List Int} {g : rHp} : ∀ (ρ : Nat → Int) (γ : Nat → rHp), jn16 a g 0 (zAg (zNA a16_ 0) ρ) (γ 1) → zO 5 S a g q16a0_0 ρ γ → zGl (fun i vs g1 => jn16 a g i vs g1) (sn16 a g) q16a0_0 ρ γ := by
  intro ρ γ hJ h
  obtain ⟨ha, hg, hr, hf, hm, hc, hl⟩ := h
  have ha : a = [ρ 0, ρ 1, ρ 2, ρ 3, ρ 4] := ha
  subst ha
  subst hg
  have hJ : jn16 [ρ 0, ρ 1, ρ 2, ρ 3, ρ 4] (γ 0) 0 [ρ 0, ρ 1, ρ 2, ρ 3, ρ 4, ρ 5] (γ 1) := hJ
  have f0 : (0 : Int) ≤ ρ 5 + -ρ 4 := zAllA hf 0
  have w_0 : ρ 5 ≥ ρ 4 := by omega
  have m1 : γ 0 82 0 (ρ 0) = ρ 2 := zAllA hm 1
  have m2 : γ 0 15 0 37 = ρ 3 := zAllA hm 2
  have m3 : γ 0 15 0 38 = ρ 4 := zAllA hm 3
  show sn16 [ρ 0, ρ 1, ρ 2, ρ 3, ρ 4] (γ 0) 0 1 (γ 1)
  have hD : en16 (γ 0) (0, [ρ 0, ρ 5], γ 1) = .inr (0, 1, γ 1) := by
    unfold en16
    refine zIP (show (0 : Nat) = 0 by decide) (zLV (γ 1) rfl (zLV (ρ 0) rfl (zLV (ρ 5) rfl (zLE m1 (zLE m2 (zLE m3 (zIP w_0 ?_)))))))
    rfl
  exact zGoo_aend hJ hD
theorem vn16a0_1 {S : Nat → zSpc}  {a : List Int} {g : rHp} : ∀ (ρ : Nat → Int) (γ : Nat → rHp), jn16 a g 0 (zAg (zNA a16_ 0) ρ) (γ 1) → zO 5 S a g q16a0_1 ρ γ → zGl (fun i vs g1 => jn16 a g i vs g1) (sn16 a g) q16a0_1 ρ γ := by
  intro ρ γ hJ h
  obtain ⟨ha, hg, hr, hf, hm, hc, hl⟩ := h
  have ha : a = [ρ 0, ρ 1, ρ 2, ρ 3, ρ 4] := ha
  subst ha
  subst hg
  have hJ : jn16 [ρ 0, ρ 1, ρ 2, ρ 3, ρ 4] (γ 0) 0 [ρ 0, ρ 1, ρ 2, ρ 3, ρ 4, ρ 5] (γ 1) := hJ
  have f0 : (0 : Int) ≤ ρ 7 + -ρ 6 := zAllA hf 0
  have f1 : (0 : Int) ≤ -ρ 7 + ρ 6 := zAllA hf 1
  have f2 : (0 : Int) ≤ -ρ 5 + ρ 4 + (-1) := zAllA hf 2
  obtain ⟨w_0, w_1⟩ : (¬ (ρ 5 ≥ ρ 4)) ∧ (ρ 6 = ρ 7) := ⟨by omega, by omega⟩
  have m1 : γ 0 82 0 (ρ 0) = ρ 2 := zAllA hm 1
  have m2 : γ 0 15 0 37 = ρ 3 := zAllA hm 2
  have m3 : γ 0 15 0 38 = ρ 4 := zAllA hm 3
  have m4 : γ 0 59 0 (ρ 5 + ρ 2) = ρ 6 := zAllA hm 4
  have m5 : γ 0 59 0 (ρ 5 + ρ 3) = ρ 7 := zAllA hm 5
  show jn16 [ρ 0, ρ 1, ρ 2, ρ 3, ρ 4] (γ 0) 0 [ρ 0, ρ 1, ρ 2, ρ 3, ρ 4, ρ 5 + 1] (γ 1)
  have hD : en16 (γ 0) (0, [ρ 0, ρ 5], γ 1) = .inl (0, [ρ 0, ρ 5 + 1], γ 1) := by
    unfold en16
    refine zIP (show (0 : Nat) = 0 by decide) (zLV (γ 1) rfl (zLV (ρ 0) rfl (zLV (ρ 5) rfl (zLE m1 (zLE m2 (zLE m3 (zIN w_0 ?_)))))))
    refine zLE m4 (zLE m5 (zIP w_1 ?_))
    rfl
  exact zGoo_ato hJ hD
theorem vn16a0_2 {S : Nat → zSpc}  {a : List Int} {g : rHp} : ∀ (ρ : Nat → Int) (γ : Nat → rHp), jn16 a g 0 (zAg (zNA a16_ 0) ρ) (γ 1) → zO 5 S a g q16a0_2 ρ γ → zGl (fun i vs g1 => jn16 a g i vs g1) (sn16 a g) q16a0_2 ρ γ := by
  intro ρ γ hJ h
  obtain ⟨ha, hg, hr, hf, hm, hc, hl⟩ := h
  have ha : a = [ρ 0, ρ 1, ρ 2, ρ 3, ρ 4] := ha
  subst ha
  subst hg
  have hJ : jn16 [ρ 0, ρ 1, ρ 2, ρ 3, ρ 4] (γ 0) 0 [ρ 0, ρ 1, ρ 2, ρ 3, ρ 4, ρ 5] (γ 1) := hJ
  have r6 : ((-128) : Int) ≤ ρ 6 ∧ ρ 6 ≤ 127 := zRnA hr 6
  have r7 : ((-128) : Int) ≤ ρ 7 ∧ ρ 7 ≤ 127 := zRnA hr 7
  have f0 : (0 : Int) ≤ -ρ 5 + ρ 4 + (-1) := zAllA hf 0
  have w_0 : ¬ (ρ 5 ≥ ρ 4) := by omega
  have m1 : γ 0 82 0 (ρ 0) = ρ 2 := zAllA hm 1
  have m2 : γ 0 15 0 37 = ρ 3 := zAllA hm 2
  have m3 : γ 0 15 0 38 = ρ 4 := zAllA hm 3
  have m4 : γ 0 59 0 (ρ 5 + ρ 2) = ρ 6 := zAllA hm 4
  have m5 : γ 0 59 0 (ρ 5 + ρ 3) = ρ 7 := zAllA hm 5
  have l0 : ρ 6 ≠ ρ 7 := zAllA hl 0
  have wl_0 : ¬ (ρ 6 = ρ 7) := by omega
  show sn16 [ρ 0, ρ 1, ρ 2, ρ 3, ρ 4] (γ 0) 0 0 (γ 1)
  have hD : en16 (γ 0) (0, [ρ 0, ρ 5], γ 1) = .inr (0, 0, γ 1) := by
    unfold en16
    refine zIP (show (0 : Nat) = 0 by decide) (zLV (γ 1) rfl (zLV (ρ 0) rfl (zLV (ρ 5) rfl (zLE m1 (zLE m2 (zLE m3 (zIN w_0 ?_)))))))
    refine zLE m4 (zLE m5 (zIN wl_0 ?_))
    rfl
  exact zGoo_aend hJ hD
theorem yn16 {S : Nat → zSpc}  : ∀ x g o v gz, zSem uW uT w16_.2.2.2.1 w16_.2.2.1.1.length S q16 (fun i => q16a.getD i []) (zNA a16_) x g o v gz → sn16 x g o v gz := by
  intro a g o v gz h
  exact zSem_all (l0 := q16) (las := q16a) (S := S) (J := (fun i vs g1 => jn16 a g i vs g1)) (P := sn16 a g) (fun _ => (show zAll _ [q16_0, q16_1] from (zAll_c (vn16_0 ) (zAll_c (vn16_1 ) zAll_n)))) (fun _ => (show zAllI _ 0 [q16a0] from ⟨(show zAll _ [q16a0_0, q16a0_1, q16a0_2] from (zAll_c (vn16a0_0 ) (zAll_c (vn16a0_1 ) (zAll_c (vn16a0_2 ) zAll_n)))), trivial⟩)) h
theorem vn17_0 {S : Nat → zSpc} (hS8 : zIm S 8 sn8) (hS12 : zIm S 12 sn12) (hS16 : zIm S 16 sn16) {a : List Int} {g : rHp} : ∀ (ρ : Nat → Int) (γ : Nat → rHp), zO 9 S a g q17_0 ρ γ → zGl (fun i vs g1 => jn17 a g i vs g1) (sn17 a g) q17_0 ρ γ := by
  intro ρ γ h
  obtain ⟨ha, hg, hr, hf, hm, hc, hl⟩ := h
  have ha : a = [ρ 0, ρ 1, ρ 2, ρ 3, ρ 4, ρ 5, ρ 6, ρ 7, ρ 8] := ha
  subst ha
  subst hg
  have l0 : sn12 [ρ 0, ρ 1, ρ 5, ρ 4, ρ 6] (γ 0) 0 0 (γ 1) := hS12 _ _ _ _ _ (zAllA hl 0)
  show sn17 [ρ 0, ρ 1, ρ 2, ρ 3, ρ 4, ρ 5, ρ 6, ρ 7, ρ 8] (γ 0) 0 0 (γ 1)
  have hD : dn17 [] (γ 0) = .inr (0, 0, γ 1) := by
    unfold dn17
    refine zLE (show fn12 [] (γ 0) = (0, 0, γ 1) from l0.symm) (zLV (γ 1) rfl (zIN zQ0_ ?_))
    rfl
  exact zGoo_end hD
theorem vn17_1 {S : Nat → zSpc} (hS8 : zIm S 8 sn8) (hS12 : zIm S 12 sn12) (hS16 : zIm S 16 sn16) {a : List Int} {g : rHp} : ∀ (ρ : Nat → Int) (γ : Nat → rHp), zO 9 S a g q17_1 ρ γ → zGl (fun i vs g1 => jn17 a g i vs g1) (sn17 a g) q17_1 ρ γ := by
  intro ρ γ h
  obtain ⟨ha, hg, hr, hf, hm, hc, hl⟩ := h
  have ha : a = [ρ 0, ρ 1, ρ 2, ρ 3, ρ 4, ρ 5, ρ 6, ρ 7, ρ 8] := ha
  subst ha
  subst hg
  have l0 : sn12 [ρ 0, ρ 1, ρ 5, ρ 4, ρ 6] (γ 0) 0 1 (γ 1) := hS12 _ _ _ _ _ (zAllA hl 0)
  show jn17 [ρ 0, ρ 1, ρ 2, ρ 3, ρ 4, ρ 5, ρ 6, ρ 7, ρ 8] (γ 0) 0 [ρ 0, ρ 1, ρ 2, ρ 3, ρ 4, ρ 5, ρ 6, ρ 7, ρ 8, 0, ρ 9, ρ 10] (γ 1)
  have hD : dn17 [] (γ 0) = .inl (0, [0], γ 1) := by
    unfold dn17
    refine zLE (show fn12 [] (γ 0) = (0, 1, γ 1) from l0.symm) (zLV (γ 1) rfl (zIP zQ1_ ?_))
    rfl
  exact zGoo_to hD
theorem vn17a0_0 {S : Nat → zSpc} (hS8 : zIm S 8 sn8) (hS12 : zIm S 12 sn12) (hS16 : zIm S 16 sn16) {a : List Int} {g : rHp} : ∀ (ρ : Nat → Int) (γ : Nat → rHp), jn17 a g 0 (zAg (zNA a17_ 0) ρ) (γ 1) → zO 9 S a g q17a0_0 ρ γ → zGl (fun i vs g1 => jn17 a g i vs g1) (sn17 a g) q17a0_0 ρ γ := by
  intro ρ γ hJ h
  obtain ⟨ha, hg, hr, hf, hm, hc, hl⟩ := h
  have ha : a = [ρ 0, ρ 1, ρ 2, ρ 3, ρ 4, ρ 5, ρ 6, ρ 7, ρ 8] := ha
  subst ha
  subst hg
  have hJ : jn17 [ρ 0, ρ 1, ρ 2, ρ 3, ρ 4, ρ 5, ρ 6, ρ 7, ρ 8] (γ 0) 0 [ρ 0, ρ 1, ρ 2, ρ 3, ρ 4, ρ 5, ρ 6, ρ 7, ρ 8, ρ 9, ρ 10, ρ 11] (γ 1) := hJ
  have r9 : (0 : Int) ≤ ρ 9 ∧ ρ 9 ≤ 7 := zRnA hr 9
  have f1 : (0 : Int) ≤ ρ 9 + -ρ 8 := zAllA hf 1
  obtain ⟨w_0, w_1⟩ : (ρ 9 ≥ ρ 8) ∧ (ρ 9 ≠ 8) := ⟨by omega, by omega⟩
  have m0 : γ 0 15 0 35 = ρ 0 := zAllA hm 0
  have m7 : γ 0 15 0 44 = ρ 7 := zAllA hm 7
  have m8 : γ 0 74 0 (ρ 7) = ρ 8 := zAllA hm 8
  have m12 : γ 1 15 0 38 = ρ 11 := zAllA hm 12
  have c2 : γ 2 = rUp (γ 1) 82 0 (ρ 9) (ρ 0) := And.right (zChA hc 6)
  have c3 : γ 3 = rUp (γ 2) 83 0 (ρ 9) (ρ 11) := And.right (zChA hc 5)
  have c4 : γ 4 = rUp (γ 3) 84 0 (ρ 9) 0 := And.right (zChA hc 4)
  have c5 : γ 5 = rUp (γ 4) 74 0 (ρ 7) (ρ 8 + 1) := And.right (zChA hc 3)
  have c6 : γ 6 = rUp (γ 5) 84 0 (ρ 9) 1 := And.right (zChA hc 2)
  have c7 : γ 7 = rUp (γ 6) 15 0 39 (ρ 9) := And.right (zChA hc 1)
  have c8 : γ 8 = rUp (γ 7) 15 0 40 1 := And.right (zChA hc 0)
  show sn17 [ρ 0, ρ 1, ρ 2, ρ 3, ρ 4, ρ 5, ρ 6, ρ 7, ρ 8] (γ 0) 0 1 (γ 8)
  have hD : en17 (γ 0) (0, [ρ 9], γ 1) = .inr (0, 1, γ 8) := by
    unfold en17
    refine zIP (show (0 : Nat) = 0 by decide) (zLV (γ 1) rfl (zLV (ρ 9) rfl (zLE m0 (zLE m7 (zLE m8 (zLE m12 (zIP w_0 ?_)))))))
    refine zIP w_1 (zLE c2.symm (zLE c3.symm (zLE c4.symm (zLE c5.symm (zLE c6.symm (zLE c7.symm (zLE c8.symm ?_)))))))
    rfl
  exact zGoo_aend hJ hD
theorem vn17a0_1 {S : Nat → zSpc} (hS8 : zIm S 8 sn8) (hS12 : zIm S 12 sn12) (hS16 : zIm S 16 sn16) {a : List Int} {g : rHp} : ∀ (ρ : Nat → Int) (γ : Nat → rHp), jn17 a g 0 (zAg (zNA a17_ 0) ρ) (γ 1) → zO 9 S a g q17a0_1 ρ γ → zGl (fun i vs g1 => jn17 a g i vs g1) (sn17 a g) q17a0_1 ρ γ := by
  intro ρ γ hJ h
  obtain ⟨ha, hg, hr, hf, hm, hc, hl⟩ := h
  have ha : a = [ρ 0, ρ 1, ρ 2, ρ 3, ρ 4, ρ 5, ρ 6, ρ 7, ρ 8] := ha
  subst ha
  subst hg
  have hJ : jn17 [ρ 0, ρ 1, ρ 2, ρ 3, ρ 4, ρ 5, ρ 6, ρ 7, ρ 8] (γ 0) 0 [ρ 0, ρ 1, ρ 2, ρ 3, ρ 4, ρ 5, ρ 6, ρ 7, ρ 8, ρ 9, ρ 10, ρ 11] (γ 1) := hJ
  have r8 : (0 : Int) ≤ ρ 8 ∧ ρ 8 ≤ 8 := zRnA hr 8
  have r9 : (8 : Int) ≤ ρ 9 ∧ ρ 9 ≤ 8 := zRnA hr 9
  obtain ⟨w_0, w_1⟩ : (ρ 9 ≥ ρ 8) ∧ (¬ (ρ 9 ≠ 8)) := ⟨by omega, by omega⟩
  have m0 : γ 0 15 0 35 = ρ 0 := zAllA hm 0
  have m7 : γ 0 15 0 44 = ρ 7 := zAllA hm 7
  have m8 : γ 0 74 0 (ρ 7) = ρ 8 := zAllA hm 8
  have m12 : γ 1 15 0 38 = ρ 11 := zAllA hm 12
  have l0 : sn8 [ρ 0, ρ 1, ρ 4] (γ 1) 0 0 (γ 2) := hS8 _ _ _ _ _ (zAllA hl 0)
  show sn17 [ρ 0, ρ 1, ρ 2, ρ 3, ρ 4, ρ 5, ρ 6, ρ 7, ρ 8] (γ 0) 0 0 (γ 2)
  have hD : en17 (γ 0) (0, [ρ 9], γ 1) = .inr (0, 0, γ 2) := by
    unfold en17
    refine zIP (show (0 : Nat) = 0 by decide) (zLV (γ 1) rfl (zLV (ρ 9) rfl (zLE m0 (zLE m7 (zLE m8 (zLE m12 (zIP w_0 ?_)))))))
    refine zIN w_1 (zLE (show fn8 [ρ 0] (γ 1) = (0, 0, γ 2) from l0.symm) (zLV (γ 2) rfl ?_))
    rfl
  exact zGoo_aend hJ hD
theorem vn17a0_2 {S : Nat → zSpc} (hS8 : zIm S 8 sn8) (hS12 : zIm S 12 sn12) (hS16 : zIm S 16 sn16) {a : List Int} {g : rHp} : ∀ (ρ : Nat → Int) (γ : Nat → rHp), jn17 a g 0 (zAg (zNA a17_ 0) ρ) (γ 1) → zO 9 S a g q17a0_2 ρ γ → zGl (fun i vs g1 => jn17 a g i vs g1) (sn17 a g) q17a0_2 ρ γ := by
  intro ρ γ hJ h
  obtain ⟨ha, hg, hr, hf, hm, hc, hl⟩ := h
  have ha : a = [ρ 0, ρ 1, ρ 2, ρ 3, ρ 4, ρ 5, ρ 6, ρ 7, ρ 8] := ha
  subst ha
  subst hg
  have hJ : jn17 [ρ 0, ρ 1, ρ 2, ρ 3, ρ 4, ρ 5, ρ 6, ρ 7, ρ 8] (γ 0) 0 [ρ 0, ρ 1, ρ 2, ρ 3, ρ 4, ρ 5, ρ 6, ρ 7, ρ 8, ρ 9, ρ 10, ρ 11] (γ 1) := hJ
  have f0 : (0 : Int) ≤ -ρ 9 + ρ 8 + (-1) := zAllA hf 0
  have w_0 : ¬ (ρ 9 ≥ ρ 8) := by omega
  have m0 : γ 0 15 0 35 = ρ 0 := zAllA hm 0
  have m7 : γ 0 15 0 44 = ρ 7 := zAllA hm 7
  have m8 : γ 0 74 0 (ρ 7) = ρ 8 := zAllA hm 8
  have m12 : γ 1 15 0 38 = ρ 11 := zAllA hm 12
  have l0 : sn16 [ρ 9, ρ 12, ρ 13, ρ 0, ρ 11] (γ 1) 0 0 (γ 2) := hS16 _ _ _ _ _ (zAllA hl 0)
  show jn17 [ρ 0, ρ 1, ρ 2, ρ 3, ρ 4, ρ 5, ρ 6, ρ 7, ρ 8] (γ 0) 0 [ρ 0, ρ 1, ρ 2, ρ 3, ρ 4, ρ 5, ρ 6, ρ 7, ρ 8, ρ 9 + 1, ρ 10, ρ 11] (γ 2)
  have hD : en17 (γ 0) (0, [ρ 9], γ 1) = .inl (0, [ρ 9 + 1], γ 2) := by
    unfold en17
    refine zIP (show (0 : Nat) = 0 by decide) (zLV (γ 1) rfl (zLV (ρ 9) rfl (zLE m0 (zLE m7 (zLE m8 (zLE m12 (zIN w_0 ?_)))))))
    refine zLE (show fn16 [ρ 9] (γ 1) = (0, 0, γ 2) from l0.symm) (zLV (γ 2) rfl (zIN zQ0_ ?_))
    rfl
  exact zGoo_ato hJ hD
theorem vn17a0_3 {S : Nat → zSpc} (hS8 : zIm S 8 sn8) (hS12 : zIm S 12 sn12) (hS16 : zIm S 16 sn16) {a : List Int} {g : rHp} : ∀ (ρ : Nat → Int) (γ : Nat → rHp), jn17 a g 0 (zAg (zNA a17_ 0) ρ) (γ 1) → zO 9 S a g q17a0_3 ρ γ → zGl (fun i vs g1 => jn17 a g i vs g1) (sn17 a g) q17a0_3 ρ γ := by
  intro ρ γ hJ h
  obtain ⟨ha, hg, hr, hf, hm, hc, hl⟩ := h
  have ha : a = [ρ 0, ρ 1, ρ 2, ρ 3, ρ 4, ρ 5, ρ 6, ρ 7, ρ 8] := ha
  subst ha
  subst hg
  have hJ : jn17 [ρ 0, ρ 1, ρ 2, ρ 3, ρ 4, ρ 5, ρ 6, ρ 7, ρ 8] (γ 0) 0 [ρ 0, ρ 1, ρ 2, ρ 3, ρ 4, ρ 5, ρ 6, ρ 7, ρ 8, ρ 9, ρ 10, ρ 11] (γ 1) := hJ
  have r9 : (0 : Int) ≤ ρ 9 ∧ ρ 9 ≤ 7 := zRnA hr 9
  have f0 : (0 : Int) ≤ -ρ 9 + ρ 8 + (-1) := zAllA hf 0
  obtain ⟨w_0, w_1⟩ : (¬ (ρ 9 ≥ ρ 8)) ∧ (ρ 9 ≠ 8) := ⟨by omega, by omega⟩
  have m0 : γ 0 15 0 35 = ρ 0 := zAllA hm 0
  have m7 : γ 0 15 0 44 = ρ 7 := zAllA hm 7
  have m8 : γ 0 74 0 (ρ 7) = ρ 8 := zAllA hm 8
  have m12 : γ 1 15 0 38 = ρ 11 := zAllA hm 12
  have m15 : γ 0 84 0 (ρ 9) = ρ 14 := zAllA hm 15
  have c3 : γ 3 = rUp (γ 2) 84 0 (ρ 9) (ρ 15) := And.right (zChA hc 2)
  have c4 : γ 4 = rUp (γ 3) 15 0 39 (ρ 9) := And.right (zChA hc 1)
  have c5 : γ 5 = rUp (γ 4) 15 0 40 1 := And.right (zChA hc 0)
  have l0 : sn16 [ρ 9, ρ 12, ρ 13, ρ 0, ρ 11] (γ 1) 0 1 (γ 2) := hS16 _ _ _ _ _ (zAllA hl 0)
  have l1 : zOpP (.iadd) (γ 0) (γ 1) [ρ 14, 1] (ρ 15) := zAllA hl 1
  show sn17 [ρ 0, ρ 1, ρ 2, ρ 3, ρ 4, ρ 5, ρ 6, ρ 7, ρ 8] (γ 0) 0 1 (γ 5)
  have hD : en17 (γ 0) (0, [ρ 9], γ 1) = .inr (0, 1, γ 5) := by
    unfold en17
    refine zIP (show (0 : Nat) = 0 by decide) (zLV (γ 1) rfl (zLV (ρ 9) rfl (zLE m0 (zLE m7 (zLE m8 (zLE m12 (zIN w_0 ?_)))))))
    refine zLE (show fn16 [ρ 9] (γ 1) = (0, 1, γ 2) from l0.symm) (zLV (γ 2) rfl (zIP zQ1_ (zIP w_1 (zLE m15 (zLE (zF2_ok l1) (zLE c3.symm (zLE c4.symm ?_)))))))
    refine zLE c5.symm ?_
    rfl
  exact zGoo_aend hJ hD
theorem vn17a0_4 {S : Nat → zSpc} (hS8 : zIm S 8 sn8) (hS12 : zIm S 12 sn12) (hS16 : zIm S 16 sn16) {a : List Int} {g : rHp} : ∀ (ρ : Nat → Int) (γ : Nat → rHp), jn17 a g 0 (zAg (zNA a17_ 0) ρ) (γ 1) → zO 9 S a g q17a0_4 ρ γ → zGl (fun i vs g1 => jn17 a g i vs g1) (sn17 a g) q17a0_4 ρ γ := by
  intro ρ γ hJ h
  obtain ⟨ha, hg, hr, hf, hm, hc, hl⟩ := h
  have ha : a = [ρ 0, ρ 1, ρ 2, ρ 3, ρ 4, ρ 5, ρ 6, ρ 7, ρ 8] := ha
  subst ha
  subst hg
  have hJ : jn17 [ρ 0, ρ 1, ρ 2, ρ 3, ρ 4, ρ 5, ρ 6, ρ 7, ρ 8] (γ 0) 0 [ρ 0, ρ 1, ρ 2, ρ 3, ρ 4, ρ 5, ρ 6, ρ 7, ρ 8, ρ 9, ρ 10, ρ 11] (γ 1) := hJ
  have r9 : (8 : Int) ≤ ρ 9 ∧ ρ 9 ≤ 8 := zRnA hr 9
  have f4 : (0 : Int) ≤ -ρ 9 + ρ 8 + (-1) := zAllA hf 4
  obtain ⟨w_0, w_1⟩ : (¬ (ρ 9 ≥ ρ 8)) ∧ (¬ (ρ 9 ≠ 8)) := ⟨by omega, by omega⟩
  have m0 : γ 0 15 0 35 = ρ 0 := zAllA hm 0
  have m7 : γ 0 15 0 44 = ρ 7 := zAllA hm 7
  have m8 : γ 0 74 0 (ρ 7) = ρ 8 := zAllA hm 8
  have m12 : γ 1 15 0 38 = ρ 11 := zAllA hm 12
  have l0 : sn16 [ρ 9, ρ 12, ρ 13, ρ 0, ρ 11] (γ 1) 0 1 (γ 2) := hS16 _ _ _ _ _ (zAllA hl 0)
  have l1 : sn8 [ρ 0, ρ 1, ρ 4] (γ 2) 0 0 (γ 3) := hS8 _ _ _ _ _ (zAllA hl 1)
  show sn17 [ρ 0, ρ 1, ρ 2, ρ 3, ρ 4, ρ 5, ρ 6, ρ 7, ρ 8] (γ 0) 0 0 (γ 3)
  have hD : en17 (γ 0) (0, [ρ 9], γ 1) = .inr (0, 0, γ 3) := by
    unfold en17
    refine zIP (show (0 : Nat) = 0 by decide) (zLV (γ 1) rfl (zLV (ρ 9) rfl (zLE m0 (zLE m7 (zLE m8 (zLE m12 (zIN w_0 ?_)))))))
    refine zLE (show fn16 [ρ 9] (γ 1) = (0, 1, γ 2) from l0.symm) (zLV (γ 2) rfl (zIP zQ1_ (zIN w_1 (zLE (show fn8 [ρ 0] (γ 2) = (0, 0, γ 3) from l1.symm) (zLV (γ 3) rfl ?_)))))
    rfl
  exact zGoo_aend hJ hD
theorem yn17 {S : Nat → zSpc} (hS8 : zIm S 8 sn8) (hS12 : zIm S 12 sn12) (hS16 : zIm S 16 sn16) : ∀ x g o v gz, zSem uW uT w17_.2.2.2.1 w17_.2.2.1.1.length S q17 (fun i => q17a.getD i []) (zNA a17_) x g o v gz → sn17 x g o v gz := by
  intro a g o v gz h
  exact zSem_all (l0 := q17) (las := q17a) (S := S) (J := (fun i vs g1 => jn17 a g i vs g1)) (P := sn17 a g) (fun _ => (show zAll _ [q17_0, q17_1] from (zAll_c (vn17_0 hS8 hS12 hS16) (zAll_c (vn17_1 hS8 hS12 hS16) zAll_n)))) (fun _ => (show zAllI _ 0 [q17a0] from ⟨(show zAll _ [q17a0_0, q17a0_1, q17a0_2, q17a0_3, q17a0_4] from (zAll_c (vn17a0_0 hS8 hS12 hS16) (zAll_c (vn17a0_1 hS8 hS12 hS16) (zAll_c (vn17a0_2 hS8 hS12 hS16) (zAll_c (vn17a0_3 hS8 hS12 hS16) (zAll_c (vn17a0_4 hS8 hS12 hS16) zAll_n)))))), trivial⟩)) h
theorem vn18_0 {S : Nat → zSpc}  {a : List Int} {g : rHp} : ∀ (ρ : Nat → Int) (γ : Nat → rHp), zO 2 S a g q18_0 ρ γ → zGl (fun _ _ _ => True) (sn18 a g) q18_0 ρ γ := by
  intro ρ γ h
  obtain ⟨ha, hg, hr, hf, hm, hc, hl⟩ := h
  have ha : a = [ρ 0, ρ 1] := ha
  subst ha
  subst hg
  have r3 : (0 : Int) ≤ ρ 3 ∧ ρ 3 ≤ 0 := zRnA hr 3
  have w_0 : ρ 3 ≠ 1 := by omega
  have m0 : γ 0 15 0 45 = ρ 1 := zAllA hm 0
  have l0 : zOpP (.ishr) (γ 0) (γ 1) [ρ 1, ρ 0] (ρ 2) := zAllA hl 0
  have l1 : zOpP (.iand) (γ 0) (γ 1) [ρ 2, 1] (ρ 3) := zAllA hl 1
  show sn18 [ρ 0, ρ 1] (γ 0) 0 0 (γ 0)
  refine Eq.symm ?_
  show fn18 [ρ 0] (γ 0) = _
  unfold fn18
  refine zLV (ρ 0) rfl (zLE m0 (zLE (zF2_ok l0) (zLE (zF2_ok l1) (zIP w_0 ?_))))
  rfl
theorem vn18_1 {S : Nat → zSpc}  {a : List Int} {g : rHp} : ∀ (ρ : Nat → Int) (γ : Nat → rHp), zO 2 S a g q18_1 ρ γ → zGl (fun _ _ _ => True) (sn18 a g) q18_1 ρ γ := by
  intro ρ γ h
  obtain ⟨ha, hg, hr, hf, hm, hc, hl⟩ := h
  have ha : a = [ρ 0, ρ 1] := ha
  subst ha
  subst hg
  have r3 : (1 : Int) ≤ ρ 3 ∧ ρ 3 ≤ 1 := zRnA hr 3
  have w_0 : ¬ (ρ 3 ≠ 1) := by omega
  have m0 : γ 0 15 0 45 = ρ 1 := zAllA hm 0
  have l0 : zOpP (.ishr) (γ 0) (γ 1) [ρ 1, ρ 0] (ρ 2) := zAllA hl 0
  have l1 : zOpP (.iand) (γ 0) (γ 1) [ρ 2, 1] (ρ 3) := zAllA hl 1
  show sn18 [ρ 0, ρ 1] (γ 0) 0 1 (γ 0)
  refine Eq.symm ?_
  show fn18 [ρ 0] (γ 0) = _
  unfold fn18
  refine zLV (ρ 0) rfl (zLE m0 (zLE (zF2_ok l0) (zLE (zF2_ok l1) (zIN w_0 ?_))))
  rfl
theorem yn18 {S : Nat → zSpc}  : ∀ x g o v gz, zSem uW uT w18_.2.2.2.1 w18_.2.2.1.1.length S q18 (fun i => q18a.getD i []) (zNA a18_) x g o v gz → sn18 x g o v gz := by
  intro a g o v gz h
  exact zSem_all (l0 := q18) (las := q18a) (S := S) (J := (fun _ _ _ => True)) (P := sn18 a g) (fun _ => (show zAll _ [q18_0, q18_1] from (zAll_c (vn18_0 ) (zAll_c (vn18_1 ) zAll_n)))) (fun _ => (show zAllI _ 0 [] from trivial)) h
theorem vn19_0 {S : Nat → zSpc}  {a : List Int} {g : rHp} : ∀ (ρ : Nat → Int) (γ : Nat → rHp), zO 2 S a g q19_0 ρ γ → zGl (fun _ _ _ => True) (sn19 a g) q19_0 ρ γ := by
  intro ρ γ h
  obtain ⟨ha, hg, hr, hf, hm, hc, hl⟩ := h
  have ha : a = [ρ 0, ρ 1] := ha
  subst ha
  subst hg
  have r4 : (0 : Int) ≤ ρ 4 ∧ ρ 4 ≤ 0 := zRnA hr 4
  have w_0 : ρ 4 ≠ 1 := by omega
  have m0 : γ 0 15 0 45 = ρ 1 := zAllA hm 0
  have l0 : zOpP (.l2i) (γ 0) (γ 1) [ρ 0] (ρ 2) := zAllA hl 0
  have l1 : zOpP (.ishr) (γ 0) (γ 1) [ρ 1, ρ 2] (ρ 3) := zAllA hl 1
  have l2 : zOpP (.iand) (γ 0) (γ 1) [ρ 3, 1] (ρ 4) := zAllA hl 2
  show sn19 [ρ 0, ρ 1] (γ 0) 0 0 (γ 0)
  refine Eq.symm ?_
  show fn19 [ρ 0] (γ 0) = _
  unfold fn19
  refine zLV (ρ 0) rfl (zLE m0 (zLE (zF1_ok l0) (zLE (zF2_ok l1) (zLE (zF2_ok l2) (zIP w_0 ?_)))))
  rfl
theorem vn19_1 {S : Nat → zSpc}  {a : List Int} {g : rHp} : ∀ (ρ : Nat → Int) (γ : Nat → rHp), zO 2 S a g q19_1 ρ γ → zGl (fun _ _ _ => True) (sn19 a g) q19_1 ρ γ := by
  intro ρ γ h
  obtain ⟨ha, hg, hr, hf, hm, hc, hl⟩ := h
  have ha : a = [ρ 0, ρ 1] := ha
  subst ha
  subst hg
  have r4 : (1 : Int) ≤ ρ 4 ∧ ρ 4 ≤ 1 := zRnA hr 4
  have w_0 : ¬ (ρ 4 ≠ 1) := by omega
  have m0 : γ 0 15 0 45 = ρ 1 := zAllA hm 0
  have l0 : zOpP (.l2i) (γ 0) (γ 1) [ρ 0] (ρ 2) := zAllA hl 0
  have l1 : zOpP (.ishr) (γ 0) (γ 1) [ρ 1, ρ 2] (ρ 3) := zAllA hl 1
  have l2 : zOpP (.iand) (γ 0) (γ 1) [ρ 3, 1] (ρ 4) := zAllA hl 2
  show sn19 [ρ 0, ρ 1] (γ 0) 0 1 (γ 0)
  refine Eq.symm ?_
  show fn19 [ρ 0] (γ 0) = _
  unfold fn19
  refine zLV (ρ 0) rfl (zLE m0 (zLE (zF1_ok l0) (zLE (zF2_ok l1) (zLE (zF2_ok l2) (zIN w_0 ?_)))))
  rfl
theorem yn19 {S : Nat → zSpc}  : ∀ x g o v gz, zSem uW uT w19_.2.2.2.1 w19_.2.2.1.1.length S q19 (fun i => q19a.getD i []) (zNA a19_) x g o v gz → sn19 x g o v gz := by
  intro a g o v gz h
  exact zSem_all (l0 := q19) (las := q19a) (S := S) (J := (fun _ _ _ => True)) (P := sn19 a g) (fun _ => (show zAll _ [q19_0, q19_1] from (zAll_c (vn19_0 ) (zAll_c (vn19_1 ) zAll_n)))) (fun _ => (show zAllI _ 0 [] from trivial)) h
theorem vn20_0 {S : Nat → zSpc} (hS6 : zIm S 6 sn6) (hS7 : zIm S 7 sn7) (hS8 : zIm S 8 sn8) (hS9 : zIm S 9 sn9) (hS10 : zIm S 10 sn10) (hS11 : zIm S 11 sn11) (hS12 : zIm S 12 sn12) (hS14 : zIm S 14 sn14) (hS15 : zIm S 15 sn15) (hS17 : zIm S 17 sn17) {a : List Int} {g : rHp} : ∀ (ρ : Nat → Int) (γ : Nat → rHp), zO 11 S a g q20_0 ρ γ → zGl (fun _ _ _ => True) (sn20 a g) q20_0 ρ γ := by
  intro ρ γ h
  obtain ⟨ha, hg, hr, hf, hm, hc, hl⟩ := h
  have ha : a = [ρ 0, ρ 1, ρ 2, ρ 3, ρ 4, ρ 5, ρ 6, ρ 7, ρ 8, ρ 9, ρ 10] := ha
  subst ha
  subst hg
  have r0 : (0 : Int) ≤ ρ 0 ∧ ρ 0 ≤ 0 := zRnA hr 0
  have r12 : (45 : Int) ≤ ρ 12 ∧ ρ 12 ≤ 45 := zRnA hr 12
  have f0 : (0 : Int) ≤ -ρ 11 + ρ 2 + (-1) := zAllA hf 0
  obtain ⟨w_0, w_1, w_2⟩ : (0 ≤ -ρ 11 + ρ 2 + (-1)) ∧ (ρ 0 = 0) ∧ (ρ 12 = 45) := ⟨by omega, by omega, by omega⟩
  have m1 : γ 0 15 0 34 = ρ 2 := zAllA hm 1
  have m10 : γ 1 15 0 35 = ρ 11 := zAllA hm 10
  have l0 : sn7 [ρ 1, ρ 2] (γ 0) 0 0 (γ 1) := hS7 _ _ _ _ _ (zAllA hl 0)
  have l1 : sn6 [ρ 11, ρ 2] (γ 1) 0 (ρ 12) (γ 2) := hS6 _ _ _ _ _ (zAllA hl 1)
  have l2 : sn10 [ρ 12] (γ 2) 0 0 (γ 3) := hS10 _ _ _ _ _ (zAllA hl 2)
  have l3 : sn9 [ρ 12] (γ 3) 0 0 (γ 4) := hS9 _ _ _ _ _ (zAllA hl 3)
  have l4 : sn14 [ρ 11, ρ 2, ρ 7, ρ 6] (γ 4) 0 0 (γ 5) := hS14 _ _ _ _ _ (zAllA hl 4)
  show sn20 [ρ 0, ρ 1, ρ 2, ρ 3, ρ 4, ρ 5, ρ 6, ρ 7, ρ 8, ρ 9, ρ 10] (γ 0) 0 0 (γ 5)
  refine Eq.symm ?_
  show fn20 [ρ 0] (γ 0) = _
  unfold fn20
  refine zLV (ρ 0) rfl (zLE m1 (zLE (show fn7 [] (γ 0) = (0, 0, γ 1) from l0.symm) (zLV (γ 1) rfl (zLE m10 (zLE (show fn6 [ρ 11] (γ 1) = (0, ρ 12, γ 2) from l1.symm) (zLV (γ 2) rfl (zIP w_0 ?_)))))))
  refine zLV (ρ 12) rfl (zLE (show fn10 [ρ 12] (γ 2) = (0, 0, γ 3) from l2.symm) (zLV (γ 3) rfl (zIN zQ0_ (zLE (show fn9 [ρ 12] (γ 3) = (0, 0, γ 4) from l3.symm) (zLV (γ 4) rfl (zIN zQ0_ (zIP w_1 ?_)))))))
  refine zIP w_2 (zLE (show fn14 [] (γ 4) = (0, 0, γ 5) from l4.symm) (zLV (γ 5) rfl (zIN zQ0_ ?_)))
  rfl
theorem vn20_1 {S : Nat → zSpc} (hS6 : zIm S 6 sn6) (hS7 : zIm S 7 sn7) (hS8 : zIm S 8 sn8) (hS9 : zIm S 9 sn9) (hS10 : zIm S 10 sn10) (hS11 : zIm S 11 sn11) (hS12 : zIm S 12 sn12) (hS14 : zIm S 14 sn14) (hS15 : zIm S 15 sn15) (hS17 : zIm S 17 sn17) {a : List Int} {g : rHp} : ∀ (ρ : Nat → Int) (γ : Nat → rHp), zO 11 S a g q20_1 ρ γ → zGl (fun _ _ _ => True) (sn20 a g) q20_1 ρ γ := by
  intro ρ γ h
  obtain ⟨ha, hg, hr, hf, hm, hc, hl⟩ := h
  have ha : a = [ρ 0, ρ 1, ρ 2, ρ 3, ρ 4, ρ 5, ρ 6, ρ 7, ρ 8, ρ 9, ρ 10] := ha
  subst ha
  subst hg
  have r0 : (0 : Int) ≤ ρ 0 ∧ ρ 0 ≤ 0 := zRnA hr 0
  have r12 : (45 : Int) ≤ ρ 12 ∧ ρ 12 ≤ 45 := zRnA hr 12
  have f0 : (0 : Int) ≤ -ρ 11 + ρ 2 + (-1) := zAllA hf 0
  obtain ⟨w_0, w_1, w_2⟩ : (0 ≤ -ρ 11 + ρ 2 + (-1)) ∧ (ρ 0 = 0) ∧ (ρ 12 = 45) := ⟨by omega, by omega, by omega⟩
  have m1 : γ 0 15 0 34 = ρ 2 := zAllA hm 1
  have m10 : γ 1 15 0 35 = ρ 11 := zAllA hm 10
  have l0 : sn7 [ρ 1, ρ 2] (γ 0) 0 0 (γ 1) := hS7 _ _ _ _ _ (zAllA hl 0)
  have l1 : sn6 [ρ 11, ρ 2] (γ 1) 0 (ρ 12) (γ 2) := hS6 _ _ _ _ _ (zAllA hl 1)
  have l2 : sn10 [ρ 12] (γ 2) 0 0 (γ 3) := hS10 _ _ _ _ _ (zAllA hl 2)
  have l3 : sn9 [ρ 12] (γ 3) 0 0 (γ 4) := hS9 _ _ _ _ _ (zAllA hl 3)
  have l4 : sn14 [ρ 11, ρ 2, ρ 7, ρ 6] (γ 4) 0 1 (γ 5) := hS14 _ _ _ _ _ (zAllA hl 4)
  show sn20 [ρ 0, ρ 1, ρ 2, ρ 3, ρ 4, ρ 5, ρ 6, ρ 7, ρ 8, ρ 9, ρ 10] (γ 0) 0 1 (γ 5)
  refine Eq.symm ?_
  show fn20 [ρ 0] (γ 0) = _
  unfold fn20
  refine zLV (ρ 0) rfl (zLE m1 (zLE (show fn7 [] (γ 0) = (0, 0, γ 1) from l0.symm) (zLV (γ 1) rfl (zLE m10 (zLE (show fn6 [ρ 11] (γ 1) = (0, ρ 12, γ 2) from l1.symm) (zLV (γ 2) rfl (zIP w_0 ?_)))))))
  refine zLV (ρ 12) rfl (zLE (show fn10 [ρ 12] (γ 2) = (0, 0, γ 3) from l2.symm) (zLV (γ 3) rfl (zIN zQ0_ (zLE (show fn9 [ρ 12] (γ 3) = (0, 0, γ 4) from l3.symm) (zLV (γ 4) rfl (zIN zQ0_ (zIP w_1 ?_)))))))
  refine zIP w_2 (zLE (show fn14 [] (γ 4) = (0, 1, γ 5) from l4.symm) (zLV (γ 5) rfl (zIP zQ1_ ?_)))
  rfl
theorem vn20_2 {S : Nat → zSpc} (hS6 : zIm S 6 sn6) (hS7 : zIm S 7 sn7) (hS8 : zIm S 8 sn8) (hS9 : zIm S 9 sn9) (hS10 : zIm S 10 sn10) (hS11 : zIm S 11 sn11) (hS12 : zIm S 12 sn12) (hS14 : zIm S 14 sn14) (hS15 : zIm S 15 sn15) (hS17 : zIm S 17 sn17) {a : List Int} {g : rHp} : ∀ (ρ : Nat → Int) (γ : Nat → rHp), zO 11 S a g q20_2 ρ γ → zGl (fun _ _ _ => True) (sn20 a g) q20_2 ρ γ := by
  intro ρ γ h
  obtain ⟨ha, hg, hr, hf, hm, hc, hl⟩ := h
  have ha : a = [ρ 0, ρ 1, ρ 2, ρ 3, ρ 4, ρ 5, ρ 6, ρ 7, ρ 8, ρ 9, ρ 10] := ha
  subst ha
  subst hg
  have r0 : (0 : Int) ≤ ρ 0 ∧ ρ 0 ≤ 0 := zRnA hr 0
  have r12 : ((-128) : Int) ≤ ρ 12 ∧ ρ 12 ≤ 127 := zRnA hr 12
  have f2 : (0 : Int) ≤ -ρ 11 + ρ 2 + (-1) := zAllA hf 2
  obtain ⟨w_0, w_1⟩ : (0 ≤ -ρ 11 + ρ 2 + (-1)) ∧ (ρ 0 = 0) := ⟨by omega, by omega⟩
  have m1 : γ 0 15 0 34 = ρ 2 := zAllA hm 1
  have m10 : γ 1 15 0 35 = ρ 11 := zAllA hm 10
  have l0 : sn7 [ρ 1, ρ 2] (γ 0) 0 0 (γ 1) := hS7 _ _ _ _ _ (zAllA hl 0)
  have l1 : sn6 [ρ 11, ρ 2] (γ 1) 0 (ρ 12) (γ 2) := hS6 _ _ _ _ _ (zAllA hl 1)
  have l2 : sn10 [ρ 12] (γ 2) 0 0 (γ 3) := hS10 _ _ _ _ _ (zAllA hl 2)
  have l3 : sn9 [ρ 12] (γ 3) 0 0 (γ 4) := hS9 _ _ _ _ _ (zAllA hl 3)
  have l4 : ρ 12 ≠ 45 := zAllA hl 4
  have l5 : sn11 [ρ 12] (γ 4) 0 0 (γ 5) := hS11 _ _ _ _ _ (zAllA hl 5)
  have l6 : sn8 [ρ 11, ρ 2, ρ 7] (γ 5) 0 0 (γ 6) := hS8 _ _ _ _ _ (zAllA hl 6)
  have wl_0 : ¬ (ρ 12 = 45) := by omega
  show sn20 [ρ 0, ρ 1, ρ 2, ρ 3, ρ 4, ρ 5, ρ 6, ρ 7, ρ 8, ρ 9, ρ 10] (γ 0) 0 0 (γ 6)
  refine Eq.symm ?_
  show fn20 [ρ 0] (γ 0) = _
  unfold fn20
  refine zLV (ρ 0) rfl (zLE m1 (zLE (show fn7 [] (γ 0) = (0, 0, γ 1) from l0.symm) (zLV (γ 1) rfl (zLE m10 (zLE (show fn6 [ρ 11] (γ 1) = (0, ρ 12, γ 2) from l1.symm) (zLV (γ 2) rfl (zIP w_0 ?_)))))))
  refine zLV (ρ 12) rfl (zLE (show fn10 [ρ 12] (γ 2) = (0, 0, γ 3) from l2.symm) (zLV (γ 3) rfl (zIN zQ0_ (zLE (show fn9 [ρ 12] (γ 3) = (0, 0, γ 4) from l3.symm) (zLV (γ 4) rfl (zIN zQ0_ (zIP w_1 ?_)))))))
  refine zIN wl_0 (zLE (show fn11 [ρ 12] (γ 4) = (0, 0, γ 5) from l5.symm) (zLV (γ 5) rfl (zIN zQ0_ (zLE (show fn8 [ρ 11] (γ 5) = (0, 0, γ 6) from l6.symm) (zLV (γ 6) rfl ?_)))))
  rfl
theorem vn20_3 {S : Nat → zSpc} (hS6 : zIm S 6 sn6) (hS7 : zIm S 7 sn7) (hS8 : zIm S 8 sn8) (hS9 : zIm S 9 sn9) (hS10 : zIm S 10 sn10) (hS11 : zIm S 11 sn11) (hS12 : zIm S 12 sn12) (hS14 : zIm S 14 sn14) (hS15 : zIm S 15 sn15) (hS17 : zIm S 17 sn17) {a : List Int} {g : rHp} : ∀ (ρ : Nat → Int) (γ : Nat → rHp), zO 11 S a g q20_3 ρ γ → zGl (fun _ _ _ => True) (sn20 a g) q20_3 ρ γ := by
  intro ρ γ h
  obtain ⟨ha, hg, hr, hf, hm, hc, hl⟩ := h
  have ha : a = [ρ 0, ρ 1, ρ 2, ρ 3, ρ 4, ρ 5, ρ 6, ρ 7, ρ 8, ρ 9, ρ 10] := ha
  subst ha
  subst hg
  have r0 : (0 : Int) ≤ ρ 0 ∧ ρ 0 ≤ 0 := zRnA hr 0
  have r12 : (48 : Int) ≤ ρ 12 ∧ ρ 12 ≤ 57 := zRnA hr 12
  have f0 : (0 : Int) ≤ -ρ 11 + ρ 2 + (-1) := zAllA hf 0
  obtain ⟨w_0, w_1, w_2⟩ : (0 ≤ -ρ 11 + ρ 2 + (-1)) ∧ (ρ 0 = 0) ∧ (¬ (ρ 12 = 45)) := ⟨by omega, by omega, by omega⟩
  have m1 : γ 0 15 0 34 = ρ 2 := zAllA hm 1
  have m10 : γ 1 15 0 35 = ρ 11 := zAllA hm 10
  have l0 : sn7 [ρ 1, ρ 2] (γ 0) 0 0 (γ 1) := hS7 _ _ _ _ _ (zAllA hl 0)
  have l1 : sn6 [ρ 11, ρ 2] (γ 1) 0 (ρ 12) (γ 2) := hS6 _ _ _ _ _ (zAllA hl 1)
  have l2 : sn10 [ρ 12] (γ 2) 0 0 (γ 3) := hS10 _ _ _ _ _ (zAllA hl 2)
  have l3 : sn9 [ρ 12] (γ 3) 0 0 (γ 4) := hS9 _ _ _ _ _ (zAllA hl 3)
  have l4 : ρ 12 ≠ 45 := zAllA hl 4
  have l5 : sn11 [ρ 12] (γ 4) 0 1 (γ 5) := hS11 _ _ _ _ _ (zAllA hl 5)
  have l6 : sn14 [ρ 11, ρ 2, ρ 7, ρ 6] (γ 5) 0 0 (γ 6) := hS14 _ _ _ _ _ (zAllA hl 6)
  show sn20 [ρ 0, ρ 1, ρ 2, ρ 3, ρ 4, ρ 5, ρ 6, ρ 7, ρ 8, ρ 9, ρ 10] (γ 0) 0 0 (γ 6)
  refine Eq.symm ?_
  show fn20 [ρ 0] (γ 0) = _
  unfold fn20
  refine zLV (ρ 0) rfl (zLE m1 (zLE (show fn7 [] (γ 0) = (0, 0, γ 1) from l0.symm) (zLV (γ 1) rfl (zLE m10 (zLE (show fn6 [ρ 11] (γ 1) = (0, ρ 12, γ 2) from l1.symm) (zLV (γ 2) rfl (zIP w_0 ?_)))))))
  refine zLV (ρ 12) rfl (zLE (show fn10 [ρ 12] (γ 2) = (0, 0, γ 3) from l2.symm) (zLV (γ 3) rfl (zIN zQ0_ (zLE (show fn9 [ρ 12] (γ 3) = (0, 0, γ 4) from l3.symm) (zLV (γ 4) rfl (zIN zQ0_ (zIP w_1 ?_)))))))
  refine zIN w_2 (zLE (show fn11 [ρ 12] (γ 4) = (0, 1, γ 5) from l5.symm) (zLV (γ 5) rfl (zIP zQ1_ (zLE (show fn14 [] (γ 5) = (0, 0, γ 6) from l6.symm) (zLV (γ 6) rfl (zIN zQ0_ ?_))))))
  rfl
theorem vn20_4 {S : Nat → zSpc} (hS6 : zIm S 6 sn6) (hS7 : zIm S 7 sn7) (hS8 : zIm S 8 sn8) (hS9 : zIm S 9 sn9) (hS10 : zIm S 10 sn10) (hS11 : zIm S 11 sn11) (hS12 : zIm S 12 sn12) (hS14 : zIm S 14 sn14) (hS15 : zIm S 15 sn15) (hS17 : zIm S 17 sn17) {a : List Int} {g : rHp} : ∀ (ρ : Nat → Int) (γ : Nat → rHp), zO 11 S a g q20_4 ρ γ → zGl (fun _ _ _ => True) (sn20 a g) q20_4 ρ γ := by
  intro ρ γ h
  obtain ⟨ha, hg, hr, hf, hm, hc, hl⟩ := h
  have ha : a = [ρ 0, ρ 1, ρ 2, ρ 3, ρ 4, ρ 5, ρ 6, ρ 7, ρ 8, ρ 9, ρ 10] := ha
  subst ha
  subst hg
  have r0 : (0 : Int) ≤ ρ 0 ∧ ρ 0 ≤ 0 := zRnA hr 0
  have r12 : (48 : Int) ≤ ρ 12 ∧ ρ 12 ≤ 57 := zRnA hr 12
  have f0 : (0 : Int) ≤ -ρ 11 + ρ 2 + (-1) := zAllA hf 0
  obtain ⟨w_0, w_1, w_2⟩ : (0 ≤ -ρ 11 + ρ 2 + (-1)) ∧ (ρ 0 = 0) ∧ (¬ (ρ 12 = 45)) := ⟨by omega, by omega, by omega⟩
  have m1 : γ 0 15 0 34 = ρ 2 := zAllA hm 1
  have m10 : γ 1 15 0 35 = ρ 11 := zAllA hm 10
  have l0 : sn7 [ρ 1, ρ 2] (γ 0) 0 0 (γ 1) := hS7 _ _ _ _ _ (zAllA hl 0)
  have l1 : sn6 [ρ 11, ρ 2] (γ 1) 0 (ρ 12) (γ 2) := hS6 _ _ _ _ _ (zAllA hl 1)
  have l2 : sn10 [ρ 12] (γ 2) 0 0 (γ 3) := hS10 _ _ _ _ _ (zAllA hl 2)
  have l3 : sn9 [ρ 12] (γ 3) 0 0 (γ 4) := hS9 _ _ _ _ _ (zAllA hl 3)
  have l4 : ρ 12 ≠ 45 := zAllA hl 4
  have l5 : sn11 [ρ 12] (γ 4) 0 1 (γ 5) := hS11 _ _ _ _ _ (zAllA hl 5)
  have l6 : sn14 [ρ 11, ρ 2, ρ 7, ρ 6] (γ 5) 0 1 (γ 6) := hS14 _ _ _ _ _ (zAllA hl 6)
  show sn20 [ρ 0, ρ 1, ρ 2, ρ 3, ρ 4, ρ 5, ρ 6, ρ 7, ρ 8, ρ 9, ρ 10] (γ 0) 0 1 (γ 6)
  refine Eq.symm ?_
  show fn20 [ρ 0] (γ 0) = _
  unfold fn20
  refine zLV (ρ 0) rfl (zLE m1 (zLE (show fn7 [] (γ 0) = (0, 0, γ 1) from l0.symm) (zLV (γ 1) rfl (zLE m10 (zLE (show fn6 [ρ 11] (γ 1) = (0, ρ 12, γ 2) from l1.symm) (zLV (γ 2) rfl (zIP w_0 ?_)))))))
  refine zLV (ρ 12) rfl (zLE (show fn10 [ρ 12] (γ 2) = (0, 0, γ 3) from l2.symm) (zLV (γ 3) rfl (zIN zQ0_ (zLE (show fn9 [ρ 12] (γ 3) = (0, 0, γ 4) from l3.symm) (zLV (γ 4) rfl (zIN zQ0_ (zIP w_1 ?_)))))))
  refine zIN w_2 (zLE (show fn11 [ρ 12] (γ 4) = (0, 1, γ 5) from l5.symm) (zLV (γ 5) rfl (zIP zQ1_ (zLE (show fn14 [] (γ 5) = (0, 1, γ 6) from l6.symm) (zLV (γ 6) rfl (zIP zQ1_ ?_))))))
  rfl
theorem vn20_5 {S : Nat → zSpc} (hS6 : zIm S 6 sn6) (hS7 : zIm S 7 sn7) (hS8 : zIm S 8 sn8) (hS9 : zIm S 9 sn9) (hS10 : zIm S 10 sn10) (hS11 : zIm S 11 sn11) (hS12 : zIm S 12 sn12) (hS14 : zIm S 14 sn14) (hS15 : zIm S 15 sn15) (hS17 : zIm S 17 sn17) {a : List Int} {g : rHp} : ∀ (ρ : Nat → Int) (γ : Nat → rHp), zO 11 S a g q20_5 ρ γ → zGl (fun _ _ _ => True) (sn20 a g) q20_5 ρ γ := by
  intro ρ γ h
  obtain ⟨ha, hg, hr, hf, hm, hc, hl⟩ := h
  have ha : a = [ρ 0, ρ 1, ρ 2, ρ 3, ρ 4, ρ 5, ρ 6, ρ 7, ρ 8, ρ 9, ρ 10] := ha
  subst ha
  subst hg
  have r0 : (1 : Int) ≤ ρ 0 ∧ ρ 0 ≤ 1 := zRnA hr 0
  have r12 : (45 : Int) ≤ ρ 12 ∧ ρ 12 ≤ 45 := zRnA hr 12
  have f0 : (0 : Int) ≤ -ρ 11 + ρ 2 + (-1) := zAllA hf 0
  obtain ⟨w_0, w_1, w_2, w_3⟩ : (0 ≤ -ρ 11 + ρ 2 + (-1)) ∧ (¬ (ρ 0 = 0)) ∧ (ρ 12 ≠ 95) ∧ (ρ 12 = 45) := ⟨by omega, by omega, by omega, by omega⟩
  have m1 : γ 0 15 0 34 = ρ 2 := zAllA hm 1
  have m10 : γ 1 15 0 35 = ρ 11 := zAllA hm 10
  have l0 : sn7 [ρ 1, ρ 2] (γ 0) 0 0 (γ 1) := hS7 _ _ _ _ _ (zAllA hl 0)
  have l1 : sn6 [ρ 11, ρ 2] (γ 1) 0 (ρ 12) (γ 2) := hS6 _ _ _ _ _ (zAllA hl 1)
  have l2 : sn10 [ρ 12] (γ 2) 0 0 (γ 3) := hS10 _ _ _ _ _ (zAllA hl 2)
  have l3 : sn9 [ρ 12] (γ 3) 0 0 (γ 4) := hS9 _ _ _ _ _ (zAllA hl 3)
  have l4 : ρ 12 ≠ 95 := zAllA hl 4
  have l5 : sn14 [ρ 11, ρ 2, ρ 7, ρ 6] (γ 4) 0 0 (γ 5) := hS14 _ _ _ _ _ (zAllA hl 5)
  show sn20 [ρ 0, ρ 1, ρ 2, ρ 3, ρ 4, ρ 5, ρ 6, ρ 7, ρ 8, ρ 9, ρ 10] (γ 0) 0 0 (γ 5)
  refine Eq.symm ?_
  show fn20 [ρ 0] (γ 0) = _
  unfold fn20
  refine zLV (ρ 0) rfl (zLE m1 (zLE (show fn7 [] (γ 0) = (0, 0, γ 1) from l0.symm) (zLV (γ 1) rfl (zLE m10 (zLE (show fn6 [ρ 11] (γ 1) = (0, ρ 12, γ 2) from l1.symm) (zLV (γ 2) rfl (zIP w_0 ?_)))))))
  refine zLV (ρ 12) rfl (zLE (show fn10 [ρ 12] (γ 2) = (0, 0, γ 3) from l2.symm) (zLV (γ 3) rfl (zIN zQ0_ (zLE (show fn9 [ρ 12] (γ 3) = (0, 0, γ 4) from l3.symm) (zLV (γ 4) rfl (zIN zQ0_ (zIN w_1 ?_)))))))
  refine zIP w_2 (zIP w_3 (zLE (show fn14 [] (γ 4) = (0, 0, γ 5) from l5.symm) (zLV (γ 5) rfl (zIN zQ0_ ?_))))
  rfl
theorem vn20_6 {S : Nat → zSpc} (hS6 : zIm S 6 sn6) (hS7 : zIm S 7 sn7) (hS8 : zIm S 8 sn8) (hS9 : zIm S 9 sn9) (hS10 : zIm S 10 sn10) (hS11 : zIm S 11 sn11) (hS12 : zIm S 12 sn12) (hS14 : zIm S 14 sn14) (hS15 : zIm S 15 sn15) (hS17 : zIm S 17 sn17) {a : List Int} {g : rHp} : ∀ (ρ : Nat → Int) (γ : Nat → rHp), zO 11 S a g q20_6 ρ γ → zGl (fun _ _ _ => True) (sn20 a g) q20_6 ρ γ := by
  intro ρ γ h
  obtain ⟨ha, hg, hr, hf, hm, hc, hl⟩ := h
  have ha : a = [ρ 0, ρ 1, ρ 2, ρ 3, ρ 4, ρ 5, ρ 6, ρ 7, ρ 8, ρ 9, ρ 10] := ha
  subst ha
  subst hg
  have r0 : (1 : Int) ≤ ρ 0 ∧ ρ 0 ≤ 1 := zRnA hr 0
  have r12 : (45 : Int) ≤ ρ 12 ∧ ρ 12 ≤ 45 := zRnA hr 12
  have f0 : (0 : Int) ≤ -ρ 11 + ρ 2 + (-1) := zAllA hf 0
  obtain ⟨w_0, w_1, w_2, w_3⟩ : (0 ≤ -ρ 11 + ρ 2 + (-1)) ∧ (¬ (ρ 0 = 0)) ∧ (ρ 12 ≠ 95) ∧ (ρ 12 = 45) := ⟨by omega, by omega, by omega, by omega⟩
  have m1 : γ 0 15 0 34 = ρ 2 := zAllA hm 1
  have m10 : γ 1 15 0 35 = ρ 11 := zAllA hm 10
  have l0 : sn7 [ρ 1, ρ 2] (γ 0) 0 0 (γ 1) := hS7 _ _ _ _ _ (zAllA hl 0)
  have l1 : sn6 [ρ 11, ρ 2] (γ 1) 0 (ρ 12) (γ 2) := hS6 _ _ _ _ _ (zAllA hl 1)
  have l2 : sn10 [ρ 12] (γ 2) 0 0 (γ 3) := hS10 _ _ _ _ _ (zAllA hl 2)
  have l3 : sn9 [ρ 12] (γ 3) 0 0 (γ 4) := hS9 _ _ _ _ _ (zAllA hl 3)
  have l4 : ρ 12 ≠ 95 := zAllA hl 4
  have l5 : sn14 [ρ 11, ρ 2, ρ 7, ρ 6] (γ 4) 0 1 (γ 5) := hS14 _ _ _ _ _ (zAllA hl 5)
  show sn20 [ρ 0, ρ 1, ρ 2, ρ 3, ρ 4, ρ 5, ρ 6, ρ 7, ρ 8, ρ 9, ρ 10] (γ 0) 0 1 (γ 5)
  refine Eq.symm ?_
  show fn20 [ρ 0] (γ 0) = _
  unfold fn20
  refine zLV (ρ 0) rfl (zLE m1 (zLE (show fn7 [] (γ 0) = (0, 0, γ 1) from l0.symm) (zLV (γ 1) rfl (zLE m10 (zLE (show fn6 [ρ 11] (γ 1) = (0, ρ 12, γ 2) from l1.symm) (zLV (γ 2) rfl (zIP w_0 ?_)))))))
  refine zLV (ρ 12) rfl (zLE (show fn10 [ρ 12] (γ 2) = (0, 0, γ 3) from l2.symm) (zLV (γ 3) rfl (zIN zQ0_ (zLE (show fn9 [ρ 12] (γ 3) = (0, 0, γ 4) from l3.symm) (zLV (γ 4) rfl (zIN zQ0_ (zIN w_1 ?_)))))))
  refine zIP w_2 (zIP w_3 (zLE (show fn14 [] (γ 4) = (0, 1, γ 5) from l5.symm) (zLV (γ 5) rfl (zIP zQ1_ ?_))))
  rfl
theorem vn20_7 {S : Nat → zSpc} (hS6 : zIm S 6 sn6) (hS7 : zIm S 7 sn7) (hS8 : zIm S 8 sn8) (hS9 : zIm S 9 sn9) (hS10 : zIm S 10 sn10) (hS11 : zIm S 11 sn11) (hS12 : zIm S 12 sn12) (hS14 : zIm S 14 sn14) (hS15 : zIm S 15 sn15) (hS17 : zIm S 17 sn17) {a : List Int} {g : rHp} : ∀ (ρ : Nat → Int) (γ : Nat → rHp), zO 11 S a g q20_7 ρ γ → zGl (fun _ _ _ => True) (sn20 a g) q20_7 ρ γ := by
  intro ρ γ h
  obtain ⟨ha, hg, hr, hf, hm, hc, hl⟩ := h
  have ha : a = [ρ 0, ρ 1, ρ 2, ρ 3, ρ 4, ρ 5, ρ 6, ρ 7, ρ 8, ρ 9, ρ 10] := ha
  subst ha
  subst hg
  have r0 : (1 : Int) ≤ ρ 0 ∧ ρ 0 ≤ 1 := zRnA hr 0
  have r12 : ((-128) : Int) ≤ ρ 12 ∧ ρ 12 ≤ 127 := zRnA hr 12
  have f2 : (0 : Int) ≤ -ρ 11 + ρ 2 + (-1) := zAllA hf 2
  obtain ⟨w_0, w_1⟩ : (0 ≤ -ρ 11 + ρ 2 + (-1)) ∧ (¬ (ρ 0 = 0)) := ⟨by omega, by omega⟩
  have m1 : γ 0 15 0 34 = ρ 2 := zAllA hm 1
  have m10 : γ 1 15 0 35 = ρ 11 := zAllA hm 10
  have l0 : sn7 [ρ 1, ρ 2] (γ 0) 0 0 (γ 1) := hS7 _ _ _ _ _ (zAllA hl 0)
  have l1 : sn6 [ρ 11, ρ 2] (γ 1) 0 (ρ 12) (γ 2) := hS6 _ _ _ _ _ (zAllA hl 1)
  have l2 : sn10 [ρ 12] (γ 2) 0 0 (γ 3) := hS10 _ _ _ _ _ (zAllA hl 2)
  have l3 : sn9 [ρ 12] (γ 3) 0 0 (γ 4) := hS9 _ _ _ _ _ (zAllA hl 3)
  have l4 : ρ 12 ≠ 95 := zAllA hl 4
  have l5 : ρ 12 ≠ 45 := zAllA hl 5
  have l6 : sn11 [ρ 12] (γ 4) 0 0 (γ 5) := hS11 _ _ _ _ _ (zAllA hl 6)
  have l7 : sn8 [ρ 11, ρ 2, ρ 7] (γ 5) 0 0 (γ 6) := hS8 _ _ _ _ _ (zAllA hl 7)
  obtain ⟨wl_0, wl_1⟩ : (ρ 12 ≠ 95) ∧ (¬ (ρ 12 = 45)) := ⟨by omega, by omega⟩
  show sn20 [ρ 0, ρ 1, ρ 2, ρ 3, ρ 4, ρ 5, ρ 6, ρ 7, ρ 8, ρ 9, ρ 10] (γ 0) 0 0 (γ 6)
  refine Eq.symm ?_
  show fn20 [ρ 0] (γ 0) = _
  unfold fn20
  refine zLV (ρ 0) rfl (zLE m1 (zLE (show fn7 [] (γ 0) = (0, 0, γ 1) from l0.symm) (zLV (γ 1) rfl (zLE m10 (zLE (show fn6 [ρ 11] (γ 1) = (0, ρ 12, γ 2) from l1.symm) (zLV (γ 2) rfl (zIP w_0 ?_)))))))
  refine zLV (ρ 12) rfl (zLE (show fn10 [ρ 12] (γ 2) = (0, 0, γ 3) from l2.symm) (zLV (γ 3) rfl (zIN zQ0_ (zLE (show fn9 [ρ 12] (γ 3) = (0, 0, γ 4) from l3.symm) (zLV (γ 4) rfl (zIN zQ0_ (zIN w_1 ?_)))))))
  refine zIP wl_0 (zIN wl_1 (zLE (show fn11 [ρ 12] (γ 4) = (0, 0, γ 5) from l6.symm) (zLV (γ 5) rfl (zIN zQ0_ (zLE (show fn8 [ρ 11] (γ 5) = (0, 0, γ 6) from l7.symm) (zLV (γ 6) rfl ?_))))))
  rfl
theorem vn20_8 {S : Nat → zSpc} (hS6 : zIm S 6 sn6) (hS7 : zIm S 7 sn7) (hS8 : zIm S 8 sn8) (hS9 : zIm S 9 sn9) (hS10 : zIm S 10 sn10) (hS11 : zIm S 11 sn11) (hS12 : zIm S 12 sn12) (hS14 : zIm S 14 sn14) (hS15 : zIm S 15 sn15) (hS17 : zIm S 17 sn17) {a : List Int} {g : rHp} : ∀ (ρ : Nat → Int) (γ : Nat → rHp), zO 11 S a g q20_8 ρ γ → zGl (fun _ _ _ => True) (sn20 a g) q20_8 ρ γ := by
  intro ρ γ h
  obtain ⟨ha, hg, hr, hf, hm, hc, hl⟩ := h
  have ha : a = [ρ 0, ρ 1, ρ 2, ρ 3, ρ 4, ρ 5, ρ 6, ρ 7, ρ 8, ρ 9, ρ 10] := ha
  subst ha
  subst hg
  have r0 : (1 : Int) ≤ ρ 0 ∧ ρ 0 ≤ 1 := zRnA hr 0
  have r12 : (48 : Int) ≤ ρ 12 ∧ ρ 12 ≤ 57 := zRnA hr 12
  have f0 : (0 : Int) ≤ -ρ 11 + ρ 2 + (-1) := zAllA hf 0
  obtain ⟨w_0, w_1, w_2, w_3⟩ : (0 ≤ -ρ 11 + ρ 2 + (-1)) ∧ (¬ (ρ 0 = 0)) ∧ (ρ 12 ≠ 95) ∧ (¬ (ρ 12 = 45)) := ⟨by omega, by omega, by omega, by omega⟩
  have m1 : γ 0 15 0 34 = ρ 2 := zAllA hm 1
  have m10 : γ 1 15 0 35 = ρ 11 := zAllA hm 10
  have l0 : sn7 [ρ 1, ρ 2] (γ 0) 0 0 (γ 1) := hS7 _ _ _ _ _ (zAllA hl 0)
  have l1 : sn6 [ρ 11, ρ 2] (γ 1) 0 (ρ 12) (γ 2) := hS6 _ _ _ _ _ (zAllA hl 1)
  have l2 : sn10 [ρ 12] (γ 2) 0 0 (γ 3) := hS10 _ _ _ _ _ (zAllA hl 2)
  have l3 : sn9 [ρ 12] (γ 3) 0 0 (γ 4) := hS9 _ _ _ _ _ (zAllA hl 3)
  have l4 : ρ 12 ≠ 95 := zAllA hl 4
  have l5 : ρ 12 ≠ 45 := zAllA hl 5
  have l6 : sn11 [ρ 12] (γ 4) 0 1 (γ 5) := hS11 _ _ _ _ _ (zAllA hl 6)
  have l7 : sn14 [ρ 11, ρ 2, ρ 7, ρ 6] (γ 5) 0 0 (γ 6) := hS14 _ _ _ _ _ (zAllA hl 7)
  show sn20 [ρ 0, ρ 1, ρ 2, ρ 3, ρ 4, ρ 5, ρ 6, ρ 7, ρ 8, ρ 9, ρ 10] (γ 0) 0 0 (γ 6)
  refine Eq.symm ?_
  show fn20 [ρ 0] (γ 0) = _
  unfold fn20
  refine zLV (ρ 0) rfl (zLE m1 (zLE (show fn7 [] (γ 0) = (0, 0, γ 1) from l0.symm) (zLV (γ 1) rfl (zLE m10 (zLE (show fn6 [ρ 11] (γ 1) = (0, ρ 12, γ 2) from l1.symm) (zLV (γ 2) rfl (zIP w_0 ?_)))))))
  refine zLV (ρ 12) rfl (zLE (show fn10 [ρ 12] (γ 2) = (0, 0, γ 3) from l2.symm) (zLV (γ 3) rfl (zIN zQ0_ (zLE (show fn9 [ρ 12] (γ 3) = (0, 0, γ 4) from l3.symm) (zLV (γ 4) rfl (zIN zQ0_ (zIN w_1 ?_)))))))
  refine zIP w_2 (zIN w_3 (zLE (show fn11 [ρ 12] (γ 4) = (0, 1, γ 5) from l6.symm) (zLV (γ 5) rfl (zIP zQ1_ (zLE (show fn14 [] (γ 5) = (0, 0, γ 6) from l7.symm) (zLV (γ 6) rfl (zIN zQ0_ ?_)))))))
  rfl
theorem vn20_9 {S : Nat → zSpc} (hS6 : zIm S 6 sn6) (hS7 : zIm S 7 sn7) (hS8 : zIm S 8 sn8) (hS9 : zIm S 9 sn9) (hS10 : zIm S 10 sn10) (hS11 : zIm S 11 sn11) (hS12 : zIm S 12 sn12) (hS14 : zIm S 14 sn14) (hS15 : zIm S 15 sn15) (hS17 : zIm S 17 sn17) {a : List Int} {g : rHp} : ∀ (ρ : Nat → Int) (γ : Nat → rHp), zO 11 S a g q20_9 ρ γ → zGl (fun _ _ _ => True) (sn20 a g) q20_9 ρ γ := by
  intro ρ γ h
  obtain ⟨ha, hg, hr, hf, hm, hc, hl⟩ := h
  have ha : a = [ρ 0, ρ 1, ρ 2, ρ 3, ρ 4, ρ 5, ρ 6, ρ 7, ρ 8, ρ 9, ρ 10] := ha
  subst ha
  subst hg
  have r0 : (1 : Int) ≤ ρ 0 ∧ ρ 0 ≤ 1 := zRnA hr 0
  have r12 : (48 : Int) ≤ ρ 12 ∧ ρ 12 ≤ 57 := zRnA hr 12
  have f0 : (0 : Int) ≤ -ρ 11 + ρ 2 + (-1) := zAllA hf 0
  obtain ⟨w_0, w_1, w_2, w_3⟩ : (0 ≤ -ρ 11 + ρ 2 + (-1)) ∧ (¬ (ρ 0 = 0)) ∧ (ρ 12 ≠ 95) ∧ (¬ (ρ 12 = 45)) := ⟨by omega, by omega, by omega, by omega⟩
  have m1 : γ 0 15 0 34 = ρ 2 := zAllA hm 1
  have m10 : γ 1 15 0 35 = ρ 11 := zAllA hm 10
  have l0 : sn7 [ρ 1, ρ 2] (γ 0) 0 0 (γ 1) := hS7 _ _ _ _ _ (zAllA hl 0)
  have l1 : sn6 [ρ 11, ρ 2] (γ 1) 0 (ρ 12) (γ 2) := hS6 _ _ _ _ _ (zAllA hl 1)
  have l2 : sn10 [ρ 12] (γ 2) 0 0 (γ 3) := hS10 _ _ _ _ _ (zAllA hl 2)
  have l3 : sn9 [ρ 12] (γ 3) 0 0 (γ 4) := hS9 _ _ _ _ _ (zAllA hl 3)
  have l4 : ρ 12 ≠ 95 := zAllA hl 4
  have l5 : ρ 12 ≠ 45 := zAllA hl 5
  have l6 : sn11 [ρ 12] (γ 4) 0 1 (γ 5) := hS11 _ _ _ _ _ (zAllA hl 6)
  have l7 : sn14 [ρ 11, ρ 2, ρ 7, ρ 6] (γ 5) 0 1 (γ 6) := hS14 _ _ _ _ _ (zAllA hl 7)
  show sn20 [ρ 0, ρ 1, ρ 2, ρ 3, ρ 4, ρ 5, ρ 6, ρ 7, ρ 8, ρ 9, ρ 10] (γ 0) 0 1 (γ 6)
  refine Eq.symm ?_
  show fn20 [ρ 0] (γ 0) = _
  unfold fn20
  refine zLV (ρ 0) rfl (zLE m1 (zLE (show fn7 [] (γ 0) = (0, 0, γ 1) from l0.symm) (zLV (γ 1) rfl (zLE m10 (zLE (show fn6 [ρ 11] (γ 1) = (0, ρ 12, γ 2) from l1.symm) (zLV (γ 2) rfl (zIP w_0 ?_)))))))
  refine zLV (ρ 12) rfl (zLE (show fn10 [ρ 12] (γ 2) = (0, 0, γ 3) from l2.symm) (zLV (γ 3) rfl (zIN zQ0_ (zLE (show fn9 [ρ 12] (γ 3) = (0, 0, γ 4) from l3.symm) (zLV (γ 4) rfl (zIN zQ0_ (zIN w_1 ?_)))))))
  refine zIP w_2 (zIN w_3 (zLE (show fn11 [ρ 12] (γ 4) = (0, 1, γ 5) from l6.symm) (zLV (γ 5) rfl (zIP zQ1_ (zLE (show fn14 [] (γ 5) = (0, 1, γ 6) from l7.symm) (zLV (γ 6) rfl (zIP zQ1_ ?_)))))))
  rfl
theorem vn20_10 {S : Nat → zSpc} (hS6 : zIm S 6 sn6) (hS7 : zIm S 7 sn7) (hS8 : zIm S 8 sn8) (hS9 : zIm S 9 sn9) (hS10 : zIm S 10 sn10) (hS11 : zIm S 11 sn11) (hS12 : zIm S 12 sn12) (hS14 : zIm S 14 sn14) (hS15 : zIm S 15 sn15) (hS17 : zIm S 17 sn17) {a : List Int} {g : rHp} : ∀ (ρ : Nat → Int) (γ : Nat → rHp), zO 11 S a g q20_10 ρ γ → zGl (fun _ _ _ => True) (sn20 a g) q20_10 ρ γ := by
  intro ρ γ h
  obtain ⟨ha, hg, hr, hf, hm, hc, hl⟩ := h
  have ha : a = [ρ 0, ρ 1, ρ 2, ρ 3, ρ 4, ρ 5, ρ 6, ρ 7, ρ 8, ρ 9, ρ 10] := ha
  subst ha
  subst hg
  have r0 : (1 : Int) ≤ ρ 0 ∧ ρ 0 ≤ 1 := zRnA hr 0
  have r12 : (95 : Int) ≤ ρ 12 ∧ ρ 12 ≤ 95 := zRnA hr 12
  have f0 : (0 : Int) ≤ -ρ 11 + ρ 2 + (-1) := zAllA hf 0
  obtain ⟨w_0, w_1, w_2⟩ : (0 ≤ -ρ 11 + ρ 2 + (-1)) ∧ (¬ (ρ 0 = 0)) ∧ (¬ (ρ 12 ≠ 95)) := ⟨by omega, by omega, by omega⟩
  have m1 : γ 0 15 0 34 = ρ 2 := zAllA hm 1
  have m10 : γ 1 15 0 35 = ρ 11 := zAllA hm 10
  have c5 : γ 5 = rUp (γ 4) 15 0 35 (ρ 11 + 1) := And.right (zChA hc 2)
  have c6 : γ 6 = rUp (γ 5) 15 0 40 2 := And.right (zChA hc 1)
  have c7 : γ 7 = rUp (γ 6) 15 0 39 0 := And.right (zChA hc 0)
  have l0 : sn7 [ρ 1, ρ 2] (γ 0) 0 0 (γ 1) := hS7 _ _ _ _ _ (zAllA hl 0)
  have l1 : sn6 [ρ 11, ρ 2] (γ 1) 0 (ρ 12) (γ 2) := hS6 _ _ _ _ _ (zAllA hl 1)
  have l2 : sn10 [ρ 12] (γ 2) 0 0 (γ 3) := hS10 _ _ _ _ _ (zAllA hl 2)
  have l3 : sn9 [ρ 12] (γ 3) 0 0 (γ 4) := hS9 _ _ _ _ _ (zAllA hl 3)
  show sn20 [ρ 0, ρ 1, ρ 2, ρ 3, ρ 4, ρ 5, ρ 6, ρ 7, ρ 8, ρ 9, ρ 10] (γ 0) 0 1 (γ 7)
  refine Eq.symm ?_
  show fn20 [ρ 0] (γ 0) = _
  unfold fn20
  refine zLV (ρ 0) rfl (zLE m1 (zLE (show fn7 [] (γ 0) = (0, 0, γ 1) from l0.symm) (zLV (γ 1) rfl (zLE m10 (zLE (show fn6 [ρ 11] (γ 1) = (0, ρ 12, γ 2) from l1.symm) (zLV (γ 2) rfl (zIP w_0 ?_)))))))
  refine zLV (ρ 12) rfl (zLE (show fn10 [ρ 12] (γ 2) = (0, 0, γ 3) from l2.symm) (zLV (γ 3) rfl (zIN zQ0_ (zLE (show fn9 [ρ 12] (γ 3) = (0, 0, γ 4) from l3.symm) (zLV (γ 4) rfl (zIN zQ0_ (zIN w_1 ?_)))))))
  refine zIN w_2 (zLE c5.symm (zLE c6.symm (zLE c7.symm ?_)))
  rfl
theorem vn20_11 {S : Nat → zSpc} (hS6 : zIm S 6 sn6) (hS7 : zIm S 7 sn7) (hS8 : zIm S 8 sn8) (hS9 : zIm S 9 sn9) (hS10 : zIm S 10 sn10) (hS11 : zIm S 11 sn11) (hS12 : zIm S 12 sn12) (hS14 : zIm S 14 sn14) (hS15 : zIm S 15 sn15) (hS17 : zIm S 17 sn17) {a : List Int} {g : rHp} : ∀ (ρ : Nat → Int) (γ : Nat → rHp), zO 11 S a g q20_11 ρ γ → zGl (fun _ _ _ => True) (sn20 a g) q20_11 ρ γ := by
  intro ρ γ h
  obtain ⟨ha, hg, hr, hf, hm, hc, hl⟩ := h
  have ha : a = [ρ 0, ρ 1, ρ 2, ρ 3, ρ 4, ρ 5, ρ 6, ρ 7, ρ 8, ρ 9, ρ 10] := ha
  subst ha
  subst hg
  have f0 : (0 : Int) ≤ -ρ 11 + ρ 2 + (-1) := zAllA hf 0
  have w_0 : 0 ≤ -ρ 11 + ρ 2 + (-1) := by omega
  have m1 : γ 0 15 0 34 = ρ 2 := zAllA hm 1
  have m10 : γ 1 15 0 35 = ρ 11 := zAllA hm 10
  have l0 : sn7 [ρ 1, ρ 2] (γ 0) 0 0 (γ 1) := hS7 _ _ _ _ _ (zAllA hl 0)
  have l1 : sn6 [ρ 11, ρ 2] (γ 1) 0 (ρ 12) (γ 2) := hS6 _ _ _ _ _ (zAllA hl 1)
  have l2 : sn10 [ρ 12] (γ 2) 0 0 (γ 3) := hS10 _ _ _ _ _ (zAllA hl 2)
  have l3 : sn9 [ρ 12] (γ 3) 0 1 (γ 4) := hS9 _ _ _ _ _ (zAllA hl 3)
  have l4 : sn12 [ρ 11, ρ 2, ρ 8, ρ 7, ρ 9] (γ 4) 0 0 (γ 5) := hS12 _ _ _ _ _ (zAllA hl 4)
  show sn20 [ρ 0, ρ 1, ρ 2, ρ 3, ρ 4, ρ 5, ρ 6, ρ 7, ρ 8, ρ 9, ρ 10] (γ 0) 0 0 (γ 5)
  refine Eq.symm ?_
  show fn20 [ρ 0] (γ 0) = _
  unfold fn20
  refine zLV (ρ 0) rfl (zLE m1 (zLE (show fn7 [] (γ 0) = (0, 0, γ 1) from l0.symm) (zLV (γ 1) rfl (zLE m10 (zLE (show fn6 [ρ 11] (γ 1) = (0, ρ 12, γ 2) from l1.symm) (zLV (γ 2) rfl (zIP w_0 ?_)))))))
  refine zLV (ρ 12) rfl (zLE (show fn10 [ρ 12] (γ 2) = (0, 0, γ 3) from l2.symm) (zLV (γ 3) rfl (zIN zQ0_ (zLE (show fn9 [ρ 12] (γ 3) = (0, 1, γ 4) from l3.symm) (zLV (γ 4) rfl (zIP zQ1_ (zLE (show fn12 [] (γ 4) = (0, 0, γ 5) from l4.symm) ?_)))))))
  refine zLV (γ 5) rfl (zIN zQ0_ ?_)
  rfl
theorem vn20_12 {S : Nat → zSpc} (hS6 : zIm S 6 sn6) (hS7 : zIm S 7 sn7) (hS8 : zIm S 8 sn8) (hS9 : zIm S 9 sn9) (hS10 : zIm S 10 sn10) (hS11 : zIm S 11 sn11) (hS12 : zIm S 12 sn12) (hS14 : zIm S 14 sn14) (hS15 : zIm S 15 sn15) (hS17 : zIm S 17 sn17) {a : List Int} {g : rHp} : ∀ (ρ : Nat → Int) (γ : Nat → rHp), zO 11 S a g q20_12 ρ γ → zGl (fun _ _ _ => True) (sn20 a g) q20_12 ρ γ := by
  intro ρ γ h
  obtain ⟨ha, hg, hr, hf, hm, hc, hl⟩ := h
  have ha : a = [ρ 0, ρ 1, ρ 2, ρ 3, ρ 4, ρ 5, ρ 6, ρ 7, ρ 8, ρ 9, ρ 10] := ha
  subst ha
  subst hg
  have f7 : (0 : Int) ≤ -ρ 11 + ρ 2 + (-1) := zAllA hf 7
  have w_0 : 0 ≤ -ρ 11 + ρ 2 + (-1) := by omega
  have m1 : γ 0 15 0 34 = ρ 2 := zAllA hm 1
  have m10 : γ 1 15 0 35 = ρ 11 := zAllA hm 10
  have c7 : γ 7 = rUp (γ 6) 15 0 39 (ρ 15) := And.right (zChA hc 1)
  have c8 : γ 8 = rUp (γ 7) 15 0 40 0 := And.right (zChA hc 0)
  have l0 : sn7 [ρ 1, ρ 2] (γ 0) 0 0 (γ 1) := hS7 _ _ _ _ _ (zAllA hl 0)
  have l1 : sn6 [ρ 11, ρ 2] (γ 1) 0 (ρ 12) (γ 2) := hS6 _ _ _ _ _ (zAllA hl 1)
  have l2 : sn10 [ρ 12] (γ 2) 0 0 (γ 3) := hS10 _ _ _ _ _ (zAllA hl 2)
  have l3 : sn9 [ρ 12] (γ 3) 0 1 (γ 4) := hS9 _ _ _ _ _ (zAllA hl 3)
  have l4 : sn12 [ρ 11, ρ 2, ρ 8, ρ 7, ρ 9] (γ 4) 0 1 (γ 5) := hS12 _ _ _ _ _ (zAllA hl 4)
  have l5 : sn15 [ρ 2, ρ 3, ρ 4, ρ 11, ρ 14] (γ 5) 0 (ρ 15) (γ 6) := hS15 _ _ _ _ _ (zAllA hl 5)
  show sn20 [ρ 0, ρ 1, ρ 2, ρ 3, ρ 4, ρ 5, ρ 6, ρ 7, ρ 8, ρ 9, ρ 10] (γ 0) 0 1 (γ 8)
  refine Eq.symm ?_
  show fn20 [ρ 0] (γ 0) = _
  unfold fn20
  refine zLV (ρ 0) rfl (zLE m1 (zLE (show fn7 [] (γ 0) = (0, 0, γ 1) from l0.symm) (zLV (γ 1) rfl (zLE m10 (zLE (show fn6 [ρ 11] (γ 1) = (0, ρ 12, γ 2) from l1.symm) (zLV (γ 2) rfl (zIP w_0 ?_)))))))
  refine zLV (ρ 12) rfl (zLE (show fn10 [ρ 12] (γ 2) = (0, 0, γ 3) from l2.symm) (zLV (γ 3) rfl (zIN zQ0_ (zLE (show fn9 [ρ 12] (γ 3) = (0, 1, γ 4) from l3.symm) (zLV (γ 4) rfl (zIP zQ1_ (zLE (show fn12 [] (γ 4) = (0, 1, γ 5) from l4.symm) ?_)))))))
  refine zLV (γ 5) rfl (zIP zQ1_ (zLE (show fn15 [] (γ 5) = (0, ρ 15, γ 6) from l5.symm) (zLV (γ 6) rfl (zLV (ρ 15) rfl (zLE c7.symm (zLE c8.symm ?_))))))
  rfl
theorem vn20_13 {S : Nat → zSpc} (hS6 : zIm S 6 sn6) (hS7 : zIm S 7 sn7) (hS8 : zIm S 8 sn8) (hS9 : zIm S 9 sn9) (hS10 : zIm S 10 sn10) (hS11 : zIm S 11 sn11) (hS12 : zIm S 12 sn12) (hS14 : zIm S 14 sn14) (hS15 : zIm S 15 sn15) (hS17 : zIm S 17 sn17) {a : List Int} {g : rHp} : ∀ (ρ : Nat → Int) (γ : Nat → rHp), zO 11 S a g q20_13 ρ γ → zGl (fun _ _ _ => True) (sn20 a g) q20_13 ρ γ := by
  intro ρ γ h
  obtain ⟨ha, hg, hr, hf, hm, hc, hl⟩ := h
  have ha : a = [ρ 0, ρ 1, ρ 2, ρ 3, ρ 4, ρ 5, ρ 6, ρ 7, ρ 8, ρ 9, ρ 10] := ha
  subst ha
  subst hg
  have f0 : (0 : Int) ≤ -ρ 11 + ρ 2 + (-1) := zAllA hf 0
  have w_0 : 0 ≤ -ρ 11 + ρ 2 + (-1) := by omega
  have m1 : γ 0 15 0 34 = ρ 2 := zAllA hm 1
  have m10 : γ 1 15 0 35 = ρ 11 := zAllA hm 10
  have l0 : sn7 [ρ 1, ρ 2] (γ 0) 0 0 (γ 1) := hS7 _ _ _ _ _ (zAllA hl 0)
  have l1 : sn6 [ρ 11, ρ 2] (γ 1) 0 (ρ 12) (γ 2) := hS6 _ _ _ _ _ (zAllA hl 1)
  have l2 : sn10 [ρ 12] (γ 2) 0 1 (γ 3) := hS10 _ _ _ _ _ (zAllA hl 2)
  have l3 : sn17 [ρ 11, ρ 2, ρ 5, ρ 6, ρ 7, ρ 8, ρ 9, ρ 10, ρ 13] (γ 3) 0 0 (γ 4) := hS17 _ _ _ _ _ (zAllA hl 3)
  show sn20 [ρ 0, ρ 1, ρ 2, ρ 3, ρ 4, ρ 5, ρ 6, ρ 7, ρ 8, ρ 9, ρ 10] (γ 0) 0 0 (γ 4)
  refine Eq.symm ?_
  show fn20 [ρ 0] (γ 0) = _
  unfold fn20
  refine zLV (ρ 0) rfl (zLE m1 (zLE (show fn7 [] (γ 0) = (0, 0, γ 1) from l0.symm) (zLV (γ 1) rfl (zLE m10 (zLE (show fn6 [ρ 11] (γ 1) = (0, ρ 12, γ 2) from l1.symm) (zLV (γ 2) rfl (zIP w_0 ?_)))))))
  refine zLV (ρ 12) rfl (zLE (show fn10 [ρ 12] (γ 2) = (0, 1, γ 3) from l2.symm) (zLV (γ 3) rfl (zIP zQ1_ (zLE (show fn17 [] (γ 3) = (0, 0, γ 4) from l3.symm) (zLV (γ 4) rfl (zIN zQ0_ ?_))))))
  rfl
theorem vn20_14 {S : Nat → zSpc} (hS6 : zIm S 6 sn6) (hS7 : zIm S 7 sn7) (hS8 : zIm S 8 sn8) (hS9 : zIm S 9 sn9) (hS10 : zIm S 10 sn10) (hS11 : zIm S 11 sn11) (hS12 : zIm S 12 sn12) (hS14 : zIm S 14 sn14) (hS15 : zIm S 15 sn15) (hS17 : zIm S 17 sn17) {a : List Int} {g : rHp} : ∀ (ρ : Nat → Int) (γ : Nat → rHp), zO 11 S a g q20_14 ρ γ → zGl (fun _ _ _ => True) (sn20 a g) q20_14 ρ γ := by
  intro ρ γ h
  obtain ⟨ha, hg, hr, hf, hm, hc, hl⟩ := h
  have ha : a = [ρ 0, ρ 1, ρ 2, ρ 3, ρ 4, ρ 5, ρ 6, ρ 7, ρ 8, ρ 9, ρ 10] := ha
  subst ha
  subst hg
  have f0 : (0 : Int) ≤ -ρ 11 + ρ 2 + (-1) := zAllA hf 0
  have w_0 : 0 ≤ -ρ 11 + ρ 2 + (-1) := by omega
  have m1 : γ 0 15 0 34 = ρ 2 := zAllA hm 1
  have m10 : γ 1 15 0 35 = ρ 11 := zAllA hm 10
  have l0 : sn7 [ρ 1, ρ 2] (γ 0) 0 0 (γ 1) := hS7 _ _ _ _ _ (zAllA hl 0)
  have l1 : sn6 [ρ 11, ρ 2] (γ 1) 0 (ρ 12) (γ 2) := hS6 _ _ _ _ _ (zAllA hl 1)
  have l2 : sn10 [ρ 12] (γ 2) 0 1 (γ 3) := hS10 _ _ _ _ _ (zAllA hl 2)
  have l3 : sn17 [ρ 11, ρ 2, ρ 5, ρ 6, ρ 7, ρ 8, ρ 9, ρ 10, ρ 13] (γ 3) 0 1 (γ 4) := hS17 _ _ _ _ _ (zAllA hl 3)
  show sn20 [ρ 0, ρ 1, ρ 2, ρ 3, ρ 4, ρ 5, ρ 6, ρ 7, ρ 8, ρ 9, ρ 10] (γ 0) 0 1 (γ 4)
  refine Eq.symm ?_
  show fn20 [ρ 0] (γ 0) = _
  unfold fn20
  refine zLV (ρ 0) rfl (zLE m1 (zLE (show fn7 [] (γ 0) = (0, 0, γ 1) from l0.symm) (zLV (γ 1) rfl (zLE m10 (zLE (show fn6 [ρ 11] (γ 1) = (0, ρ 12, γ 2) from l1.symm) (zLV (γ 2) rfl (zIP w_0 ?_)))))))
  refine zLV (ρ 12) rfl (zLE (show fn10 [ρ 12] (γ 2) = (0, 1, γ 3) from l2.symm) (zLV (γ 3) rfl (zIP zQ1_ (zLE (show fn17 [] (γ 3) = (0, 1, γ 4) from l3.symm) (zLV (γ 4) rfl (zIP zQ1_ ?_))))))
  rfl
theorem vn20_15 {S : Nat → zSpc} (hS6 : zIm S 6 sn6) (hS7 : zIm S 7 sn7) (hS8 : zIm S 8 sn8) (hS9 : zIm S 9 sn9) (hS10 : zIm S 10 sn10) (hS11 : zIm S 11 sn11) (hS12 : zIm S 12 sn12) (hS14 : zIm S 14 sn14) (hS15 : zIm S 15 sn15) (hS17 : zIm S 17 sn17) {a : List Int} {g : rHp} : ∀ (ρ : Nat → Int) (γ : Nat → rHp), zO 11 S a g q20_15 ρ γ → zGl (fun _ _ _ => True) (sn20 a g) q20_15 ρ γ := by
  intro ρ γ h
  obtain ⟨ha, hg, hr, hf, hm, hc, hl⟩ := h
  have ha : a = [ρ 0, ρ 1, ρ 2, ρ 3, ρ 4, ρ 5, ρ 6, ρ 7, ρ 8, ρ 9, ρ 10] := ha
  subst ha
  subst hg
  have f2 : (0 : Int) ≤ ρ 11 + -ρ 2 := zAllA hf 2
  have w_0 : ¬ (0 ≤ -ρ 11 + ρ 2 + (-1)) := by omega
  have m1 : γ 0 15 0 34 = ρ 2 := zAllA hm 1
  have m10 : γ 1 15 0 35 = ρ 11 := zAllA hm 10
  have l0 : sn7 [ρ 1, ρ 2] (γ 0) 0 0 (γ 1) := hS7 _ _ _ _ _ (zAllA hl 0)
  have l1 : sn6 [ρ 11, ρ 2] (γ 1) 0 (-1) (γ 2) := hS6 _ _ _ _ _ (zAllA hl 1)
  have l2 : sn10 [(-1)] (γ 2) 0 0 (γ 3) := hS10 _ _ _ _ _ (zAllA hl 2)
  have l3 : sn9 [(-1)] (γ 3) 0 0 (γ 4) := hS9 _ _ _ _ _ (zAllA hl 3)
  have l4 : sn11 [(-1)] (γ 4) 0 0 (γ 5) := hS11 _ _ _ _ _ (zAllA hl 4)
  have l5 : sn8 [ρ 11, ρ 2, ρ 7] (γ 5) 0 0 (γ 6) := hS8 _ _ _ _ _ (zAllA hl 5)
  show sn20 [ρ 0, ρ 1, ρ 2, ρ 3, ρ 4, ρ 5, ρ 6, ρ 7, ρ 8, ρ 9, ρ 10] (γ 0) 0 0 (γ 6)
  refine Eq.symm ?_
  show fn20 [ρ 0] (γ 0) = _
  unfold fn20
  refine zLV (ρ 0) rfl (zLE m1 (zLE (show fn7 [] (γ 0) = (0, 0, γ 1) from l0.symm) (zLV (γ 1) rfl (zLE m10 (zLE (show fn6 [ρ 11] (γ 1) = (0, (-1), γ 2) from l1.symm) (zLV (γ 2) rfl (zIN w_0 ?_)))))))
  refine zLE (show fn10 [(-1)] (γ 2) = (0, 0, γ 3) from l2.symm) (zLV (γ 3) rfl (zLE (show fn9 [(-1)] (γ 3) = (0, 0, γ 4) from l3.symm) (zLV (γ 4) rfl (zLE (show fn11 [(-1)] (γ 4) = (0, 0, γ 5) from l4.symm) (zLV (γ 5) rfl (zLE (show fn8 [ρ 11] (γ 5) = (0, 0, γ 6) from l5.symm) (zLV (γ 6) rfl ?_)))))))
  rfl
theorem vn20_16 {S : Nat → zSpc} (hS6 : zIm S 6 sn6) (hS7 : zIm S 7 sn7) (hS8 : zIm S 8 sn8) (hS9 : zIm S 9 sn9) (hS10 : zIm S 10 sn10) (hS11 : zIm S 11 sn11) (hS12 : zIm S 12 sn12) (hS14 : zIm S 14 sn14) (hS15 : zIm S 15 sn15) (hS17 : zIm S 17 sn17) {a : List Int} {g : rHp} : ∀ (ρ : Nat → Int) (γ : Nat → rHp), zO 11 S a g q20_16 ρ γ → zGl (fun _ _ _ => True) (sn20 a g) q20_16 ρ γ := by
  intro ρ γ h
  obtain ⟨ha, hg, hr, hf, hm, hc, hl⟩ := h
  have ha : a = [ρ 0, ρ 1, ρ 2, ρ 3, ρ 4, ρ 5, ρ 6, ρ 7, ρ 8, ρ 9, ρ 10] := ha
  subst ha
  subst hg
  have f2 : (0 : Int) ≤ ρ 11 + -ρ 2 := zAllA hf 2
  have w_0 : ¬ (0 ≤ -ρ 11 + ρ 2 + (-1)) := by omega
  have m1 : γ 0 15 0 34 = ρ 2 := zAllA hm 1
  have m10 : γ 1 15 0 35 = ρ 11 := zAllA hm 10
  have l0 : sn7 [ρ 1, ρ 2] (γ 0) 0 0 (γ 1) := hS7 _ _ _ _ _ (zAllA hl 0)
  have l1 : sn6 [ρ 11, ρ 2] (γ 1) 0 (-1) (γ 2) := hS6 _ _ _ _ _ (zAllA hl 1)
  have l2 : sn10 [(-1)] (γ 2) 0 0 (γ 3) := hS10 _ _ _ _ _ (zAllA hl 2)
  have l3 : sn9 [(-1)] (γ 3) 0 0 (γ 4) := hS9 _ _ _ _ _ (zAllA hl 3)
  have l4 : sn11 [(-1)] (γ 4) 0 0 (γ 5) := hS11 _ _ _ _ _ (zAllA hl 4)
  have l5 : sn8 [ρ 11, ρ 2, ρ 7] (γ 5) 0 0 (γ 6) := hS8 _ _ _ _ _ (zAllA hl 5)
  show sn20 [ρ 0, ρ 1, ρ 2, ρ 3, ρ 4, ρ 5, ρ 6, ρ 7, ρ 8, ρ 9, ρ 10] (γ 0) 0 0 (γ 6)
  refine Eq.symm ?_
  show fn20 [ρ 0] (γ 0) = _
  unfold fn20
  refine zLV (ρ 0) rfl (zLE m1 (zLE (show fn7 [] (γ 0) = (0, 0, γ 1) from l0.symm) (zLV (γ 1) rfl (zLE m10 (zLE (show fn6 [ρ 11] (γ 1) = (0, (-1), γ 2) from l1.symm) (zLV (γ 2) rfl (zIN w_0 ?_)))))))
  refine zLE (show fn10 [(-1)] (γ 2) = (0, 0, γ 3) from l2.symm) (zLV (γ 3) rfl (zLE (show fn9 [(-1)] (γ 3) = (0, 0, γ 4) from l3.symm) (zLV (γ 4) rfl (zLE (show fn11 [(-1)] (γ 4) = (0, 0, γ 5) from l4.symm) (zLV (γ 5) rfl (zLE (show fn8 [ρ 11] (γ 5) = (0, 0, γ 6) from l5.symm) (zLV (γ 6) rfl ?_)))))))
  rfl
theorem yn20 {S : Nat → zSpc} (hS6 : zIm S 6 sn6) (hS7 : zIm S 7 sn7) (hS8 : zIm S 8 sn8) (hS9 : zIm S 9 sn9) (hS10 : zIm S 10 sn10) (hS11 : zIm S 11 sn11) (hS12 : zIm S 12 sn12) (hS14 : zIm S 14 sn14) (hS15 : zIm S 15 sn15) (hS17 : zIm S 17 sn17) : ∀ x g o v gz, zSem uW uT w20_.2.2.2.1 w20_.2.2.1.1.length S q20 (fun i => q20a.getD i []) (zNA a20_) x g o v gz → sn20 x g o v gz := by
  intro a g o v gz h
  exact zSem_all (l0 := q20) (las := q20a) (S := S) (J := (fun _ _ _ => True)) (P := sn20 a g) (fun _ => (show zAll _ [q20_0, q20_1, q20_2, q20_3, q20_4, q20_5, q20_6, q20_7, q20_8, q20_9, q20_10, q20_11, q20_12, q20_13, q20_14, q20_15, q20_16] from (zAll_c (vn20_0 hS6 hS7 hS8 hS9 hS10 hS11 hS12 hS14 hS15 hS17) (zAll_c (vn20_1 hS6 hS7 hS8 hS9 hS10 hS11 hS12 hS14 hS15 hS17) (zAll_c (vn20_2 hS6 hS7 hS8 hS9 hS10 hS11 hS12 hS14 hS15 hS17) (zAll_c (vn20_3 hS6 hS7 hS8 hS9 hS10 hS11 hS12 hS14 hS15 hS17) (zAll_c (vn20_4 hS6 hS7 hS8 hS9 hS10 hS11 hS12 hS14 hS15 hS17) (zAll_c (vn20_5 hS6 hS7 hS8 hS9 hS10 hS11 hS12 hS14 hS15 hS17) (zAll_c (vn20_6 hS6 hS7 hS8 hS9 hS10 hS11 hS12 hS14 hS15 hS17) (zAll_c (vn20_7 hS6 hS7 hS8 hS9 hS10 hS11 hS12 hS14 hS15 hS17) (zAll_c (vn20_8 hS6 hS7 hS8 hS9 hS10 hS11 hS12 hS14 hS15 hS17) (zAll_c (vn20_9 hS6 hS7 hS8 hS9 hS10 hS11 hS12 hS14 hS15 hS17) (zAll_c (vn20_10 hS6 hS7 hS8 hS9 hS10 hS11 hS12 hS14 hS15 hS17) (zAll_c (vn20_11 hS6 hS7 hS8 hS9 hS10 hS11 hS12 hS14 hS15 hS17) (zAll_c (vn20_12 hS6 hS7 hS8 hS9 hS10 hS11 hS12 hS14 hS15 hS17) (zAll_c (vn20_13 hS6 hS7 hS8 hS9 hS10 hS11 hS12 hS14 hS15 hS17) (zAll_c (vn20_14 hS6 hS7 hS8 hS9 hS10 hS11 hS12 hS14 hS15 hS17) (zAll_c (vn20_15 hS6 hS7 hS8 hS9 hS10 hS11 hS12 hS14 hS15 hS17) (zAll_c (vn20_16 hS6 hS7 hS8 hS9 hS10 hS11 hS12 hS14 hS15 hS17) zAll_n))))))))))))))))))) (fun _ => (show zAllI _ 0 [] from trivial)) h
theorem vn21_0 {S : Nat → zSpc}  {a : List Int} {g : rHp} : ∀ (ρ : Nat → Int) (γ : Nat → rHp), zO 4 S a g q21_0 ρ γ → zGl (fun i vs g1 => jn21 a g i vs g1) (sn21 a g) q21_0 ρ γ := by
  intro ρ γ h
  obtain ⟨ha, hg, hr, hf, hm, hc, hl⟩ := h
  have ha : a = [ρ 0, ρ 1, ρ 2, ρ 3] := ha
  subst ha
  subst hg
  show jn21 [ρ 0, ρ 1, ρ 2, ρ 3] (γ 0) 0 [ρ 0, ρ 1, ρ 2, ρ 3, 0] (γ 0)
  have hD : dn21 [ρ 0, ρ 1, ρ 2] (γ 0) = .inl (0, [ρ 0, ρ 1, ρ 2, 0], γ 0) := by
    unfold dn21
    refine zLV (ρ 0) rfl (zLV (ρ 1) rfl (zLV (ρ 2) rfl ?_))
    rfl
  exact zGoo_to hD
theorem vn21a0_0 {S : Nat → zSpc}  {a : List Int} {g : rHp} : ∀ (ρ : Nat → Int) (γ : Nat → rHp), jn21 a g 0 (zAg (zNA a21_ 0) ρ) (γ 1) → zO 4 S a g q21a0_0 ρ γ → zGl (fun i vs g1 => jn21 a g i vs g1) (sn21 a g) q21a0_0 ρ γ := by
  intro ρ γ hJ h
  obtain ⟨ha, hg, hr, hf, hm, hc, hl⟩ := h
  have ha : a = [ρ 0, ρ 1, ρ 2, ρ 3] := ha
  subst ha
  subst hg
  have hJ : jn21 [ρ 0, ρ 1, ρ 2, ρ 3] (γ 0) 0 [ρ 0, ρ 1, ρ 2, ρ 3, ρ 4] (γ 1) := hJ
  have f0 : (0 : Int) ≤ ρ 4 + -ρ 3 := zAllA hf 0
  have w_0 : ρ 4 ≥ ρ 3 := by omega
  have m0 : γ 0 15 0 14 = ρ 3 := zAllA hm 0
  show sn21 [ρ 0, ρ 1, ρ 2, ρ 3] (γ 0) 0 (-1) (γ 1)
  have hD : en21 (γ 0) (0, [ρ 0, ρ 1, ρ 2, ρ 4], γ 1) = .inr (0, (-1), γ 1) := by
    unfold en21
    refine zIP (show (0 : Nat) = 0 by decide) (zLV (γ 1) rfl (zLV (ρ 0) rfl (zLV (ρ 1) rfl (zLV (ρ 2) rfl (zLV (ρ 4) rfl (zLE m0 (zIP w_0 ?_)))))))
    rfl
  exact zGoo_aend hJ hD
theorem vn21a0_1 {S : Nat → zSpc}  {a : List Int} {g : rHp} : ∀ (ρ : Nat → Int) (γ : Nat → rHp), jn21 a g 0 (zAg (zNA a21_ 0) ρ) (γ 1) → zO 4 S a g q21a0_1 ρ γ → zGl (fun i vs g1 => jn21 a g i vs g1) (sn21 a g) q21a0_1 ρ γ := by
  intro ρ γ hJ h
  obtain ⟨ha, hg, hr, hf, hm, hc, hl⟩ := h
  have ha : a = [ρ 0, ρ 1, ρ 2, ρ 3] := ha
  subst ha
  subst hg
  have hJ : jn21 [ρ 0, ρ 1, ρ 2, ρ 3] (γ 0) 0 [ρ 0, ρ 1, ρ 2, ρ 3, ρ 4] (γ 1) := hJ
  have r2 : (0 : Int) ≤ ρ 2 ∧ ρ 2 ≤ 4 := zRnA hr 2
  have r5 : (0 : Int) ≤ ρ 5 ∧ ρ 5 ≤ 4 := zRnA hr 5
  have f0 : (0 : Int) ≤ -ρ 4 + ρ 3 + (-1) := zAllA hf 0
  have w_0 : ¬ (ρ 4 ≥ ρ 3) := by omega
  have m0 : γ 0 15 0 14 = ρ 3 := zAllA hm 0
  have m1 : γ 0 66 0 (ρ 4) = ρ 5 := zAllA hm 1
  have l0 : ρ 5 ≠ ρ 2 := zAllA hl 0
  have wl_0 : ρ 5 ≠ ρ 2 := by omega
  show jn21 [ρ 0, ρ 1, ρ 2, ρ 3] (γ 0) 1 [ρ 0, ρ 1, ρ 2, ρ 3, 0, 0, ρ 4] (γ 1)
  have hD : en21 (γ 0) (0, [ρ 0, ρ 1, ρ 2, ρ 4], γ 1) = .inl (1, [ρ 0, ρ 1, ρ 2, 0, 0, ρ 4], γ 1) := by
    unfold en21
    refine zIP (show (0 : Nat) = 0 by decide) (zLV (γ 1) rfl (zLV (ρ 0) rfl (zLV (ρ 1) rfl (zLV (ρ 2) rfl (zLV (ρ 4) rfl (zLE m0 (zIN w_0 ?_)))))))
    refine zLE m1 (zIP wl_0 ?_)
    rfl
  exact zGoo_ato hJ hD
theorem vn21a0_2 {S : Nat → zSpc}  {a : List Int} {g : rHp} : ∀ (ρ : Nat → Int) (γ : Nat → rHp), jn21 a g 0 (zAg (zNA a21_ 0) ρ) (γ 1) → zO 4 S a g q21a0_2 ρ γ → zGl (fun i vs g1 => jn21 a g i vs g1) (sn21 a g) q21a0_2 ρ γ := by
  intro ρ γ hJ h
  obtain ⟨ha, hg, hr, hf, hm, hc, hl⟩ := h
  have ha : a = [ρ 0, ρ 1, ρ 2, ρ 3] := ha
  subst ha
  subst hg
  have hJ : jn21 [ρ 0, ρ 1, ρ 2, ρ 3] (γ 0) 0 [ρ 0, ρ 1, ρ 2, ρ 3, ρ 4] (γ 1) := hJ
  have r0 : (0 : Int) ≤ ρ 0 ∧ ρ 0 ≤ 2000 := zRnA hr 0
  have r1 : (0 : Int) ≤ ρ 1 ∧ ρ 1 ≤ 12 := zRnA hr 1
  have r6 : (0 : Int) ≤ ρ 6 ∧ ρ 6 ≤ 12 := zRnA hr 6
  have f0 : (0 : Int) ≤ -ρ 5 + ρ 2 := zAllA hf 0
  have f1 : (0 : Int) ≤ ρ 5 + -ρ 2 := zAllA hf 1
  have f2 : (0 : Int) ≤ -ρ 4 + ρ 3 + (-1) := zAllA hf 2
  have f4 : (0 : Int) ≤ -ρ 1 + -ρ 0 + 2000 := zAllA hf 4
  obtain ⟨w_0, w_1⟩ : (¬ (ρ 4 ≥ ρ 3)) ∧ (¬ (ρ 5 ≠ ρ 2)) := ⟨by omega, by omega⟩
  have m0 : γ 0 15 0 14 = ρ 3 := zAllA hm 0
  have m1 : γ 0 66 0 (ρ 4) = ρ 5 := zAllA hm 1
  have m2 : γ 0 65 0 (ρ 4) = ρ 6 := zAllA hm 2
  have l0 : ρ 6 ≠ ρ 1 := zAllA hl 0
  have wl_0 : ρ 6 ≠ ρ 1 := by omega
  show jn21 [ρ 0, ρ 1, ρ 2, ρ 3] (γ 0) 1 [ρ 0, ρ 1, ρ 2, ρ 3, 0, 0, ρ 4] (γ 1)
  have hD : en21 (γ 0) (0, [ρ 0, ρ 1, ρ 2, ρ 4], γ 1) = .inl (1, [ρ 0, ρ 1, ρ 2, 0, 0, ρ 4], γ 1) := by
    unfold en21
    refine zIP (show (0 : Nat) = 0 by decide) (zLV (γ 1) rfl (zLV (ρ 0) rfl (zLV (ρ 1) rfl (zLV (ρ 2) rfl (zLV (ρ 4) rfl (zLE m0 (zIN w_0 ?_)))))))
    refine zLE m1 (zIN w_1 (zLE m2 (zIP wl_0 ?_)))
    rfl
  exact zGoo_ato hJ hD
theorem vn21a0_3 {S : Nat → zSpc}  {a : List Int} {g : rHp} : ∀ (ρ : Nat → Int) (γ : Nat → rHp), jn21 a g 0 (zAg (zNA a21_ 0) ρ) (γ 1) → zO 4 S a g q21a0_3 ρ γ → zGl (fun i vs g1 => jn21 a g i vs g1) (sn21 a g) q21a0_3 ρ γ := by
  intro ρ γ hJ h
  obtain ⟨ha, hg, hr, hf, hm, hc, hl⟩ := h
  have ha : a = [ρ 0, ρ 1, ρ 2, ρ 3] := ha
  subst ha
  subst hg
  have hJ : jn21 [ρ 0, ρ 1, ρ 2, ρ 3] (γ 0) 0 [ρ 0, ρ 1, ρ 2, ρ 3, ρ 4] (γ 1) := hJ
  have f0 : (0 : Int) ≤ -ρ 6 + ρ 1 := zAllA hf 0
  have f1 : (0 : Int) ≤ ρ 6 + -ρ 1 := zAllA hf 1
  have f2 : (0 : Int) ≤ -ρ 5 + ρ 2 := zAllA hf 2
  have f3 : (0 : Int) ≤ ρ 5 + -ρ 2 := zAllA hf 3
  have f4 : (0 : Int) ≤ -ρ 4 + ρ 3 + (-1) := zAllA hf 4
  obtain ⟨w_0, w_1, w_2⟩ : (¬ (ρ 4 ≥ ρ 3)) ∧ (¬ (ρ 5 ≠ ρ 2)) ∧ (¬ (ρ 6 ≠ ρ 1)) := ⟨by omega, by omega, by omega⟩
  have m0 : γ 0 15 0 14 = ρ 3 := zAllA hm 0
  have m1 : γ 0 66 0 (ρ 4) = ρ 5 := zAllA hm 1
  have m2 : γ 0 65 0 (ρ 4) = ρ 6 := zAllA hm 2
  show jn21 [ρ 0, ρ 1, ρ 2, ρ 3] (γ 0) 1 [ρ 0, ρ 1, ρ 2, ρ 3, 0, 1, ρ 4] (γ 1)
  have hD : en21 (γ 0) (0, [ρ 0, ρ 1, ρ 2, ρ 4], γ 1) = .inl (1, [ρ 0, ρ 1, ρ 2, 0, 1, ρ 4], γ 1) := by
    unfold en21
    refine zIP (show (0 : Nat) = 0 by decide) (zLV (γ 1) rfl (zLV (ρ 0) rfl (zLV (ρ 1) rfl (zLV (ρ 2) rfl (zLV (ρ 4) rfl (zLE m0 (zIN w_0 ?_)))))))
    refine zLE m1 (zIN w_1 (zLE m2 (zIN w_2 ?_)))
    rfl
  exact zGoo_ato hJ hD
theorem vn21a1_0 {S : Nat → zSpc}  {a : List Int} {g : rHp} : ∀ (ρ : Nat → Int) (γ : Nat → rHp), jn21 a g 1 (zAg (zNA a21_ 1) ρ) (γ 1) → zO 4 S a g q21a1_0 ρ γ → zGl (fun i vs g1 => jn21 a g i vs g1) (sn21 a g) q21a1_0 ρ γ := by
  intro ρ γ hJ h
  obtain ⟨ha, hg, hr, hf, hm, hc, hl⟩ := h
  have ha : a = [ρ 0, ρ 1, ρ 2, ρ 3] := ha
  subst ha
  subst hg
  have hJ : jn21 [ρ 0, ρ 1, ρ 2, ρ 3] (γ 0) 1 [ρ 0, ρ 1, ρ 2, ρ 3, ρ 4, ρ 5, ρ 6] (γ 1) := hJ
  have r5 : (0 : Int) ≤ ρ 5 ∧ ρ 5 ≤ 0 := zRnA hr 5
  have f0 : (0 : Int) ≤ ρ 4 + -ρ 1 := zAllA hf 0
  obtain ⟨w_0, w_1⟩ : (ρ 4 ≥ ρ 1) ∧ (ρ 5 = 0) := ⟨by omega, by omega⟩
  show jn21 [ρ 0, ρ 1, ρ 2, ρ 3] (γ 0) 0 [ρ 0, ρ 1, ρ 2, ρ 3, ρ 6 + 1] (γ 1)
  have hD : en21 (γ 0) (1, [ρ 0, ρ 1, ρ 2, ρ 4, ρ 5, ρ 6], γ 1) = .inl (0, [ρ 0, ρ 1, ρ 2, ρ 6 + 1], γ 1) := by
    unfold en21
    refine zIN (show ¬ (1 : Nat) = 0 by decide) (zIP (show (1 : Nat) = 1 by decide) (zLV (γ 1) rfl (zLV (ρ 0) rfl (zLV (ρ 1) rfl (zLV (ρ 2) rfl (zLV (ρ 4) rfl (zLV (ρ 5) rfl ?_)))))))
    refine zLV (ρ 6) rfl (zIP w_0 (zIP w_1 ?_))
    rfl
  exact zGoo_ato hJ hD
theorem vn21a1_1 {S : Nat → zSpc}  {a : List Int} {g : rHp} : ∀ (ρ : Nat → Int) (γ : Nat → rHp), jn21 a g 1 (zAg (zNA a21_ 1) ρ) (γ 1) → zO 4 S a g q21a1_1 ρ γ → zGl (fun i vs g1 => jn21 a g i vs g1) (sn21 a g) q21a1_1 ρ γ := by
  intro ρ γ hJ h
  obtain ⟨ha, hg, hr, hf, hm, hc, hl⟩ := h
  have ha : a = [ρ 0, ρ 1, ρ 2, ρ 3] := ha
  subst ha
  subst hg
  have hJ : jn21 [ρ 0, ρ 1, ρ 2, ρ 3] (γ 0) 1 [ρ 0, ρ 1, ρ 2, ρ 3, ρ 4, ρ 5, ρ 6] (γ 1) := hJ
  have r5 : (1 : Int) ≤ ρ 5 ∧ ρ 5 ≤ 1 := zRnA hr 5
  have f0 : (0 : Int) ≤ ρ 4 + -ρ 1 := zAllA hf 0
  obtain ⟨w_0, w_1⟩ : (ρ 4 ≥ ρ 1) ∧ (¬ (ρ 5 = 0)) := ⟨by omega, by omega⟩
  show sn21 [ρ 0, ρ 1, ρ 2, ρ 3] (γ 0) 0 (ρ 6) (γ 1)
  have hD : en21 (γ 0) (1, [ρ 0, ρ 1, ρ 2, ρ 4, ρ 5, ρ 6], γ 1) = .inr (0, ρ 6, γ 1) := by
    unfold en21
    refine zIN (show ¬ (1 : Nat) = 0 by decide) (zIP (show (1 : Nat) = 1 by decide) (zLV (γ 1) rfl (zLV (ρ 0) rfl (zLV (ρ 1) rfl (zLV (ρ 2) rfl (zLV (ρ 4) rfl (zLV (ρ 5) rfl ?_)))))))
    refine zLV (ρ 6) rfl (zIP w_0 (zIN w_1 ?_))
    rfl
  exact zGoo_aend hJ hD
theorem vn21a1_2 {S : Nat → zSpc}  {a : List Int} {g : rHp} : ∀ (ρ : Nat → Int) (γ : Nat → rHp), jn21 a g 1 (zAg (zNA a21_ 1) ρ) (γ 1) → zO 4 S a g q21a1_2 ρ γ → zGl (fun i vs g1 => jn21 a g i vs g1) (sn21 a g) q21a1_2 ρ γ := by
  intro ρ γ hJ h
  obtain ⟨ha, hg, hr, hf, hm, hc, hl⟩ := h
  have ha : a = [ρ 0, ρ 1, ρ 2, ρ 3] := ha
  subst ha
  subst hg
  have hJ : jn21 [ρ 0, ρ 1, ρ 2, ρ 3] (γ 0) 1 [ρ 0, ρ 1, ρ 2, ρ 3, ρ 4, ρ 5, ρ 6] (γ 1) := hJ
  have r5 : (0 : Int) ≤ ρ 5 ∧ ρ 5 ≤ 0 := zRnA hr 5
  have f0 : (0 : Int) ≤ -ρ 4 + ρ 1 + (-1) := zAllA hf 0
  obtain ⟨w_0, w_1⟩ : (¬ (ρ 4 ≥ ρ 1)) ∧ (ρ 5 = 0) := ⟨by omega, by omega⟩
  show jn21 [ρ 0, ρ 1, ρ 2, ρ 3] (γ 0) 0 [ρ 0, ρ 1, ρ 2, ρ 3, ρ 6 + 1] (γ 1)
  have hD : en21 (γ 0) (1, [ρ 0, ρ 1, ρ 2, ρ 4, ρ 5, ρ 6], γ 1) = .inl (0, [ρ 0, ρ 1, ρ 2, ρ 6 + 1], γ 1) := by
    unfold en21
    refine zIN (show ¬ (1 : Nat) = 0 by decide) (zIP (show (1 : Nat) = 1 by decide) (zLV (γ 1) rfl (zLV (ρ 0) rfl (zLV (ρ 1) rfl (zLV (ρ 2) rfl (zLV (ρ 4) rfl (zLV (ρ 5) rfl ?_)))))))
    refine zLV (ρ 6) rfl (zIN w_0 (zIP w_1 ?_))
    rfl
  exact zGoo_ato hJ hD
theorem vn21a1_3 {S : Nat → zSpc}  {a : List Int} {g : rHp} : ∀ (ρ : Nat → Int) (γ : Nat → rHp), jn21 a g 1 (zAg (zNA a21_ 1) ρ) (γ 1) → zO 4 S a g q21a1_3 ρ γ → zGl (fun i vs g1 => jn21 a g i vs g1) (sn21 a g) q21a1_3 ρ γ := by
  intro ρ γ hJ h
  obtain ⟨ha, hg, hr, hf, hm, hc, hl⟩ := h
  have ha : a = [ρ 0, ρ 1, ρ 2, ρ 3] := ha
  subst ha
  subst hg
  have hJ : jn21 [ρ 0, ρ 1, ρ 2, ρ 3] (γ 0) 1 [ρ 0, ρ 1, ρ 2, ρ 3, ρ 4, ρ 5, ρ 6] (γ 1) := hJ
  have r5 : (1 : Int) ≤ ρ 5 ∧ ρ 5 ≤ 1 := zRnA hr 5
  have r7 : ((-128) : Int) ≤ ρ 7 ∧ ρ 7 ≤ 127 := zRnA hr 7
  have r8 : ((-128) : Int) ≤ ρ 8 ∧ ρ 8 ≤ 127 := zRnA hr 8
  have f0 : (0 : Int) ≤ -ρ 4 + ρ 1 + (-1) := zAllA hf 0
  obtain ⟨w_0, w_1⟩ : (¬ (ρ 4 ≥ ρ 1)) ∧ (¬ (ρ 5 = 0)) := ⟨by omega, by omega⟩
  have m1 : γ 0 64 0 (12 * ρ 6 + ρ 4) = ρ 7 := zAllA hm 1
  have m2 : γ 0 59 0 (ρ 4 + ρ 0) = ρ 8 := zAllA hm 2
  have l0 : ρ 7 ≠ ρ 8 := zAllA hl 0
  have wl_0 : ρ 7 ≠ ρ 8 := by omega
  show jn21 [ρ 0, ρ 1, ρ 2, ρ 3] (γ 0) 1 [ρ 0, ρ 1, ρ 2, ρ 3, ρ 4 + 1, 0, ρ 6] (γ 1)
  have hD : en21 (γ 0) (1, [ρ 0, ρ 1, ρ 2, ρ 4, ρ 5, ρ 6], γ 1) = .inl (1, [ρ 0, ρ 1, ρ 2, ρ 4 + 1, 0, ρ 6], γ 1) := by
    unfold en21
    refine zIN (show ¬ (1 : Nat) = 0 by decide) (zIP (show (1 : Nat) = 1 by decide) (zLV (γ 1) rfl (zLV (ρ 0) rfl (zLV (ρ 1) rfl (zLV (ρ 2) rfl (zLV (ρ 4) rfl (zLV (ρ 5) rfl ?_)))))))
    refine zLV (ρ 6) rfl (zIN w_0 (zIN w_1 (zLE m1 (zLE m2 (zIP wl_0 ?_)))))
    rfl
  exact zGoo_ato hJ hD
theorem vn21a1_4 {S : Nat → zSpc}  {a : List Int} {g : rHp} : ∀ (ρ : Nat → Int) (γ : Nat → rHp), jn21 a g 1 (zAg (zNA a21_ 1) ρ) (γ 1) → zO 4 S a g q21a1_4 ρ γ → zGl (fun i vs g1 => jn21 a g i vs g1) (sn21 a g) q21a1_4 ρ γ := by
  intro ρ γ hJ h
  obtain ⟨ha, hg, hr, hf, hm, hc, hl⟩ := h
  have ha : a = [ρ 0, ρ 1, ρ 2, ρ 3] := ha
  subst ha
  subst hg
  have hJ : jn21 [ρ 0, ρ 1, ρ 2, ρ 3] (γ 0) 1 [ρ 0, ρ 1, ρ 2, ρ 3, ρ 4, ρ 5, ρ 6] (γ 1) := hJ
  have r5 : (1 : Int) ≤ ρ 5 ∧ ρ 5 ≤ 1 := zRnA hr 5
  have f0 : (0 : Int) ≤ ρ 8 + -ρ 7 := zAllA hf 0
  have f1 : (0 : Int) ≤ -ρ 8 + ρ 7 := zAllA hf 1
  have f2 : (0 : Int) ≤ -ρ 4 + ρ 1 + (-1) := zAllA hf 2
  obtain ⟨w_0, w_1, w_2⟩ : (¬ (ρ 4 ≥ ρ 1)) ∧ (¬ (ρ 5 = 0)) ∧ (¬ (ρ 7 ≠ ρ 8)) := ⟨by omega, by omega, by omega⟩
  have m1 : γ 0 64 0 (12 * ρ 6 + ρ 4) = ρ 7 := zAllA hm 1
  have m2 : γ 0 59 0 (ρ 4 + ρ 0) = ρ 8 := zAllA hm 2
  show jn21 [ρ 0, ρ 1, ρ 2, ρ 3] (γ 0) 1 [ρ 0, ρ 1, ρ 2, ρ 3, ρ 4 + 1, 1, ρ 6] (γ 1)
  have hD : en21 (γ 0) (1, [ρ 0, ρ 1, ρ 2, ρ 4, ρ 5, ρ 6], γ 1) = .inl (1, [ρ 0, ρ 1, ρ 2, ρ 4 + 1, 1, ρ 6], γ 1) := by
    unfold en21
    refine zIN (show ¬ (1 : Nat) = 0 by decide) (zIP (show (1 : Nat) = 1 by decide) (zLV (γ 1) rfl (zLV (ρ 0) rfl (zLV (ρ 1) rfl (zLV (ρ 2) rfl (zLV (ρ 4) rfl (zLV (ρ 5) rfl ?_)))))))
    refine zLV (ρ 6) rfl (zIN w_0 (zIN w_1 (zLE m1 (zLE m2 (zIN w_2 ?_)))))
    rfl
  exact zGoo_ato hJ hD
theorem yn21 {S : Nat → zSpc}  : ∀ x g o v gz, zSem uW uT w21_.2.2.2.1 w21_.2.2.1.1.length S q21 (fun i => q21a.getD i []) (zNA a21_) x g o v gz → sn21 x g o v gz := by
  intro a g o v gz h
  exact zSem_all (l0 := q21) (las := q21a) (S := S) (J := (fun i vs g1 => jn21 a g i vs g1)) (P := sn21 a g) (fun _ => (show zAll _ [q21_0] from (zAll_c (vn21_0 ) zAll_n))) (fun _ => (show zAllI _ 0 [q21a0, q21a1] from ⟨(show zAll _ [q21a0_0, q21a0_1, q21a0_2, q21a0_3] from (zAll_c (vn21a0_0 ) (zAll_c (vn21a0_1 ) (zAll_c (vn21a0_2 ) (zAll_c (vn21a0_3 ) zAll_n))))), ⟨(show zAll _ [q21a1_0, q21a1_1, q21a1_2, q21a1_3, q21a1_4] from (zAll_c (vn21a1_0 ) (zAll_c (vn21a1_1 ) (zAll_c (vn21a1_2 ) (zAll_c (vn21a1_3 ) (zAll_c (vn21a1_4 ) zAll_n)))))), trivial⟩⟩)) h
theorem vn22_0 {S : Nat → zSpc}  {a : List Int} {g : rHp} : ∀ (ρ : Nat → Int) (γ : Nat → rHp), zO 4 S a g q22_0 ρ γ → zGl (fun i vs g1 => jn22 a g i vs g1) (sn22 a g) q22_0 ρ γ := by
  intro ρ γ h
  obtain ⟨ha, hg, hr, hf, hm, hc, hl⟩ := h
  have ha : a = [ρ 0, ρ 1, ρ 2, ρ 3] := ha
  subst ha
  subst hg
  have m0 : γ 0 15 0 14 = ρ 3 := zAllA hm 0
  have c1 : γ 1 = rUp (γ 0) 66 0 (ρ 3) (ρ 2) := And.right (zChA hc 1)
  have c2 : γ 2 = rUp (γ 1) 65 0 (ρ 3) (ρ 1) := And.right (zChA hc 0)
  show jn22 [ρ 0, ρ 1, ρ 2, ρ 3] (γ 0) 0 [ρ 0, ρ 1, ρ 2, ρ 3, 0] (γ 2)
  have hD : dn22 [ρ 0, ρ 1, ρ 2] (γ 0) = .inl (0, [ρ 0, ρ 1, ρ 2, 0], γ 2) := by
    unfold dn22
    refine zLV (ρ 0) rfl (zLV (ρ 1) rfl (zLV (ρ 2) rfl (zLE m0 (zLE c1.symm (zLE c2.symm ?_)))))
    rfl
  exact zGoo_to hD
theorem vn22a0_0 {S : Nat → zSpc}  {a : List Int} {g : rHp} : ∀ (ρ : Nat → Int) (γ : Nat → rHp), jn22 a g 0 (zAg (zNA a22_ 0) ρ) (γ 1) → zO 4 S a g q22a0_0 ρ γ → zGl (fun i vs g1 => jn22 a g i vs g1) (sn22 a g) q22a0_0 ρ γ := by
  intro ρ γ hJ h
  obtain ⟨ha, hg, hr, hf, hm, hc, hl⟩ := h
  have ha : a = [ρ 0, ρ 1, ρ 2, ρ 3] := ha
  subst ha
  subst hg
  have hJ : jn22 [ρ 0, ρ 1, ρ 2, ρ 3] (γ 0) 0 [ρ 0, ρ 1, ρ 2, ρ 3, ρ 4] (γ 1) := hJ
  have f0 : (0 : Int) ≤ ρ 4 + -ρ 1 := zAllA hf 0
  have w_0 : ρ 4 ≥ ρ 1 := by omega
  have m0 : γ 0 15 0 14 = ρ 3 := zAllA hm 0
  have c2 : γ 2 = rUp (γ 1) 15 0 14 (ρ 3 + 1) := And.right (zChA hc 0)
  show sn22 [ρ 0, ρ 1, ρ 2, ρ 3] (γ 0) 0 (ρ 3) (γ 2)
  have hD : en22 (γ 0) (0, [ρ 0, ρ 1, ρ 2, ρ 4], γ 1) = .inr (0, ρ 3, γ 2) := by
    unfold en22
    refine zIP (show (0 : Nat) = 0 by decide) (zLV (γ 1) rfl (zLV (ρ 0) rfl (zLV (ρ 1) rfl (zLV (ρ 2) rfl (zLV (ρ 4) rfl (zLE m0 (zIP w_0 ?_)))))))
    refine zLE c2.symm ?_
    rfl
  exact zGoo_aend hJ hD
theorem vn22a0_1 {S : Nat → zSpc}  {a : List Int} {g : rHp} : ∀ (ρ : Nat → Int) (γ : Nat → rHp), jn22 a g 0 (zAg (zNA a22_ 0) ρ) (γ 1) → zO 4 S a g q22a0_1 ρ γ → zGl (fun i vs g1 => jn22 a g i vs g1) (sn22 a g) q22a0_1 ρ γ := by
  intro ρ γ hJ h
  obtain ⟨ha, hg, hr, hf, hm, hc, hl⟩ := h
  have ha : a = [ρ 0, ρ 1, ρ 2, ρ 3] := ha
  subst ha
  subst hg
  have hJ : jn22 [ρ 0, ρ 1, ρ 2, ρ 3] (γ 0) 0 [ρ 0, ρ 1, ρ 2, ρ 3, ρ 4] (γ 1) := hJ
  have f0 : (0 : Int) ≤ -ρ 4 + ρ 1 + (-1) := zAllA hf 0
  have w_0 : ¬ (ρ 4 ≥ ρ 1) := by omega
  have m0 : γ 0 15 0 14 = ρ 3 := zAllA hm 0
  have m1 : γ 0 59 0 (ρ 4 + ρ 0) = ρ 5 := zAllA hm 1
  have c2 : γ 2 = rUp (γ 1) 64 0 (ρ 4 + 12 * ρ 3) (ρ 5) := And.right (zChA hc 0)
  show jn22 [ρ 0, ρ 1, ρ 2, ρ 3] (γ 0) 0 [ρ 0, ρ 1, ρ 2, ρ 3, ρ 4 + 1] (γ 2)
  have hD : en22 (γ 0) (0, [ρ 0, ρ 1, ρ 2, ρ 4], γ 1) = .inl (0, [ρ 0, ρ 1, ρ 2, ρ 4 + 1], γ 2) := by
    unfold en22
    refine zIP (show (0 : Nat) = 0 by decide) (zLV (γ 1) rfl (zLV (ρ 0) rfl (zLV (ρ 1) rfl (zLV (ρ 2) rfl (zLV (ρ 4) rfl (zLE m0 (zIN w_0 ?_)))))))
    refine zLE m1 (zLE c2.symm ?_)
    rfl
  exact zGoo_ato hJ hD
theorem yn22 {S : Nat → zSpc}  : ∀ x g o v gz, zSem uW uT w22_.2.2.2.1 w22_.2.2.1.1.length S q22 (fun i => q22a.getD i []) (zNA a22_) x g o v gz → sn22 x g o v gz := by
  intro a g o v gz h
  exact zSem_all (l0 := q22) (las := q22a) (S := S) (J := (fun i vs g1 => jn22 a g i vs g1)) (P := sn22 a g) (fun _ => (show zAll _ [q22_0] from (zAll_c (vn22_0 ) zAll_n))) (fun _ => (show zAllI _ 0 [q22a0] from ⟨(show zAll _ [q22a0_0, q22a0_1] from (zAll_c (vn22a0_0 ) (zAll_c (vn22a0_1 ) zAll_n))), trivial⟩)) h
theorem vn23_0 {S : Nat → zSpc} (hS6 : zIm S 6 sn6) (hS7 : zIm S 7 sn7) (hS8 : zIm S 8 sn8) (hS9 : zIm S 9 sn9) (hS12 : zIm S 12 sn12) {a : List Int} {g : rHp} : ∀ (ρ : Nat → Int) (γ : Nat → rHp), zO 5 S a g q23_0 ρ γ → zGl (fun _ _ _ => True) (sn23 a g) q23_0 ρ γ := by
  intro ρ γ h
  obtain ⟨ha, hg, hr, hf, hm, hc, hl⟩ := h
  have ha : a = [ρ 0, ρ 1, ρ 2, ρ 3, ρ 4] := ha
  subst ha
  subst hg
  have f2 : (0 : Int) ≤ -ρ 5 + ρ 1 + (-1) := zAllA hf 2
  have w_0 : 0 ≤ -ρ 5 + ρ 1 + (-1) := by omega
  have m1 : γ 0 15 0 34 = ρ 1 := zAllA hm 1
  have m5 : γ 1 15 0 35 = ρ 5 := zAllA hm 5
  have l0 : sn7 [ρ 0, ρ 1] (γ 0) 0 0 (γ 1) := hS7 _ _ _ _ _ (zAllA hl 0)
  have l1 : sn6 [ρ 5, ρ 1] (γ 1) 0 (ρ 6) (γ 2) := hS6 _ _ _ _ _ (zAllA hl 1)
  have l2 : sn9 [ρ 6] (γ 2) 0 0 (γ 3) := hS9 _ _ _ _ _ (zAllA hl 2)
  have l3 : sn8 [ρ 5, ρ 1, ρ 2] (γ 3) 0 0 (γ 4) := hS8 _ _ _ _ _ (zAllA hl 3)
  show sn23 [ρ 0, ρ 1, ρ 2, ρ 3, ρ 4] (γ 0) 0 0 (γ 4)
  refine Eq.symm ?_
  show fn23 [] (γ 0) = _
  unfold fn23
  refine zLE m1 (zLE (show fn7 [] (γ 0) = (0, 0, γ 1) from l0.symm) (zLV (γ 1) rfl (zLE m5 (zLE (show fn6 [ρ 5] (γ 1) = (0, ρ 6, γ 2) from l1.symm) (zLV (γ 2) rfl (zIP w_0 (zLV (ρ 6) rfl ?_)))))))
  refine zLE (show fn9 [ρ 6] (γ 2) = (0, 0, γ 3) from l2.symm) (zLV (γ 3) rfl (zIN zQ0_ (zLE (show fn8 [ρ 5] (γ 3) = (0, 0, γ 4) from l3.symm) (zLV (γ 4) rfl ?_))))
  rfl
theorem vn23_1 {S : Nat → zSpc} (hS6 : zIm S 6 sn6) (hS7 : zIm S 7 sn7) (hS8 : zIm S 8 sn8) (hS9 : zIm S 9 sn9) (hS12 : zIm S 12 sn12) {a : List Int} {g : rHp} : ∀ (ρ : Nat → Int) (γ : Nat → rHp), zO 5 S a g q23_1 ρ γ → zGl (fun _ _ _ => True) (sn23 a g) q23_1 ρ γ := by
  intro ρ γ h
  obtain ⟨ha, hg, hr, hf, hm, hc, hl⟩ := h
  have ha : a = [ρ 0, ρ 1, ρ 2, ρ 3, ρ 4] := ha
  subst ha
  subst hg
  have f0 : (0 : Int) ≤ -ρ 5 + ρ 1 + (-1) := zAllA hf 0
  have w_0 : 0 ≤ -ρ 5 + ρ 1 + (-1) := by omega
  have m1 : γ 0 15 0 34 = ρ 1 := zAllA hm 1
  have m5 : γ 1 15 0 35 = ρ 5 := zAllA hm 5
  have l0 : sn7 [ρ 0, ρ 1] (γ 0) 0 0 (γ 1) := hS7 _ _ _ _ _ (zAllA hl 0)
  have l1 : sn6 [ρ 5, ρ 1] (γ 1) 0 (ρ 6) (γ 2) := hS6 _ _ _ _ _ (zAllA hl 1)
  have l2 : sn9 [ρ 6] (γ 2) 0 1 (γ 3) := hS9 _ _ _ _ _ (zAllA hl 2)
  have l3 : sn12 [ρ 5, ρ 1, ρ 3, ρ 2, ρ 4] (γ 3) 0 0 (γ 4) := hS12 _ _ _ _ _ (zAllA hl 3)
  show sn23 [ρ 0, ρ 1, ρ 2, ρ 3, ρ 4] (γ 0) 0 0 (γ 4)
  refine Eq.symm ?_
  show fn23 [] (γ 0) = _
  unfold fn23
  refine zLE m1 (zLE (show fn7 [] (γ 0) = (0, 0, γ 1) from l0.symm) (zLV (γ 1) rfl (zLE m5 (zLE (show fn6 [ρ 5] (γ 1) = (0, ρ 6, γ 2) from l1.symm) (zLV (γ 2) rfl (zIP w_0 (zLV (ρ 6) rfl ?_)))))))
  refine zLE (show fn9 [ρ 6] (γ 2) = (0, 1, γ 3) from l2.symm) (zLV (γ 3) rfl (zIP zQ1_ (zLE (show fn12 [] (γ 3) = (0, 0, γ 4) from l3.symm) (zLV (γ 4) rfl (zIN zQ0_ ?_)))))
  rfl
theorem vn23_2 {S : Nat → zSpc} (hS6 : zIm S 6 sn6) (hS7 : zIm S 7 sn7) (hS8 : zIm S 8 sn8) (hS9 : zIm S 9 sn9) (hS12 : zIm S 12 sn12) {a : List Int} {g : rHp} : ∀ (ρ : Nat → Int) (γ : Nat → rHp), zO 5 S a g q23_2 ρ γ → zGl (fun _ _ _ => True) (sn23 a g) q23_2 ρ γ := by
  intro ρ γ h
  obtain ⟨ha, hg, hr, hf, hm, hc, hl⟩ := h
  have ha : a = [ρ 0, ρ 1, ρ 2, ρ 3, ρ 4] := ha
  subst ha
  subst hg
  have f0 : (0 : Int) ≤ -ρ 5 + ρ 1 + (-1) := zAllA hf 0
  have w_0 : 0 ≤ -ρ 5 + ρ 1 + (-1) := by omega
  have m1 : γ 0 15 0 34 = ρ 1 := zAllA hm 1
  have m5 : γ 1 15 0 35 = ρ 5 := zAllA hm 5
  have l0 : sn7 [ρ 0, ρ 1] (γ 0) 0 0 (γ 1) := hS7 _ _ _ _ _ (zAllA hl 0)
  have l1 : sn6 [ρ 5, ρ 1] (γ 1) 0 (ρ 6) (γ 2) := hS6 _ _ _ _ _ (zAllA hl 1)
  have l2 : sn9 [ρ 6] (γ 2) 0 1 (γ 3) := hS9 _ _ _ _ _ (zAllA hl 2)
  have l3 : sn12 [ρ 5, ρ 1, ρ 3, ρ 2, ρ 4] (γ 3) 0 1 (γ 4) := hS12 _ _ _ _ _ (zAllA hl 3)
  show sn23 [ρ 0, ρ 1, ρ 2, ρ 3, ρ 4] (γ 0) 0 1 (γ 4)
  refine Eq.symm ?_
  show fn23 [] (γ 0) = _
  unfold fn23
  refine zLE m1 (zLE (show fn7 [] (γ 0) = (0, 0, γ 1) from l0.symm) (zLV (γ 1) rfl (zLE m5 (zLE (show fn6 [ρ 5] (γ 1) = (0, ρ 6, γ 2) from l1.symm) (zLV (γ 2) rfl (zIP w_0 (zLV (ρ 6) rfl ?_)))))))
  refine zLE (show fn9 [ρ 6] (γ 2) = (0, 1, γ 3) from l2.symm) (zLV (γ 3) rfl (zIP zQ1_ (zLE (show fn12 [] (γ 3) = (0, 1, γ 4) from l3.symm) (zLV (γ 4) rfl (zIP zQ1_ ?_)))))
  rfl
theorem vn23_3 {S : Nat → zSpc} (hS6 : zIm S 6 sn6) (hS7 : zIm S 7 sn7) (hS8 : zIm S 8 sn8) (hS9 : zIm S 9 sn9) (hS12 : zIm S 12 sn12) {a : List Int} {g : rHp} : ∀ (ρ : Nat → Int) (γ : Nat → rHp), zO 5 S a g q23_3 ρ γ → zGl (fun _ _ _ => True) (sn23 a g) q23_3 ρ γ := by
  intro ρ γ h
  obtain ⟨ha, hg, hr, hf, hm, hc, hl⟩ := h
  have ha : a = [ρ 0, ρ 1, ρ 2, ρ 3, ρ 4] := ha
  subst ha
  subst hg
  have f2 : (0 : Int) ≤ ρ 5 + -ρ 1 := zAllA hf 2
  have w_0 : ¬ (0 ≤ -ρ 5 + ρ 1 + (-1)) := by omega
  have m1 : γ 0 15 0 34 = ρ 1 := zAllA hm 1
  have m5 : γ 1 15 0 35 = ρ 5 := zAllA hm 5
  have l0 : sn7 [ρ 0, ρ 1] (γ 0) 0 0 (γ 1) := hS7 _ _ _ _ _ (zAllA hl 0)
  have l1 : sn6 [ρ 5, ρ 1] (γ 1) 0 (-1) (γ 2) := hS6 _ _ _ _ _ (zAllA hl 1)
  have l2 : sn9 [(-1)] (γ 2) 0 0 (γ 3) := hS9 _ _ _ _ _ (zAllA hl 2)
  have l3 : sn8 [ρ 5, ρ 1, ρ 2] (γ 3) 0 0 (γ 4) := hS8 _ _ _ _ _ (zAllA hl 3)
  show sn23 [ρ 0, ρ 1, ρ 2, ρ 3, ρ 4] (γ 0) 0 0 (γ 4)
  refine Eq.symm ?_
  show fn23 [] (γ 0) = _
  unfold fn23
  refine zLE m1 (zLE (show fn7 [] (γ 0) = (0, 0, γ 1) from l0.symm) (zLV (γ 1) rfl (zLE m5 (zLE (show fn6 [ρ 5] (γ 1) = (0, (-1), γ 2) from l1.symm) (zLV (γ 2) rfl (zIN w_0 (zLE (show fn9 [(-1)] (γ 2) = (0, 0, γ 3) from l2.symm) ?_)))))))
  refine zLV (γ 3) rfl (zLE (show fn8 [ρ 5] (γ 3) = (0, 0, γ 4) from l3.symm) (zLV (γ 4) rfl ?_))
  rfl
theorem yn23 {S : Nat → zSpc} (hS6 : zIm S 6 sn6) (hS7 : zIm S 7 sn7) (hS8 : zIm S 8 sn8) (hS9 : zIm S 9 sn9) (hS12 : zIm S 12 sn12) : ∀ x g o v gz, zSem uW uT w23_.2.2.2.1 w23_.2.2.1.1.length S q23 (fun i => q23a.getD i []) (zNA a23_) x g o v gz → sn23 x g o v gz := by
  intro a g o v gz h
  exact zSem_all (l0 := q23) (las := q23a) (S := S) (J := (fun _ _ _ => True)) (P := sn23 a g) (fun _ => (show zAll _ [q23_0, q23_1, q23_2, q23_3] from (zAll_c (vn23_0 hS6 hS7 hS8 hS9 hS12) (zAll_c (vn23_1 hS6 hS7 hS8 hS9 hS12) (zAll_c (vn23_2 hS6 hS7 hS8 hS9 hS12) (zAll_c (vn23_3 hS6 hS7 hS8 hS9 hS12) zAll_n)))))) (fun _ => (show zAllI _ 0 [] from trivial)) h
theorem vn24_0 {S : Nat → zSpc} (hS6 : zIm S 6 sn6) (hS7 : zIm S 7 sn7) (hS8 : zIm S 8 sn8) {a : List Int} {g : rHp} : ∀ (ρ : Nat → Int) (γ : Nat → rHp), zO 4 S a g q24_0 ρ γ → zGl (fun _ _ _ => True) (sn24 a g) q24_0 ρ γ := by
  intro ρ γ h
  obtain ⟨ha, hg, hr, hf, hm, hc, hl⟩ := h
  have ha : a = [ρ 0, ρ 1, ρ 2, ρ 3] := ha
  subst ha
  subst hg
  have f0 : (0 : Int) ≤ -ρ 5 + ρ 0 := zAllA hf 0
  have f1 : (0 : Int) ≤ ρ 5 + -ρ 0 := zAllA hf 1
  have f2 : (0 : Int) ≤ -ρ 4 + ρ 2 + (-1) := zAllA hf 2
  obtain ⟨w_0, w_1⟩ : (0 ≤ -ρ 4 + ρ 2 + (-1)) ∧ (ρ 5 = ρ 0) := ⟨by omega, by omega⟩
  have m1 : γ 0 15 0 34 = ρ 2 := zAllA hm 1
  have m3 : γ 1 15 0 35 = ρ 4 := zAllA hm 3
  have c3 : γ 3 = rUp (γ 2) 15 0 35 (ρ 4 + 1) := And.right (zChA hc 0)
  have l0 : sn7 [ρ 1, ρ 2] (γ 0) 0 0 (γ 1) := hS7 _ _ _ _ _ (zAllA hl 0)
  have l1 : sn6 [ρ 4, ρ 2] (γ 1) 0 (ρ 5) (γ 2) := hS6 _ _ _ _ _ (zAllA hl 1)
  show sn24 [ρ 0, ρ 1, ρ 2, ρ 3] (γ 0) 0 1 (γ 3)
  refine Eq.symm ?_
  show fn24 [ρ 0] (γ 0) = _
  unfold fn24
  refine zLV (ρ 0) rfl (zLE m1 (zLE (show fn7 [] (γ 0) = (0, 0, γ 1) from l0.symm) (zLV (γ 1) rfl (zLE m3 (zLE (show fn6 [ρ 4] (γ 1) = (0, ρ 5, γ 2) from l1.symm) (zLV (γ 2) rfl (zIP w_0 ?_)))))))
  refine zLV (ρ 5) rfl (zIP w_1 (zLE c3.symm ?_))
  rfl
theorem vn24_1 {S : Nat → zSpc} (hS6 : zIm S 6 sn6) (hS7 : zIm S 7 sn7) (hS8 : zIm S 8 sn8) {a : List Int} {g : rHp} : ∀ (ρ : Nat → Int) (γ : Nat → rHp), zO 4 S a g q24_1 ρ γ → zGl (fun _ _ _ => True) (sn24 a g) q24_1 ρ γ := by
  intro ρ γ h
  obtain ⟨ha, hg, hr, hf, hm, hc, hl⟩ := h
  have ha : a = [ρ 0, ρ 1, ρ 2, ρ 3] := ha
  subst ha
  subst hg
  have r0 : (0 : Int) ≤ ρ 0 ∧ ρ 0 ≤ 255 := zRnA hr 0
  have r5 : ((-128) : Int) ≤ ρ 5 ∧ ρ 5 ≤ 127 := zRnA hr 5
  have f2 : (0 : Int) ≤ -ρ 4 + ρ 2 + (-1) := zAllA hf 2
  have w_0 : 0 ≤ -ρ 4 + ρ 2 + (-1) := by omega
  have m1 : γ 0 15 0 34 = ρ 2 := zAllA hm 1
  have m3 : γ 1 15 0 35 = ρ 4 := zAllA hm 3
  have l0 : sn7 [ρ 1, ρ 2] (γ 0) 0 0 (γ 1) := hS7 _ _ _ _ _ (zAllA hl 0)
  have l1 : sn6 [ρ 4, ρ 2] (γ 1) 0 (ρ 5) (γ 2) := hS6 _ _ _ _ _ (zAllA hl 1)
  have l2 : ρ 5 ≠ ρ 0 := zAllA hl 2
  have l3 : sn8 [ρ 4, ρ 2, ρ 3] (γ 2) 0 0 (γ 3) := hS8 _ _ _ _ _ (zAllA hl 3)
  have wl_0 : ¬ (ρ 5 = ρ 0) := by omega
  show sn24 [ρ 0, ρ 1, ρ 2, ρ 3] (γ 0) 0 0 (γ 3)
  refine Eq.symm ?_
  show fn24 [ρ 0] (γ 0) = _
  unfold fn24
  refine zLV (ρ 0) rfl (zLE m1 (zLE (show fn7 [] (γ 0) = (0, 0, γ 1) from l0.symm) (zLV (γ 1) rfl (zLE m3 (zLE (show fn6 [ρ 4] (γ 1) = (0, ρ 5, γ 2) from l1.symm) (zLV (γ 2) rfl (zIP w_0 ?_)))))))
  refine zLV (ρ 5) rfl (zIN wl_0 (zLE (show fn8 [ρ 4] (γ 2) = (0, 0, γ 3) from l3.symm) (zLV (γ 3) rfl ?_)))
  rfl
theorem vn24_2 {S : Nat → zSpc} (hS6 : zIm S 6 sn6) (hS7 : zIm S 7 sn7) (hS8 : zIm S 8 sn8) {a : List Int} {g : rHp} : ∀ (ρ : Nat → Int) (γ : Nat → rHp), zO 4 S a g q24_2 ρ γ → zGl (fun _ _ _ => True) (sn24 a g) q24_2 ρ γ := by
  intro ρ γ h
  obtain ⟨ha, hg, hr, hf, hm, hc, hl⟩ := h
  have ha : a = [ρ 0, ρ 1, ρ 2, ρ 3] := ha
  subst ha
  subst hg
  have f2 : (0 : Int) ≤ ρ 4 + -ρ 2 := zAllA hf 2
  have w_0 : ¬ (0 ≤ -ρ 4 + ρ 2 + (-1)) := by omega
  have m1 : γ 0 15 0 34 = ρ 2 := zAllA hm 1
  have m3 : γ 1 15 0 35 = ρ 4 := zAllA hm 3
  have l0 : sn7 [ρ 1, ρ 2] (γ 0) 0 0 (γ 1) := hS7 _ _ _ _ _ (zAllA hl 0)
  have l1 : sn6 [ρ 4, ρ 2] (γ 1) 0 (-1) (γ 2) := hS6 _ _ _ _ _ (zAllA hl 1)
  have l2 : sn8 [ρ 4, ρ 2, ρ 3] (γ 2) 0 0 (γ 3) := hS8 _ _ _ _ _ (zAllA hl 2)
  show sn24 [ρ 0, ρ 1, ρ 2, ρ 3] (γ 0) 0 0 (γ 3)
  refine Eq.symm ?_
  show fn24 [ρ 0] (γ 0) = _
  unfold fn24
  refine zLV (ρ 0) rfl (zLE m1 (zLE (show fn7 [] (γ 0) = (0, 0, γ 1) from l0.symm) (zLV (γ 1) rfl (zLE m3 (zLE (show fn6 [ρ 4] (γ 1) = (0, (-1), γ 2) from l1.symm) (zLV (γ 2) rfl (zIN w_0 ?_)))))))
  refine zLE (show fn8 [ρ 4] (γ 2) = (0, 0, γ 3) from l2.symm) (zLV (γ 3) rfl ?_)
  rfl
theorem yn24 {S : Nat → zSpc} (hS6 : zIm S 6 sn6) (hS7 : zIm S 7 sn7) (hS8 : zIm S 8 sn8) : ∀ x g o v gz, zSem uW uT w24_.2.2.2.1 w24_.2.2.1.1.length S q24 (fun i => q24a.getD i []) (zNA a24_) x g o v gz → sn24 x g o v gz := by
  intro a g o v gz h
  exact zSem_all (l0 := q24) (las := q24a) (S := S) (J := (fun _ _ _ => True)) (P := sn24 a g) (fun _ => (show zAll _ [q24_0, q24_1, q24_2] from (zAll_c (vn24_0 hS6 hS7 hS8) (zAll_c (vn24_1 hS6 hS7 hS8) (zAll_c (vn24_2 hS6 hS7 hS8) zAll_n))))) (fun _ => (show zAllI _ 0 [] from trivial)) h
theorem vn25_0 {S : Nat → zSpc}  {a : List Int} {g : rHp} : ∀ (ρ : Nat → Int) (γ : Nat → rHp), zO 5 S a g q25_0 ρ γ → zGl (fun _ _ _ => True) (sn25 a g) q25_0 ρ γ := by
  intro ρ γ h
  obtain ⟨ha, hg, hr, hf, hm, hc, hl⟩ := h
  have ha : a = [ρ 0, ρ 1, ρ 2, ρ 3, ρ 4] := ha
  subst ha
  subst hg
  have m0 : γ 0 15 0 58 = ρ 3 := zAllA hm 0
  have m1 : γ 0 15 0 45 = ρ 4 := zAllA hm 1
  have c1 : γ 1 = rUp (γ 0) 88 0 (ρ 3) (ρ 0) := And.right (zChA hc 4)
  have c2 : γ 2 = rUp (γ 1) 89 0 (ρ 3) (ρ 1) := And.right (zChA hc 3)
  have c3 : γ 3 = rUp (γ 2) 91 0 (ρ 3) (ρ 2) := And.right (zChA hc 2)
  have c4 : γ 4 = rUp (γ 3) 90 0 (ρ 3) (ρ 4) := And.right (zChA hc 1)
  have c5 : γ 5 = rUp (γ 4) 15 0 58 (ρ 3 + 1) := And.right (zChA hc 0)
  show sn25 [ρ 0, ρ 1, ρ 2, ρ 3, ρ 4] (γ 0) 0 0 (γ 5)
  refine Eq.symm ?_
  show fn25 [ρ 0, ρ 1, ρ 2] (γ 0) = _
  unfold fn25
  refine zLV (ρ 0) rfl (zLV (ρ 1) rfl (zLV (ρ 2) rfl (zLE m0 (zLE m1 (zLE c1.symm (zLE c2.symm (zLE c3.symm ?_)))))))
  refine zLE c4.symm (zLE c5.symm ?_)
  rfl
theorem yn25 {S : Nat → zSpc}  : ∀ x g o v gz, zSem uW uT w25_.2.2.2.1 w25_.2.2.1.1.length S q25 (fun i => q25a.getD i []) (zNA a25_) x g o v gz → sn25 x g o v gz := by
  intro a g o v gz h
  exact zSem_all (l0 := q25) (las := q25a) (S := S) (J := (fun _ _ _ => True)) (P := sn25 a g) (fun _ => (show zAll _ [q25_0] from (zAll_c (vn25_0 ) zAll_n))) (fun _ => (show zAllI _ 0 [] from trivial)) h
theorem vn26_0 {S : Nat → zSpc} (hS6 : zIm S 6 sn6) (hS7 : zIm S 7 sn7) (hS8 : zIm S 8 sn8) (hS10 : zIm S 10 sn10) (hS13 : zIm S 13 sn13) (hS17 : zIm S 17 sn17) (hS23 : zIm S 23 sn23) (hS25 : zIm S 25 sn25) {a : List Int} {g : rHp} : ∀ (ρ : Nat → Int) (γ : Nat → rHp), zO 13 S a g q26_0 ρ γ → zGl (fun _ _ _ => True) (sn26 a g) q26_0 ρ γ := by
  intro ρ γ h
  obtain ⟨ha, hg, hr, hf, hm, hc, hl⟩ := h
  have ha : a = [ρ 0, ρ 1, ρ 2, ρ 3, ρ 4, ρ 5, ρ 6, ρ 7, ρ 8, ρ 9, ρ 10, ρ 11, ρ 12] := ha
  subst ha
  subst hg
  have r5 : (0 : Int) ≤ ρ 5 ∧ ρ 5 ≤ 0 := zRnA hr 5
  have w_0 : ρ 5 ≤ 0 := by omega
  have m0 : γ 0 15 0 35 = ρ 0 := zAllA hm 0
  have m1 : γ 0 15 0 34 = ρ 1 := zAllA hm 1
  have m5 : γ 0 15 0 49 = ρ 5 := zAllA hm 5
  have c1 : γ 1 = rUp (γ 0) 15 0 35 (ρ 0 + 1) := And.right (zChA hc 1)
  have l0 : sn23 [ρ 0 + 1, ρ 1, ρ 7, ρ 8, ρ 9] (γ 1) 0 0 (γ 2) := hS23 _ _ _ _ _ (zAllA hl 0)
  show sn26 [ρ 0, ρ 1, ρ 2, ρ 3, ρ 4, ρ 5, ρ 6, ρ 7, ρ 8, ρ 9, ρ 10, ρ 11, ρ 12] (γ 0) 0 0 (γ 2)
  refine Eq.symm ?_
  show fn26 [] (γ 0) = _
  unfold fn26
  refine zLE m0 (zLE m1 (zLE m5 (zIP w_0 (zLE c1.symm (zLE (show fn23 [] (γ 1) = (0, 0, γ 2) from l0.symm) (zLV (γ 2) rfl (zIN zQ0_ ?_)))))))
  rfl
theorem vn26_1 {S : Nat → zSpc} (hS6 : zIm S 6 sn6) (hS7 : zIm S 7 sn7) (hS8 : zIm S 8 sn8) (hS10 : zIm S 10 sn10) (hS13 : zIm S 13 sn13) (hS17 : zIm S 17 sn17) (hS23 : zIm S 23 sn23) (hS25 : zIm S 25 sn25) {a : List Int} {g : rHp} : ∀ (ρ : Nat → Int) (γ : Nat → rHp), zO 13 S a g q26_1 ρ γ → zGl (fun _ _ _ => True) (sn26 a g) q26_1 ρ γ := by
  intro ρ γ h
  obtain ⟨ha, hg, hr, hf, hm, hc, hl⟩ := h
  have ha : a = [ρ 0, ρ 1, ρ 2, ρ 3, ρ 4, ρ 5, ρ 6, ρ 7, ρ 8, ρ 9, ρ 10, ρ 11, ρ 12] := ha
  subst ha
  subst hg
  have r5 : (0 : Int) ≤ ρ 5 ∧ ρ 5 ≤ 0 := zRnA hr 5
  have w_0 : ρ 5 ≤ 0 := by omega
  have m0 : γ 0 15 0 35 = ρ 0 := zAllA hm 0
  have m1 : γ 0 15 0 34 = ρ 1 := zAllA hm 1
  have m5 : γ 0 15 0 49 = ρ 5 := zAllA hm 5
  have m15 : γ 2 15 0 37 = ρ 14 := zAllA hm 15
  have c1 : γ 1 = rUp (γ 0) 15 0 35 (ρ 0 + 1) := And.right (zChA hc 7)
  have c7 : γ 7 = rUp (γ 6) 15 0 49 0 := And.right (zChA hc 1)
  have l0 : sn23 [ρ 0 + 1, ρ 1, ρ 7, ρ 8, ρ 9] (γ 1) 0 1 (γ 2) := hS23 _ _ _ _ _ (zAllA hl 0)
  have l1 : sn13 [99, 111, 117, 110, 116, ρ 14, ρ 15] (γ 2) 0 0 (γ 3) := hS13 _ _ _ _ _ (zAllA hl 1)
  have l2 : sn13 [115, 117, 109, 0, 0, ρ 14, ρ 15] (γ 3) 0 0 (γ 4) := hS13 _ _ _ _ _ (zAllA hl 2)
  have l3 : sn13 [109, 105, 110, 0, 0, ρ 14, ρ 15] (γ 4) 0 0 (γ 5) := hS13 _ _ _ _ _ (zAllA hl 3)
  have l4 : sn13 [109, 97, 120, 0, 0, ρ 14, ρ 15] (γ 5) 0 0 (γ 6) := hS13 _ _ _ _ _ (zAllA hl 4)
  have l5 : sn8 [ρ 14, ρ 1, ρ 7] (γ 7) 0 0 (γ 8) := hS8 _ _ _ _ _ (zAllA hl 5)
  show sn26 [ρ 0, ρ 1, ρ 2, ρ 3, ρ 4, ρ 5, ρ 6, ρ 7, ρ 8, ρ 9, ρ 10, ρ 11, ρ 12] (γ 0) 0 0 (γ 8)
  refine Eq.symm ?_
  show fn26 [] (γ 0) = _
  unfold fn26
  refine zLE m0 (zLE m1 (zLE m5 (zIP w_0 (zLE c1.symm (zLE (show fn23 [] (γ 1) = (0, 1, γ 2) from l0.symm) (zLV (γ 2) rfl (zIP zQ1_ ?_)))))))
  refine zLE m15 (zLE (show fn13 [99, 111, 117, 110, 116] (γ 2) = (0, 0, γ 3) from l1.symm) (zLV (γ 3) rfl (zIN zQ0_ (zLE (show fn13 [115, 117, 109, 0, 0] (γ 3) = (0, 0, γ 4) from l2.symm) (zLV (γ 4) rfl (zIN zQ0_ (zLE (show fn13 [109, 105, 110, 0, 0] (γ 4) = (0, 0, γ 5) from l3.symm) ?_)))))))
  refine zLV (γ 5) rfl (zIN zQ0_ (zLE (show fn13 [109, 97, 120, 0, 0] (γ 5) = (0, 0, γ 6) from l4.symm) (zLV (γ 6) rfl (zIN zQ0_ (zLE c7.symm (zLE (show fn8 [ρ 14] (γ 7) = (0, 0, γ 8) from l5.symm) (zLV (γ 8) rfl ?_)))))))
  rfl
theorem vn26_2 {S : Nat → zSpc} (hS6 : zIm S 6 sn6) (hS7 : zIm S 7 sn7) (hS8 : zIm S 8 sn8) (hS10 : zIm S 10 sn10) (hS13 : zIm S 13 sn13) (hS17 : zIm S 17 sn17) (hS23 : zIm S 23 sn23) (hS25 : zIm S 25 sn25) {a : List Int} {g : rHp} : ∀ (ρ : Nat → Int) (γ : Nat → rHp), zO 13 S a g q26_2 ρ γ → zGl (fun _ _ _ => True) (sn26 a g) q26_2 ρ γ := by
  intro ρ γ h
  obtain ⟨ha, hg, hr, hf, hm, hc, hl⟩ := h
  have ha : a = [ρ 0, ρ 1, ρ 2, ρ 3, ρ 4, ρ 5, ρ 6, ρ 7, ρ 8, ρ 9, ρ 10, ρ 11, ρ 12] := ha
  subst ha
  subst hg
  have r5 : (0 : Int) ≤ ρ 5 ∧ ρ 5 ≤ 0 := zRnA hr 5
  have f2 : (0 : Int) ≤ -ρ 16 + ρ 1 + (-1) := zAllA hf 2
  obtain ⟨w_0, w_1⟩ : (ρ 5 ≤ 0) ∧ (0 ≤ -ρ 16 + ρ 1 + (-1)) := ⟨by omega, by omega⟩
  have m0 : γ 0 15 0 35 = ρ 0 := zAllA hm 0
  have m1 : γ 0 15 0 34 = ρ 1 := zAllA hm 1
  have m5 : γ 0 15 0 49 = ρ 5 := zAllA hm 5
  have m15 : γ 2 15 0 37 = ρ 14 := zAllA hm 15
  have m17 : γ 8 15 0 35 = ρ 16 := zAllA hm 17
  have c1 : γ 1 = rUp (γ 0) 15 0 35 (ρ 0 + 1) := And.right (zChA hc 10)
  have c7 : γ 7 = rUp (γ 6) 15 0 49 4 := And.right (zChA hc 4)
  have l0 : sn23 [ρ 0 + 1, ρ 1, ρ 7, ρ 8, ρ 9] (γ 1) 0 1 (γ 2) := hS23 _ _ _ _ _ (zAllA hl 0)
  have l1 : sn13 [99, 111, 117, 110, 116, ρ 14, ρ 15] (γ 2) 0 0 (γ 3) := hS13 _ _ _ _ _ (zAllA hl 1)
  have l2 : sn13 [115, 117, 109, 0, 0, ρ 14, ρ 15] (γ 3) 0 0 (γ 4) := hS13 _ _ _ _ _ (zAllA hl 2)
  have l3 : sn13 [109, 105, 110, 0, 0, ρ 14, ρ 15] (γ 4) 0 0 (γ 5) := hS13 _ _ _ _ _ (zAllA hl 3)
  have l4 : sn13 [109, 97, 120, 0, 0, ρ 14, ρ 15] (γ 5) 0 1 (γ 6) := hS13 _ _ _ _ _ (zAllA hl 4)
  have l5 : sn7 [ρ 13, ρ 1] (γ 7) 0 0 (γ 8) := hS7 _ _ _ _ _ (zAllA hl 5)
  have l6 : sn6 [ρ 16, ρ 1] (γ 8) 0 (ρ 17) (γ 9) := hS6 _ _ _ _ _ (zAllA hl 6)
  have l7 : sn10 [ρ 17] (γ 9) 0 0 (γ 10) := hS10 _ _ _ _ _ (zAllA hl 7)
  have l8 : sn8 [ρ 16, ρ 1, ρ 7] (γ 10) 0 0 (γ 11) := hS8 _ _ _ _ _ (zAllA hl 8)
  show sn26 [ρ 0, ρ 1, ρ 2, ρ 3, ρ 4, ρ 5, ρ 6, ρ 7, ρ 8, ρ 9, ρ 10, ρ 11, ρ 12] (γ 0) 0 0 (γ 11)
  refine Eq.symm ?_
  show fn26 [] (γ 0) = _
  unfold fn26
  refine zLE m0 (zLE m1 (zLE m5 (zIP w_0 (zLE c1.symm (zLE (show fn23 [] (γ 1) = (0, 1, γ 2) from l0.symm) (zLV (γ 2) rfl (zIP zQ1_ ?_)))))))
  refine zLE m15 (zLE (show fn13 [99, 111, 117, 110, 116] (γ 2) = (0, 0, γ 3) from l1.symm) (zLV (γ 3) rfl (zIN zQ0_ (zLE (show fn13 [115, 117, 109, 0, 0] (γ 3) = (0, 0, γ 4) from l2.symm) (zLV (γ 4) rfl (zIN zQ0_ (zLE (show fn13 [109, 105, 110, 0, 0] (γ 4) = (0, 0, γ 5) from l3.symm) ?_)))))))
  refine zLV (γ 5) rfl (zIN zQ0_ (zLE (show fn13 [109, 97, 120, 0, 0] (γ 5) = (0, 1, γ 6) from l4.symm) (zLV (γ 6) rfl (zIP zQ1_ (zLE c7.symm (zLE (show fn7 [] (γ 7) = (0, 0, γ 8) from l5.symm) (zLV (γ 8) rfl ?_)))))))
  refine zLE m17 (zLE (show fn6 [ρ 16] (γ 8) = (0, ρ 17, γ 9) from l6.symm) (zLV (γ 9) rfl (zIP w_1 (zLV (ρ 17) rfl (zLE (show fn10 [ρ 17] (γ 9) = (0, 0, γ 10) from l7.symm) (zLV (γ 10) rfl (zIN zQ0_ ?_)))))))
  refine zLE (show fn8 [ρ 16] (γ 10) = (0, 0, γ 11) from l8.symm) (zLV (γ 11) rfl ?_)
  rfl
theorem vn26_3 {S : Nat → zSpc} (hS6 : zIm S 6 sn6) (hS7 : zIm S 7 sn7) (hS8 : zIm S 8 sn8) (hS10 : zIm S 10 sn10) (hS13 : zIm S 13 sn13) (hS17 : zIm S 17 sn17) (hS23 : zIm S 23 sn23) (hS25 : zIm S 25 sn25) {a : List Int} {g : rHp} : ∀ (ρ : Nat → Int) (γ : Nat → rHp), zO 13 S a g q26_3 ρ γ → zGl (fun _ _ _ => True) (sn26 a g) q26_3 ρ γ := by
  intro ρ γ h
  obtain ⟨ha, hg, hr, hf, hm, hc, hl⟩ := h
  have ha : a = [ρ 0, ρ 1, ρ 2, ρ 3, ρ 4, ρ 5, ρ 6, ρ 7, ρ 8, ρ 9, ρ 10, ρ 11, ρ 12] := ha
  subst ha
  subst hg
  have r5 : (0 : Int) ≤ ρ 5 ∧ ρ 5 ≤ 0 := zRnA hr 5
  have f0 : (0 : Int) ≤ -ρ 16 + ρ 1 + (-1) := zAllA hf 0
  obtain ⟨w_0, w_1⟩ : (ρ 5 ≤ 0) ∧ (0 ≤ -ρ 16 + ρ 1 + (-1)) := ⟨by omega, by omega⟩
  have m0 : γ 0 15 0 35 = ρ 0 := zAllA hm 0
  have m1 : γ 0 15 0 34 = ρ 1 := zAllA hm 1
  have m5 : γ 0 15 0 49 = ρ 5 := zAllA hm 5
  have m15 : γ 2 15 0 37 = ρ 14 := zAllA hm 15
  have m17 : γ 8 15 0 35 = ρ 16 := zAllA hm 17
  have c1 : γ 1 = rUp (γ 0) 15 0 35 (ρ 0 + 1) := And.right (zChA hc 10)
  have c7 : γ 7 = rUp (γ 6) 15 0 49 4 := And.right (zChA hc 4)
  have l0 : sn23 [ρ 0 + 1, ρ 1, ρ 7, ρ 8, ρ 9] (γ 1) 0 1 (γ 2) := hS23 _ _ _ _ _ (zAllA hl 0)
  have l1 : sn13 [99, 111, 117, 110, 116, ρ 14, ρ 15] (γ 2) 0 0 (γ 3) := hS13 _ _ _ _ _ (zAllA hl 1)
  have l2 : sn13 [115, 117, 109, 0, 0, ρ 14, ρ 15] (γ 3) 0 0 (γ 4) := hS13 _ _ _ _ _ (zAllA hl 2)
  have l3 : sn13 [109, 105, 110, 0, 0, ρ 14, ρ 15] (γ 4) 0 0 (γ 5) := hS13 _ _ _ _ _ (zAllA hl 3)
  have l4 : sn13 [109, 97, 120, 0, 0, ρ 14, ρ 15] (γ 5) 0 1 (γ 6) := hS13 _ _ _ _ _ (zAllA hl 4)
  have l5 : sn7 [ρ 13, ρ 1] (γ 7) 0 0 (γ 8) := hS7 _ _ _ _ _ (zAllA hl 5)
  have l6 : sn6 [ρ 16, ρ 1] (γ 8) 0 (ρ 17) (γ 9) := hS6 _ _ _ _ _ (zAllA hl 6)
  have l7 : sn10 [ρ 17] (γ 9) 0 1 (γ 10) := hS10 _ _ _ _ _ (zAllA hl 7)
  have l8 : sn17 [ρ 16, ρ 1, ρ 18, ρ 10, ρ 7, ρ 14, ρ 15, ρ 11, ρ 19] (γ 10) 0 0 (γ 11) := hS17 _ _ _ _ _ (zAllA hl 8)
  show sn26 [ρ 0, ρ 1, ρ 2, ρ 3, ρ 4, ρ 5, ρ 6, ρ 7, ρ 8, ρ 9, ρ 10, ρ 11, ρ 12] (γ 0) 0 0 (γ 11)
  refine Eq.symm ?_
  show fn26 [] (γ 0) = _
  unfold fn26
  refine zLE m0 (zLE m1 (zLE m5 (zIP w_0 (zLE c1.symm (zLE (show fn23 [] (γ 1) = (0, 1, γ 2) from l0.symm) (zLV (γ 2) rfl (zIP zQ1_ ?_)))))))
  refine zLE m15 (zLE (show fn13 [99, 111, 117, 110, 116] (γ 2) = (0, 0, γ 3) from l1.symm) (zLV (γ 3) rfl (zIN zQ0_ (zLE (show fn13 [115, 117, 109, 0, 0] (γ 3) = (0, 0, γ 4) from l2.symm) (zLV (γ 4) rfl (zIN zQ0_ (zLE (show fn13 [109, 105, 110, 0, 0] (γ 4) = (0, 0, γ 5) from l3.symm) ?_)))))))
  refine zLV (γ 5) rfl (zIN zQ0_ (zLE (show fn13 [109, 97, 120, 0, 0] (γ 5) = (0, 1, γ 6) from l4.symm) (zLV (γ 6) rfl (zIP zQ1_ (zLE c7.symm (zLE (show fn7 [] (γ 7) = (0, 0, γ 8) from l5.symm) (zLV (γ 8) rfl ?_)))))))
  refine zLE m17 (zLE (show fn6 [ρ 16] (γ 8) = (0, ρ 17, γ 9) from l6.symm) (zLV (γ 9) rfl (zIP w_1 (zLV (ρ 17) rfl (zLE (show fn10 [ρ 17] (γ 9) = (0, 1, γ 10) from l7.symm) (zLV (γ 10) rfl (zIP zQ1_ ?_)))))))
  refine zLE (show fn17 [] (γ 10) = (0, 0, γ 11) from l8.symm) (zLV (γ 11) rfl (zIN zQ0_ ?_))
  rfl
theorem vn26_4 {S : Nat → zSpc} (hS6 : zIm S 6 sn6) (hS7 : zIm S 7 sn7) (hS8 : zIm S 8 sn8) (hS10 : zIm S 10 sn10) (hS13 : zIm S 13 sn13) (hS17 : zIm S 17 sn17) (hS23 : zIm S 23 sn23) (hS25 : zIm S 25 sn25) {a : List Int} {g : rHp} : ∀ (ρ : Nat → Int) (γ : Nat → rHp), zO 13 S a g q26_4 ρ γ → zGl (fun _ _ _ => True) (sn26 a g) q26_4 ρ γ := by
  intro ρ γ h
  obtain ⟨ha, hg, hr, hf, hm, hc, hl⟩ := h
  have ha : a = [ρ 0, ρ 1, ρ 2, ρ 3, ρ 4, ρ 5, ρ 6, ρ 7, ρ 8, ρ 9, ρ 10, ρ 11, ρ 12] := ha
  subst ha
  subst hg
  have r5 : (0 : Int) ≤ ρ 5 ∧ ρ 5 ≤ 0 := zRnA hr 5
  have f0 : (0 : Int) ≤ -ρ 16 + ρ 1 + (-1) := zAllA hf 0
  obtain ⟨w_0, w_1⟩ : (ρ 5 ≤ 0) ∧ (0 ≤ -ρ 16 + ρ 1 + (-1)) := ⟨by omega, by omega⟩
  have m0 : γ 0 15 0 35 = ρ 0 := zAllA hm 0
  have m1 : γ 0 15 0 34 = ρ 1 := zAllA hm 1
  have m5 : γ 0 15 0 49 = ρ 5 := zAllA hm 5
  have m15 : γ 2 15 0 37 = ρ 14 := zAllA hm 15
  have m17 : γ 8 15 0 35 = ρ 16 := zAllA hm 17
  have m21 : γ 11 15 0 39 = ρ 21 := zAllA hm 21
  have c1 : γ 1 = rUp (γ 0) 15 0 35 (ρ 0 + 1) := And.right (zChA hc 14)
  have c7 : γ 7 = rUp (γ 6) 15 0 49 4 := And.right (zChA hc 8)
  have c12 : γ 12 = rUp (γ 11) 15 0 50 (ρ 21) := And.right (zChA hc 3)
  have c14 : γ 14 = rUp (γ 13) 15 0 40 3 := And.right (zChA hc 1)
  have c15 : γ 15 = rUp (γ 14) 15 0 39 0 := And.right (zChA hc 0)
  have l0 : sn23 [ρ 0 + 1, ρ 1, ρ 7, ρ 8, ρ 9] (γ 1) 0 1 (γ 2) := hS23 _ _ _ _ _ (zAllA hl 0)
  have l1 : sn13 [99, 111, 117, 110, 116, ρ 14, ρ 15] (γ 2) 0 0 (γ 3) := hS13 _ _ _ _ _ (zAllA hl 1)
  have l2 : sn13 [115, 117, 109, 0, 0, ρ 14, ρ 15] (γ 3) 0 0 (γ 4) := hS13 _ _ _ _ _ (zAllA hl 2)
  have l3 : sn13 [109, 105, 110, 0, 0, ρ 14, ρ 15] (γ 4) 0 0 (γ 5) := hS13 _ _ _ _ _ (zAllA hl 3)
  have l4 : sn13 [109, 97, 120, 0, 0, ρ 14, ρ 15] (γ 5) 0 1 (γ 6) := hS13 _ _ _ _ _ (zAllA hl 4)
  have l5 : sn7 [ρ 13, ρ 1] (γ 7) 0 0 (γ 8) := hS7 _ _ _ _ _ (zAllA hl 5)
  have l6 : sn6 [ρ 16, ρ 1] (γ 8) 0 (ρ 17) (γ 9) := hS6 _ _ _ _ _ (zAllA hl 6)
  have l7 : sn10 [ρ 17] (γ 9) 0 1 (γ 10) := hS10 _ _ _ _ _ (zAllA hl 7)
  have l8 : sn17 [ρ 16, ρ 1, ρ 18, ρ 10, ρ 7, ρ 14, ρ 15, ρ 11, ρ 19] (γ 10) 0 1 (γ 11) := hS17 _ _ _ _ _ (zAllA hl 8)
  have l9 : sn25 [ρ 16, ρ 21, 0, ρ 4, ρ 12] (γ 12) 0 0 (γ 13) := hS25 _ _ _ _ _ (zAllA hl 9)
  show sn26 [ρ 0, ρ 1, ρ 2, ρ 3, ρ 4, ρ 5, ρ 6, ρ 7, ρ 8, ρ 9, ρ 10, ρ 11, ρ 12] (γ 0) 0 1 (γ 15)
  refine Eq.symm ?_
  show fn26 [] (γ 0) = _
  unfold fn26
  refine zLE m0 (zLE m1 (zLE m5 (zIP w_0 (zLE c1.symm (zLE (show fn23 [] (γ 1) = (0, 1, γ 2) from l0.symm) (zLV (γ 2) rfl (zIP zQ1_ ?_)))))))
  refine zLE m15 (zLE (show fn13 [99, 111, 117, 110, 116] (γ 2) = (0, 0, γ 3) from l1.symm) (zLV (γ 3) rfl (zIN zQ0_ (zLE (show fn13 [115, 117, 109, 0, 0] (γ 3) = (0, 0, γ 4) from l2.symm) (zLV (γ 4) rfl (zIN zQ0_ (zLE (show fn13 [109, 105, 110, 0, 0] (γ 4) = (0, 0, γ 5) from l3.symm) ?_)))))))
  refine zLV (γ 5) rfl (zIN zQ0_ (zLE (show fn13 [109, 97, 120, 0, 0] (γ 5) = (0, 1, γ 6) from l4.symm) (zLV (γ 6) rfl (zIP zQ1_ (zLE c7.symm (zLE (show fn7 [] (γ 7) = (0, 0, γ 8) from l5.symm) (zLV (γ 8) rfl ?_)))))))
  refine zLE m17 (zLE (show fn6 [ρ 16] (γ 8) = (0, ρ 17, γ 9) from l6.symm) (zLV (γ 9) rfl (zIP w_1 (zLV (ρ 17) rfl (zLE (show fn10 [ρ 17] (γ 9) = (0, 1, γ 10) from l7.symm) (zLV (γ 10) rfl (zIP zQ1_ ?_)))))))
  refine zLE (show fn17 [] (γ 10) = (0, 1, γ 11) from l8.symm) (zLV (γ 11) rfl (zIP zQ1_ (zLE m21 (zLE c12.symm (zLE (show fn25 [ρ 16, ρ 21, 0] (γ 12) = (0, 0, γ 13) from l9.symm) (zLV (γ 13) rfl (zLE c14.symm ?_)))))))
  refine zLE c15.symm ?_
  rfl
theorem vn26_5 {S : Nat → zSpc} (hS6 : zIm S 6 sn6) (hS7 : zIm S 7 sn7) (hS8 : zIm S 8 sn8) (hS10 : zIm S 10 sn10) (hS13 : zIm S 13 sn13) (hS17 : zIm S 17 sn17) (hS23 : zIm S 23 sn23) (hS25 : zIm S 25 sn25) {a : List Int} {g : rHp} : ∀ (ρ : Nat → Int) (γ : Nat → rHp), zO 13 S a g q26_5 ρ γ → zGl (fun _ _ _ => True) (sn26 a g) q26_5 ρ γ := by
  intro ρ γ h
  obtain ⟨ha, hg, hr, hf, hm, hc, hl⟩ := h
  have ha : a = [ρ 0, ρ 1, ρ 2, ρ 3, ρ 4, ρ 5, ρ 6, ρ 7, ρ 8, ρ 9, ρ 10, ρ 11, ρ 12] := ha
  subst ha
  subst hg
  have r5 : (0 : Int) ≤ ρ 5 ∧ ρ 5 ≤ 0 := zRnA hr 5
  have f2 : (0 : Int) ≤ ρ 16 + -ρ 1 := zAllA hf 2
  obtain ⟨w_0, w_1⟩ : (ρ 5 ≤ 0) ∧ (¬ (0 ≤ -ρ 16 + ρ 1 + (-1))) := ⟨by omega, by omega⟩
  have m0 : γ 0 15 0 35 = ρ 0 := zAllA hm 0
  have m1 : γ 0 15 0 34 = ρ 1 := zAllA hm 1
  have m5 : γ 0 15 0 49 = ρ 5 := zAllA hm 5
  have m15 : γ 2 15 0 37 = ρ 14 := zAllA hm 15
  have m17 : γ 8 15 0 35 = ρ 16 := zAllA hm 17
  have c1 : γ 1 = rUp (γ 0) 15 0 35 (ρ 0 + 1) := And.right (zChA hc 10)
  have c7 : γ 7 = rUp (γ 6) 15 0 49 4 := And.right (zChA hc 4)
  have l0 : sn23 [ρ 0 + 1, ρ 1, ρ 7, ρ 8, ρ 9] (γ 1) 0 1 (γ 2) := hS23 _ _ _ _ _ (zAllA hl 0)
  have l1 : sn13 [99, 111, 117, 110, 116, ρ 14, ρ 15] (γ 2) 0 0 (γ 3) := hS13 _ _ _ _ _ (zAllA hl 1)
  have l2 : sn13 [115, 117, 109, 0, 0, ρ 14, ρ 15] (γ 3) 0 0 (γ 4) := hS13 _ _ _ _ _ (zAllA hl 2)
  have l3 : sn13 [109, 105, 110, 0, 0, ρ 14, ρ 15] (γ 4) 0 0 (γ 5) := hS13 _ _ _ _ _ (zAllA hl 3)
  have l4 : sn13 [109, 97, 120, 0, 0, ρ 14, ρ 15] (γ 5) 0 1 (γ 6) := hS13 _ _ _ _ _ (zAllA hl 4)
  have l5 : sn7 [ρ 13, ρ 1] (γ 7) 0 0 (γ 8) := hS7 _ _ _ _ _ (zAllA hl 5)
  have l6 : sn6 [ρ 16, ρ 1] (γ 8) 0 (-1) (γ 9) := hS6 _ _ _ _ _ (zAllA hl 6)
  have l7 : sn10 [(-1)] (γ 9) 0 0 (γ 10) := hS10 _ _ _ _ _ (zAllA hl 7)
  have l8 : sn8 [ρ 16, ρ 1, ρ 7] (γ 10) 0 0 (γ 11) := hS8 _ _ _ _ _ (zAllA hl 8)
  show sn26 [ρ 0, ρ 1, ρ 2, ρ 3, ρ 4, ρ 5, ρ 6, ρ 7, ρ 8, ρ 9, ρ 10, ρ 11, ρ 12] (γ 0) 0 0 (γ 11)
  refine Eq.symm ?_
  show fn26 [] (γ 0) = _
  unfold fn26
  refine zLE m0 (zLE m1 (zLE m5 (zIP w_0 (zLE c1.symm (zLE (show fn23 [] (γ 1) = (0, 1, γ 2) from l0.symm) (zLV (γ 2) rfl (zIP zQ1_ ?_)))))))
  refine zLE m15 (zLE (show fn13 [99, 111, 117, 110, 116] (γ 2) = (0, 0, γ 3) from l1.symm) (zLV (γ 3) rfl (zIN zQ0_ (zLE (show fn13 [115, 117, 109, 0, 0] (γ 3) = (0, 0, γ 4) from l2.symm) (zLV (γ 4) rfl (zIN zQ0_ (zLE (show fn13 [109, 105, 110, 0, 0] (γ 4) = (0, 0, γ 5) from l3.symm) ?_)))))))
  refine zLV (γ 5) rfl (zIN zQ0_ (zLE (show fn13 [109, 97, 120, 0, 0] (γ 5) = (0, 1, γ 6) from l4.symm) (zLV (γ 6) rfl (zIP zQ1_ (zLE c7.symm (zLE (show fn7 [] (γ 7) = (0, 0, γ 8) from l5.symm) (zLV (γ 8) rfl ?_)))))))
  refine zLE m17 (zLE (show fn6 [ρ 16] (γ 8) = (0, (-1), γ 9) from l6.symm) (zLV (γ 9) rfl (zIN w_1 (zLE (show fn10 [(-1)] (γ 9) = (0, 0, γ 10) from l7.symm) (zLV (γ 10) rfl (zLE (show fn8 [ρ 16] (γ 10) = (0, 0, γ 11) from l8.symm) (zLV (γ 11) rfl ?_)))))))
  rfl
theorem vn26_6 {S : Nat → zSpc} (hS6 : zIm S 6 sn6) (hS7 : zIm S 7 sn7) (hS8 : zIm S 8 sn8) (hS10 : zIm S 10 sn10) (hS13 : zIm S 13 sn13) (hS17 : zIm S 17 sn17) (hS23 : zIm S 23 sn23) (hS25 : zIm S 25 sn25) {a : List Int} {g : rHp} : ∀ (ρ : Nat → Int) (γ : Nat → rHp), zO 13 S a g q26_6 ρ γ → zGl (fun _ _ _ => True) (sn26 a g) q26_6 ρ γ := by
  intro ρ γ h
  obtain ⟨ha, hg, hr, hf, hm, hc, hl⟩ := h
  have ha : a = [ρ 0, ρ 1, ρ 2, ρ 3, ρ 4, ρ 5, ρ 6, ρ 7, ρ 8, ρ 9, ρ 10, ρ 11, ρ 12] := ha
  subst ha
  subst hg
  have r5 : (0 : Int) ≤ ρ 5 ∧ ρ 5 ≤ 0 := zRnA hr 5
  have f2 : (0 : Int) ≤ -ρ 16 + ρ 1 + (-1) := zAllA hf 2
  obtain ⟨w_0, w_1⟩ : (ρ 5 ≤ 0) ∧ (0 ≤ -ρ 16 + ρ 1 + (-1)) := ⟨by omega, by omega⟩
  have m0 : γ 0 15 0 35 = ρ 0 := zAllA hm 0
  have m1 : γ 0 15 0 34 = ρ 1 := zAllA hm 1
  have m5 : γ 0 15 0 49 = ρ 5 := zAllA hm 5
  have m15 : γ 2 15 0 37 = ρ 14 := zAllA hm 15
  have m17 : γ 7 15 0 35 = ρ 16 := zAllA hm 17
  have c1 : γ 1 = rUp (γ 0) 15 0 35 (ρ 0 + 1) := And.right (zChA hc 9)
  have c6 : γ 6 = rUp (γ 5) 15 0 49 3 := And.right (zChA hc 4)
  have l0 : sn23 [ρ 0 + 1, ρ 1, ρ 7, ρ 8, ρ 9] (γ 1) 0 1 (γ 2) := hS23 _ _ _ _ _ (zAllA hl 0)
  have l1 : sn13 [99, 111, 117, 110, 116, ρ 14, ρ 15] (γ 2) 0 0 (γ 3) := hS13 _ _ _ _ _ (zAllA hl 1)
  have l2 : sn13 [115, 117, 109, 0, 0, ρ 14, ρ 15] (γ 3) 0 0 (γ 4) := hS13 _ _ _ _ _ (zAllA hl 2)
  have l3 : sn13 [109, 105, 110, 0, 0, ρ 14, ρ 15] (γ 4) 0 1 (γ 5) := hS13 _ _ _ _ _ (zAllA hl 3)
  have l4 : sn7 [ρ 13, ρ 1] (γ 6) 0 0 (γ 7) := hS7 _ _ _ _ _ (zAllA hl 4)
  have l5 : sn6 [ρ 16, ρ 1] (γ 7) 0 (ρ 17) (γ 8) := hS6 _ _ _ _ _ (zAllA hl 5)
  have l6 : sn10 [ρ 17] (γ 8) 0 0 (γ 9) := hS10 _ _ _ _ _ (zAllA hl 6)
  have l7 : sn8 [ρ 16, ρ 1, ρ 7] (γ 9) 0 0 (γ 10) := hS8 _ _ _ _ _ (zAllA hl 7)
  show sn26 [ρ 0, ρ 1, ρ 2, ρ 3, ρ 4, ρ 5, ρ 6, ρ 7, ρ 8, ρ 9, ρ 10, ρ 11, ρ 12] (γ 0) 0 0 (γ 10)
  refine Eq.symm ?_
  show fn26 [] (γ 0) = _
  unfold fn26
  refine zLE m0 (zLE m1 (zLE m5 (zIP w_0 (zLE c1.symm (zLE (show fn23 [] (γ 1) = (0, 1, γ 2) from l0.symm) (zLV (γ 2) rfl (zIP zQ1_ ?_)))))))
  refine zLE m15 (zLE (show fn13 [99, 111, 117, 110, 116] (γ 2) = (0, 0, γ 3) from l1.symm) (zLV (γ 3) rfl (zIN zQ0_ (zLE (show fn13 [115, 117, 109, 0, 0] (γ 3) = (0, 0, γ 4) from l2.symm) (zLV (γ 4) rfl (zIN zQ0_ (zLE (show fn13 [109, 105, 110, 0, 0] (γ 4) = (0, 1, γ 5) from l3.symm) ?_)))))))
  refine zLV (γ 5) rfl (zIP zQ1_ (zLE c6.symm (zLE (show fn7 [] (γ 6) = (0, 0, γ 7) from l4.symm) (zLV (γ 7) rfl (zLE m17 (zLE (show fn6 [ρ 16] (γ 7) = (0, ρ 17, γ 8) from l5.symm) (zLV (γ 8) rfl ?_)))))))
  refine zIP w_1 (zLV (ρ 17) rfl (zLE (show fn10 [ρ 17] (γ 8) = (0, 0, γ 9) from l6.symm) (zLV (γ 9) rfl (zIN zQ0_ (zLE (show fn8 [ρ 16] (γ 9) = (0, 0, γ 10) from l7.symm) (zLV (γ 10) rfl ?_))))))
  rfl
theorem vn26_7 {S : Nat → zSpc} (hS6 : zIm S 6 sn6) (hS7 : zIm S 7 sn7) (hS8 : zIm S 8 sn8) (hS10 : zIm S 10 sn10) (hS13 : zIm S 13 sn13) (hS17 : zIm S 17 sn17) (hS23 : zIm S 23 sn23) (hS25 : zIm S 25 sn25) {a : List Int} {g : rHp} : ∀ (ρ : Nat → Int) (γ : Nat → rHp), zO 13 S a g q26_7 ρ γ → zGl (fun _ _ _ => True) (sn26 a g) q26_7 ρ γ := by
  intro ρ γ h
  obtain ⟨ha, hg, hr, hf, hm, hc, hl⟩ := h
  have ha : a = [ρ 0, ρ 1, ρ 2, ρ 3, ρ 4, ρ 5, ρ 6, ρ 7, ρ 8, ρ 9, ρ 10, ρ 11, ρ 12] := ha
  subst ha
  subst hg
  have r5 : (0 : Int) ≤ ρ 5 ∧ ρ 5 ≤ 0 := zRnA hr 5
  have f0 : (0 : Int) ≤ -ρ 16 + ρ 1 + (-1) := zAllA hf 0
  obtain ⟨w_0, w_1⟩ : (ρ 5 ≤ 0) ∧ (0 ≤ -ρ 16 + ρ 1 + (-1)) := ⟨by omega, by omega⟩
  have m0 : γ 0 15 0 35 = ρ 0 := zAllA hm 0
  have m1 : γ 0 15 0 34 = ρ 1 := zAllA hm 1
  have m5 : γ 0 15 0 49 = ρ 5 := zAllA hm 5
  have m15 : γ 2 15 0 37 = ρ 14 := zAllA hm 15
  have m17 : γ 7 15 0 35 = ρ 16 := zAllA hm 17
  have c1 : γ 1 = rUp (γ 0) 15 0 35 (ρ 0 + 1) := And.right (zChA hc 9)
  have c6 : γ 6 = rUp (γ 5) 15 0 49 3 := And.right (zChA hc 4)
  have l0 : sn23 [ρ 0 + 1, ρ 1, ρ 7, ρ 8, ρ 9] (γ 1) 0 1 (γ 2) := hS23 _ _ _ _ _ (zAllA hl 0)
  have l1 : sn13 [99, 111, 117, 110, 116, ρ 14, ρ 15] (γ 2) 0 0 (γ 3) := hS13 _ _ _ _ _ (zAllA hl 1)
  have l2 : sn13 [115, 117, 109, 0, 0, ρ 14, ρ 15] (γ 3) 0 0 (γ 4) := hS13 _ _ _ _ _ (zAllA hl 2)
  have l3 : sn13 [109, 105, 110, 0, 0, ρ 14, ρ 15] (γ 4) 0 1 (γ 5) := hS13 _ _ _ _ _ (zAllA hl 3)
  have l4 : sn7 [ρ 13, ρ 1] (γ 6) 0 0 (γ 7) := hS7 _ _ _ _ _ (zAllA hl 4)
  have l5 : sn6 [ρ 16, ρ 1] (γ 7) 0 (ρ 17) (γ 8) := hS6 _ _ _ _ _ (zAllA hl 5)
  have l6 : sn10 [ρ 17] (γ 8) 0 1 (γ 9) := hS10 _ _ _ _ _ (zAllA hl 6)
  have l7 : sn17 [ρ 16, ρ 1, ρ 18, ρ 10, ρ 7, ρ 14, ρ 15, ρ 11, ρ 19] (γ 9) 0 0 (γ 10) := hS17 _ _ _ _ _ (zAllA hl 7)
  show sn26 [ρ 0, ρ 1, ρ 2, ρ 3, ρ 4, ρ 5, ρ 6, ρ 7, ρ 8, ρ 9, ρ 10, ρ 11, ρ 12] (γ 0) 0 0 (γ 10)
  refine Eq.symm ?_
  show fn26 [] (γ 0) = _
  unfold fn26
  refine zLE m0 (zLE m1 (zLE m5 (zIP w_0 (zLE c1.symm (zLE (show fn23 [] (γ 1) = (0, 1, γ 2) from l0.symm) (zLV (γ 2) rfl (zIP zQ1_ ?_)))))))
  refine zLE m15 (zLE (show fn13 [99, 111, 117, 110, 116] (γ 2) = (0, 0, γ 3) from l1.symm) (zLV (γ 3) rfl (zIN zQ0_ (zLE (show fn13 [115, 117, 109, 0, 0] (γ 3) = (0, 0, γ 4) from l2.symm) (zLV (γ 4) rfl (zIN zQ0_ (zLE (show fn13 [109, 105, 110, 0, 0] (γ 4) = (0, 1, γ 5) from l3.symm) ?_)))))))
  refine zLV (γ 5) rfl (zIP zQ1_ (zLE c6.symm (zLE (show fn7 [] (γ 6) = (0, 0, γ 7) from l4.symm) (zLV (γ 7) rfl (zLE m17 (zLE (show fn6 [ρ 16] (γ 7) = (0, ρ 17, γ 8) from l5.symm) (zLV (γ 8) rfl ?_)))))))
  refine zIP w_1 (zLV (ρ 17) rfl (zLE (show fn10 [ρ 17] (γ 8) = (0, 1, γ 9) from l6.symm) (zLV (γ 9) rfl (zIP zQ1_ (zLE (show fn17 [] (γ 9) = (0, 0, γ 10) from l7.symm) (zLV (γ 10) rfl (zIN zQ0_ ?_)))))))
  rfl
theorem vn26_8 {S : Nat → zSpc} (hS6 : zIm S 6 sn6) (hS7 : zIm S 7 sn7) (hS8 : zIm S 8 sn8) (hS10 : zIm S 10 sn10) (hS13 : zIm S 13 sn13) (hS17 : zIm S 17 sn17) (hS23 : zIm S 23 sn23) (hS25 : zIm S 25 sn25) {a : List Int} {g : rHp} : ∀ (ρ : Nat → Int) (γ : Nat → rHp), zO 13 S a g q26_8 ρ γ → zGl (fun _ _ _ => True) (sn26 a g) q26_8 ρ γ := by
  intro ρ γ h
  obtain ⟨ha, hg, hr, hf, hm, hc, hl⟩ := h
  have ha : a = [ρ 0, ρ 1, ρ 2, ρ 3, ρ 4, ρ 5, ρ 6, ρ 7, ρ 8, ρ 9, ρ 10, ρ 11, ρ 12] := ha
  subst ha
  subst hg
  have r5 : (0 : Int) ≤ ρ 5 ∧ ρ 5 ≤ 0 := zRnA hr 5
  have f0 : (0 : Int) ≤ -ρ 16 + ρ 1 + (-1) := zAllA hf 0
  obtain ⟨w_0, w_1⟩ : (ρ 5 ≤ 0) ∧ (0 ≤ -ρ 16 + ρ 1 + (-1)) := ⟨by omega, by omega⟩
  have m0 : γ 0 15 0 35 = ρ 0 := zAllA hm 0
  have m1 : γ 0 15 0 34 = ρ 1 := zAllA hm 1
  have m5 : γ 0 15 0 49 = ρ 5 := zAllA hm 5
  have m15 : γ 2 15 0 37 = ρ 14 := zAllA hm 15
  have m17 : γ 7 15 0 35 = ρ 16 := zAllA hm 17
  have m21 : γ 10 15 0 39 = ρ 21 := zAllA hm 21
  have c1 : γ 1 = rUp (γ 0) 15 0 35 (ρ 0 + 1) := And.right (zChA hc 13)
  have c6 : γ 6 = rUp (γ 5) 15 0 49 3 := And.right (zChA hc 8)
  have c11 : γ 11 = rUp (γ 10) 15 0 50 (ρ 21) := And.right (zChA hc 3)
  have c13 : γ 13 = rUp (γ 12) 15 0 40 3 := And.right (zChA hc 1)
  have c14 : γ 14 = rUp (γ 13) 15 0 39 0 := And.right (zChA hc 0)
  have l0 : sn23 [ρ 0 + 1, ρ 1, ρ 7, ρ 8, ρ 9] (γ 1) 0 1 (γ 2) := hS23 _ _ _ _ _ (zAllA hl 0)
  have l1 : sn13 [99, 111, 117, 110, 116, ρ 14, ρ 15] (γ 2) 0 0 (γ 3) := hS13 _ _ _ _ _ (zAllA hl 1)
  have l2 : sn13 [115, 117, 109, 0, 0, ρ 14, ρ 15] (γ 3) 0 0 (γ 4) := hS13 _ _ _ _ _ (zAllA hl 2)
  have l3 : sn13 [109, 105, 110, 0, 0, ρ 14, ρ 15] (γ 4) 0 1 (γ 5) := hS13 _ _ _ _ _ (zAllA hl 3)
  have l4 : sn7 [ρ 13, ρ 1] (γ 6) 0 0 (γ 7) := hS7 _ _ _ _ _ (zAllA hl 4)
  have l5 : sn6 [ρ 16, ρ 1] (γ 7) 0 (ρ 17) (γ 8) := hS6 _ _ _ _ _ (zAllA hl 5)
  have l6 : sn10 [ρ 17] (γ 8) 0 1 (γ 9) := hS10 _ _ _ _ _ (zAllA hl 6)
  have l7 : sn17 [ρ 16, ρ 1, ρ 18, ρ 10, ρ 7, ρ 14, ρ 15, ρ 11, ρ 19] (γ 9) 0 1 (γ 10) := hS17 _ _ _ _ _ (zAllA hl 7)
  have l8 : sn25 [ρ 16, ρ 21, 0, ρ 4, ρ 12] (γ 11) 0 0 (γ 12) := hS25 _ _ _ _ _ (zAllA hl 8)
  show sn26 [ρ 0, ρ 1, ρ 2, ρ 3, ρ 4, ρ 5, ρ 6, ρ 7, ρ 8, ρ 9, ρ 10, ρ 11, ρ 12] (γ 0) 0 1 (γ 14)
  refine Eq.symm ?_
  show fn26 [] (γ 0) = _
  unfold fn26
  refine zLE m0 (zLE m1 (zLE m5 (zIP w_0 (zLE c1.symm (zLE (show fn23 [] (γ 1) = (0, 1, γ 2) from l0.symm) (zLV (γ 2) rfl (zIP zQ1_ ?_)))))))
  refine zLE m15 (zLE (show fn13 [99, 111, 117, 110, 116] (γ 2) = (0, 0, γ 3) from l1.symm) (zLV (γ 3) rfl (zIN zQ0_ (zLE (show fn13 [115, 117, 109, 0, 0] (γ 3) = (0, 0, γ 4) from l2.symm) (zLV (γ 4) rfl (zIN zQ0_ (zLE (show fn13 [109, 105, 110, 0, 0] (γ 4) = (0, 1, γ 5) from l3.symm) ?_)))))))
  refine zLV (γ 5) rfl (zIP zQ1_ (zLE c6.symm (zLE (show fn7 [] (γ 6) = (0, 0, γ 7) from l4.symm) (zLV (γ 7) rfl (zLE m17 (zLE (show fn6 [ρ 16] (γ 7) = (0, ρ 17, γ 8) from l5.symm) (zLV (γ 8) rfl ?_)))))))
  refine zIP w_1 (zLV (ρ 17) rfl (zLE (show fn10 [ρ 17] (γ 8) = (0, 1, γ 9) from l6.symm) (zLV (γ 9) rfl (zIP zQ1_ (zLE (show fn17 [] (γ 9) = (0, 1, γ 10) from l7.symm) (zLV (γ 10) rfl (zIP zQ1_ ?_)))))))
  refine zLE m21 (zLE c11.symm (zLE (show fn25 [ρ 16, ρ 21, 0] (γ 11) = (0, 0, γ 12) from l8.symm) (zLV (γ 12) rfl (zLE c13.symm (zLE c14.symm ?_)))))
  rfl
theorem vn26_9 {S : Nat → zSpc} (hS6 : zIm S 6 sn6) (hS7 : zIm S 7 sn7) (hS8 : zIm S 8 sn8) (hS10 : zIm S 10 sn10) (hS13 : zIm S 13 sn13) (hS17 : zIm S 17 sn17) (hS23 : zIm S 23 sn23) (hS25 : zIm S 25 sn25) {a : List Int} {g : rHp} : ∀ (ρ : Nat → Int) (γ : Nat → rHp), zO 13 S a g q26_9 ρ γ → zGl (fun _ _ _ => True) (sn26 a g) q26_9 ρ γ := by
  intro ρ γ h
  obtain ⟨ha, hg, hr, hf, hm, hc, hl⟩ := h
  have ha : a = [ρ 0, ρ 1, ρ 2, ρ 3, ρ 4, ρ 5, ρ 6, ρ 7, ρ 8, ρ 9, ρ 10, ρ 11, ρ 12] := ha
  subst ha
  subst hg
  have r5 : (0 : Int) ≤ ρ 5 ∧ ρ 5 ≤ 0 := zRnA hr 5
  have f2 : (0 : Int) ≤ ρ 16 + -ρ 1 := zAllA hf 2
  obtain ⟨w_0, w_1⟩ : (ρ 5 ≤ 0) ∧ (¬ (0 ≤ -ρ 16 + ρ 1 + (-1))) := ⟨by omega, by omega⟩
  have m0 : γ 0 15 0 35 = ρ 0 := zAllA hm 0
  have m1 : γ 0 15 0 34 = ρ 1 := zAllA hm 1
  have m5 : γ 0 15 0 49 = ρ 5 := zAllA hm 5
  have m15 : γ 2 15 0 37 = ρ 14 := zAllA hm 15
  have m17 : γ 7 15 0 35 = ρ 16 := zAllA hm 17
  have c1 : γ 1 = rUp (γ 0) 15 0 35 (ρ 0 + 1) := And.right (zChA hc 9)
  have c6 : γ 6 = rUp (γ 5) 15 0 49 3 := And.right (zChA hc 4)
  have l0 : sn23 [ρ 0 + 1, ρ 1, ρ 7, ρ 8, ρ 9] (γ 1) 0 1 (γ 2) := hS23 _ _ _ _ _ (zAllA hl 0)
  have l1 : sn13 [99, 111, 117, 110, 116, ρ 14, ρ 15] (γ 2) 0 0 (γ 3) := hS13 _ _ _ _ _ (zAllA hl 1)
  have l2 : sn13 [115, 117, 109, 0, 0, ρ 14, ρ 15] (γ 3) 0 0 (γ 4) := hS13 _ _ _ _ _ (zAllA hl 2)
  have l3 : sn13 [109, 105, 110, 0, 0, ρ 14, ρ 15] (γ 4) 0 1 (γ 5) := hS13 _ _ _ _ _ (zAllA hl 3)
  have l4 : sn7 [ρ 13, ρ 1] (γ 6) 0 0 (γ 7) := hS7 _ _ _ _ _ (zAllA hl 4)
  have l5 : sn6 [ρ 16, ρ 1] (γ 7) 0 (-1) (γ 8) := hS6 _ _ _ _ _ (zAllA hl 5)
  have l6 : sn10 [(-1)] (γ 8) 0 0 (γ 9) := hS10 _ _ _ _ _ (zAllA hl 6)
  have l7 : sn8 [ρ 16, ρ 1, ρ 7] (γ 9) 0 0 (γ 10) := hS8 _ _ _ _ _ (zAllA hl 7)
  show sn26 [ρ 0, ρ 1, ρ 2, ρ 3, ρ 4, ρ 5, ρ 6, ρ 7, ρ 8, ρ 9, ρ 10, ρ 11, ρ 12] (γ 0) 0 0 (γ 10)
  refine Eq.symm ?_
  show fn26 [] (γ 0) = _
  unfold fn26
  refine zLE m0 (zLE m1 (zLE m5 (zIP w_0 (zLE c1.symm (zLE (show fn23 [] (γ 1) = (0, 1, γ 2) from l0.symm) (zLV (γ 2) rfl (zIP zQ1_ ?_)))))))
  refine zLE m15 (zLE (show fn13 [99, 111, 117, 110, 116] (γ 2) = (0, 0, γ 3) from l1.symm) (zLV (γ 3) rfl (zIN zQ0_ (zLE (show fn13 [115, 117, 109, 0, 0] (γ 3) = (0, 0, γ 4) from l2.symm) (zLV (γ 4) rfl (zIN zQ0_ (zLE (show fn13 [109, 105, 110, 0, 0] (γ 4) = (0, 1, γ 5) from l3.symm) ?_)))))))
  refine zLV (γ 5) rfl (zIP zQ1_ (zLE c6.symm (zLE (show fn7 [] (γ 6) = (0, 0, γ 7) from l4.symm) (zLV (γ 7) rfl (zLE m17 (zLE (show fn6 [ρ 16] (γ 7) = (0, (-1), γ 8) from l5.symm) (zLV (γ 8) rfl ?_)))))))
  refine zIN w_1 (zLE (show fn10 [(-1)] (γ 8) = (0, 0, γ 9) from l6.symm) (zLV (γ 9) rfl (zLE (show fn8 [ρ 16] (γ 9) = (0, 0, γ 10) from l7.symm) (zLV (γ 10) rfl ?_))))
  rfl
theorem vn26_10 {S : Nat → zSpc} (hS6 : zIm S 6 sn6) (hS7 : zIm S 7 sn7) (hS8 : zIm S 8 sn8) (hS10 : zIm S 10 sn10) (hS13 : zIm S 13 sn13) (hS17 : zIm S 17 sn17) (hS23 : zIm S 23 sn23) (hS25 : zIm S 25 sn25) {a : List Int} {g : rHp} : ∀ (ρ : Nat → Int) (γ : Nat → rHp), zO 13 S a g q26_10 ρ γ → zGl (fun _ _ _ => True) (sn26 a g) q26_10 ρ γ := by
  intro ρ γ h
  obtain ⟨ha, hg, hr, hf, hm, hc, hl⟩ := h
  have ha : a = [ρ 0, ρ 1, ρ 2, ρ 3, ρ 4, ρ 5, ρ 6, ρ 7, ρ 8, ρ 9, ρ 10, ρ 11, ρ 12] := ha
  subst ha
  subst hg
  have r5 : (0 : Int) ≤ ρ 5 ∧ ρ 5 ≤ 0 := zRnA hr 5
  have f2 : (0 : Int) ≤ -ρ 16 + ρ 1 + (-1) := zAllA hf 2
  obtain ⟨w_0, w_1⟩ : (ρ 5 ≤ 0) ∧ (0 ≤ -ρ 16 + ρ 1 + (-1)) := ⟨by omega, by omega⟩
  have m0 : γ 0 15 0 35 = ρ 0 := zAllA hm 0
  have m1 : γ 0 15 0 34 = ρ 1 := zAllA hm 1
  have m5 : γ 0 15 0 49 = ρ 5 := zAllA hm 5
  have m15 : γ 2 15 0 37 = ρ 14 := zAllA hm 15
  have m17 : γ 6 15 0 35 = ρ 16 := zAllA hm 17
  have c1 : γ 1 = rUp (γ 0) 15 0 35 (ρ 0 + 1) := And.right (zChA hc 8)
  have c5 : γ 5 = rUp (γ 4) 15 0 49 2 := And.right (zChA hc 4)
  have l0 : sn23 [ρ 0 + 1, ρ 1, ρ 7, ρ 8, ρ 9] (γ 1) 0 1 (γ 2) := hS23 _ _ _ _ _ (zAllA hl 0)
  have l1 : sn13 [99, 111, 117, 110, 116, ρ 14, ρ 15] (γ 2) 0 0 (γ 3) := hS13 _ _ _ _ _ (zAllA hl 1)
  have l2 : sn13 [115, 117, 109, 0, 0, ρ 14, ρ 15] (γ 3) 0 1 (γ 4) := hS13 _ _ _ _ _ (zAllA hl 2)
  have l3 : sn7 [ρ 13, ρ 1] (γ 5) 0 0 (γ 6) := hS7 _ _ _ _ _ (zAllA hl 3)
  have l4 : sn6 [ρ 16, ρ 1] (γ 6) 0 (ρ 17) (γ 7) := hS6 _ _ _ _ _ (zAllA hl 4)
  have l5 : sn10 [ρ 17] (γ 7) 0 0 (γ 8) := hS10 _ _ _ _ _ (zAllA hl 5)
  have l6 : sn8 [ρ 16, ρ 1, ρ 7] (γ 8) 0 0 (γ 9) := hS8 _ _ _ _ _ (zAllA hl 6)
  show sn26 [ρ 0, ρ 1, ρ 2, ρ 3, ρ 4, ρ 5, ρ 6, ρ 7, ρ 8, ρ 9, ρ 10, ρ 11, ρ 12] (γ 0) 0 0 (γ 9)
  refine Eq.symm ?_
  show fn26 [] (γ 0) = _
  unfold fn26
  refine zLE m0 (zLE m1 (zLE m5 (zIP w_0 (zLE c1.symm (zLE (show fn23 [] (γ 1) = (0, 1, γ 2) from l0.symm) (zLV (γ 2) rfl (zIP zQ1_ ?_)))))))
  refine zLE m15 (zLE (show fn13 [99, 111, 117, 110, 116] (γ 2) = (0, 0, γ 3) from l1.symm) (zLV (γ 3) rfl (zIN zQ0_ (zLE (show fn13 [115, 117, 109, 0, 0] (γ 3) = (0, 1, γ 4) from l2.symm) (zLV (γ 4) rfl (zIP zQ1_ (zLE c5.symm ?_)))))))
  refine zLE (show fn7 [] (γ 5) = (0, 0, γ 6) from l3.symm) (zLV (γ 6) rfl (zLE m17 (zLE (show fn6 [ρ 16] (γ 6) = (0, ρ 17, γ 7) from l4.symm) (zLV (γ 7) rfl (zIP w_1 (zLV (ρ 17) rfl (zLE (show fn10 [ρ 17] (γ 7) = (0, 0, γ 8) from l5.symm) ?_)))))))
  refine zLV (γ 8) rfl (zIN zQ0_ (zLE (show fn8 [ρ 16] (γ 8) = (0, 0, γ 9) from l6.symm) (zLV (γ 9) rfl ?_)))
  rfl
theorem vn26_11 {S : Nat → zSpc} (hS6 : zIm S 6 sn6) (hS7 : zIm S 7 sn7) (hS8 : zIm S 8 sn8) (hS10 : zIm S 10 sn10) (hS13 : zIm S 13 sn13) (hS17 : zIm S 17 sn17) (hS23 : zIm S 23 sn23) (hS25 : zIm S 25 sn25) {a : List Int} {g : rHp} : ∀ (ρ : Nat → Int) (γ : Nat → rHp), zO 13 S a g q26_11 ρ γ → zGl (fun _ _ _ => True) (sn26 a g) q26_11 ρ γ := by
  intro ρ γ h
  obtain ⟨ha, hg, hr, hf, hm, hc, hl⟩ := h
  have ha : a = [ρ 0, ρ 1, ρ 2, ρ 3, ρ 4, ρ 5, ρ 6, ρ 7, ρ 8, ρ 9, ρ 10, ρ 11, ρ 12] := ha
  subst ha
  subst hg
  have r5 : (0 : Int) ≤ ρ 5 ∧ ρ 5 ≤ 0 := zRnA hr 5
  have f0 : (0 : Int) ≤ -ρ 16 + ρ 1 + (-1) := zAllA hf 0
  obtain ⟨w_0, w_1⟩ : (ρ 5 ≤ 0) ∧ (0 ≤ -ρ 16 + ρ 1 + (-1)) := ⟨by omega, by omega⟩
  have m0 : γ 0 15 0 35 = ρ 0 := zAllA hm 0
  have m1 : γ 0 15 0 34 = ρ 1 := zAllA hm 1
  have m5 : γ 0 15 0 49 = ρ 5 := zAllA hm 5
  have m15 : γ 2 15 0 37 = ρ 14 := zAllA hm 15
  have m17 : γ 6 15 0 35 = ρ 16 := zAllA hm 17
  have c1 : γ 1 = rUp (γ 0) 15 0 35 (ρ 0 + 1) := And.right (zChA hc 8)
  have c5 : γ 5 = rUp (γ 4) 15 0 49 2 := And.right (zChA hc 4)
  have l0 : sn23 [ρ 0 + 1, ρ 1, ρ 7, ρ 8, ρ 9] (γ 1) 0 1 (γ 2) := hS23 _ _ _ _ _ (zAllA hl 0)
  have l1 : sn13 [99, 111, 117, 110, 116, ρ 14, ρ 15] (γ 2) 0 0 (γ 3) := hS13 _ _ _ _ _ (zAllA hl 1)
  have l2 : sn13 [115, 117, 109, 0, 0, ρ 14, ρ 15] (γ 3) 0 1 (γ 4) := hS13 _ _ _ _ _ (zAllA hl 2)
  have l3 : sn7 [ρ 13, ρ 1] (γ 5) 0 0 (γ 6) := hS7 _ _ _ _ _ (zAllA hl 3)
  have l4 : sn6 [ρ 16, ρ 1] (γ 6) 0 (ρ 17) (γ 7) := hS6 _ _ _ _ _ (zAllA hl 4)
  have l5 : sn10 [ρ 17] (γ 7) 0 1 (γ 8) := hS10 _ _ _ _ _ (zAllA hl 5)
  have l6 : sn17 [ρ 16, ρ 1, ρ 18, ρ 10, ρ 7, ρ 14, ρ 15, ρ 11, ρ 19] (γ 8) 0 0 (γ 9) := hS17 _ _ _ _ _ (zAllA hl 6)
  show sn26 [ρ 0, ρ 1, ρ 2, ρ 3, ρ 4, ρ 5, ρ 6, ρ 7, ρ 8, ρ 9, ρ 10, ρ 11, ρ 12] (γ 0) 0 0 (γ 9)
  refine Eq.symm ?_
  show fn26 [] (γ 0) = _
  unfold fn26
  refine zLE m0 (zLE m1 (zLE m5 (zIP w_0 (zLE c1.symm (zLE (show fn23 [] (γ 1) = (0, 1, γ 2) from l0.symm) (zLV (γ 2) rfl (zIP zQ1_ ?_)))))))
  refine zLE m15 (zLE (show fn13 [99, 111, 117, 110, 116] (γ 2) = (0, 0, γ 3) from l1.symm) (zLV (γ 3) rfl (zIN zQ0_ (zLE (show fn13 [115, 117, 109, 0, 0] (γ 3) = (0, 1, γ 4) from l2.symm) (zLV (γ 4) rfl (zIP zQ1_ (zLE c5.symm ?_)))))))
  refine zLE (show fn7 [] (γ 5) = (0, 0, γ 6) from l3.symm) (zLV (γ 6) rfl (zLE m17 (zLE (show fn6 [ρ 16] (γ 6) = (0, ρ 17, γ 7) from l4.symm) (zLV (γ 7) rfl (zIP w_1 (zLV (ρ 17) rfl (zLE (show fn10 [ρ 17] (γ 7) = (0, 1, γ 8) from l5.symm) ?_)))))))
  refine zLV (γ 8) rfl (zIP zQ1_ (zLE (show fn17 [] (γ 8) = (0, 0, γ 9) from l6.symm) (zLV (γ 9) rfl (zIN zQ0_ ?_))))
  rfl
theorem vn26_12 {S : Nat → zSpc} (hS6 : zIm S 6 sn6) (hS7 : zIm S 7 sn7) (hS8 : zIm S 8 sn8) (hS10 : zIm S 10 sn10) (hS13 : zIm S 13 sn13) (hS17 : zIm S 17 sn17) (hS23 : zIm S 23 sn23) (hS25 : zIm S 25 sn25) {a : List Int} {g : rHp} : ∀ (ρ : Nat → Int) (γ : Nat → rHp), zO 13 S a g q26_12 ρ γ → zGl (fun _ _ _ => True) (sn26 a g) q26_12 ρ γ := by
  intro ρ γ h
  obtain ⟨ha, hg, hr, hf, hm, hc, hl⟩ := h
  have ha : a = [ρ 0, ρ 1, ρ 2, ρ 3, ρ 4, ρ 5, ρ 6, ρ 7, ρ 8, ρ 9, ρ 10, ρ 11, ρ 12] := ha
  subst ha
  subst hg
  have r5 : (0 : Int) ≤ ρ 5 ∧ ρ 5 ≤ 0 := zRnA hr 5
  have f0 : (0 : Int) ≤ -ρ 16 + ρ 1 + (-1) := zAllA hf 0
  obtain ⟨w_0, w_1⟩ : (ρ 5 ≤ 0) ∧ (0 ≤ -ρ 16 + ρ 1 + (-1)) := ⟨by omega, by omega⟩
  have m0 : γ 0 15 0 35 = ρ 0 := zAllA hm 0
  have m1 : γ 0 15 0 34 = ρ 1 := zAllA hm 1
  have m5 : γ 0 15 0 49 = ρ 5 := zAllA hm 5
  have m15 : γ 2 15 0 37 = ρ 14 := zAllA hm 15
  have m17 : γ 6 15 0 35 = ρ 16 := zAllA hm 17
  have m21 : γ 9 15 0 39 = ρ 21 := zAllA hm 21
  have c1 : γ 1 = rUp (γ 0) 15 0 35 (ρ 0 + 1) := And.right (zChA hc 12)
  have c5 : γ 5 = rUp (γ 4) 15 0 49 2 := And.right (zChA hc 8)
  have c10 : γ 10 = rUp (γ 9) 15 0 50 (ρ 21) := And.right (zChA hc 3)
  have c12 : γ 12 = rUp (γ 11) 15 0 40 3 := And.right (zChA hc 1)
  have c13 : γ 13 = rUp (γ 12) 15 0 39 0 := And.right (zChA hc 0)
  have l0 : sn23 [ρ 0 + 1, ρ 1, ρ 7, ρ 8, ρ 9] (γ 1) 0 1 (γ 2) := hS23 _ _ _ _ _ (zAllA hl 0)
  have l1 : sn13 [99, 111, 117, 110, 116, ρ 14, ρ 15] (γ 2) 0 0 (γ 3) := hS13 _ _ _ _ _ (zAllA hl 1)
  have l2 : sn13 [115, 117, 109, 0, 0, ρ 14, ρ 15] (γ 3) 0 1 (γ 4) := hS13 _ _ _ _ _ (zAllA hl 2)
  have l3 : sn7 [ρ 13, ρ 1] (γ 5) 0 0 (γ 6) := hS7 _ _ _ _ _ (zAllA hl 3)
  have l4 : sn6 [ρ 16, ρ 1] (γ 6) 0 (ρ 17) (γ 7) := hS6 _ _ _ _ _ (zAllA hl 4)
  have l5 : sn10 [ρ 17] (γ 7) 0 1 (γ 8) := hS10 _ _ _ _ _ (zAllA hl 5)
  have l6 : sn17 [ρ 16, ρ 1, ρ 18, ρ 10, ρ 7, ρ 14, ρ 15, ρ 11, ρ 19] (γ 8) 0 1 (γ 9) := hS17 _ _ _ _ _ (zAllA hl 6)
  have l7 : sn25 [ρ 16, ρ 21, 0, ρ 4, ρ 12] (γ 10) 0 0 (γ 11) := hS25 _ _ _ _ _ (zAllA hl 7)
  show sn26 [ρ 0, ρ 1, ρ 2, ρ 3, ρ 4, ρ 5, ρ 6, ρ 7, ρ 8, ρ 9, ρ 10, ρ 11, ρ 12] (γ 0) 0 1 (γ 13)
  refine Eq.symm ?_
  show fn26 [] (γ 0) = _
  unfold fn26
  refine zLE m0 (zLE m1 (zLE m5 (zIP w_0 (zLE c1.symm (zLE (show fn23 [] (γ 1) = (0, 1, γ 2) from l0.symm) (zLV (γ 2) rfl (zIP zQ1_ ?_)))))))
  refine zLE m15 (zLE (show fn13 [99, 111, 117, 110, 116] (γ 2) = (0, 0, γ 3) from l1.symm) (zLV (γ 3) rfl (zIN zQ0_ (zLE (show fn13 [115, 117, 109, 0, 0] (γ 3) = (0, 1, γ 4) from l2.symm) (zLV (γ 4) rfl (zIP zQ1_ (zLE c5.symm ?_)))))))
  refine zLE (show fn7 [] (γ 5) = (0, 0, γ 6) from l3.symm) (zLV (γ 6) rfl (zLE m17 (zLE (show fn6 [ρ 16] (γ 6) = (0, ρ 17, γ 7) from l4.symm) (zLV (γ 7) rfl (zIP w_1 (zLV (ρ 17) rfl (zLE (show fn10 [ρ 17] (γ 7) = (0, 1, γ 8) from l5.symm) ?_)))))))
  refine zLV (γ 8) rfl (zIP zQ1_ (zLE (show fn17 [] (γ 8) = (0, 1, γ 9) from l6.symm) (zLV (γ 9) rfl (zIP zQ1_ (zLE m21 (zLE c10.symm (zLE (show fn25 [ρ 16, ρ 21, 0] (γ 10) = (0, 0, γ 11) from l7.symm) ?_)))))))
  refine zLV (γ 11) rfl (zLE c12.symm (zLE c13.symm ?_))
  rfl
theorem vn26_13 {S : Nat → zSpc} (hS6 : zIm S 6 sn6) (hS7 : zIm S 7 sn7) (hS8 : zIm S 8 sn8) (hS10 : zIm S 10 sn10) (hS13 : zIm S 13 sn13) (hS17 : zIm S 17 sn17) (hS23 : zIm S 23 sn23) (hS25 : zIm S 25 sn25) {a : List Int} {g : rHp} : ∀ (ρ : Nat → Int) (γ : Nat → rHp), zO 13 S a g q26_13 ρ γ → zGl (fun _ _ _ => True) (sn26 a g) q26_13 ρ γ := by
  intro ρ γ h
  obtain ⟨ha, hg, hr, hf, hm, hc, hl⟩ := h
  have ha : a = [ρ 0, ρ 1, ρ 2, ρ 3, ρ 4, ρ 5, ρ 6, ρ 7, ρ 8, ρ 9, ρ 10, ρ 11, ρ 12] := ha
  subst ha
  subst hg
  have r5 : (0 : Int) ≤ ρ 5 ∧ ρ 5 ≤ 0 := zRnA hr 5
  have f2 : (0 : Int) ≤ ρ 16 + -ρ 1 := zAllA hf 2
  obtain ⟨w_0, w_1⟩ : (ρ 5 ≤ 0) ∧ (¬ (0 ≤ -ρ 16 + ρ 1 + (-1))) := ⟨by omega, by omega⟩
  have m0 : γ 0 15 0 35 = ρ 0 := zAllA hm 0
  have m1 : γ 0 15 0 34 = ρ 1 := zAllA hm 1
  have m5 : γ 0 15 0 49 = ρ 5 := zAllA hm 5
  have m15 : γ 2 15 0 37 = ρ 14 := zAllA hm 15
  have m17 : γ 6 15 0 35 = ρ 16 := zAllA hm 17
  have c1 : γ 1 = rUp (γ 0) 15 0 35 (ρ 0 + 1) := And.right (zChA hc 8)
  have c5 : γ 5 = rUp (γ 4) 15 0 49 2 := And.right (zChA hc 4)
  have l0 : sn23 [ρ 0 + 1, ρ 1, ρ 7, ρ 8, ρ 9] (γ 1) 0 1 (γ 2) := hS23 _ _ _ _ _ (zAllA hl 0)
  have l1 : sn13 [99, 111, 117, 110, 116, ρ 14, ρ 15] (γ 2) 0 0 (γ 3) := hS13 _ _ _ _ _ (zAllA hl 1)
  have l2 : sn13 [115, 117, 109, 0, 0, ρ 14, ρ 15] (γ 3) 0 1 (γ 4) := hS13 _ _ _ _ _ (zAllA hl 2)
  have l3 : sn7 [ρ 13, ρ 1] (γ 5) 0 0 (γ 6) := hS7 _ _ _ _ _ (zAllA hl 3)
  have l4 : sn6 [ρ 16, ρ 1] (γ 6) 0 (-1) (γ 7) := hS6 _ _ _ _ _ (zAllA hl 4)
  have l5 : sn10 [(-1)] (γ 7) 0 0 (γ 8) := hS10 _ _ _ _ _ (zAllA hl 5)
  have l6 : sn8 [ρ 16, ρ 1, ρ 7] (γ 8) 0 0 (γ 9) := hS8 _ _ _ _ _ (zAllA hl 6)
  show sn26 [ρ 0, ρ 1, ρ 2, ρ 3, ρ 4, ρ 5, ρ 6, ρ 7, ρ 8, ρ 9, ρ 10, ρ 11, ρ 12] (γ 0) 0 0 (γ 9)
  refine Eq.symm ?_
  show fn26 [] (γ 0) = _
  unfold fn26
  refine zLE m0 (zLE m1 (zLE m5 (zIP w_0 (zLE c1.symm (zLE (show fn23 [] (γ 1) = (0, 1, γ 2) from l0.symm) (zLV (γ 2) rfl (zIP zQ1_ ?_)))))))
  refine zLE m15 (zLE (show fn13 [99, 111, 117, 110, 116] (γ 2) = (0, 0, γ 3) from l1.symm) (zLV (γ 3) rfl (zIN zQ0_ (zLE (show fn13 [115, 117, 109, 0, 0] (γ 3) = (0, 1, γ 4) from l2.symm) (zLV (γ 4) rfl (zIP zQ1_ (zLE c5.symm ?_)))))))
  refine zLE (show fn7 [] (γ 5) = (0, 0, γ 6) from l3.symm) (zLV (γ 6) rfl (zLE m17 (zLE (show fn6 [ρ 16] (γ 6) = (0, (-1), γ 7) from l4.symm) (zLV (γ 7) rfl (zIN w_1 (zLE (show fn10 [(-1)] (γ 7) = (0, 0, γ 8) from l5.symm) (zLV (γ 8) rfl ?_)))))))
  refine zLE (show fn8 [ρ 16] (γ 8) = (0, 0, γ 9) from l6.symm) (zLV (γ 9) rfl ?_)
  rfl
theorem vn26_14 {S : Nat → zSpc} (hS6 : zIm S 6 sn6) (hS7 : zIm S 7 sn7) (hS8 : zIm S 8 sn8) (hS10 : zIm S 10 sn10) (hS13 : zIm S 13 sn13) (hS17 : zIm S 17 sn17) (hS23 : zIm S 23 sn23) (hS25 : zIm S 25 sn25) {a : List Int} {g : rHp} : ∀ (ρ : Nat → Int) (γ : Nat → rHp), zO 13 S a g q26_14 ρ γ → zGl (fun _ _ _ => True) (sn26 a g) q26_14 ρ γ := by
  intro ρ γ h
  obtain ⟨ha, hg, hr, hf, hm, hc, hl⟩ := h
  have ha : a = [ρ 0, ρ 1, ρ 2, ρ 3, ρ 4, ρ 5, ρ 6, ρ 7, ρ 8, ρ 9, ρ 10, ρ 11, ρ 12] := ha
  subst ha
  subst hg
  have r5 : (0 : Int) ≤ ρ 5 ∧ ρ 5 ≤ 0 := zRnA hr 5
  have w_0 : ρ 5 ≤ 0 := by omega
  have m0 : γ 0 15 0 35 = ρ 0 := zAllA hm 0
  have m1 : γ 0 15 0 34 = ρ 1 := zAllA hm 1
  have m5 : γ 0 15 0 49 = ρ 5 := zAllA hm 5
  have m15 : γ 2 15 0 37 = ρ 14 := zAllA hm 15
  have c1 : γ 1 = rUp (γ 0) 15 0 35 (ρ 0 + 1) := And.right (zChA hc 5)
  have c4 : γ 4 = rUp (γ 3) 15 0 49 1 := And.right (zChA hc 2)
  have c5 : γ 5 = rUp (γ 4) 15 0 40 3 := And.right (zChA hc 1)
  have c6 : γ 6 = rUp (γ 5) 15 0 39 0 := And.right (zChA hc 0)
  have l0 : sn23 [ρ 0 + 1, ρ 1, ρ 7, ρ 8, ρ 9] (γ 1) 0 1 (γ 2) := hS23 _ _ _ _ _ (zAllA hl 0)
  have l1 : sn13 [99, 111, 117, 110, 116, ρ 14, ρ 15] (γ 2) 0 1 (γ 3) := hS13 _ _ _ _ _ (zAllA hl 1)
  show sn26 [ρ 0, ρ 1, ρ 2, ρ 3, ρ 4, ρ 5, ρ 6, ρ 7, ρ 8, ρ 9, ρ 10, ρ 11, ρ 12] (γ 0) 0 1 (γ 6)
  refine Eq.symm ?_
  show fn26 [] (γ 0) = _
  unfold fn26
  refine zLE m0 (zLE m1 (zLE m5 (zIP w_0 (zLE c1.symm (zLE (show fn23 [] (γ 1) = (0, 1, γ 2) from l0.symm) (zLV (γ 2) rfl (zIP zQ1_ ?_)))))))
  refine zLE m15 (zLE (show fn13 [99, 111, 117, 110, 116] (γ 2) = (0, 1, γ 3) from l1.symm) (zLV (γ 3) rfl (zIP zQ1_ (zLE c4.symm (zLE c5.symm (zLE c6.symm ?_))))))
  rfl
theorem vn26_15 {S : Nat → zSpc} (hS6 : zIm S 6 sn6) (hS7 : zIm S 7 sn7) (hS8 : zIm S 8 sn8) (hS10 : zIm S 10 sn10) (hS13 : zIm S 13 sn13) (hS17 : zIm S 17 sn17) (hS23 : zIm S 23 sn23) (hS25 : zIm S 25 sn25) {a : List Int} {g : rHp} : ∀ (ρ : Nat → Int) (γ : Nat → rHp), zO 13 S a g q26_15 ρ γ → zGl (fun _ _ _ => True) (sn26 a g) q26_15 ρ γ := by
  intro ρ γ h
  obtain ⟨ha, hg, hr, hf, hm, hc, hl⟩ := h
  have ha : a = [ρ 0, ρ 1, ρ 2, ρ 3, ρ 4, ρ 5, ρ 6, ρ 7, ρ 8, ρ 9, ρ 10, ρ 11, ρ 12] := ha
  subst ha
  subst hg
  have r5 : (1 : Int) ≤ ρ 5 ∧ ρ 5 ≤ 4 := zRnA hr 5
  have w_0 : ¬ (ρ 5 ≤ 0) := by omega
  have m0 : γ 0 15 0 35 = ρ 0 := zAllA hm 0
  have m1 : γ 0 15 0 34 = ρ 1 := zAllA hm 1
  have m5 : γ 0 15 0 49 = ρ 5 := zAllA hm 5
  have l0 : sn8 [ρ 0, ρ 1, ρ 7] (γ 0) 0 0 (γ 1) := hS8 _ _ _ _ _ (zAllA hl 0)
  show sn26 [ρ 0, ρ 1, ρ 2, ρ 3, ρ 4, ρ 5, ρ 6, ρ 7, ρ 8, ρ 9, ρ 10, ρ 11, ρ 12] (γ 0) 0 0 (γ 1)
  refine Eq.symm ?_
  show fn26 [] (γ 0) = _
  unfold fn26
  refine zLE m0 (zLE m1 (zLE m5 (zIN w_0 (zLE (show fn8 [ρ 0] (γ 0) = (0, 0, γ 1) from l0.symm) (zLV (γ 1) rfl ?_)))))
  rfl
theorem yn26 {S : Nat → zSpc} (hS6 : zIm S 6 sn6) (hS7 : zIm S 7 sn7) (hS8 : zIm S 8 sn8) (hS10 : zIm S 10 sn10) (hS13 : zIm S 13 sn13) (hS17 : zIm S 17 sn17) (hS23 : zIm S 23 sn23) (hS25 : zIm S 25 sn25) : ∀ x g o v gz, zSem uW uT w26_.2.2.2.1 w26_.2.2.1.1.length S q26 (fun i => q26a.getD i []) (zNA a26_) x g o v gz → sn26 x g o v gz := by
  intro a g o v gz h
  exact zSem_all (l0 := q26) (las := q26a) (S := S) (J := (fun _ _ _ => True)) (P := sn26 a g) (fun _ => (show zAll _ [q26_0, q26_1, q26_2, q26_3, q26_4, q26_5, q26_6, q26_7, q26_8, q26_9, q26_10, q26_11, q26_12, q26_13, q26_14, q26_15] from (zAll_c (vn26_0 hS6 hS7 hS8 hS10 hS13 hS17 hS23 hS25) (zAll_c (vn26_1 hS6 hS7 hS8 hS10 hS13 hS17 hS23 hS25) (zAll_c (vn26_2 hS6 hS7 hS8 hS10 hS13 hS17 hS23 hS25) (zAll_c (vn26_3 hS6 hS7 hS8 hS10 hS13 hS17 hS23 hS25) (zAll_c (vn26_4 hS6 hS7 hS8 hS10 hS13 hS17 hS23 hS25) (zAll_c (vn26_5 hS6 hS7 hS8 hS10 hS13 hS17 hS23 hS25) (zAll_c (vn26_6 hS6 hS7 hS8 hS10 hS13 hS17 hS23 hS25) (zAll_c (vn26_7 hS6 hS7 hS8 hS10 hS13 hS17 hS23 hS25) (zAll_c (vn26_8 hS6 hS7 hS8 hS10 hS13 hS17 hS23 hS25) (zAll_c (vn26_9 hS6 hS7 hS8 hS10 hS13 hS17 hS23 hS25) (zAll_c (vn26_10 hS6 hS7 hS8 hS10 hS13 hS17 hS23 hS25) (zAll_c (vn26_11 hS6 hS7 hS8 hS10 hS13 hS17 hS23 hS25) (zAll_c (vn26_12 hS6 hS7 hS8 hS10 hS13 hS17 hS23 hS25) (zAll_c (vn26_13 hS6 hS7 hS8 hS10 hS13 hS17 hS23 hS25) (zAll_c (vn26_14 hS6 hS7 hS8 hS10 hS13 hS17 hS23 hS25) (zAll_c (vn26_15 hS6 hS7 hS8 hS10 hS13 hS17 hS23 hS25) zAll_n)))))))))))))))))) (fun _ => (show zAllI _ 0 [] from trivial)) h
