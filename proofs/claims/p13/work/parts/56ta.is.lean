/-! ===== the runs are the functions ===== -/
theorem vn55_0 {S : Nat → zSpc}  {a : List Int} {g : rHp} : ∀ (ρ : Nat → Int) (γ : Nat → rHp), zO 1 S a g q55_0 ρ γ → zGl (fun _ _ _ => True) (sn55 a g) q55_0 ρ γ := by
  intro ρ γ h
  obtain ⟨ha, hg, hr, hf, hm, hc, hl⟩ := h
  have ha : a = [ρ 0] := ha
  subst ha
  subst hg
  have r0 : (549755813888 : Int) ≤ ρ 0 ∧ ρ 0 ≤ 9223372036854775807 := zRnA hr 0
  have w_0 : ρ 0 ≥ 549755813888 := by omega
  show sn55 [ρ 0] (γ 0) 0 0 (γ 0)
  refine Eq.symm ?_
  show fn55 [ρ 0] (γ 0) = _
  unfold fn55
  refine zLV (ρ 0) rfl (zIP w_0 ?_)
  rfl
theorem vn55_1 {S : Nat → zSpc}  {a : List Int} {g : rHp} : ∀ (ρ : Nat → Int) (γ : Nat → rHp), zO 1 S a g q55_1 ρ γ → zGl (fun _ _ _ => True) (sn55 a g) q55_1 ρ γ := by
  intro ρ γ h
  obtain ⟨ha, hg, hr, hf, hm, hc, hl⟩ := h
  have ha : a = [ρ 0] := ha
  subst ha
  subst hg
  have r0 : ((-9223372036854775808) : Int) ≤ ρ 0 ∧ ρ 0 ≤ 549755813887 := zRnA hr 0
  have w_0 : ¬ (ρ 0 ≥ 549755813888) := by omega
  show sn55 [ρ 0] (γ 0) 0 1 (γ 0)
  refine Eq.symm ?_
  show fn55 [ρ 0] (γ 0) = _
  unfold fn55
  refine zLV (ρ 0) rfl (zIN w_0 ?_)
  rfl
theorem yn55 {S : Nat → zSpc}  : ∀ x g o v gz, zSem uW uT w55_.2.2.2.1 w55_.2.2.1.1.length S q55 (fun i => q55a.getD i []) (zNA a55_) x g o v gz → sn55 x g o v gz := by
  intro a g o v gz h
  exact zSem_all (l0 := q55) (las := q55a) (S := S) (J := (fun _ _ _ => True)) (P := sn55 a g) (fun _ => (show zAll _ [q55_0, q55_1] from (zAll_c (vn55_0 ) (zAll_c (vn55_1 ) zAll_n)))) (fun _ => (show zAllI _ 0 [] from trivial)) h
theorem vn56_0 {S : Nat → zSpc}  {a : List Int} {g : rHp} : ∀ (ρ : Nat → Int) (γ : Nat → rHp), zO 3 S a g q56_0 ρ γ → zGl (fun i vs g1 => jn56 a g i vs g1) (sn56 a g) q56_0 ρ γ := by
  intro ρ γ h
  obtain ⟨ha, hg, hr, hf, hm, hc, hl⟩ := h
  have ha : a = [ρ 0, ρ 1, ρ 2] := ha
  subst ha
  subst hg
  have r3 : ((-1) : Int) ≤ ρ 3 ∧ ρ 3 ≤ (-1) := zRnA hr 3
  have w_0 : 0 ≤ -ρ 3 + (-1) := by omega
  have m2 : γ 0 100 0 (ρ 0) = ρ 3 := zAllA hm 2
  show sn56 [ρ 0, ρ 1, ρ 2] (γ 0) 0 (-1) (γ 0)
  have hD : dn56 [ρ 0] (γ 0) = .inr (0, (-1), γ 0) := by
    unfold dn56
    refine zLV (ρ 0) rfl (zLE m2 (zIP w_0 ?_))
    rfl
  exact zGoo_end hD
theorem vn56_1 {S : Nat → zSpc}  {a : List Int} {g : rHp} : ∀ (ρ : Nat → Int) (γ : Nat → rHp), zO 3 S a g q56_1 ρ γ → zGl (fun i vs g1 => jn56 a g i vs g1) (sn56 a g) q56_1 ρ γ := by
  intro ρ γ h
  obtain ⟨ha, hg, hr, hf, hm, hc, hl⟩ := h
  have ha : a = [ρ 0, ρ 1, ρ 2] := ha
  subst ha
  subst hg
  have r3 : (0 : Int) ≤ ρ 3 ∧ ρ 3 ≤ 1999 := zRnA hr 3
  have w_0 : ¬ (0 ≤ -ρ 3 + (-1)) := by omega
  have m2 : γ 0 100 0 (ρ 0) = ρ 3 := zAllA hm 2
  show jn56 [ρ 0, ρ 1, ρ 2] (γ 0) 0 [ρ 0, ρ 1, ρ 2, ρ 3] (γ 0)
  have hD : dn56 [ρ 0] (γ 0) = .inl (0, [ρ 0, ρ 3], γ 0) := by
    unfold dn56
    refine zLV (ρ 0) rfl (zLE m2 (zIN w_0 ?_))
    rfl
  exact zGoo_to hD
theorem vn56a0_0 {S : Nat → zSpc}  {a : List Int} {g : rHp} : ∀ (ρ : Nat → Int) (γ : Nat → rHp), jn56 a g 0 (zAg (zNA a56_ 0) ρ) (γ 1) → zO 3 S a g q56a0_0 ρ γ → zGl (fun i vs g1 => jn56 a g i vs g1) (sn56 a g) q56a0_0 ρ γ := by
  intro ρ γ hJ h
  obtain ⟨ha, hg, hr, hf, hm, hc, hl⟩ := h
  have ha : a = [ρ 0, ρ 1, ρ 2] := ha
  subst ha
  subst hg
  have hJ : jn56 [ρ 0, ρ 1, ρ 2] (γ 0) 0 [ρ 0, ρ 1, ρ 2, ρ 3] (γ 1) := hJ
  show jn56 [ρ 0, ρ 1, ρ 2] (γ 0) 1 [ρ 0, ρ 1, ρ 2, 0, 1, ρ 3] (γ 1)
  have hD : en56 (γ 0) (0, [ρ 0, ρ 3], γ 1) = .inl (1, [ρ 0, 0, 1, ρ 3], γ 1) := by
    unfold en56
    refine zIP (show (0 : Nat) = 0 by decide) (zLV (γ 1) rfl (zLV (ρ 0) rfl (zLV (ρ 3) rfl ?_)))
    rfl
  exact zGoo_ato hJ hD
theorem vn56a1_0 {S : Nat → zSpc}  {a : List Int} {g : rHp} : ∀ (ρ : Nat → Int) (γ : Nat → rHp), jn56 a g 1 (zAg (zNA a56_ 1) ρ) (γ 1) → zO 3 S a g q56a1_0 ρ γ → zGl (fun i vs g1 => jn56 a g i vs g1) (sn56 a g) q56a1_0 ρ γ := by
  intro ρ γ hJ h
  obtain ⟨ha, hg, hr, hf, hm, hc, hl⟩ := h
  have ha : a = [ρ 0, ρ 1, ρ 2] := ha
  subst ha
  subst hg
  have hJ : jn56 [ρ 0, ρ 1, ρ 2] (γ 0) 1 [ρ 0, ρ 1, ρ 2, ρ 3, ρ 4, ρ 5] (γ 1) := hJ
  have r4 : (0 : Int) ≤ ρ 4 ∧ ρ 4 ≤ 0 := zRnA hr 4
  have r7 : ((-1) : Int) ≤ ρ 7 ∧ ρ 7 ≤ (-1) := zRnA hr 7
  have f1 : (0 : Int) ≤ -ρ 6 + ρ 3 := zAllA hf 1
  obtain ⟨w_0, w_1, w_2⟩ : (ρ 3 ≥ ρ 6) ∧ (ρ 4 = 0) ∧ (0 ≤ -ρ 7 + (-1)) := ⟨by omega, by omega, by omega⟩
  have m2 : γ 0 66 0 (ρ 0) = ρ 6 := zAllA hm 2
  have m3 : γ 0 96 0 (ρ 5) = ρ 7 := zAllA hm 3
  show sn56 [ρ 0, ρ 1, ρ 2] (γ 0) 0 (-1) (γ 1)
  have hD : en56 (γ 0) (1, [ρ 0, ρ 3, ρ 4, ρ 5], γ 1) = .inr (0, (-1), γ 1) := by
    unfold en56
    refine zIN (show ¬ (1 : Nat) = 0 by decide) (zIP (show (1 : Nat) = 1 by decide) (zLV (γ 1) rfl (zLV (ρ 0) rfl (zLV (ρ 3) rfl (zLV (ρ 4) rfl (zLV (ρ 5) rfl (zLE m2 ?_)))))))
    refine zIP w_0 (zIP w_1 (zLE m3 (zIP w_2 ?_)))
    rfl
  exact zGoo_aend hJ hD
theorem vn56a1_1 {S : Nat → zSpc}  {a : List Int} {g : rHp} : ∀ (ρ : Nat → Int) (γ : Nat → rHp), jn56 a g 1 (zAg (zNA a56_ 1) ρ) (γ 1) → zO 3 S a g q56a1_1 ρ γ → zGl (fun i vs g1 => jn56 a g i vs g1) (sn56 a g) q56a1_1 ρ γ := by
  intro ρ γ hJ h
  obtain ⟨ha, hg, hr, hf, hm, hc, hl⟩ := h
  have ha : a = [ρ 0, ρ 1, ρ 2] := ha
  subst ha
  subst hg
  have hJ : jn56 [ρ 0, ρ 1, ρ 2] (γ 0) 1 [ρ 0, ρ 1, ρ 2, ρ 3, ρ 4, ρ 5] (γ 1) := hJ
  have r4 : (0 : Int) ≤ ρ 4 ∧ ρ 4 ≤ 0 := zRnA hr 4
  have r7 : (0 : Int) ≤ ρ 7 ∧ ρ 7 ≤ 1999 := zRnA hr 7
  have f2 : (0 : Int) ≤ -ρ 6 + ρ 3 := zAllA hf 2
  obtain ⟨w_0, w_1, w_2⟩ : (ρ 3 ≥ ρ 6) ∧ (ρ 4 = 0) ∧ (¬ (0 ≤ -ρ 7 + (-1))) := ⟨by omega, by omega, by omega⟩
  have m2 : γ 0 66 0 (ρ 0) = ρ 6 := zAllA hm 2
  have m3 : γ 0 96 0 (ρ 5) = ρ 7 := zAllA hm 3
  show jn56 [ρ 0, ρ 1, ρ 2] (γ 0) 0 [ρ 0, ρ 1, ρ 2, ρ 7] (γ 1)
  have hD : en56 (γ 0) (1, [ρ 0, ρ 3, ρ 4, ρ 5], γ 1) = .inl (0, [ρ 0, ρ 7], γ 1) := by
    unfold en56
    refine zIN (show ¬ (1 : Nat) = 0 by decide) (zIP (show (1 : Nat) = 1 by decide) (zLV (γ 1) rfl (zLV (ρ 0) rfl (zLV (ρ 3) rfl (zLV (ρ 4) rfl (zLV (ρ 5) rfl (zLE m2 ?_)))))))
    refine zIP w_0 (zIP w_1 (zLE m3 (zIN w_2 ?_)))
    rfl
  exact zGoo_ato hJ hD
theorem vn56a1_2 {S : Nat → zSpc}  {a : List Int} {g : rHp} : ∀ (ρ : Nat → Int) (γ : Nat → rHp), jn56 a g 1 (zAg (zNA a56_ 1) ρ) (γ 1) → zO 3 S a g q56a1_2 ρ γ → zGl (fun i vs g1 => jn56 a g i vs g1) (sn56 a g) q56a1_2 ρ γ := by
  intro ρ γ hJ h
  obtain ⟨ha, hg, hr, hf, hm, hc, hl⟩ := h
  have ha : a = [ρ 0, ρ 1, ρ 2] := ha
  subst ha
  subst hg
  have hJ : jn56 [ρ 0, ρ 1, ρ 2] (γ 0) 1 [ρ 0, ρ 1, ρ 2, ρ 3, ρ 4, ρ 5] (γ 1) := hJ
  have r4 : (1 : Int) ≤ ρ 4 ∧ ρ 4 ≤ 1 := zRnA hr 4
  have f0 : (0 : Int) ≤ -ρ 6 + ρ 3 := zAllA hf 0
  obtain ⟨w_0, w_1⟩ : (ρ 3 ≥ ρ 6) ∧ (¬ (ρ 4 = 0)) := ⟨by omega, by omega⟩
  have m2 : γ 0 66 0 (ρ 0) = ρ 6 := zAllA hm 2
  show sn56 [ρ 0, ρ 1, ρ 2] (γ 0) 0 (ρ 5) (γ 1)
  have hD : en56 (γ 0) (1, [ρ 0, ρ 3, ρ 4, ρ 5], γ 1) = .inr (0, ρ 5, γ 1) := by
    unfold en56
    refine zIN (show ¬ (1 : Nat) = 0 by decide) (zIP (show (1 : Nat) = 1 by decide) (zLV (γ 1) rfl (zLV (ρ 0) rfl (zLV (ρ 3) rfl (zLV (ρ 4) rfl (zLV (ρ 5) rfl (zLE m2 ?_)))))))
    refine zIP w_0 (zIN w_1 ?_)
    rfl
  exact zGoo_aend hJ hD
theorem vn56a1_3 {S : Nat → zSpc}  {a : List Int} {g : rHp} : ∀ (ρ : Nat → Int) (γ : Nat → rHp), jn56 a g 1 (zAg (zNA a56_ 1) ρ) (γ 1) → zO 3 S a g q56a1_3 ρ γ → zGl (fun i vs g1 => jn56 a g i vs g1) (sn56 a g) q56a1_3 ρ γ := by
  intro ρ γ hJ h
  obtain ⟨ha, hg, hr, hf, hm, hc, hl⟩ := h
  have ha : a = [ρ 0, ρ 1, ρ 2] := ha
  subst ha
  subst hg
  have hJ : jn56 [ρ 0, ρ 1, ρ 2] (γ 0) 1 [ρ 0, ρ 1, ρ 2, ρ 3, ρ 4, ρ 5] (γ 1) := hJ
  have r4 : (0 : Int) ≤ ρ 4 ∧ ρ 4 ≤ 0 := zRnA hr 4
  have r7 : ((-1) : Int) ≤ ρ 7 ∧ ρ 7 ≤ (-1) := zRnA hr 7
  have f1 : (0 : Int) ≤ ρ 6 + -ρ 3 + (-1) := zAllA hf 1
  obtain ⟨w_0, w_1, w_2⟩ : (¬ (ρ 3 ≥ ρ 6)) ∧ (ρ 4 = 0) ∧ (0 ≤ -ρ 7 + (-1)) := ⟨by omega, by omega, by omega⟩
  have m2 : γ 0 66 0 (ρ 0) = ρ 6 := zAllA hm 2
  have m3 : γ 0 96 0 (ρ 5) = ρ 7 := zAllA hm 3
  show sn56 [ρ 0, ρ 1, ρ 2] (γ 0) 0 (-1) (γ 1)
  have hD : en56 (γ 0) (1, [ρ 0, ρ 3, ρ 4, ρ 5], γ 1) = .inr (0, (-1), γ 1) := by
    unfold en56
    refine zIN (show ¬ (1 : Nat) = 0 by decide) (zIP (show (1 : Nat) = 1 by decide) (zLV (γ 1) rfl (zLV (ρ 0) rfl (zLV (ρ 3) rfl (zLV (ρ 4) rfl (zLV (ρ 5) rfl (zLE m2 ?_)))))))
    refine zIN w_0 (zIP w_1 (zLE m3 (zIP w_2 ?_)))
    rfl
  exact zGoo_aend hJ hD
theorem vn56a1_4 {S : Nat → zSpc}  {a : List Int} {g : rHp} : ∀ (ρ : Nat → Int) (γ : Nat → rHp), jn56 a g 1 (zAg (zNA a56_ 1) ρ) (γ 1) → zO 3 S a g q56a1_4 ρ γ → zGl (fun i vs g1 => jn56 a g i vs g1) (sn56 a g) q56a1_4 ρ γ := by
  intro ρ γ hJ h
  obtain ⟨ha, hg, hr, hf, hm, hc, hl⟩ := h
  have ha : a = [ρ 0, ρ 1, ρ 2] := ha
  subst ha
  subst hg
  have hJ : jn56 [ρ 0, ρ 1, ρ 2] (γ 0) 1 [ρ 0, ρ 1, ρ 2, ρ 3, ρ 4, ρ 5] (γ 1) := hJ
  have r4 : (0 : Int) ≤ ρ 4 ∧ ρ 4 ≤ 0 := zRnA hr 4
  have r7 : (0 : Int) ≤ ρ 7 ∧ ρ 7 ≤ 1999 := zRnA hr 7
  have f2 : (0 : Int) ≤ ρ 6 + -ρ 3 + (-1) := zAllA hf 2
  obtain ⟨w_0, w_1, w_2⟩ : (¬ (ρ 3 ≥ ρ 6)) ∧ (ρ 4 = 0) ∧ (¬ (0 ≤ -ρ 7 + (-1))) := ⟨by omega, by omega, by omega⟩
  have m2 : γ 0 66 0 (ρ 0) = ρ 6 := zAllA hm 2
  have m3 : γ 0 96 0 (ρ 5) = ρ 7 := zAllA hm 3
  show jn56 [ρ 0, ρ 1, ρ 2] (γ 0) 0 [ρ 0, ρ 1, ρ 2, ρ 7] (γ 1)
  have hD : en56 (γ 0) (1, [ρ 0, ρ 3, ρ 4, ρ 5], γ 1) = .inl (0, [ρ 0, ρ 7], γ 1) := by
    unfold en56
    refine zIN (show ¬ (1 : Nat) = 0 by decide) (zIP (show (1 : Nat) = 1 by decide) (zLV (γ 1) rfl (zLV (ρ 0) rfl (zLV (ρ 3) rfl (zLV (ρ 4) rfl (zLV (ρ 5) rfl (zLE m2 ?_)))))))
    refine zIN w_0 (zIP w_1 (zLE m3 (zIN w_2 ?_)))
    rfl
  exact zGoo_ato hJ hD
theorem vn56a1_5 {S : Nat → zSpc}  {a : List Int} {g : rHp} : ∀ (ρ : Nat → Int) (γ : Nat → rHp), jn56 a g 1 (zAg (zNA a56_ 1) ρ) (γ 1) → zO 3 S a g q56a1_5 ρ γ → zGl (fun i vs g1 => jn56 a g i vs g1) (sn56 a g) q56a1_5 ρ γ := by
  intro ρ γ hJ h
  obtain ⟨ha, hg, hr, hf, hm, hc, hl⟩ := h
  have ha : a = [ρ 0, ρ 1, ρ 2] := ha
  subst ha
  subst hg
  have hJ : jn56 [ρ 0, ρ 1, ρ 2] (γ 0) 1 [ρ 0, ρ 1, ρ 2, ρ 3, ρ 4, ρ 5] (γ 1) := hJ
  have r4 : (1 : Int) ≤ ρ 4 ∧ ρ 4 ≤ 1 := zRnA hr 4
  have r7 : ((-2147483648) : Int) ≤ ρ 7 ∧ ρ 7 ≤ 1099511640064 := zRnA hr 7
  have r8 : ((-2147483648) : Int) ≤ ρ 8 ∧ ρ 8 ≤ 1099511640064 := zRnA hr 8
  have f0 : (0 : Int) ≤ ρ 6 + -ρ 3 + (-1) := zAllA hf 0
  obtain ⟨w_0, w_1⟩ : (¬ (ρ 3 ≥ ρ 6)) ∧ (¬ (ρ 4 = 0)) := ⟨by omega, by omega⟩
  have m2 : γ 0 66 0 (ρ 0) = ρ 6 := zAllA hm 2
  have m3 : γ 0 99 0 (4 * ρ 5 + ρ 3) = ρ 7 := zAllA hm 3
  have m4 : γ 0 102 0 (ρ 3) = ρ 8 := zAllA hm 4
  have l0 : ρ 7 ≠ ρ 8 := zAllA hl 0
  have wl_0 : ρ 7 ≠ ρ 8 := by omega
  show jn56 [ρ 0, ρ 1, ρ 2] (γ 0) 1 [ρ 0, ρ 1, ρ 2, ρ 3 + 1, 0, ρ 5] (γ 1)
  have hD : en56 (γ 0) (1, [ρ 0, ρ 3, ρ 4, ρ 5], γ 1) = .inl (1, [ρ 0, ρ 3 + 1, 0, ρ 5], γ 1) := by
    unfold en56
    refine zIN (show ¬ (1 : Nat) = 0 by decide) (zIP (show (1 : Nat) = 1 by decide) (zLV (γ 1) rfl (zLV (ρ 0) rfl (zLV (ρ 3) rfl (zLV (ρ 4) rfl (zLV (ρ 5) rfl (zLE m2 ?_)))))))
    refine zIN w_0 (zIN w_1 (zLE m3 (zLE m4 (zIP wl_0 ?_))))
    rfl
  exact zGoo_ato hJ hD
theorem vn56a1_6 {S : Nat → zSpc}  {a : List Int} {g : rHp} : ∀ (ρ : Nat → Int) (γ : Nat → rHp), jn56 a g 1 (zAg (zNA a56_ 1) ρ) (γ 1) → zO 3 S a g q56a1_6 ρ γ → zGl (fun i vs g1 => jn56 a g i vs g1) (sn56 a g) q56a1_6 ρ γ := by
  intro ρ γ hJ h
  obtain ⟨ha, hg, hr, hf, hm, hc, hl⟩ := h
  have ha : a = [ρ 0, ρ 1, ρ 2] := ha
  subst ha
  subst hg
  have hJ : jn56 [ρ 0, ρ 1, ρ 2] (γ 0) 1 [ρ 0, ρ 1, ρ 2, ρ 3, ρ 4, ρ 5] (γ 1) := hJ
  have r4 : (1 : Int) ≤ ρ 4 ∧ ρ 4 ≤ 1 := zRnA hr 4
  have f0 : (0 : Int) ≤ ρ 8 + -ρ 7 := zAllA hf 0
  have f1 : (0 : Int) ≤ -ρ 8 + ρ 7 := zAllA hf 1
  have f2 : (0 : Int) ≤ ρ 6 + -ρ 3 + (-1) := zAllA hf 2
  obtain ⟨w_0, w_1, w_2⟩ : (¬ (ρ 3 ≥ ρ 6)) ∧ (¬ (ρ 4 = 0)) ∧ (¬ (ρ 7 ≠ ρ 8)) := ⟨by omega, by omega, by omega⟩
  have m2 : γ 0 66 0 (ρ 0) = ρ 6 := zAllA hm 2
  have m3 : γ 0 99 0 (4 * ρ 5 + ρ 3) = ρ 7 := zAllA hm 3
  have m4 : γ 0 102 0 (ρ 3) = ρ 8 := zAllA hm 4
  show jn56 [ρ 0, ρ 1, ρ 2] (γ 0) 1 [ρ 0, ρ 1, ρ 2, ρ 3 + 1, 1, ρ 5] (γ 1)
  have hD : en56 (γ 0) (1, [ρ 0, ρ 3, ρ 4, ρ 5], γ 1) = .inl (1, [ρ 0, ρ 3 + 1, 1, ρ 5], γ 1) := by
    unfold en56
    refine zIN (show ¬ (1 : Nat) = 0 by decide) (zIP (show (1 : Nat) = 1 by decide) (zLV (γ 1) rfl (zLV (ρ 0) rfl (zLV (ρ 3) rfl (zLV (ρ 4) rfl (zLV (ρ 5) rfl (zLE m2 ?_)))))))
    refine zIN w_0 (zIN w_1 (zLE m3 (zLE m4 (zIN w_2 ?_))))
    rfl
  exact zGoo_ato hJ hD
theorem yn56 {S : Nat → zSpc}  : ∀ x g o v gz, zSem uW uT w56_.2.2.2.1 w56_.2.2.1.1.length S q56 (fun i => q56a.getD i []) (zNA a56_) x g o v gz → sn56 x g o v gz := by
  intro a g o v gz h
  exact zSem_all (l0 := q56) (las := q56a) (S := S) (J := (fun i vs g1 => jn56 a g i vs g1)) (P := sn56 a g) (fun _ => (show zAll _ [q56_0, q56_1] from (zAll_c (vn56_0 ) (zAll_c (vn56_1 ) zAll_n)))) (fun _ => (show zAllI _ 0 [q56a0, q56a1] from ⟨(show zAll _ [q56a0_0] from (zAll_c (vn56a0_0 ) zAll_n)), ⟨(show zAll _ [q56a1_0, q56a1_1, q56a1_2, q56a1_3, q56a1_4, q56a1_5, q56a1_6] from (zAll_c (vn56a1_0 ) (zAll_c (vn56a1_1 ) (zAll_c (vn56a1_2 ) (zAll_c (vn56a1_3 ) (zAll_c (vn56a1_4 ) (zAll_c (vn56a1_5 ) (zAll_c (vn56a1_6 ) zAll_n)))))))), trivial⟩⟩)) h
theorem vn57_0 {S : Nat → zSpc} (hS56 : zIm S 56 sn56) {a : List Int} {g : rHp} : ∀ (ρ : Nat → Int) (γ : Nat → rHp), zO 9 S a g q57_0 ρ γ → zGl (fun i vs g1 => jn57 a g i vs g1) (sn57 a g) q57_0 ρ γ := by
  intro ρ γ h
  obtain ⟨ha, hg, hr, hf, hm, hc, hl⟩ := h
  have ha : a = [ρ 0, ρ 1, ρ 2, ρ 3, ρ 4, ρ 5, ρ 6, ρ 7, ρ 8] := ha
  subst ha
  subst hg
  have r3 : (0 : Int) ≤ ρ 3 ∧ ρ 3 ≤ 1999 := zRnA hr 3
  have r5 : (0 : Int) ≤ ρ 5 ∧ ρ 5 ≤ 1999 := zRnA hr 5
  have r9 : ((-1) : Int) ≤ ρ 9 ∧ ρ 9 ≤ (-1) := zRnA hr 9
  have r10 : (0 : Int) ≤ ρ 10 ∧ ρ 10 ≤ 0 := zRnA hr 10
  obtain ⟨w_0, w_1, w_2, w_3⟩ : (ρ 9 < 0) ∧ (ρ 3 ≠ 2000) ∧ (0 ≥ ρ 10) ∧ (ρ 5 ≥ 0) := ⟨by omega, by omega, by omega, by omega⟩
  have m1 : γ 0 15 0 71 = ρ 3 := zAllA hm 1
  have m3 : γ 0 100 0 (ρ 0) = ρ 5 := zAllA hm 3
  have m4 : γ 0 101 0 (ρ 0) = ρ 6 := zAllA hm 4
  have m5 : γ 0 15 0 76 = ρ 7 := zAllA hm 5
  have m7 : γ 0 66 0 (ρ 0) = ρ 10 := zAllA hm 7
  have c2 : γ 2 = rUp (γ 1) 15 0 71 (ρ 3 + 1) := And.right (zChA hc 11)
  have c3 : γ 3 = rUp (γ 2) 93 0 (ρ 3) (ρ 0) := And.right (zChA hc 10)
  have c4 : γ 4 = rUp (γ 3) 94 0 (ρ 3) (ρ 7) := And.right (zChA hc 9)
  have c5 : γ 5 = rUp (γ 4) 95 0 (ρ 3) (ρ 1) := And.right (zChA hc 8)
  have c6 : γ 6 = rUp (γ 5) 96 0 (ρ 3) (-1) := And.right (zChA hc 7)
  have c7 : γ 7 = rUp (γ 6) 97 0 (ρ 3) 0 := And.right (zChA hc 6)
  have c8 : γ 8 = rUp (γ 7) 99 0 (4 * ρ 3) 0 := And.right (zChA hc 5)
  have c9 : γ 9 = rUp (γ 8) 99 0 (4 * ρ 3 + 1) 0 := And.right (zChA hc 4)
  have c10 : γ 10 = rUp (γ 9) 99 0 (4 * ρ 3 + 2) 0 := And.right (zChA hc 3)
  have c11 : γ 11 = rUp (γ 10) 99 0 (4 * ρ 3 + 3) 0 := And.right (zChA hc 2)
  have c12 : γ 12 = rUp (γ 11) 96 0 (ρ 6) (ρ 3) := And.right (zChA hc 1)
  have c13 : γ 13 = rUp (γ 12) 101 0 (ρ 0) (ρ 3) := And.right (zChA hc 0)
  have l0 : sn56 [ρ 0, ρ 2, ρ 3] (γ 0) 0 (ρ 9) (γ 1) := hS56 _ _ _ _ _ (zAllA hl 0)
  show jn57 [ρ 0, ρ 1, ρ 2, ρ 3, ρ 4, ρ 5, ρ 6, ρ 7, ρ 8] (γ 0) 0 [ρ 0, ρ 1, ρ 2, ρ 3, ρ 4, ρ 5, ρ 6, ρ 7, ρ 8, 0, ρ 3 + 1, 0, ρ 5] (γ 13)
  have hD : dn57 [ρ 0, ρ 1] (γ 0) = .inl (0, [ρ 0, ρ 1, 0], γ 13) := by
    unfold dn57
    refine zLV (ρ 0) rfl (zLV (ρ 1) rfl (zLE m1 (zLE m3 (zLE m4 (zLE m5 (zLE (show fn56 [ρ 0] (γ 0) = (0, ρ 9, γ 1) from l0.symm) (zLV (γ 1) rfl ?_)))))))
    refine zLV (ρ 9) rfl (zIP w_0 (zIP w_1 (zLE c2.symm (zLE c3.symm (zLE c4.symm (zLE c5.symm (zLE c6.symm ?_)))))))
    refine zLE c7.symm (zLE m7 (zIP w_2 (zLE c8.symm (zLE c9.symm (zLE c10.symm (zLE c11.symm (zIP w_3 ?_)))))))
    refine zLE c12.symm (zLE c13.symm ?_)
    rfl
  exact zGoo_to hD
theorem vn57_1 {S : Nat → zSpc} (hS56 : zIm S 56 sn56) {a : List Int} {g : rHp} : ∀ (ρ : Nat → Int) (γ : Nat → rHp), zO 9 S a g q57_1 ρ γ → zGl (fun i vs g1 => jn57 a g i vs g1) (sn57 a g) q57_1 ρ γ := by
  intro ρ γ h
  obtain ⟨ha, hg, hr, hf, hm, hc, hl⟩ := h
  have ha : a = [ρ 0, ρ 1, ρ 2, ρ 3, ρ 4, ρ 5, ρ 6, ρ 7, ρ 8] := ha
  subst ha
  subst hg
  have r3 : (0 : Int) ≤ ρ 3 ∧ ρ 3 ≤ 1999 := zRnA hr 3
  have r5 : ((-1) : Int) ≤ ρ 5 ∧ ρ 5 ≤ (-1) := zRnA hr 5
  have r9 : ((-1) : Int) ≤ ρ 9 ∧ ρ 9 ≤ (-1) := zRnA hr 9
  have r10 : (0 : Int) ≤ ρ 10 ∧ ρ 10 ≤ 0 := zRnA hr 10
  obtain ⟨w_0, w_1, w_2, w_3⟩ : (ρ 9 < 0) ∧ (ρ 3 ≠ 2000) ∧ (0 ≥ ρ 10) ∧ (¬ (ρ 5 ≥ 0)) := ⟨by omega, by omega, by omega, by omega⟩
  have m1 : γ 0 15 0 71 = ρ 3 := zAllA hm 1
  have m3 : γ 0 100 0 (ρ 0) = ρ 5 := zAllA hm 3
  have m4 : γ 0 101 0 (ρ 0) = ρ 6 := zAllA hm 4
  have m5 : γ 0 15 0 76 = ρ 7 := zAllA hm 5
  have m7 : γ 0 66 0 (ρ 0) = ρ 10 := zAllA hm 7
  have c2 : γ 2 = rUp (γ 1) 15 0 71 (ρ 3 + 1) := And.right (zChA hc 11)
  have c3 : γ 3 = rUp (γ 2) 93 0 (ρ 3) (ρ 0) := And.right (zChA hc 10)
  have c4 : γ 4 = rUp (γ 3) 94 0 (ρ 3) (ρ 7) := And.right (zChA hc 9)
  have c5 : γ 5 = rUp (γ 4) 95 0 (ρ 3) (ρ 1) := And.right (zChA hc 8)
  have c6 : γ 6 = rUp (γ 5) 96 0 (ρ 3) (-1) := And.right (zChA hc 7)
  have c7 : γ 7 = rUp (γ 6) 97 0 (ρ 3) 0 := And.right (zChA hc 6)
  have c8 : γ 8 = rUp (γ 7) 99 0 (4 * ρ 3) 0 := And.right (zChA hc 5)
  have c9 : γ 9 = rUp (γ 8) 99 0 (4 * ρ 3 + 1) 0 := And.right (zChA hc 4)
  have c10 : γ 10 = rUp (γ 9) 99 0 (4 * ρ 3 + 2) 0 := And.right (zChA hc 3)
  have c11 : γ 11 = rUp (γ 10) 99 0 (4 * ρ 3 + 3) 0 := And.right (zChA hc 2)
  have c12 : γ 12 = rUp (γ 11) 100 0 (ρ 0) (ρ 3) := And.right (zChA hc 1)
  have c13 : γ 13 = rUp (γ 12) 101 0 (ρ 0) (ρ 3) := And.right (zChA hc 0)
  have l0 : sn56 [ρ 0, ρ 2, ρ 3] (γ 0) 0 (ρ 9) (γ 1) := hS56 _ _ _ _ _ (zAllA hl 0)
  show jn57 [ρ 0, ρ 1, ρ 2, ρ 3, ρ 4, ρ 5, ρ 6, ρ 7, ρ 8] (γ 0) 0 [ρ 0, ρ 1, ρ 2, ρ 3, ρ 4, ρ 5, ρ 6, ρ 7, ρ 8, 0, ρ 3 + 1, 0, ρ 3] (γ 13)
  have hD : dn57 [ρ 0, ρ 1] (γ 0) = .inl (0, [ρ 0, ρ 1, 0], γ 13) := by
    unfold dn57
    refine zLV (ρ 0) rfl (zLV (ρ 1) rfl (zLE m1 (zLE m3 (zLE m4 (zLE m5 (zLE (show fn56 [ρ 0] (γ 0) = (0, ρ 9, γ 1) from l0.symm) (zLV (γ 1) rfl ?_)))))))
    refine zLV (ρ 9) rfl (zIP w_0 (zIP w_1 (zLE c2.symm (zLE c3.symm (zLE c4.symm (zLE c5.symm (zLE c6.symm ?_)))))))
    refine zLE c7.symm (zLE m7 (zIP w_2 (zLE c8.symm (zLE c9.symm (zLE c10.symm (zLE c11.symm (zIN w_3 ?_)))))))
    refine zLE c12.symm (zLE c13.symm ?_)
    rfl
  exact zGoo_to hD
theorem vn57_2 {S : Nat → zSpc} (hS56 : zIm S 56 sn56) {a : List Int} {g : rHp} : ∀ (ρ : Nat → Int) (γ : Nat → rHp), zO 9 S a g q57_2 ρ γ → zGl (fun i vs g1 => jn57 a g i vs g1) (sn57 a g) q57_2 ρ γ := by
  intro ρ γ h
  obtain ⟨ha, hg, hr, hf, hm, hc, hl⟩ := h
  have ha : a = [ρ 0, ρ 1, ρ 2, ρ 3, ρ 4, ρ 5, ρ 6, ρ 7, ρ 8] := ha
  subst ha
  subst hg
  have r3 : (0 : Int) ≤ ρ 3 ∧ ρ 3 ≤ 1999 := zRnA hr 3
  have r5 : (0 : Int) ≤ ρ 5 ∧ ρ 5 ≤ 1999 := zRnA hr 5
  have r9 : ((-1) : Int) ≤ ρ 9 ∧ ρ 9 ≤ (-1) := zRnA hr 9
  have r10 : (1 : Int) ≤ ρ 10 ∧ ρ 10 ≤ 1 := zRnA hr 10
  obtain ⟨w_0, w_1, w_2, w_3, w_4⟩ : (ρ 9 < 0) ∧ (ρ 3 ≠ 2000) ∧ (¬ (0 ≥ ρ 10)) ∧ (1 ≥ ρ 10) ∧ (ρ 5 ≥ 0) := ⟨by omega, by omega, by omega, by omega, by omega⟩
  have m1 : γ 0 15 0 71 = ρ 3 := zAllA hm 1
  have m3 : γ 0 100 0 (ρ 0) = ρ 5 := zAllA hm 3
  have m4 : γ 0 101 0 (ρ 0) = ρ 6 := zAllA hm 4
  have m5 : γ 0 15 0 76 = ρ 7 := zAllA hm 5
  have m7 : γ 0 66 0 (ρ 0) = ρ 10 := zAllA hm 7
  have m8 : γ 0 102 0 0 = ρ 11 := zAllA hm 8
  have c2 : γ 2 = rUp (γ 1) 15 0 71 (ρ 3 + 1) := And.right (zChA hc 11)
  have c3 : γ 3 = rUp (γ 2) 93 0 (ρ 3) (ρ 0) := And.right (zChA hc 10)
  have c4 : γ 4 = rUp (γ 3) 94 0 (ρ 3) (ρ 7) := And.right (zChA hc 9)
  have c5 : γ 5 = rUp (γ 4) 95 0 (ρ 3) (ρ 1) := And.right (zChA hc 8)
  have c6 : γ 6 = rUp (γ 5) 96 0 (ρ 3) (-1) := And.right (zChA hc 7)
  have c7 : γ 7 = rUp (γ 6) 97 0 (ρ 3) 0 := And.right (zChA hc 6)
  have c8 : γ 8 = rUp (γ 7) 99 0 (4 * ρ 3) (ρ 11) := And.right (zChA hc 5)
  have c9 : γ 9 = rUp (γ 8) 99 0 (4 * ρ 3 + 1) 0 := And.right (zChA hc 4)
  have c10 : γ 10 = rUp (γ 9) 99 0 (4 * ρ 3 + 2) 0 := And.right (zChA hc 3)
  have c11 : γ 11 = rUp (γ 10) 99 0 (4 * ρ 3 + 3) 0 := And.right (zChA hc 2)
  have c12 : γ 12 = rUp (γ 11) 96 0 (ρ 6) (ρ 3) := And.right (zChA hc 1)
  have c13 : γ 13 = rUp (γ 12) 101 0 (ρ 0) (ρ 3) := And.right (zChA hc 0)
  have l0 : sn56 [ρ 0, ρ 2, ρ 3] (γ 0) 0 (ρ 9) (γ 1) := hS56 _ _ _ _ _ (zAllA hl 0)
  show jn57 [ρ 0, ρ 1, ρ 2, ρ 3, ρ 4, ρ 5, ρ 6, ρ 7, ρ 8] (γ 0) 0 [ρ 0, ρ 1, ρ 2, ρ 3, ρ 4, ρ 5, ρ 6, ρ 7, ρ 8, 0, ρ 3 + 1, 0, ρ 5] (γ 13)
  have hD : dn57 [ρ 0, ρ 1] (γ 0) = .inl (0, [ρ 0, ρ 1, 0], γ 13) := by
    unfold dn57
    refine zLV (ρ 0) rfl (zLV (ρ 1) rfl (zLE m1 (zLE m3 (zLE m4 (zLE m5 (zLE (show fn56 [ρ 0] (γ 0) = (0, ρ 9, γ 1) from l0.symm) (zLV (γ 1) rfl ?_)))))))
    refine zLV (ρ 9) rfl (zIP w_0 (zIP w_1 (zLE c2.symm (zLE c3.symm (zLE c4.symm (zLE c5.symm (zLE c6.symm ?_)))))))
    refine zLE c7.symm (zLE m7 (zIN w_2 (zLE m8 (zLE c8.symm (zIP w_3 (zLE c9.symm (zLE c10.symm ?_)))))))
    refine zLE c11.symm (zIP w_4 (zLE c12.symm (zLE c13.symm ?_)))
    rfl
  exact zGoo_to hD
theorem vn57_3 {S : Nat → zSpc} (hS56 : zIm S 56 sn56) {a : List Int} {g : rHp} : ∀ (ρ : Nat → Int) (γ : Nat → rHp), zO 9 S a g q57_3 ρ γ → zGl (fun i vs g1 => jn57 a g i vs g1) (sn57 a g) q57_3 ρ γ := by
  intro ρ γ h
  obtain ⟨ha, hg, hr, hf, hm, hc, hl⟩ := h
  have ha : a = [ρ 0, ρ 1, ρ 2, ρ 3, ρ 4, ρ 5, ρ 6, ρ 7, ρ 8] := ha
  subst ha
  subst hg
  have r3 : (0 : Int) ≤ ρ 3 ∧ ρ 3 ≤ 1999 := zRnA hr 3
  have r5 : ((-1) : Int) ≤ ρ 5 ∧ ρ 5 ≤ (-1) := zRnA hr 5
  have r9 : ((-1) : Int) ≤ ρ 9 ∧ ρ 9 ≤ (-1) := zRnA hr 9
  have r10 : (1 : Int) ≤ ρ 10 ∧ ρ 10 ≤ 1 := zRnA hr 10
  obtain ⟨w_0, w_1, w_2, w_3, w_4⟩ : (ρ 9 < 0) ∧ (ρ 3 ≠ 2000) ∧ (¬ (0 ≥ ρ 10)) ∧ (1 ≥ ρ 10) ∧ (¬ (ρ 5 ≥ 0)) := ⟨by omega, by omega, by omega, by omega, by omega⟩
  have m1 : γ 0 15 0 71 = ρ 3 := zAllA hm 1
  have m3 : γ 0 100 0 (ρ 0) = ρ 5 := zAllA hm 3
  have m4 : γ 0 101 0 (ρ 0) = ρ 6 := zAllA hm 4
  have m5 : γ 0 15 0 76 = ρ 7 := zAllA hm 5
  have m7 : γ 0 66 0 (ρ 0) = ρ 10 := zAllA hm 7
  have m8 : γ 0 102 0 0 = ρ 11 := zAllA hm 8
  have c2 : γ 2 = rUp (γ 1) 15 0 71 (ρ 3 + 1) := And.right (zChA hc 11)
  have c3 : γ 3 = rUp (γ 2) 93 0 (ρ 3) (ρ 0) := And.right (zChA hc 10)
  have c4 : γ 4 = rUp (γ 3) 94 0 (ρ 3) (ρ 7) := And.right (zChA hc 9)
  have c5 : γ 5 = rUp (γ 4) 95 0 (ρ 3) (ρ 1) := And.right (zChA hc 8)
  have c6 : γ 6 = rUp (γ 5) 96 0 (ρ 3) (-1) := And.right (zChA hc 7)
  have c7 : γ 7 = rUp (γ 6) 97 0 (ρ 3) 0 := And.right (zChA hc 6)
  have c8 : γ 8 = rUp (γ 7) 99 0 (4 * ρ 3) (ρ 11) := And.right (zChA hc 5)
  have c9 : γ 9 = rUp (γ 8) 99 0 (4 * ρ 3 + 1) 0 := And.right (zChA hc 4)
  have c10 : γ 10 = rUp (γ 9) 99 0 (4 * ρ 3 + 2) 0 := And.right (zChA hc 3)
  have c11 : γ 11 = rUp (γ 10) 99 0 (4 * ρ 3 + 3) 0 := And.right (zChA hc 2)
  have c12 : γ 12 = rUp (γ 11) 100 0 (ρ 0) (ρ 3) := And.right (zChA hc 1)
  have c13 : γ 13 = rUp (γ 12) 101 0 (ρ 0) (ρ 3) := And.right (zChA hc 0)
  have l0 : sn56 [ρ 0, ρ 2, ρ 3] (γ 0) 0 (ρ 9) (γ 1) := hS56 _ _ _ _ _ (zAllA hl 0)
  show jn57 [ρ 0, ρ 1, ρ 2, ρ 3, ρ 4, ρ 5, ρ 6, ρ 7, ρ 8] (γ 0) 0 [ρ 0, ρ 1, ρ 2, ρ 3, ρ 4, ρ 5, ρ 6, ρ 7, ρ 8, 0, ρ 3 + 1, 0, ρ 3] (γ 13)
  have hD : dn57 [ρ 0, ρ 1] (γ 0) = .inl (0, [ρ 0, ρ 1, 0], γ 13) := by
    unfold dn57
    refine zLV (ρ 0) rfl (zLV (ρ 1) rfl (zLE m1 (zLE m3 (zLE m4 (zLE m5 (zLE (show fn56 [ρ 0] (γ 0) = (0, ρ 9, γ 1) from l0.symm) (zLV (γ 1) rfl ?_)))))))
    refine zLV (ρ 9) rfl (zIP w_0 (zIP w_1 (zLE c2.symm (zLE c3.symm (zLE c4.symm (zLE c5.symm (zLE c6.symm ?_)))))))
    refine zLE c7.symm (zLE m7 (zIN w_2 (zLE m8 (zLE c8.symm (zIP w_3 (zLE c9.symm (zLE c10.symm ?_)))))))
    refine zLE c11.symm (zIN w_4 (zLE c12.symm (zLE c13.symm ?_)))
    rfl
  exact zGoo_to hD
theorem vn57_4 {S : Nat → zSpc} (hS56 : zIm S 56 sn56) {a : List Int} {g : rHp} : ∀ (ρ : Nat → Int) (γ : Nat → rHp), zO 9 S a g q57_4 ρ γ → zGl (fun i vs g1 => jn57 a g i vs g1) (sn57 a g) q57_4 ρ γ := by
  intro ρ γ h
  obtain ⟨ha, hg, hr, hf, hm, hc, hl⟩ := h
  have ha : a = [ρ 0, ρ 1, ρ 2, ρ 3, ρ 4, ρ 5, ρ 6, ρ 7, ρ 8] := ha
  subst ha
  subst hg
  have r3 : (0 : Int) ≤ ρ 3 ∧ ρ 3 ≤ 1999 := zRnA hr 3
  have r5 : (0 : Int) ≤ ρ 5 ∧ ρ 5 ≤ 1999 := zRnA hr 5
  have r9 : ((-1) : Int) ≤ ρ 9 ∧ ρ 9 ≤ (-1) := zRnA hr 9
  have r10 : (2 : Int) ≤ ρ 10 ∧ ρ 10 ≤ 2 := zRnA hr 10
  obtain ⟨w_0, w_1, w_2, w_3, w_4, w_5⟩ : (ρ 9 < 0) ∧ (ρ 3 ≠ 2000) ∧ (¬ (0 ≥ ρ 10)) ∧ (¬ (1 ≥ ρ 10)) ∧ (2 ≥ ρ 10) ∧ (ρ 5 ≥ 0) := ⟨by omega, by omega, by omega, by omega, by omega, by omega⟩
  have m1 : γ 0 15 0 71 = ρ 3 := zAllA hm 1
  have m3 : γ 0 100 0 (ρ 0) = ρ 5 := zAllA hm 3
  have m4 : γ 0 101 0 (ρ 0) = ρ 6 := zAllA hm 4
  have m5 : γ 0 15 0 76 = ρ 7 := zAllA hm 5
  have m7 : γ 0 66 0 (ρ 0) = ρ 10 := zAllA hm 7
  have m8 : γ 0 102 0 0 = ρ 11 := zAllA hm 8
  have m9 : γ 0 102 0 1 = ρ 12 := zAllA hm 9
  have c2 : γ 2 = rUp (γ 1) 15 0 71 (ρ 3 + 1) := And.right (zChA hc 11)
  have c3 : γ 3 = rUp (γ 2) 93 0 (ρ 3) (ρ 0) := And.right (zChA hc 10)
  have c4 : γ 4 = rUp (γ 3) 94 0 (ρ 3) (ρ 7) := And.right (zChA hc 9)
  have c5 : γ 5 = rUp (γ 4) 95 0 (ρ 3) (ρ 1) := And.right (zChA hc 8)
  have c6 : γ 6 = rUp (γ 5) 96 0 (ρ 3) (-1) := And.right (zChA hc 7)
  have c7 : γ 7 = rUp (γ 6) 97 0 (ρ 3) 0 := And.right (zChA hc 6)
  have c8 : γ 8 = rUp (γ 7) 99 0 (4 * ρ 3) (ρ 11) := And.right (zChA hc 5)
  have c9 : γ 9 = rUp (γ 8) 99 0 (4 * ρ 3 + 1) (ρ 12) := And.right (zChA hc 4)
  have c10 : γ 10 = rUp (γ 9) 99 0 (4 * ρ 3 + 2) 0 := And.right (zChA hc 3)
  have c11 : γ 11 = rUp (γ 10) 99 0 (4 * ρ 3 + 3) 0 := And.right (zChA hc 2)
  have c12 : γ 12 = rUp (γ 11) 96 0 (ρ 6) (ρ 3) := And.right (zChA hc 1)
  have c13 : γ 13 = rUp (γ 12) 101 0 (ρ 0) (ρ 3) := And.right (zChA hc 0)
  have l0 : sn56 [ρ 0, ρ 2, ρ 3] (γ 0) 0 (ρ 9) (γ 1) := hS56 _ _ _ _ _ (zAllA hl 0)
  show jn57 [ρ 0, ρ 1, ρ 2, ρ 3, ρ 4, ρ 5, ρ 6, ρ 7, ρ 8] (γ 0) 0 [ρ 0, ρ 1, ρ 2, ρ 3, ρ 4, ρ 5, ρ 6, ρ 7, ρ 8, 0, ρ 3 + 1, 0, ρ 5] (γ 13)
  have hD : dn57 [ρ 0, ρ 1] (γ 0) = .inl (0, [ρ 0, ρ 1, 0], γ 13) := by
    unfold dn57
    refine zLV (ρ 0) rfl (zLV (ρ 1) rfl (zLE m1 (zLE m3 (zLE m4 (zLE m5 (zLE (show fn56 [ρ 0] (γ 0) = (0, ρ 9, γ 1) from l0.symm) (zLV (γ 1) rfl ?_)))))))
    refine zLV (ρ 9) rfl (zIP w_0 (zIP w_1 (zLE c2.symm (zLE c3.symm (zLE c4.symm (zLE c5.symm (zLE c6.symm ?_)))))))
    refine zLE c7.symm (zLE m7 (zIN w_2 (zLE m8 (zLE c8.symm (zIN w_3 (zLE m9 (zLE c9.symm ?_)))))))
    refine zIP w_4 (zLE c10.symm (zLE c11.symm (zIP w_5 (zLE c12.symm (zLE c13.symm ?_)))))
    rfl
  exact zGoo_to hD
theorem vn57_5 {S : Nat → zSpc} (hS56 : zIm S 56 sn56) {a : List Int} {g : rHp} : ∀ (ρ : Nat → Int) (γ : Nat → rHp), zO 9 S a g q57_5 ρ γ → zGl (fun i vs g1 => jn57 a g i vs g1) (sn57 a g) q57_5 ρ γ := by
  intro ρ γ h
  obtain ⟨ha, hg, hr, hf, hm, hc, hl⟩ := h
  have ha : a = [ρ 0, ρ 1, ρ 2, ρ 3, ρ 4, ρ 5, ρ 6, ρ 7, ρ 8] := ha
  subst ha
  subst hg
  have r3 : (0 : Int) ≤ ρ 3 ∧ ρ 3 ≤ 1999 := zRnA hr 3
  have r5 : ((-1) : Int) ≤ ρ 5 ∧ ρ 5 ≤ (-1) := zRnA hr 5
  have r9 : ((-1) : Int) ≤ ρ 9 ∧ ρ 9 ≤ (-1) := zRnA hr 9
  have r10 : (2 : Int) ≤ ρ 10 ∧ ρ 10 ≤ 2 := zRnA hr 10
  obtain ⟨w_0, w_1, w_2, w_3, w_4, w_5⟩ : (ρ 9 < 0) ∧ (ρ 3 ≠ 2000) ∧ (¬ (0 ≥ ρ 10)) ∧ (¬ (1 ≥ ρ 10)) ∧ (2 ≥ ρ 10) ∧ (¬ (ρ 5 ≥ 0)) := ⟨by omega, by omega, by omega, by omega, by omega, by omega⟩
  have m1 : γ 0 15 0 71 = ρ 3 := zAllA hm 1
  have m3 : γ 0 100 0 (ρ 0) = ρ 5 := zAllA hm 3
  have m4 : γ 0 101 0 (ρ 0) = ρ 6 := zAllA hm 4
  have m5 : γ 0 15 0 76 = ρ 7 := zAllA hm 5
  have m7 : γ 0 66 0 (ρ 0) = ρ 10 := zAllA hm 7
  have m8 : γ 0 102 0 0 = ρ 11 := zAllA hm 8
  have m9 : γ 0 102 0 1 = ρ 12 := zAllA hm 9
  have c2 : γ 2 = rUp (γ 1) 15 0 71 (ρ 3 + 1) := And.right (zChA hc 11)
  have c3 : γ 3 = rUp (γ 2) 93 0 (ρ 3) (ρ 0) := And.right (zChA hc 10)
  have c4 : γ 4 = rUp (γ 3) 94 0 (ρ 3) (ρ 7) := And.right (zChA hc 9)
  have c5 : γ 5 = rUp (γ 4) 95 0 (ρ 3) (ρ 1) := And.right (zChA hc 8)
  have c6 : γ 6 = rUp (γ 5) 96 0 (ρ 3) (-1) := And.right (zChA hc 7)
  have c7 : γ 7 = rUp (γ 6) 97 0 (ρ 3) 0 := And.right (zChA hc 6)
  have c8 : γ 8 = rUp (γ 7) 99 0 (4 * ρ 3) (ρ 11) := And.right (zChA hc 5)
  have c9 : γ 9 = rUp (γ 8) 99 0 (4 * ρ 3 + 1) (ρ 12) := And.right (zChA hc 4)
  have c10 : γ 10 = rUp (γ 9) 99 0 (4 * ρ 3 + 2) 0 := And.right (zChA hc 3)
  have c11 : γ 11 = rUp (γ 10) 99 0 (4 * ρ 3 + 3) 0 := And.right (zChA hc 2)
  have c12 : γ 12 = rUp (γ 11) 100 0 (ρ 0) (ρ 3) := And.right (zChA hc 1)
  have c13 : γ 13 = rUp (γ 12) 101 0 (ρ 0) (ρ 3) := And.right (zChA hc 0)
  have l0 : sn56 [ρ 0, ρ 2, ρ 3] (γ 0) 0 (ρ 9) (γ 1) := hS56 _ _ _ _ _ (zAllA hl 0)
  show jn57 [ρ 0, ρ 1, ρ 2, ρ 3, ρ 4, ρ 5, ρ 6, ρ 7, ρ 8] (γ 0) 0 [ρ 0, ρ 1, ρ 2, ρ 3, ρ 4, ρ 5, ρ 6, ρ 7, ρ 8, 0, ρ 3 + 1, 0, ρ 3] (γ 13)
  have hD : dn57 [ρ 0, ρ 1] (γ 0) = .inl (0, [ρ 0, ρ 1, 0], γ 13) := by
    unfold dn57
    refine zLV (ρ 0) rfl (zLV (ρ 1) rfl (zLE m1 (zLE m3 (zLE m4 (zLE m5 (zLE (show fn56 [ρ 0] (γ 0) = (0, ρ 9, γ 1) from l0.symm) (zLV (γ 1) rfl ?_)))))))
    refine zLV (ρ 9) rfl (zIP w_0 (zIP w_1 (zLE c2.symm (zLE c3.symm (zLE c4.symm (zLE c5.symm (zLE c6.symm ?_)))))))
    refine zLE c7.symm (zLE m7 (zIN w_2 (zLE m8 (zLE c8.symm (zIN w_3 (zLE m9 (zLE c9.symm ?_)))))))
    refine zIP w_4 (zLE c10.symm (zLE c11.symm (zIN w_5 (zLE c12.symm (zLE c13.symm ?_)))))
    rfl
  exact zGoo_to hD
theorem vn57_6 {S : Nat → zSpc} (hS56 : zIm S 56 sn56) {a : List Int} {g : rHp} : ∀ (ρ : Nat → Int) (γ : Nat → rHp), zO 9 S a g q57_6 ρ γ → zGl (fun i vs g1 => jn57 a g i vs g1) (sn57 a g) q57_6 ρ γ := by
  intro ρ γ h
  obtain ⟨ha, hg, hr, hf, hm, hc, hl⟩ := h
  have ha : a = [ρ 0, ρ 1, ρ 2, ρ 3, ρ 4, ρ 5, ρ 6, ρ 7, ρ 8] := ha
  subst ha
  subst hg
  have r3 : (0 : Int) ≤ ρ 3 ∧ ρ 3 ≤ 1999 := zRnA hr 3
  have r5 : (0 : Int) ≤ ρ 5 ∧ ρ 5 ≤ 1999 := zRnA hr 5
  have r9 : ((-1) : Int) ≤ ρ 9 ∧ ρ 9 ≤ (-1) := zRnA hr 9
  have r10 : (3 : Int) ≤ ρ 10 ∧ ρ 10 ≤ 3 := zRnA hr 10
  obtain ⟨w_0, w_1, w_2, w_3, w_4, w_5, w_6⟩ : (ρ 9 < 0) ∧ (ρ 3 ≠ 2000) ∧ (¬ (0 ≥ ρ 10)) ∧ (¬ (1 ≥ ρ 10)) ∧ (¬ (2 ≥ ρ 10)) ∧ (3 ≥ ρ 10) ∧ (ρ 5 ≥ 0) := ⟨by omega, by omega, by omega, by omega, by omega, by omega, by omega⟩
  have m1 : γ 0 15 0 71 = ρ 3 := zAllA hm 1
  have m3 : γ 0 100 0 (ρ 0) = ρ 5 := zAllA hm 3
  have m4 : γ 0 101 0 (ρ 0) = ρ 6 := zAllA hm 4
  have m5 : γ 0 15 0 76 = ρ 7 := zAllA hm 5
  have m7 : γ 0 66 0 (ρ 0) = ρ 10 := zAllA hm 7
  have m8 : γ 0 102 0 0 = ρ 11 := zAllA hm 8
  have m9 : γ 0 102 0 1 = ρ 12 := zAllA hm 9
  have m10 : γ 0 102 0 2 = ρ 13 := zAllA hm 10
  have c2 : γ 2 = rUp (γ 1) 15 0 71 (ρ 3 + 1) := And.right (zChA hc 11)
  have c3 : γ 3 = rUp (γ 2) 93 0 (ρ 3) (ρ 0) := And.right (zChA hc 10)
  have c4 : γ 4 = rUp (γ 3) 94 0 (ρ 3) (ρ 7) := And.right (zChA hc 9)
  have c5 : γ 5 = rUp (γ 4) 95 0 (ρ 3) (ρ 1) := And.right (zChA hc 8)
  have c6 : γ 6 = rUp (γ 5) 96 0 (ρ 3) (-1) := And.right (zChA hc 7)
  have c7 : γ 7 = rUp (γ 6) 97 0 (ρ 3) 0 := And.right (zChA hc 6)
  have c8 : γ 8 = rUp (γ 7) 99 0 (4 * ρ 3) (ρ 11) := And.right (zChA hc 5)
  have c9 : γ 9 = rUp (γ 8) 99 0 (4 * ρ 3 + 1) (ρ 12) := And.right (zChA hc 4)
  have c10 : γ 10 = rUp (γ 9) 99 0 (4 * ρ 3 + 2) (ρ 13) := And.right (zChA hc 3)
  have c11 : γ 11 = rUp (γ 10) 99 0 (4 * ρ 3 + 3) 0 := And.right (zChA hc 2)
  have c12 : γ 12 = rUp (γ 11) 96 0 (ρ 6) (ρ 3) := And.right (zChA hc 1)
  have c13 : γ 13 = rUp (γ 12) 101 0 (ρ 0) (ρ 3) := And.right (zChA hc 0)
  have l0 : sn56 [ρ 0, ρ 2, ρ 3] (γ 0) 0 (ρ 9) (γ 1) := hS56 _ _ _ _ _ (zAllA hl 0)
  show jn57 [ρ 0, ρ 1, ρ 2, ρ 3, ρ 4, ρ 5, ρ 6, ρ 7, ρ 8] (γ 0) 0 [ρ 0, ρ 1, ρ 2, ρ 3, ρ 4, ρ 5, ρ 6, ρ 7, ρ 8, 0, ρ 3 + 1, 0, ρ 5] (γ 13)
  have hD : dn57 [ρ 0, ρ 1] (γ 0) = .inl (0, [ρ 0, ρ 1, 0], γ 13) := by
    unfold dn57
    refine zLV (ρ 0) rfl (zLV (ρ 1) rfl (zLE m1 (zLE m3 (zLE m4 (zLE m5 (zLE (show fn56 [ρ 0] (γ 0) = (0, ρ 9, γ 1) from l0.symm) (zLV (γ 1) rfl ?_)))))))
    refine zLV (ρ 9) rfl (zIP w_0 (zIP w_1 (zLE c2.symm (zLE c3.symm (zLE c4.symm (zLE c5.symm (zLE c6.symm ?_)))))))
    refine zLE c7.symm (zLE m7 (zIN w_2 (zLE m8 (zLE c8.symm (zIN w_3 (zLE m9 (zLE c9.symm ?_)))))))
    refine zIN w_4 (zLE m10 (zLE c10.symm (zIP w_5 (zLE c11.symm (zIP w_6 (zLE c12.symm (zLE c13.symm ?_)))))))
    rfl
  exact zGoo_to hD
theorem vn57_7 {S : Nat → zSpc} (hS56 : zIm S 56 sn56) {a : List Int} {g : rHp} : ∀ (ρ : Nat → Int) (γ : Nat → rHp), zO 9 S a g q57_7 ρ γ → zGl (fun i vs g1 => jn57 a g i vs g1) (sn57 a g) q57_7 ρ γ := by
  intro ρ γ h
  obtain ⟨ha, hg, hr, hf, hm, hc, hl⟩ := h
  have ha : a = [ρ 0, ρ 1, ρ 2, ρ 3, ρ 4, ρ 5, ρ 6, ρ 7, ρ 8] := ha
  subst ha
  subst hg
  have r3 : (0 : Int) ≤ ρ 3 ∧ ρ 3 ≤ 1999 := zRnA hr 3
  have r5 : ((-1) : Int) ≤ ρ 5 ∧ ρ 5 ≤ (-1) := zRnA hr 5
  have r9 : ((-1) : Int) ≤ ρ 9 ∧ ρ 9 ≤ (-1) := zRnA hr 9
  have r10 : (3 : Int) ≤ ρ 10 ∧ ρ 10 ≤ 3 := zRnA hr 10
  obtain ⟨w_0, w_1, w_2, w_3, w_4, w_5, w_6⟩ : (ρ 9 < 0) ∧ (ρ 3 ≠ 2000) ∧ (¬ (0 ≥ ρ 10)) ∧ (¬ (1 ≥ ρ 10)) ∧ (¬ (2 ≥ ρ 10)) ∧ (3 ≥ ρ 10) ∧ (¬ (ρ 5 ≥ 0)) := ⟨by omega, by omega, by omega, by omega, by omega, by omega, by omega⟩
  have m1 : γ 0 15 0 71 = ρ 3 := zAllA hm 1
  have m3 : γ 0 100 0 (ρ 0) = ρ 5 := zAllA hm 3
  have m4 : γ 0 101 0 (ρ 0) = ρ 6 := zAllA hm 4
  have m5 : γ 0 15 0 76 = ρ 7 := zAllA hm 5
  have m7 : γ 0 66 0 (ρ 0) = ρ 10 := zAllA hm 7
  have m8 : γ 0 102 0 0 = ρ 11 := zAllA hm 8
  have m9 : γ 0 102 0 1 = ρ 12 := zAllA hm 9
  have m10 : γ 0 102 0 2 = ρ 13 := zAllA hm 10
  have c2 : γ 2 = rUp (γ 1) 15 0 71 (ρ 3 + 1) := And.right (zChA hc 11)
  have c3 : γ 3 = rUp (γ 2) 93 0 (ρ 3) (ρ 0) := And.right (zChA hc 10)
  have c4 : γ 4 = rUp (γ 3) 94 0 (ρ 3) (ρ 7) := And.right (zChA hc 9)
  have c5 : γ 5 = rUp (γ 4) 95 0 (ρ 3) (ρ 1) := And.right (zChA hc 8)
  have c6 : γ 6 = rUp (γ 5) 96 0 (ρ 3) (-1) := And.right (zChA hc 7)
  have c7 : γ 7 = rUp (γ 6) 97 0 (ρ 3) 0 := And.right (zChA hc 6)
  have c8 : γ 8 = rUp (γ 7) 99 0 (4 * ρ 3) (ρ 11) := And.right (zChA hc 5)
  have c9 : γ 9 = rUp (γ 8) 99 0 (4 * ρ 3 + 1) (ρ 12) := And.right (zChA hc 4)
  have c10 : γ 10 = rUp (γ 9) 99 0 (4 * ρ 3 + 2) (ρ 13) := And.right (zChA hc 3)
  have c11 : γ 11 = rUp (γ 10) 99 0 (4 * ρ 3 + 3) 0 := And.right (zChA hc 2)
  have c12 : γ 12 = rUp (γ 11) 100 0 (ρ 0) (ρ 3) := And.right (zChA hc 1)
  have c13 : γ 13 = rUp (γ 12) 101 0 (ρ 0) (ρ 3) := And.right (zChA hc 0)
  have l0 : sn56 [ρ 0, ρ 2, ρ 3] (γ 0) 0 (ρ 9) (γ 1) := hS56 _ _ _ _ _ (zAllA hl 0)
  show jn57 [ρ 0, ρ 1, ρ 2, ρ 3, ρ 4, ρ 5, ρ 6, ρ 7, ρ 8] (γ 0) 0 [ρ 0, ρ 1, ρ 2, ρ 3, ρ 4, ρ 5, ρ 6, ρ 7, ρ 8, 0, ρ 3 + 1, 0, ρ 3] (γ 13)
  have hD : dn57 [ρ 0, ρ 1] (γ 0) = .inl (0, [ρ 0, ρ 1, 0], γ 13) := by
    unfold dn57
    refine zLV (ρ 0) rfl (zLV (ρ 1) rfl (zLE m1 (zLE m3 (zLE m4 (zLE m5 (zLE (show fn56 [ρ 0] (γ 0) = (0, ρ 9, γ 1) from l0.symm) (zLV (γ 1) rfl ?_)))))))
    refine zLV (ρ 9) rfl (zIP w_0 (zIP w_1 (zLE c2.symm (zLE c3.symm (zLE c4.symm (zLE c5.symm (zLE c6.symm ?_)))))))
    refine zLE c7.symm (zLE m7 (zIN w_2 (zLE m8 (zLE c8.symm (zIN w_3 (zLE m9 (zLE c9.symm ?_)))))))
    refine zIN w_4 (zLE m10 (zLE c10.symm (zIP w_5 (zLE c11.symm (zIN w_6 (zLE c12.symm (zLE c13.symm ?_)))))))
    rfl
  exact zGoo_to hD
theorem vn57_8 {S : Nat → zSpc} (hS56 : zIm S 56 sn56) {a : List Int} {g : rHp} : ∀ (ρ : Nat → Int) (γ : Nat → rHp), zO 9 S a g q57_8 ρ γ → zGl (fun i vs g1 => jn57 a g i vs g1) (sn57 a g) q57_8 ρ γ := by
  intro ρ γ h
  obtain ⟨ha, hg, hr, hf, hm, hc, hl⟩ := h
  have ha : a = [ρ 0, ρ 1, ρ 2, ρ 3, ρ 4, ρ 5, ρ 6, ρ 7, ρ 8] := ha
  subst ha
  subst hg
  have r3 : (0 : Int) ≤ ρ 3 ∧ ρ 3 ≤ 1999 := zRnA hr 3
  have r5 : (0 : Int) ≤ ρ 5 ∧ ρ 5 ≤ 1999 := zRnA hr 5
  have r9 : ((-1) : Int) ≤ ρ 9 ∧ ρ 9 ≤ (-1) := zRnA hr 9
  have r10 : (4 : Int) ≤ ρ 10 ∧ ρ 10 ≤ 4 := zRnA hr 10
  obtain ⟨w_0, w_1, w_2, w_3, w_4, w_5, w_6⟩ : (ρ 9 < 0) ∧ (ρ 3 ≠ 2000) ∧ (¬ (0 ≥ ρ 10)) ∧ (¬ (1 ≥ ρ 10)) ∧ (¬ (2 ≥ ρ 10)) ∧ (¬ (3 ≥ ρ 10)) ∧ (ρ 5 ≥ 0) := ⟨by omega, by omega, by omega, by omega, by omega, by omega, by omega⟩
  have m1 : γ 0 15 0 71 = ρ 3 := zAllA hm 1
  have m3 : γ 0 100 0 (ρ 0) = ρ 5 := zAllA hm 3
  have m4 : γ 0 101 0 (ρ 0) = ρ 6 := zAllA hm 4
  have m5 : γ 0 15 0 76 = ρ 7 := zAllA hm 5
  have m7 : γ 0 66 0 (ρ 0) = ρ 10 := zAllA hm 7
  have m8 : γ 0 102 0 0 = ρ 11 := zAllA hm 8
  have m9 : γ 0 102 0 1 = ρ 12 := zAllA hm 9
  have m10 : γ 0 102 0 2 = ρ 13 := zAllA hm 10
  have m11 : γ 0 102 0 3 = ρ 14 := zAllA hm 11
  have c2 : γ 2 = rUp (γ 1) 15 0 71 (ρ 3 + 1) := And.right (zChA hc 11)
  have c3 : γ 3 = rUp (γ 2) 93 0 (ρ 3) (ρ 0) := And.right (zChA hc 10)
  have c4 : γ 4 = rUp (γ 3) 94 0 (ρ 3) (ρ 7) := And.right (zChA hc 9)
  have c5 : γ 5 = rUp (γ 4) 95 0 (ρ 3) (ρ 1) := And.right (zChA hc 8)
  have c6 : γ 6 = rUp (γ 5) 96 0 (ρ 3) (-1) := And.right (zChA hc 7)
  have c7 : γ 7 = rUp (γ 6) 97 0 (ρ 3) 0 := And.right (zChA hc 6)
  have c8 : γ 8 = rUp (γ 7) 99 0 (4 * ρ 3) (ρ 11) := And.right (zChA hc 5)
  have c9 : γ 9 = rUp (γ 8) 99 0 (4 * ρ 3 + 1) (ρ 12) := And.right (zChA hc 4)
  have c10 : γ 10 = rUp (γ 9) 99 0 (4 * ρ 3 + 2) (ρ 13) := And.right (zChA hc 3)
  have c11 : γ 11 = rUp (γ 10) 99 0 (4 * ρ 3 + 3) (ρ 14) := And.right (zChA hc 2)
  have c12 : γ 12 = rUp (γ 11) 96 0 (ρ 6) (ρ 3) := And.right (zChA hc 1)
  have c13 : γ 13 = rUp (γ 12) 101 0 (ρ 0) (ρ 3) := And.right (zChA hc 0)
  have l0 : sn56 [ρ 0, ρ 2, ρ 3] (γ 0) 0 (ρ 9) (γ 1) := hS56 _ _ _ _ _ (zAllA hl 0)
  show jn57 [ρ 0, ρ 1, ρ 2, ρ 3, ρ 4, ρ 5, ρ 6, ρ 7, ρ 8] (γ 0) 0 [ρ 0, ρ 1, ρ 2, ρ 3, ρ 4, ρ 5, ρ 6, ρ 7, ρ 8, 0, ρ 3 + 1, 0, ρ 5] (γ 13)
  have hD : dn57 [ρ 0, ρ 1] (γ 0) = .inl (0, [ρ 0, ρ 1, 0], γ 13) := by
    unfold dn57
    refine zLV (ρ 0) rfl (zLV (ρ 1) rfl (zLE m1 (zLE m3 (zLE m4 (zLE m5 (zLE (show fn56 [ρ 0] (γ 0) = (0, ρ 9, γ 1) from l0.symm) (zLV (γ 1) rfl ?_)))))))
    refine zLV (ρ 9) rfl (zIP w_0 (zIP w_1 (zLE c2.symm (zLE c3.symm (zLE c4.symm (zLE c5.symm (zLE c6.symm ?_)))))))
    refine zLE c7.symm (zLE m7 (zIN w_2 (zLE m8 (zLE c8.symm (zIN w_3 (zLE m9 (zLE c9.symm ?_)))))))
    refine zIN w_4 (zLE m10 (zLE c10.symm (zIN w_5 (zLE m11 (zLE c11.symm (zIP w_6 (zLE c12.symm ?_)))))))
    refine zLE c13.symm ?_
    rfl
  exact zGoo_to hD
theorem vn57_9 {S : Nat → zSpc} (hS56 : zIm S 56 sn56) {a : List Int} {g : rHp} : ∀ (ρ : Nat → Int) (γ : Nat → rHp), zO 9 S a g q57_9 ρ γ → zGl (fun i vs g1 => jn57 a g i vs g1) (sn57 a g) q57_9 ρ γ := by
  intro ρ γ h
  obtain ⟨ha, hg, hr, hf, hm, hc, hl⟩ := h
  have ha : a = [ρ 0, ρ 1, ρ 2, ρ 3, ρ 4, ρ 5, ρ 6, ρ 7, ρ 8] := ha
  subst ha
  subst hg
  have r3 : (0 : Int) ≤ ρ 3 ∧ ρ 3 ≤ 1999 := zRnA hr 3
  have r5 : ((-1) : Int) ≤ ρ 5 ∧ ρ 5 ≤ (-1) := zRnA hr 5
  have r9 : ((-1) : Int) ≤ ρ 9 ∧ ρ 9 ≤ (-1) := zRnA hr 9
  have r10 : (4 : Int) ≤ ρ 10 ∧ ρ 10 ≤ 4 := zRnA hr 10
  obtain ⟨w_0, w_1, w_2, w_3, w_4, w_5, w_6⟩ : (ρ 9 < 0) ∧ (ρ 3 ≠ 2000) ∧ (¬ (0 ≥ ρ 10)) ∧ (¬ (1 ≥ ρ 10)) ∧ (¬ (2 ≥ ρ 10)) ∧ (¬ (3 ≥ ρ 10)) ∧ (¬ (ρ 5 ≥ 0)) := ⟨by omega, by omega, by omega, by omega, by omega, by omega, by omega⟩
  have m1 : γ 0 15 0 71 = ρ 3 := zAllA hm 1
  have m3 : γ 0 100 0 (ρ 0) = ρ 5 := zAllA hm 3
  have m4 : γ 0 101 0 (ρ 0) = ρ 6 := zAllA hm 4
  have m5 : γ 0 15 0 76 = ρ 7 := zAllA hm 5
  have m7 : γ 0 66 0 (ρ 0) = ρ 10 := zAllA hm 7
  have m8 : γ 0 102 0 0 = ρ 11 := zAllA hm 8
  have m9 : γ 0 102 0 1 = ρ 12 := zAllA hm 9
  have m10 : γ 0 102 0 2 = ρ 13 := zAllA hm 10
  have m11 : γ 0 102 0 3 = ρ 14 := zAllA hm 11
  have c2 : γ 2 = rUp (γ 1) 15 0 71 (ρ 3 + 1) := And.right (zChA hc 11)
  have c3 : γ 3 = rUp (γ 2) 93 0 (ρ 3) (ρ 0) := And.right (zChA hc 10)
  have c4 : γ 4 = rUp (γ 3) 94 0 (ρ 3) (ρ 7) := And.right (zChA hc 9)
  have c5 : γ 5 = rUp (γ 4) 95 0 (ρ 3) (ρ 1) := And.right (zChA hc 8)
  have c6 : γ 6 = rUp (γ 5) 96 0 (ρ 3) (-1) := And.right (zChA hc 7)
  have c7 : γ 7 = rUp (γ 6) 97 0 (ρ 3) 0 := And.right (zChA hc 6)
  have c8 : γ 8 = rUp (γ 7) 99 0 (4 * ρ 3) (ρ 11) := And.right (zChA hc 5)
  have c9 : γ 9 = rUp (γ 8) 99 0 (4 * ρ 3 + 1) (ρ 12) := And.right (zChA hc 4)
  have c10 : γ 10 = rUp (γ 9) 99 0 (4 * ρ 3 + 2) (ρ 13) := And.right (zChA hc 3)
  have c11 : γ 11 = rUp (γ 10) 99 0 (4 * ρ 3 + 3) (ρ 14) := And.right (zChA hc 2)
  have c12 : γ 12 = rUp (γ 11) 100 0 (ρ 0) (ρ 3) := And.right (zChA hc 1)
  have c13 : γ 13 = rUp (γ 12) 101 0 (ρ 0) (ρ 3) := And.right (zChA hc 0)
  have l0 : sn56 [ρ 0, ρ 2, ρ 3] (γ 0) 0 (ρ 9) (γ 1) := hS56 _ _ _ _ _ (zAllA hl 0)
  show jn57 [ρ 0, ρ 1, ρ 2, ρ 3, ρ 4, ρ 5, ρ 6, ρ 7, ρ 8] (γ 0) 0 [ρ 0, ρ 1, ρ 2, ρ 3, ρ 4, ρ 5, ρ 6, ρ 7, ρ 8, 0, ρ 3 + 1, 0, ρ 3] (γ 13)
  have hD : dn57 [ρ 0, ρ 1] (γ 0) = .inl (0, [ρ 0, ρ 1, 0], γ 13) := by
    unfold dn57
    refine zLV (ρ 0) rfl (zLV (ρ 1) rfl (zLE m1 (zLE m3 (zLE m4 (zLE m5 (zLE (show fn56 [ρ 0] (γ 0) = (0, ρ 9, γ 1) from l0.symm) (zLV (γ 1) rfl ?_)))))))
    refine zLV (ρ 9) rfl (zIP w_0 (zIP w_1 (zLE c2.symm (zLE c3.symm (zLE c4.symm (zLE c5.symm (zLE c6.symm ?_)))))))
    refine zLE c7.symm (zLE m7 (zIN w_2 (zLE m8 (zLE c8.symm (zIN w_3 (zLE m9 (zLE c9.symm ?_)))))))
    refine zIN w_4 (zLE m10 (zLE c10.symm (zIN w_5 (zLE m11 (zLE c11.symm (zIN w_6 (zLE c12.symm ?_)))))))
    refine zLE c13.symm ?_
    rfl
  exact zGoo_to hD
theorem vn57_10 {S : Nat → zSpc} (hS56 : zIm S 56 sn56) {a : List Int} {g : rHp} : ∀ (ρ : Nat → Int) (γ : Nat → rHp), zO 9 S a g q57_10 ρ γ → zGl (fun i vs g1 => jn57 a g i vs g1) (sn57 a g) q57_10 ρ γ := by
  intro ρ γ h
  obtain ⟨ha, hg, hr, hf, hm, hc, hl⟩ := h
  have ha : a = [ρ 0, ρ 1, ρ 2, ρ 3, ρ 4, ρ 5, ρ 6, ρ 7, ρ 8] := ha
  subst ha
  subst hg
  have r3 : (2000 : Int) ≤ ρ 3 ∧ ρ 3 ≤ 2000 := zRnA hr 3
  have r9 : ((-1) : Int) ≤ ρ 9 ∧ ρ 9 ≤ (-1) := zRnA hr 9
  obtain ⟨w_0, w_1⟩ : (ρ 9 < 0) ∧ (¬ (ρ 3 ≠ 2000)) := ⟨by omega, by omega⟩
  have m1 : γ 0 15 0 71 = ρ 3 := zAllA hm 1
  have m3 : γ 0 100 0 (ρ 0) = ρ 5 := zAllA hm 3
  have m4 : γ 0 101 0 (ρ 0) = ρ 6 := zAllA hm 4
  have m5 : γ 0 15 0 76 = ρ 7 := zAllA hm 5
  have c2 : γ 2 = rUp (γ 1) 15 0 77 3 := And.right (zChA hc 0)
  have l0 : sn56 [ρ 0, ρ 2, ρ 3] (γ 0) 0 (ρ 9) (γ 1) := hS56 _ _ _ _ _ (zAllA hl 0)
  show sn57 [ρ 0, ρ 1, ρ 2, ρ 3, ρ 4, ρ 5, ρ 6, ρ 7, ρ 8] (γ 0) 0 0 (γ 2)
  have hD : dn57 [ρ 0, ρ 1] (γ 0) = .inr (0, 0, γ 2) := by
    unfold dn57
    refine zLV (ρ 0) rfl (zLV (ρ 1) rfl (zLE m1 (zLE m3 (zLE m4 (zLE m5 (zLE (show fn56 [ρ 0] (γ 0) = (0, ρ 9, γ 1) from l0.symm) (zLV (γ 1) rfl ?_)))))))
    refine zLV (ρ 9) rfl (zIP w_0 (zIN w_1 (zLE c2.symm ?_)))
    rfl
  exact zGoo_end hD
theorem vn57_11 {S : Nat → zSpc} (hS56 : zIm S 56 sn56) {a : List Int} {g : rHp} : ∀ (ρ : Nat → Int) (γ : Nat → rHp), zO 9 S a g q57_11 ρ γ → zGl (fun i vs g1 => jn57 a g i vs g1) (sn57 a g) q57_11 ρ γ := by
  intro ρ γ h
  obtain ⟨ha, hg, hr, hf, hm, hc, hl⟩ := h
  have ha : a = [ρ 0, ρ 1, ρ 2, ρ 3, ρ 4, ρ 5, ρ 6, ρ 7, ρ 8] := ha
  subst ha
  subst hg
  have r9 : (0 : Int) ≤ ρ 9 ∧ ρ 9 ≤ 1999 := zRnA hr 9
  have w_0 : ¬ (ρ 9 < 0) := by omega
  have m1 : γ 0 15 0 71 = ρ 3 := zAllA hm 1
  have m3 : γ 0 100 0 (ρ 0) = ρ 5 := zAllA hm 3
  have m4 : γ 0 101 0 (ρ 0) = ρ 6 := zAllA hm 4
  have m5 : γ 0 15 0 76 = ρ 7 := zAllA hm 5
  have l0 : sn56 [ρ 0, ρ 2, ρ 3] (γ 0) 0 (ρ 9) (γ 1) := hS56 _ _ _ _ _ (zAllA hl 0)
  show sn57 [ρ 0, ρ 1, ρ 2, ρ 3, ρ 4, ρ 5, ρ 6, ρ 7, ρ 8] (γ 0) 0 0 (γ 1)
  have hD : dn57 [ρ 0, ρ 1] (γ 0) = .inr (0, 0, γ 1) := by
    unfold dn57
    refine zLV (ρ 0) rfl (zLV (ρ 1) rfl (zLE m1 (zLE m3 (zLE m4 (zLE m5 (zLE (show fn56 [ρ 0] (γ 0) = (0, ρ 9, γ 1) from l0.symm) (zLV (γ 1) rfl ?_)))))))
    refine zLV (ρ 9) rfl (zIN w_0 ?_)
    rfl
  exact zGoo_end hD
theorem vn57a0_0 {S : Nat → zSpc} (hS56 : zIm S 56 sn56) {a : List Int} {g : rHp} : ∀ (ρ : Nat → Int) (γ : Nat → rHp), jn57 a g 0 (zAg (zNA a57_ 0) ρ) (γ 1) → zO 9 S a g q57a0_0 ρ γ → zGl (fun i vs g1 => jn57 a g i vs g1) (sn57 a g) q57a0_0 ρ γ := by
  intro ρ γ hJ h
  obtain ⟨ha, hg, hr, hf, hm, hc, hl⟩ := h
  have ha : a = [ρ 0, ρ 1, ρ 2, ρ 3, ρ 4, ρ 5, ρ 6, ρ 7, ρ 8] := ha
  subst ha
  subst hg
  have hJ : jn57 [ρ 0, ρ 1, ρ 2, ρ 3, ρ 4, ρ 5, ρ 6, ρ 7, ρ 8] (γ 0) 0 [ρ 0, ρ 1, ρ 2, ρ 3, ρ 4, ρ 5, ρ 6, ρ 7, ρ 8, ρ 9, ρ 10, ρ 11, ρ 12] (γ 1) := hJ
  have r1 : ((-1) : Int) ≤ ρ 1 ∧ ρ 1 ≤ (-1) := zRnA hr 1
  have w_0 : ρ 1 < 0 := by omega
  have m1 : γ 0 15 0 71 = ρ 3 := zAllA hm 1
  have m8 : γ 1 97 0 (ρ 3) = ρ 11 := zAllA hm 8
  show sn57 [ρ 0, ρ 1, ρ 2, ρ 3, ρ 4, ρ 5, ρ 6, ρ 7, ρ 8] (γ 0) 0 0 (γ 1)
  have hD : en57 (γ 0) (0, [ρ 0, ρ 1, ρ 9], γ 1) = .inr (0, 0, γ 1) := by
    unfold en57
    refine zIP (show (0 : Nat) = 0 by decide) (zLV (γ 1) rfl (zLV (ρ 0) rfl (zLV (ρ 1) rfl (zLV (ρ 9) rfl (zLE m1 (zLE m8 (zIP w_0 ?_)))))))
    rfl
  exact zGoo_aend hJ hD
theorem vn57a0_1 {S : Nat → zSpc} (hS56 : zIm S 56 sn56) {a : List Int} {g : rHp} : ∀ (ρ : Nat → Int) (γ : Nat → rHp), jn57 a g 0 (zAg (zNA a57_ 0) ρ) (γ 1) → zO 9 S a g q57a0_1 ρ γ → zGl (fun i vs g1 => jn57 a g i vs g1) (sn57 a g) q57a0_1 ρ γ := by
  intro ρ γ hJ h
  obtain ⟨ha, hg, hr, hf, hm, hc, hl⟩ := h
  have ha : a = [ρ 0, ρ 1, ρ 2, ρ 3, ρ 4, ρ 5, ρ 6, ρ 7, ρ 8] := ha
  subst ha
  subst hg
  have hJ : jn57 [ρ 0, ρ 1, ρ 2, ρ 3, ρ 4, ρ 5, ρ 6, ρ 7, ρ 8] (γ 0) 0 [ρ 0, ρ 1, ρ 2, ρ 3, ρ 4, ρ 5, ρ 6, ρ 7, ρ 8, ρ 9, ρ 10, ρ 11, ρ 12] (γ 1) := hJ
  have r1 : (0 : Int) ≤ ρ 1 ∧ ρ 1 ≤ 59 := zRnA hr 1
  have r13 : (1 : Int) ≤ ρ 13 ∧ ρ 13 ≤ 4 := zRnA hr 13
  obtain ⟨w_0, w_1⟩ : (¬ (ρ 1 < 0)) ∧ (ρ 13 ≠ 0) := ⟨by omega, by omega⟩
  have m1 : γ 0 15 0 71 = ρ 3 := zAllA hm 1
  have m8 : γ 1 97 0 (ρ 3) = ρ 11 := zAllA hm 8
  have m11 : γ 0 71 0 (ρ 1) = ρ 13 := zAllA hm 11
  show sn57 [ρ 0, ρ 1, ρ 2, ρ 3, ρ 4, ρ 5, ρ 6, ρ 7, ρ 8] (γ 0) 0 0 (γ 1)
  have hD : en57 (γ 0) (0, [ρ 0, ρ 1, ρ 9], γ 1) = .inr (0, 0, γ 1) := by
    unfold en57
    refine zIP (show (0 : Nat) = 0 by decide) (zLV (γ 1) rfl (zLV (ρ 0) rfl (zLV (ρ 1) rfl (zLV (ρ 9) rfl (zLE m1 (zLE m8 (zIN w_0 ?_)))))))
    refine zLE m11 (zIP w_1 ?_)
    rfl
  exact zGoo_aend hJ hD
theorem vn57a0_2 {S : Nat → zSpc} (hS56 : zIm S 56 sn56) {a : List Int} {g : rHp} : ∀ (ρ : Nat → Int) (γ : Nat → rHp), jn57 a g 0 (zAg (zNA a57_ 0) ρ) (γ 1) → zO 9 S a g q57a0_2 ρ γ → zGl (fun i vs g1 => jn57 a g i vs g1) (sn57 a g) q57a0_2 ρ γ := by
  intro ρ γ hJ h
  obtain ⟨ha, hg, hr, hf, hm, hc, hl⟩ := h
  have ha : a = [ρ 0, ρ 1, ρ 2, ρ 3, ρ 4, ρ 5, ρ 6, ρ 7, ρ 8] := ha
  subst ha
  subst hg
  have hJ : jn57 [ρ 0, ρ 1, ρ 2, ρ 3, ρ 4, ρ 5, ρ 6, ρ 7, ρ 8] (γ 0) 0 [ρ 0, ρ 1, ρ 2, ρ 3, ρ 4, ρ 5, ρ 6, ρ 7, ρ 8, ρ 9, ρ 10, ρ 11, ρ 12] (γ 1) := hJ
  have r1 : (0 : Int) ≤ ρ 1 ∧ ρ 1 ≤ 59 := zRnA hr 1
  have r13 : (0 : Int) ≤ ρ 13 ∧ ρ 13 ≤ 0 := zRnA hr 13
  have f0 : (0 : Int) ≤ -ρ 14 + ρ 9 := zAllA hf 0
  obtain ⟨w_0, w_1, w_2⟩ : (¬ (ρ 1 < 0)) ∧ (¬ (ρ 13 ≠ 0)) ∧ (ρ 9 ≥ ρ 14) := ⟨by omega, by omega, by omega⟩
  have m1 : γ 0 15 0 71 = ρ 3 := zAllA hm 1
  have m8 : γ 1 97 0 (ρ 3) = ρ 11 := zAllA hm 8
  have m11 : γ 0 71 0 (ρ 1) = ρ 13 := zAllA hm 11
  have m12 : γ 0 73 0 (ρ 1) = ρ 14 := zAllA hm 12
  show sn57 [ρ 0, ρ 1, ρ 2, ρ 3, ρ 4, ρ 5, ρ 6, ρ 7, ρ 8] (γ 0) 0 0 (γ 1)
  have hD : en57 (γ 0) (0, [ρ 0, ρ 1, ρ 9], γ 1) = .inr (0, 0, γ 1) := by
    unfold en57
    refine zIP (show (0 : Nat) = 0 by decide) (zLV (γ 1) rfl (zLV (ρ 0) rfl (zLV (ρ 1) rfl (zLV (ρ 9) rfl (zLE m1 (zLE m8 (zIN w_0 ?_)))))))
    refine zLE m11 (zIN w_1 (zLE m12 (zIP w_2 ?_)))
    rfl
  exact zGoo_aend hJ hD
theorem vn57a0_3 {S : Nat → zSpc} (hS56 : zIm S 56 sn56) {a : List Int} {g : rHp} : ∀ (ρ : Nat → Int) (γ : Nat → rHp), jn57 a g 0 (zAg (zNA a57_ 0) ρ) (γ 1) → zO 9 S a g q57a0_3 ρ γ → zGl (fun i vs g1 => jn57 a g i vs g1) (sn57 a g) q57a0_3 ρ γ := by
  intro ρ γ hJ h
  obtain ⟨ha, hg, hr, hf, hm, hc, hl⟩ := h
  have ha : a = [ρ 0, ρ 1, ρ 2, ρ 3, ρ 4, ρ 5, ρ 6, ρ 7, ρ 8] := ha
  subst ha
  subst hg
  have hJ : jn57 [ρ 0, ρ 1, ρ 2, ρ 3, ρ 4, ρ 5, ρ 6, ρ 7, ρ 8] (γ 0) 0 [ρ 0, ρ 1, ρ 2, ρ 3, ρ 4, ρ 5, ρ 6, ρ 7, ρ 8, ρ 9, ρ 10, ρ 11, ρ 12] (γ 1) := hJ
  have r1 : (0 : Int) ≤ ρ 1 ∧ ρ 1 ≤ 59 := zRnA hr 1
  have r13 : (0 : Int) ≤ ρ 13 ∧ ρ 13 ≤ 0 := zRnA hr 13
  have r15 : (0 : Int) ≤ ρ 15 ∧ ρ 15 ≤ 0 := zRnA hr 15
  have f0 : (0 : Int) ≤ ρ 14 + -ρ 9 + (-1) := zAllA hf 0
  obtain ⟨w_0, w_1, w_2, w_3⟩ : (¬ (ρ 1 < 0)) ∧ (¬ (ρ 13 ≠ 0)) ∧ (¬ (ρ 9 ≥ ρ 14)) ∧ (ρ 15 = 0) := ⟨by omega, by omega, by omega, by omega⟩
  have m1 : γ 0 15 0 71 = ρ 3 := zAllA hm 1
  have m8 : γ 1 97 0 (ρ 3) = ρ 11 := zAllA hm 8
  have m11 : γ 0 71 0 (ρ 1) = ρ 13 := zAllA hm 11
  have m12 : γ 0 73 0 (ρ 1) = ρ 14 := zAllA hm 12
  have m13 : γ 0 77 0 (ρ 9 + 8 * ρ 1) = ρ 15 := zAllA hm 13
  have m14 : γ 0 104 0 (ρ 9) = ρ 16 := zAllA hm 14
  have c2 : γ 2 = rUp (γ 1) 98 0 (ρ 11 + 8 * ρ 3) (ρ 16) := And.right (zChA hc 1)
  have c3 : γ 3 = rUp (γ 2) 97 0 (ρ 3) (ρ 11 + 1) := And.right (zChA hc 0)
  show jn57 [ρ 0, ρ 1, ρ 2, ρ 3, ρ 4, ρ 5, ρ 6, ρ 7, ρ 8] (γ 0) 0 [ρ 0, ρ 1, ρ 2, ρ 3, ρ 4, ρ 5, ρ 6, ρ 7, ρ 8, ρ 9 + 1, ρ 10, ρ 11 + 1, ρ 12] (γ 3)
  have hD : en57 (γ 0) (0, [ρ 0, ρ 1, ρ 9], γ 1) = .inl (0, [ρ 0, ρ 1, ρ 9 + 1], γ 3) := by
    unfold en57
    refine zIP (show (0 : Nat) = 0 by decide) (zLV (γ 1) rfl (zLV (ρ 0) rfl (zLV (ρ 1) rfl (zLV (ρ 9) rfl (zLE m1 (zLE m8 (zIN w_0 ?_)))))))
    refine zLE m11 (zIN w_1 (zLE m12 (zIN w_2 (zLE m13 (zIP w_3 (zLE m14 (zLE c2.symm ?_)))))))
    refine zLE c3.symm ?_
    rfl
  exact zGoo_ato hJ hD
theorem vn57a0_4 {S : Nat → zSpc} (hS56 : zIm S 56 sn56) {a : List Int} {g : rHp} : ∀ (ρ : Nat → Int) (γ : Nat → rHp), jn57 a g 0 (zAg (zNA a57_ 0) ρ) (γ 1) → zO 9 S a g q57a0_4 ρ γ → zGl (fun i vs g1 => jn57 a g i vs g1) (sn57 a g) q57a0_4 ρ γ := by
  intro ρ γ hJ h
  obtain ⟨ha, hg, hr, hf, hm, hc, hl⟩ := h
  have ha : a = [ρ 0, ρ 1, ρ 2, ρ 3, ρ 4, ρ 5, ρ 6, ρ 7, ρ 8] := ha
  subst ha
  subst hg
  have hJ : jn57 [ρ 0, ρ 1, ρ 2, ρ 3, ρ 4, ρ 5, ρ 6, ρ 7, ρ 8] (γ 0) 0 [ρ 0, ρ 1, ρ 2, ρ 3, ρ 4, ρ 5, ρ 6, ρ 7, ρ 8, ρ 9, ρ 10, ρ 11, ρ 12] (γ 1) := hJ
  have r1 : (0 : Int) ≤ ρ 1 ∧ ρ 1 ≤ 59 := zRnA hr 1
  have r13 : (0 : Int) ≤ ρ 13 ∧ ρ 13 ≤ 0 := zRnA hr 13
  have r15 : (1 : Int) ≤ ρ 15 ∧ ρ 15 ≤ 7 := zRnA hr 15
  have f0 : (0 : Int) ≤ ρ 14 + -ρ 9 + (-1) := zAllA hf 0
  obtain ⟨w_0, w_1, w_2, w_3⟩ : (¬ (ρ 1 < 0)) ∧ (¬ (ρ 13 ≠ 0)) ∧ (¬ (ρ 9 ≥ ρ 14)) ∧ (¬ (ρ 15 = 0)) := ⟨by omega, by omega, by omega, by omega⟩
  have m1 : γ 0 15 0 71 = ρ 3 := zAllA hm 1
  have m8 : γ 1 97 0 (ρ 3) = ρ 11 := zAllA hm 8
  have m11 : γ 0 71 0 (ρ 1) = ρ 13 := zAllA hm 11
  have m12 : γ 0 73 0 (ρ 1) = ρ 14 := zAllA hm 12
  have m13 : γ 0 77 0 (ρ 9 + 8 * ρ 1) = ρ 15 := zAllA hm 13
  show jn57 [ρ 0, ρ 1, ρ 2, ρ 3, ρ 4, ρ 5, ρ 6, ρ 7, ρ 8] (γ 0) 0 [ρ 0, ρ 1, ρ 2, ρ 3, ρ 4, ρ 5, ρ 6, ρ 7, ρ 8, ρ 9 + 1, ρ 10, ρ 11, ρ 12] (γ 1)
  have hD : en57 (γ 0) (0, [ρ 0, ρ 1, ρ 9], γ 1) = .inl (0, [ρ 0, ρ 1, ρ 9 + 1], γ 1) := by
    unfold en57
    refine zIP (show (0 : Nat) = 0 by decide) (zLV (γ 1) rfl (zLV (ρ 0) rfl (zLV (ρ 1) rfl (zLV (ρ 9) rfl (zLE m1 (zLE m8 (zIN w_0 ?_)))))))
    refine zLE m11 (zIN w_1 (zLE m12 (zIN w_2 (zLE m13 (zIN w_3 ?_)))))
    rfl
  exact zGoo_ato hJ hD
theorem yn57 {S : Nat → zSpc} (hS56 : zIm S 56 sn56) : ∀ x g o v gz, zSem uW uT w57_.2.2.2.1 w57_.2.2.1.1.length S q57 (fun i => q57a.getD i []) (zNA a57_) x g o v gz → sn57 x g o v gz := by
  intro a g o v gz h
  exact zSem_all (l0 := q57) (las := q57a) (S := S) (J := (fun i vs g1 => jn57 a g i vs g1)) (P := sn57 a g) (fun _ => (show zAll _ [q57_0, q57_1, q57_2, q57_3, q57_4, q57_5, q57_6, q57_7, q57_8, q57_9, q57_10, q57_11] from (zAll_c (vn57_0 hS56) (zAll_c (vn57_1 hS56) (zAll_c (vn57_2 hS56) (zAll_c (vn57_3 hS56) (zAll_c (vn57_4 hS56) (zAll_c (vn57_5 hS56) (zAll_c (vn57_6 hS56) (zAll_c (vn57_7 hS56) (zAll_c (vn57_8 hS56) (zAll_c (vn57_9 hS56) (zAll_c (vn57_10 hS56) (zAll_c (vn57_11 hS56) zAll_n)))))))))))))) (fun _ => (show zAllI _ 0 [q57a0] from ⟨(show zAll _ [q57a0_0, q57a0_1, q57a0_2, q57a0_3, q57a0_4] from (zAll_c (vn57a0_0 hS56) (zAll_c (vn57a0_1 hS56) (zAll_c (vn57a0_2 hS56) (zAll_c (vn57a0_3 hS56) (zAll_c (vn57a0_4 hS56) zAll_n)))))), trivial⟩)) h
theorem vn58_0 {S : Nat → zSpc}  {a : List Int} {g : rHp} : ∀ (ρ : Nat → Int) (γ : Nat → rHp), zO 1 S a g q58_0 ρ γ → zGl (fun _ _ _ => True) (sn58 a g) q58_0 ρ γ := by
  intro ρ γ h
  obtain ⟨ha, hg, hr, hf, hm, hc, hl⟩ := h
  have ha : a = [ρ 0] := ha
  subst ha
  subst hg
  have r1 : (0 : Int) ≤ ρ 1 ∧ ρ 1 ≤ 3 := zRnA hr 1
  have m0 : γ 0 80 0 (ρ 0) = ρ 1 := zAllA hm 0
  have m1 : γ 0 81 0 (ρ 0) = ρ 2 := zAllA hm 1
  have l0 : ρ 1 ≠ 1 := zAllA hl 0
  have wl_0 : ρ 1 ≠ 1 := by omega
  show sn58 [ρ 0] (γ 0) 0 (ρ 2) (γ 0)
  refine Eq.symm ?_
  show fn58 [ρ 0] (γ 0) = _
  unfold fn58
  refine zLV (ρ 0) rfl (zLE m0 (zIP wl_0 (zLE m1 ?_)))
  rfl
theorem vn58_1 {S : Nat → zSpc}  {a : List Int} {g : rHp} : ∀ (ρ : Nat → Int) (γ : Nat → rHp), zO 1 S a g q58_1 ρ γ → zGl (fun _ _ _ => True) (sn58 a g) q58_1 ρ γ := by
  intro ρ γ h
  obtain ⟨ha, hg, hr, hf, hm, hc, hl⟩ := h
  have ha : a = [ρ 0] := ha
  subst ha
  subst hg
  have r1 : (1 : Int) ≤ ρ 1 ∧ ρ 1 ≤ 1 := zRnA hr 1
  have w_0 : ¬ (ρ 1 ≠ 1) := by omega
  have m0 : γ 0 80 0 (ρ 0) = ρ 1 := zAllA hm 0
  have m1 : γ 0 81 0 (ρ 0) = ρ 2 := zAllA hm 1
  have m2 : γ 0 103 0 (ρ 2) = ρ 3 := zAllA hm 2
  show sn58 [ρ 0] (γ 0) 0 (ρ 3) (γ 0)
  refine Eq.symm ?_
  show fn58 [ρ 0] (γ 0) = _
  unfold fn58
  refine zLV (ρ 0) rfl (zLE m0 (zIN w_0 (zLE m1 (zLE m2 ?_))))
  rfl
theorem yn58 {S : Nat → zSpc}  : ∀ x g o v gz, zSem uW uT w58_.2.2.2.1 w58_.2.2.1.1.length S q58 (fun i => q58a.getD i []) (zNA a58_) x g o v gz → sn58 x g o v gz := by
  intro a g o v gz h
  exact zSem_all (l0 := q58) (las := q58a) (S := S) (J := (fun _ _ _ => True)) (P := sn58 a g) (fun _ => (show zAll _ [q58_0, q58_1] from (zAll_c (vn58_0 ) (zAll_c (vn58_1 ) zAll_n)))) (fun _ => (show zAllI _ 0 [] from trivial)) h
theorem vn59_0 {S : Nat → zSpc}  {a : List Int} {g : rHp} : ∀ (ρ : Nat → Int) (γ : Nat → rHp), zO 3 S a g q59_0 ρ γ → zGl (fun _ _ _ => True) (sn59 a g) q59_0 ρ γ := by
  intro ρ γ h
  obtain ⟨ha, hg, hr, hf, hm, hc, hl⟩ := h
  have ha : a = [ρ 0, ρ 1, ρ 2] := ha
  subst ha
  subst hg
  have f0 : (0 : Int) ≤ ρ 1 + -ρ 0 + (-1) := zAllA hf 0
  have w_0 : ρ 0 < ρ 1 := by omega
  have m0 : γ 0 15 0 82 = ρ 1 := zAllA hm 0
  have m1 : γ 0 15 0 83 = ρ 2 := zAllA hm 1
  show sn59 [ρ 0, ρ 1, ρ 2] (γ 0) 0 0 (γ 0)
  refine Eq.symm ?_
  show fn59 [ρ 0] (γ 0) = _
  unfold fn59
  refine zLV (ρ 0) rfl (zLE m0 (zLE m1 (zIP w_0 ?_)))
  rfl
theorem vn59_1 {S : Nat → zSpc}  {a : List Int} {g : rHp} : ∀ (ρ : Nat → Int) (γ : Nat → rHp), zO 3 S a g q59_1 ρ γ → zGl (fun _ _ _ => True) (sn59 a g) q59_1 ρ γ := by
  intro ρ γ h
  obtain ⟨ha, hg, hr, hf, hm, hc, hl⟩ := h
  have ha : a = [ρ 0, ρ 1, ρ 2] := ha
  subst ha
  subst hg
  have f0 : (0 : Int) ≤ -ρ 2 + ρ 0 := zAllA hf 0
  have f1 : (0 : Int) ≤ -ρ 1 + ρ 0 := zAllA hf 1
  obtain ⟨w_0, w_1⟩ : (¬ (ρ 0 < ρ 1)) ∧ (ρ 0 ≥ ρ 2) := ⟨by omega, by omega⟩
  have m0 : γ 0 15 0 82 = ρ 1 := zAllA hm 0
  have m1 : γ 0 15 0 83 = ρ 2 := zAllA hm 1
  show sn59 [ρ 0, ρ 1, ρ 2] (γ 0) 0 0 (γ 0)
  refine Eq.symm ?_
  show fn59 [ρ 0] (γ 0) = _
  unfold fn59
  refine zLV (ρ 0) rfl (zLE m0 (zLE m1 (zIN w_0 (zIP w_1 ?_))))
  rfl
theorem vn59_2 {S : Nat → zSpc}  {a : List Int} {g : rHp} : ∀ (ρ : Nat → Int) (γ : Nat → rHp), zO 3 S a g q59_2 ρ γ → zGl (fun _ _ _ => True) (sn59 a g) q59_2 ρ γ := by
  intro ρ γ h
  obtain ⟨ha, hg, hr, hf, hm, hc, hl⟩ := h
  have ha : a = [ρ 0, ρ 1, ρ 2] := ha
  subst ha
  subst hg
  have f0 : (0 : Int) ≤ ρ 2 + -ρ 0 + (-1) := zAllA hf 0
  have f1 : (0 : Int) ≤ -ρ 1 + ρ 0 := zAllA hf 1
  obtain ⟨w_0, w_1⟩ : (¬ (ρ 0 < ρ 1)) ∧ (¬ (ρ 0 ≥ ρ 2)) := ⟨by omega, by omega⟩
  have m0 : γ 0 15 0 82 = ρ 1 := zAllA hm 0
  have m1 : γ 0 15 0 83 = ρ 2 := zAllA hm 1
  show sn59 [ρ 0, ρ 1, ρ 2] (γ 0) 0 1 (γ 0)
  refine Eq.symm ?_
  show fn59 [ρ 0] (γ 0) = _
  unfold fn59
  refine zLV (ρ 0) rfl (zLE m0 (zLE m1 (zIN w_0 (zIN w_1 ?_))))
  rfl
theorem yn59 {S : Nat → zSpc}  : ∀ x g o v gz, zSem uW uT w59_.2.2.2.1 w59_.2.2.1.1.length S q59 (fun i => q59a.getD i []) (zNA a59_) x g o v gz → sn59 x g o v gz := by
  intro a g o v gz h
  exact zSem_all (l0 := q59) (las := q59a) (S := S) (J := (fun _ _ _ => True)) (P := sn59 a g) (fun _ => (show zAll _ [q59_0, q59_1, q59_2] from (zAll_c (vn59_0 ) (zAll_c (vn59_1 ) (zAll_c (vn59_2 ) zAll_n))))) (fun _ => (show zAllI _ 0 [] from trivial)) h
theorem vn60_0 {S : Nat → zSpc}  {a : List Int} {g : rHp} : ∀ (ρ : Nat → Int) (γ : Nat → rHp), zO 2 S a g q60_0 ρ γ → zGl (fun i vs g1 => jn60 a g i vs g1) (sn60 a g) q60_0 ρ γ := by
  intro ρ γ h
  obtain ⟨ha, hg, hr, hf, hm, hc, hl⟩ := h
  have ha : a = [ρ 0, ρ 1] := ha
  subst ha
  subst hg
  have m0 : γ 0 78 0 (ρ 0) = ρ 2 := zAllA hm 0
  have m1 : γ 0 66 0 (ρ 2) = ρ 3 := zAllA hm 1
  show jn60 [ρ 0, ρ 1] (γ 0) 0 [ρ 0, ρ 1, 0, ρ 3] (γ 0)
  have hD : dn60 [ρ 0, ρ 1] (γ 0) = .inl (0, [ρ 0, ρ 1, 0, ρ 3], γ 0) := by
    unfold dn60
    refine zLV (ρ 0) rfl (zLV (ρ 1) rfl (zLE m0 (zLE m1 ?_)))
    rfl
  exact zGoo_to hD
theorem vn60a0_0 {S : Nat → zSpc}  {a : List Int} {g : rHp} : ∀ (ρ : Nat → Int) (γ : Nat → rHp), jn60 a g 0 (zAg (zNA a60_ 0) ρ) (γ 1) → zO 2 S a g q60a0_0 ρ γ → zGl (fun i vs g1 => jn60 a g i vs g1) (sn60 a g) q60a0_0 ρ γ := by
  intro ρ γ hJ h
  obtain ⟨ha, hg, hr, hf, hm, hc, hl⟩ := h
  have ha : a = [ρ 0, ρ 1] := ha
  subst ha
  subst hg
  have hJ : jn60 [ρ 0, ρ 1] (γ 0) 0 [ρ 0, ρ 1, ρ 2, ρ 3] (γ 1) := hJ
  have f0 : (0 : Int) ≤ -ρ 3 + ρ 2 := zAllA hf 0
  have w_0 : ρ 2 ≥ ρ 3 := by omega
  show sn60 [ρ 0, ρ 1] (γ 0) 0 1 (γ 1)
  have hD : en60 (γ 0) (0, [ρ 0, ρ 1, ρ 2, ρ 3], γ 1) = .inr (0, 1, γ 1) := by
    unfold en60
    refine zIP (show (0 : Nat) = 0 by decide) (zLV (γ 1) rfl (zLV (ρ 0) rfl (zLV (ρ 1) rfl (zLV (ρ 2) rfl (zLV (ρ 3) rfl (zIP w_0 ?_))))))
    rfl
  exact zGoo_aend hJ hD
theorem vn60a0_1 {S : Nat → zSpc}  {a : List Int} {g : rHp} : ∀ (ρ : Nat → Int) (γ : Nat → rHp), jn60 a g 0 (zAg (zNA a60_ 0) ρ) (γ 1) → zO 2 S a g q60a0_1 ρ γ → zGl (fun i vs g1 => jn60 a g i vs g1) (sn60 a g) q60a0_1 ρ γ := by
  intro ρ γ hJ h
  obtain ⟨ha, hg, hr, hf, hm, hc, hl⟩ := h
  have ha : a = [ρ 0, ρ 1] := ha
  subst ha
  subst hg
  have hJ : jn60 [ρ 0, ρ 1] (γ 0) 0 [ρ 0, ρ 1, ρ 2, ρ 3] (γ 1) := hJ
  have r4 : (2 : Int) ≤ ρ 4 ∧ ρ 4 ≤ 3 := zRnA hr 4
  have f0 : (0 : Int) ≤ ρ 3 + -ρ 2 + (-1) := zAllA hf 0
  obtain ⟨w_0, w_1, w_2⟩ : (¬ (ρ 2 ≥ ρ 3)) ∧ (ρ 4 ≠ 0) ∧ (ρ 4 ≠ 1) := ⟨by omega, by omega, by omega⟩
  have m0 : γ 0 80 0 (ρ 2 + 4 * ρ 0) = ρ 4 := zAllA hm 0
  have m1 : γ 0 99 0 (ρ 2 + 4 * ρ 1) = ρ 5 := zAllA hm 1
  show jn60 [ρ 0, ρ 1] (γ 0) 1 [ρ 0, ρ 1, 0, ρ 5, ρ 4, ρ 2, ρ 3] (γ 1)
  have hD : en60 (γ 0) (0, [ρ 0, ρ 1, ρ 2, ρ 3], γ 1) = .inl (1, [ρ 0, ρ 1, 0, ρ 5, ρ 4, ρ 2, ρ 3], γ 1) := by
    unfold en60
    refine zIP (show (0 : Nat) = 0 by decide) (zLV (γ 1) rfl (zLV (ρ 0) rfl (zLV (ρ 1) rfl (zLV (ρ 2) rfl (zLV (ρ 3) rfl (zIN w_0 (zLE m0 ?_)))))))
    refine zLE m1 (zIP w_1 (zIP w_2 ?_))
    rfl
  exact zGoo_ato hJ hD
theorem vn60a0_2 {S : Nat → zSpc}  {a : List Int} {g : rHp} : ∀ (ρ : Nat → Int) (γ : Nat → rHp), jn60 a g 0 (zAg (zNA a60_ 0) ρ) (γ 1) → zO 2 S a g q60a0_2 ρ γ → zGl (fun i vs g1 => jn60 a g i vs g1) (sn60 a g) q60a0_2 ρ γ := by
  intro ρ γ hJ h
  obtain ⟨ha, hg, hr, hf, hm, hc, hl⟩ := h
  have ha : a = [ρ 0, ρ 1] := ha
  subst ha
  subst hg
  have hJ : jn60 [ρ 0, ρ 1] (γ 0) 0 [ρ 0, ρ 1, ρ 2, ρ 3] (γ 1) := hJ
  have r4 : (1 : Int) ≤ ρ 4 ∧ ρ 4 ≤ 1 := zRnA hr 4
  have r10 : (0 : Int) ≤ ρ 10 ∧ ρ 10 ≤ 0 := zRnA hr 10
  have f0 : (0 : Int) ≤ ρ 3 + -ρ 2 + (-1) := zAllA hf 0
  obtain ⟨w_0, w_1, w_2, w_3⟩ : (¬ (ρ 2 ≥ ρ 3)) ∧ (ρ 4 ≠ 0) ∧ (¬ (ρ 4 ≠ 1)) ∧ (ρ 10 ≠ 1) := ⟨by omega, by omega, by omega, by omega⟩
  have m0 : γ 0 80 0 (ρ 2 + 4 * ρ 0) = ρ 4 := zAllA hm 0
  have m1 : γ 0 99 0 (ρ 2 + 4 * ρ 1) = ρ 5 := zAllA hm 1
  have m2 : γ 0 79 0 (ρ 0) = ρ 6 := zAllA hm 2
  have m3 : γ 0 81 0 (ρ 2 + 4 * ρ 0) = ρ 7 := zAllA hm 3
  have l0 : zOpP (.l2i) (γ 0) (γ 1) [ρ 7] (ρ 8) := zAllA hl 0
  have l1 : zOpP (.ishr) (γ 0) (γ 1) [ρ 6, ρ 8] (ρ 9) := zAllA hl 1
  have l2 : zOpP (.iand) (γ 0) (γ 1) [ρ 9, 1] (ρ 10) := zAllA hl 2
  show jn60 [ρ 0, ρ 1] (γ 0) 1 [ρ 0, ρ 1, 0, ρ 5, ρ 4, ρ 2, ρ 3] (γ 1)
  have hD : en60 (γ 0) (0, [ρ 0, ρ 1, ρ 2, ρ 3], γ 1) = .inl (1, [ρ 0, ρ 1, 0, ρ 5, ρ 4, ρ 2, ρ 3], γ 1) := by
    unfold en60
    refine zIP (show (0 : Nat) = 0 by decide) (zLV (γ 1) rfl (zLV (ρ 0) rfl (zLV (ρ 1) rfl (zLV (ρ 2) rfl (zLV (ρ 3) rfl (zIN w_0 (zLE m0 ?_)))))))
    refine zLE m1 (zIP w_1 (zIN w_2 (zLE m2 (zLE m3 (zLE (zF1_ok l0) (zLE (zF2_ok l1) (zLE (zF2_ok l2) ?_)))))))
    refine zIP w_3 ?_
    rfl
  exact zGoo_ato hJ hD
theorem vn60a0_3 {S : Nat → zSpc}  {a : List Int} {g : rHp} : ∀ (ρ : Nat → Int) (γ : Nat → rHp), jn60 a g 0 (zAg (zNA a60_ 0) ρ) (γ 1) → zO 2 S a g q60a0_3 ρ γ → zGl (fun i vs g1 => jn60 a g i vs g1) (sn60 a g) q60a0_3 ρ γ := by
  intro ρ γ hJ h
  obtain ⟨ha, hg, hr, hf, hm, hc, hl⟩ := h
  have ha : a = [ρ 0, ρ 1] := ha
  subst ha
  subst hg
  have hJ : jn60 [ρ 0, ρ 1] (γ 0) 0 [ρ 0, ρ 1, ρ 2, ρ 3] (γ 1) := hJ
  have r4 : (1 : Int) ≤ ρ 4 ∧ ρ 4 ≤ 1 := zRnA hr 4
  have r10 : (1 : Int) ≤ ρ 10 ∧ ρ 10 ≤ 1 := zRnA hr 10
  have f0 : (0 : Int) ≤ -ρ 11 + ρ 5 := zAllA hf 0
  have f1 : (0 : Int) ≤ ρ 11 + -ρ 5 := zAllA hf 1
  have f2 : (0 : Int) ≤ ρ 3 + -ρ 2 + (-1) := zAllA hf 2
  obtain ⟨w_0, w_1, w_2, w_3, w_4⟩ : (¬ (ρ 2 ≥ ρ 3)) ∧ (ρ 4 ≠ 0) ∧ (¬ (ρ 4 ≠ 1)) ∧ (¬ (ρ 10 ≠ 1)) ∧ (ρ 11 = ρ 5) := ⟨by omega, by omega, by omega, by omega, by omega⟩
  have m0 : γ 0 80 0 (ρ 2 + 4 * ρ 0) = ρ 4 := zAllA hm 0
  have m1 : γ 0 99 0 (ρ 2 + 4 * ρ 1) = ρ 5 := zAllA hm 1
  have m2 : γ 0 79 0 (ρ 0) = ρ 6 := zAllA hm 2
  have m3 : γ 0 81 0 (ρ 2 + 4 * ρ 0) = ρ 7 := zAllA hm 3
  have m4 : γ 0 103 0 (ρ 7) = ρ 11 := zAllA hm 4
  have l0 : zOpP (.l2i) (γ 0) (γ 1) [ρ 7] (ρ 8) := zAllA hl 0
  have l1 : zOpP (.ishr) (γ 0) (γ 1) [ρ 6, ρ 8] (ρ 9) := zAllA hl 1
  have l2 : zOpP (.iand) (γ 0) (γ 1) [ρ 9, 1] (ρ 10) := zAllA hl 2
  show jn60 [ρ 0, ρ 1] (γ 0) 1 [ρ 0, ρ 1, 0, ρ 5, ρ 4, ρ 2, ρ 3] (γ 1)
  have hD : en60 (γ 0) (0, [ρ 0, ρ 1, ρ 2, ρ 3], γ 1) = .inl (1, [ρ 0, ρ 1, 0, ρ 5, ρ 4, ρ 2, ρ 3], γ 1) := by
    unfold en60
    refine zIP (show (0 : Nat) = 0 by decide) (zLV (γ 1) rfl (zLV (ρ 0) rfl (zLV (ρ 1) rfl (zLV (ρ 2) rfl (zLV (ρ 3) rfl (zIN w_0 (zLE m0 ?_)))))))
    refine zLE m1 (zIP w_1 (zIN w_2 (zLE m2 (zLE m3 (zLE (zF1_ok l0) (zLE (zF2_ok l1) (zLE (zF2_ok l2) ?_)))))))
    refine zIN w_3 (zLE m4 (zIP w_4 ?_))
    rfl
  exact zGoo_ato hJ hD
theorem vn60a0_4 {S : Nat → zSpc}  {a : List Int} {g : rHp} : ∀ (ρ : Nat → Int) (γ : Nat → rHp), jn60 a g 0 (zAg (zNA a60_ 0) ρ) (γ 1) → zO 2 S a g q60a0_4 ρ γ → zGl (fun i vs g1 => jn60 a g i vs g1) (sn60 a g) q60a0_4 ρ γ := by
  intro ρ γ hJ h
  obtain ⟨ha, hg, hr, hf, hm, hc, hl⟩ := h
  have ha : a = [ρ 0, ρ 1] := ha
  subst ha
  subst hg
  have hJ : jn60 [ρ 0, ρ 1] (γ 0) 0 [ρ 0, ρ 1, ρ 2, ρ 3] (γ 1) := hJ
  have r4 : (1 : Int) ≤ ρ 4 ∧ ρ 4 ≤ 1 := zRnA hr 4
  have r5 : ((-2147483648) : Int) ≤ ρ 5 ∧ ρ 5 ≤ 1099511640064 := zRnA hr 5
  have r10 : (1 : Int) ≤ ρ 10 ∧ ρ 10 ≤ 1 := zRnA hr 10
  have r11 : ((-2147483648) : Int) ≤ ρ 11 ∧ ρ 11 ≤ 1099511640064 := zRnA hr 11
  have f0 : (0 : Int) ≤ ρ 3 + -ρ 2 + (-1) := zAllA hf 0
  obtain ⟨w_0, w_1, w_2, w_3⟩ : (¬ (ρ 2 ≥ ρ 3)) ∧ (ρ 4 ≠ 0) ∧ (¬ (ρ 4 ≠ 1)) ∧ (¬ (ρ 10 ≠ 1)) := ⟨by omega, by omega, by omega, by omega⟩
  have m0 : γ 0 80 0 (ρ 2 + 4 * ρ 0) = ρ 4 := zAllA hm 0
  have m1 : γ 0 99 0 (ρ 2 + 4 * ρ 1) = ρ 5 := zAllA hm 1
  have m2 : γ 0 79 0 (ρ 0) = ρ 6 := zAllA hm 2
  have m3 : γ 0 81 0 (ρ 2 + 4 * ρ 0) = ρ 7 := zAllA hm 3
  have m4 : γ 0 103 0 (ρ 7) = ρ 11 := zAllA hm 4
  have l0 : zOpP (.l2i) (γ 0) (γ 1) [ρ 7] (ρ 8) := zAllA hl 0
  have l1 : zOpP (.ishr) (γ 0) (γ 1) [ρ 6, ρ 8] (ρ 9) := zAllA hl 1
  have l2 : zOpP (.iand) (γ 0) (γ 1) [ρ 9, 1] (ρ 10) := zAllA hl 2
  have l3 : ρ 11 ≠ ρ 5 := zAllA hl 3
  have wl_0 : ¬ (ρ 11 = ρ 5) := by omega
  show sn60 [ρ 0, ρ 1] (γ 0) 0 0 (γ 1)
  have hD : en60 (γ 0) (0, [ρ 0, ρ 1, ρ 2, ρ 3], γ 1) = .inr (0, 0, γ 1) := by
    unfold en60
    refine zIP (show (0 : Nat) = 0 by decide) (zLV (γ 1) rfl (zLV (ρ 0) rfl (zLV (ρ 1) rfl (zLV (ρ 2) rfl (zLV (ρ 3) rfl (zIN w_0 (zLE m0 ?_)))))))
    refine zLE m1 (zIP w_1 (zIN w_2 (zLE m2 (zLE m3 (zLE (zF1_ok l0) (zLE (zF2_ok l1) (zLE (zF2_ok l2) ?_)))))))
    refine zIN w_3 (zLE m4 (zIN wl_0 ?_))
    rfl
  exact zGoo_aend hJ hD
theorem vn60a0_5 {S : Nat → zSpc}  {a : List Int} {g : rHp} : ∀ (ρ : Nat → Int) (γ : Nat → rHp), jn60 a g 0 (zAg (zNA a60_ 0) ρ) (γ 1) → zO 2 S a g q60a0_5 ρ γ → zGl (fun i vs g1 => jn60 a g i vs g1) (sn60 a g) q60a0_5 ρ γ := by
  intro ρ γ hJ h
  obtain ⟨ha, hg, hr, hf, hm, hc, hl⟩ := h
  have ha : a = [ρ 0, ρ 1] := ha
  subst ha
  subst hg
  have hJ : jn60 [ρ 0, ρ 1] (γ 0) 0 [ρ 0, ρ 1, ρ 2, ρ 3] (γ 1) := hJ
  have r4 : (0 : Int) ≤ ρ 4 ∧ ρ 4 ≤ 0 := zRnA hr 4
  have f0 : (0 : Int) ≤ -ρ 6 + ρ 5 := zAllA hf 0
  have f1 : (0 : Int) ≤ ρ 6 + -ρ 5 := zAllA hf 1
  have f2 : (0 : Int) ≤ ρ 3 + -ρ 2 + (-1) := zAllA hf 2
  obtain ⟨w_0, w_1, w_2⟩ : (¬ (ρ 2 ≥ ρ 3)) ∧ (¬ (ρ 4 ≠ 0)) ∧ (ρ 6 = ρ 5) := ⟨by omega, by omega, by omega⟩
  have m0 : γ 0 80 0 (ρ 2 + 4 * ρ 0) = ρ 4 := zAllA hm 0
  have m1 : γ 0 99 0 (ρ 2 + 4 * ρ 1) = ρ 5 := zAllA hm 1
  have m2 : γ 0 81 0 (ρ 2 + 4 * ρ 0) = ρ 6 := zAllA hm 2
  show jn60 [ρ 0, ρ 1] (γ 0) 1 [ρ 0, ρ 1, 0, ρ 5, ρ 4, ρ 2, ρ 3] (γ 1)
  have hD : en60 (γ 0) (0, [ρ 0, ρ 1, ρ 2, ρ 3], γ 1) = .inl (1, [ρ 0, ρ 1, 0, ρ 5, ρ 4, ρ 2, ρ 3], γ 1) := by
    unfold en60
    refine zIP (show (0 : Nat) = 0 by decide) (zLV (γ 1) rfl (zLV (ρ 0) rfl (zLV (ρ 1) rfl (zLV (ρ 2) rfl (zLV (ρ 3) rfl (zIN w_0 (zLE m0 ?_)))))))
    refine zLE m1 (zIN w_1 (zLE m2 (zIP w_2 ?_)))
    rfl
  exact zGoo_ato hJ hD
theorem vn60a0_6 {S : Nat → zSpc}  {a : List Int} {g : rHp} : ∀ (ρ : Nat → Int) (γ : Nat → rHp), jn60 a g 0 (zAg (zNA a60_ 0) ρ) (γ 1) → zO 2 S a g q60a0_6 ρ γ → zGl (fun i vs g1 => jn60 a g i vs g1) (sn60 a g) q60a0_6 ρ γ := by
  intro ρ γ hJ h
  obtain ⟨ha, hg, hr, hf, hm, hc, hl⟩ := h
  have ha : a = [ρ 0, ρ 1] := ha
  subst ha
  subst hg
  have hJ : jn60 [ρ 0, ρ 1] (γ 0) 0 [ρ 0, ρ 1, ρ 2, ρ 3] (γ 1) := hJ
  have r4 : (0 : Int) ≤ ρ 4 ∧ ρ 4 ≤ 0 := zRnA hr 4
  have r5 : ((-2147483648) : Int) ≤ ρ 5 ∧ ρ 5 ≤ 1099511640064 := zRnA hr 5
  have r6 : ((-2147483648) : Int) ≤ ρ 6 ∧ ρ 6 ≤ 1099511640064 := zRnA hr 6
  have f0 : (0 : Int) ≤ ρ 3 + -ρ 2 + (-1) := zAllA hf 0
  obtain ⟨w_0, w_1⟩ : (¬ (ρ 2 ≥ ρ 3)) ∧ (¬ (ρ 4 ≠ 0)) := ⟨by omega, by omega⟩
  have m0 : γ 0 80 0 (ρ 2 + 4 * ρ 0) = ρ 4 := zAllA hm 0
  have m1 : γ 0 99 0 (ρ 2 + 4 * ρ 1) = ρ 5 := zAllA hm 1
  have m2 : γ 0 81 0 (ρ 2 + 4 * ρ 0) = ρ 6 := zAllA hm 2
  have l0 : ρ 6 ≠ ρ 5 := zAllA hl 0
  have wl_0 : ¬ (ρ 6 = ρ 5) := by omega
  show sn60 [ρ 0, ρ 1] (γ 0) 0 0 (γ 1)
  have hD : en60 (γ 0) (0, [ρ 0, ρ 1, ρ 2, ρ 3], γ 1) = .inr (0, 0, γ 1) := by
    unfold en60
    refine zIP (show (0 : Nat) = 0 by decide) (zLV (γ 1) rfl (zLV (ρ 0) rfl (zLV (ρ 1) rfl (zLV (ρ 2) rfl (zLV (ρ 3) rfl (zIN w_0 (zLE m0 ?_)))))))
    refine zLE m1 (zIN w_1 (zLE m2 (zIN wl_0 ?_)))
    rfl
  exact zGoo_aend hJ hD
theorem vn60a1_0 {S : Nat → zSpc}  {a : List Int} {g : rHp} : ∀ (ρ : Nat → Int) (γ : Nat → rHp), jn60 a g 1 (zAg (zNA a60_ 1) ρ) (γ 1) → zO 2 S a g q60a1_0 ρ γ → zGl (fun i vs g1 => jn60 a g i vs g1) (sn60 a g) q60a1_0 ρ γ := by
  intro ρ γ hJ h
  obtain ⟨ha, hg, hr, hf, hm, hc, hl⟩ := h
  have ha : a = [ρ 0, ρ 1] := ha
  subst ha
  subst hg
  have hJ : jn60 [ρ 0, ρ 1] (γ 0) 1 [ρ 0, ρ 1, ρ 2, ρ 3, ρ 4, ρ 5, ρ 6] (γ 1) := hJ
  have f0 : (0 : Int) ≤ -ρ 5 + ρ 2 := zAllA hf 0
  have w_0 : ρ 2 ≥ ρ 5 := by omega
  show jn60 [ρ 0, ρ 1] (γ 0) 0 [ρ 0, ρ 1, ρ 5 + 1, ρ 6] (γ 1)
  have hD : en60 (γ 0) (1, [ρ 0, ρ 1, ρ 2, ρ 3, ρ 4, ρ 5, ρ 6], γ 1) = .inl (0, [ρ 0, ρ 1, ρ 5 + 1, ρ 6], γ 1) := by
    unfold en60
    refine zIN (show ¬ (1 : Nat) = 0 by decide) (zIP (show (1 : Nat) = 1 by decide) (zLV (γ 1) rfl (zLV (ρ 0) rfl (zLV (ρ 1) rfl (zLV (ρ 2) rfl (zLV (ρ 3) rfl (zLV (ρ 4) rfl ?_)))))))
    refine zLV (ρ 5) rfl (zLV (ρ 6) rfl (zIP w_0 ?_))
    rfl
  exact zGoo_ato hJ hD
theorem vn60a1_1 {S : Nat → zSpc}  {a : List Int} {g : rHp} : ∀ (ρ : Nat → Int) (γ : Nat → rHp), jn60 a g 1 (zAg (zNA a60_ 1) ρ) (γ 1) → zO 2 S a g q60a1_1 ρ γ → zGl (fun i vs g1 => jn60 a g i vs g1) (sn60 a g) q60a1_1 ρ γ := by
  intro ρ γ hJ h
  obtain ⟨ha, hg, hr, hf, hm, hc, hl⟩ := h
  have ha : a = [ρ 0, ρ 1] := ha
  subst ha
  subst hg
  have hJ : jn60 [ρ 0, ρ 1] (γ 0) 1 [ρ 0, ρ 1, ρ 2, ρ 3, ρ 4, ρ 5, ρ 6] (γ 1) := hJ
  have r4 : (0 : Int) ≤ ρ 4 ∧ ρ 4 ≤ 3 := zRnA hr 4
  have f0 : (0 : Int) ≤ ρ 5 + -ρ 2 + (-1) := zAllA hf 0
  have w_0 : ¬ (ρ 2 ≥ ρ 5) := by omega
  have l0 : ρ 4 ≠ 1 := zAllA hl 0
  have wl_0 : ρ 4 ≠ 1 := by omega
  show jn60 [ρ 0, ρ 1] (γ 0) 0 [ρ 0, ρ 1, ρ 5 + 1, ρ 6] (γ 1)
  have hD : en60 (γ 0) (1, [ρ 0, ρ 1, ρ 2, ρ 3, ρ 4, ρ 5, ρ 6], γ 1) = .inl (0, [ρ 0, ρ 1, ρ 5 + 1, ρ 6], γ 1) := by
    unfold en60
    refine zIN (show ¬ (1 : Nat) = 0 by decide) (zIP (show (1 : Nat) = 1 by decide) (zLV (γ 1) rfl (zLV (ρ 0) rfl (zLV (ρ 1) rfl (zLV (ρ 2) rfl (zLV (ρ 3) rfl (zLV (ρ 4) rfl ?_)))))))
    refine zLV (ρ 5) rfl (zLV (ρ 6) rfl (zIN w_0 (zIP wl_0 ?_)))
    rfl
  exact zGoo_ato hJ hD
theorem vn60a1_2 {S : Nat → zSpc}  {a : List Int} {g : rHp} : ∀ (ρ : Nat → Int) (γ : Nat → rHp), jn60 a g 1 (zAg (zNA a60_ 1) ρ) (γ 1) → zO 2 S a g q60a1_2 ρ γ → zGl (fun i vs g1 => jn60 a g i vs g1) (sn60 a g) q60a1_2 ρ γ := by
  intro ρ γ hJ h
  obtain ⟨ha, hg, hr, hf, hm, hc, hl⟩ := h
  have ha : a = [ρ 0, ρ 1] := ha
  subst ha
  subst hg
  have hJ : jn60 [ρ 0, ρ 1] (γ 0) 1 [ρ 0, ρ 1, ρ 2, ρ 3, ρ 4, ρ 5, ρ 6] (γ 1) := hJ
  have r4 : (1 : Int) ≤ ρ 4 ∧ ρ 4 ≤ 1 := zRnA hr 4
  have r7 : (0 : Int) ≤ ρ 7 ∧ ρ 7 ≤ 3 := zRnA hr 7
  have f0 : (0 : Int) ≤ ρ 5 + -ρ 2 + (-1) := zAllA hf 0
  obtain ⟨w_0, w_1⟩ : (¬ (ρ 2 ≥ ρ 5)) ∧ (¬ (ρ 4 ≠ 1)) := ⟨by omega, by omega⟩
  have m0 : γ 0 80 0 (ρ 2 + 4 * ρ 0) = ρ 7 := zAllA hm 0
  have l0 : ρ 7 ≠ 1 := zAllA hl 0
  have wl_0 : ρ 7 ≠ 1 := by omega
  show jn60 [ρ 0, ρ 1] (γ 0) 1 [ρ 0, ρ 1, ρ 2 + 1, ρ 3, ρ 4, ρ 5, ρ 6] (γ 1)
  have hD : en60 (γ 0) (1, [ρ 0, ρ 1, ρ 2, ρ 3, ρ 4, ρ 5, ρ 6], γ 1) = .inl (1, [ρ 0, ρ 1, ρ 2 + 1, ρ 3, ρ 4, ρ 5, ρ 6], γ 1) := by
    unfold en60
    refine zIN (show ¬ (1 : Nat) = 0 by decide) (zIP (show (1 : Nat) = 1 by decide) (zLV (γ 1) rfl (zLV (ρ 0) rfl (zLV (ρ 1) rfl (zLV (ρ 2) rfl (zLV (ρ 3) rfl (zLV (ρ 4) rfl ?_)))))))
    refine zLV (ρ 5) rfl (zLV (ρ 6) rfl (zIN w_0 (zIN w_1 (zLE m0 (zIP wl_0 ?_)))))
    rfl
  exact zGoo_ato hJ hD
theorem vn60a1_3 {S : Nat → zSpc}  {a : List Int} {g : rHp} : ∀ (ρ : Nat → Int) (γ : Nat → rHp), jn60 a g 1 (zAg (zNA a60_ 1) ρ) (γ 1) → zO 2 S a g q60a1_3 ρ γ → zGl (fun i vs g1 => jn60 a g i vs g1) (sn60 a g) q60a1_3 ρ γ := by
  intro ρ γ hJ h
  obtain ⟨ha, hg, hr, hf, hm, hc, hl⟩ := h
  have ha : a = [ρ 0, ρ 1] := ha
  subst ha
  subst hg
  have hJ : jn60 [ρ 0, ρ 1] (γ 0) 1 [ρ 0, ρ 1, ρ 2, ρ 3, ρ 4, ρ 5, ρ 6] (γ 1) := hJ
  have r4 : (1 : Int) ≤ ρ 4 ∧ ρ 4 ≤ 1 := zRnA hr 4
  have r7 : (1 : Int) ≤ ρ 7 ∧ ρ 7 ≤ 1 := zRnA hr 7
  have r8 : ((-2147483648) : Int) ≤ ρ 8 ∧ ρ 8 ≤ 1099511640064 := zRnA hr 8
  have r9 : ((-2147483648) : Int) ≤ ρ 9 ∧ ρ 9 ≤ 1099511640064 := zRnA hr 9
  have f0 : (0 : Int) ≤ ρ 5 + -ρ 2 + (-1) := zAllA hf 0
  obtain ⟨w_0, w_1, w_2⟩ : (¬ (ρ 2 ≥ ρ 5)) ∧ (¬ (ρ 4 ≠ 1)) ∧ (¬ (ρ 7 ≠ 1)) := ⟨by omega, by omega, by omega⟩
  have m0 : γ 0 80 0 (ρ 2 + 4 * ρ 0) = ρ 7 := zAllA hm 0
  have m1 : γ 0 81 0 (ρ 2 + 4 * ρ 0) = ρ 8 := zAllA hm 1
  have m2 : γ 0 81 0 (ρ 5 + 4 * ρ 0) = ρ 9 := zAllA hm 2
  have l0 : ρ 8 ≠ ρ 9 := zAllA hl 0
  have wl_0 : ρ 8 ≠ ρ 9 := by omega
  show jn60 [ρ 0, ρ 1] (γ 0) 1 [ρ 0, ρ 1, ρ 2 + 1, ρ 3, ρ 4, ρ 5, ρ 6] (γ 1)
  have hD : en60 (γ 0) (1, [ρ 0, ρ 1, ρ 2, ρ 3, ρ 4, ρ 5, ρ 6], γ 1) = .inl (1, [ρ 0, ρ 1, ρ 2 + 1, ρ 3, ρ 4, ρ 5, ρ 6], γ 1) := by
    unfold en60
    refine zIN (show ¬ (1 : Nat) = 0 by decide) (zIP (show (1 : Nat) = 1 by decide) (zLV (γ 1) rfl (zLV (ρ 0) rfl (zLV (ρ 1) rfl (zLV (ρ 2) rfl (zLV (ρ 3) rfl (zLV (ρ 4) rfl ?_)))))))
    refine zLV (ρ 5) rfl (zLV (ρ 6) rfl (zIN w_0 (zIN w_1 (zLE m0 (zIN w_2 (zLE m1 (zLE m2 ?_)))))))
    refine zIP wl_0 ?_
    rfl
  exact zGoo_ato hJ hD
theorem vn60a1_4 {S : Nat → zSpc}  {a : List Int} {g : rHp} : ∀ (ρ : Nat → Int) (γ : Nat → rHp), jn60 a g 1 (zAg (zNA a60_ 1) ρ) (γ 1) → zO 2 S a g q60a1_4 ρ γ → zGl (fun i vs g1 => jn60 a g i vs g1) (sn60 a g) q60a1_4 ρ γ := by
  intro ρ γ hJ h
  obtain ⟨ha, hg, hr, hf, hm, hc, hl⟩ := h
  have ha : a = [ρ 0, ρ 1] := ha
  subst ha
  subst hg
  have hJ : jn60 [ρ 0, ρ 1] (γ 0) 1 [ρ 0, ρ 1, ρ 2, ρ 3, ρ 4, ρ 5, ρ 6] (γ 1) := hJ
  have r4 : (1 : Int) ≤ ρ 4 ∧ ρ 4 ≤ 1 := zRnA hr 4
  have r7 : (1 : Int) ≤ ρ 7 ∧ ρ 7 ≤ 1 := zRnA hr 7
  have f0 : (0 : Int) ≤ -ρ 10 + ρ 3 := zAllA hf 0
  have f1 : (0 : Int) ≤ ρ 10 + -ρ 3 := zAllA hf 1
  have f2 : (0 : Int) ≤ ρ 9 + -ρ 8 := zAllA hf 2
  have f3 : (0 : Int) ≤ -ρ 9 + ρ 8 := zAllA hf 3
  have f4 : (0 : Int) ≤ ρ 5 + -ρ 2 + (-1) := zAllA hf 4
  obtain ⟨w_0, w_1, w_2, w_3, w_4⟩ : (¬ (ρ 2 ≥ ρ 5)) ∧ (¬ (ρ 4 ≠ 1)) ∧ (¬ (ρ 7 ≠ 1)) ∧ (¬ (ρ 8 ≠ ρ 9)) ∧ (ρ 10 = ρ 3) := ⟨by omega, by omega, by omega, by omega, by omega⟩
  have m0 : γ 0 80 0 (ρ 2 + 4 * ρ 0) = ρ 7 := zAllA hm 0
  have m1 : γ 0 81 0 (ρ 2 + 4 * ρ 0) = ρ 8 := zAllA hm 1
  have m2 : γ 0 81 0 (ρ 5 + 4 * ρ 0) = ρ 9 := zAllA hm 2
  have m3 : γ 0 99 0 (ρ 2 + 4 * ρ 1) = ρ 10 := zAllA hm 3
  show jn60 [ρ 0, ρ 1] (γ 0) 1 [ρ 0, ρ 1, ρ 2 + 1, ρ 3, ρ 4, ρ 5, ρ 6] (γ 1)
  have hD : en60 (γ 0) (1, [ρ 0, ρ 1, ρ 2, ρ 3, ρ 4, ρ 5, ρ 6], γ 1) = .inl (1, [ρ 0, ρ 1, ρ 2 + 1, ρ 3, ρ 4, ρ 5, ρ 6], γ 1) := by
    unfold en60
    refine zIN (show ¬ (1 : Nat) = 0 by decide) (zIP (show (1 : Nat) = 1 by decide) (zLV (γ 1) rfl (zLV (ρ 0) rfl (zLV (ρ 1) rfl (zLV (ρ 2) rfl (zLV (ρ 3) rfl (zLV (ρ 4) rfl ?_)))))))
    refine zLV (ρ 5) rfl (zLV (ρ 6) rfl (zIN w_0 (zIN w_1 (zLE m0 (zIN w_2 (zLE m1 (zLE m2 ?_)))))))
    refine zIN w_3 (zLE m3 (zIP w_4 ?_))
    rfl
  exact zGoo_ato hJ hD
theorem vn60a1_5 {S : Nat → zSpc}  {a : List Int} {g : rHp} : ∀ (ρ : Nat → Int) (γ : Nat → rHp), jn60 a g 1 (zAg (zNA a60_ 1) ρ) (γ 1) → zO 2 S a g q60a1_5 ρ γ → zGl (fun i vs g1 => jn60 a g i vs g1) (sn60 a g) q60a1_5 ρ γ := by
  intro ρ γ hJ h
  obtain ⟨ha, hg, hr, hf, hm, hc, hl⟩ := h
  have ha : a = [ρ 0, ρ 1] := ha
  subst ha
  subst hg
  have hJ : jn60 [ρ 0, ρ 1] (γ 0) 1 [ρ 0, ρ 1, ρ 2, ρ 3, ρ 4, ρ 5, ρ 6] (γ 1) := hJ
  have r3 : ((-2147483648) : Int) ≤ ρ 3 ∧ ρ 3 ≤ 1099511640064 := zRnA hr 3
  have r4 : (1 : Int) ≤ ρ 4 ∧ ρ 4 ≤ 1 := zRnA hr 4
  have r7 : (1 : Int) ≤ ρ 7 ∧ ρ 7 ≤ 1 := zRnA hr 7
  have r10 : ((-2147483648) : Int) ≤ ρ 10 ∧ ρ 10 ≤ 1099511640064 := zRnA hr 10
  have f0 : (0 : Int) ≤ ρ 9 + -ρ 8 := zAllA hf 0
  have f1 : (0 : Int) ≤ -ρ 9 + ρ 8 := zAllA hf 1
  have f2 : (0 : Int) ≤ ρ 5 + -ρ 2 + (-1) := zAllA hf 2
  obtain ⟨w_0, w_1, w_2, w_3⟩ : (¬ (ρ 2 ≥ ρ 5)) ∧ (¬ (ρ 4 ≠ 1)) ∧ (¬ (ρ 7 ≠ 1)) ∧ (¬ (ρ 8 ≠ ρ 9)) := ⟨by omega, by omega, by omega, by omega⟩
  have m0 : γ 0 80 0 (ρ 2 + 4 * ρ 0) = ρ 7 := zAllA hm 0
  have m1 : γ 0 81 0 (ρ 2 + 4 * ρ 0) = ρ 8 := zAllA hm 1
  have m2 : γ 0 81 0 (ρ 5 + 4 * ρ 0) = ρ 9 := zAllA hm 2
  have m3 : γ 0 99 0 (ρ 2 + 4 * ρ 1) = ρ 10 := zAllA hm 3
  have l0 : ρ 10 ≠ ρ 3 := zAllA hl 0
  have wl_0 : ¬ (ρ 10 = ρ 3) := by omega
  show sn60 [ρ 0, ρ 1] (γ 0) 0 0 (γ 1)
  have hD : en60 (γ 0) (1, [ρ 0, ρ 1, ρ 2, ρ 3, ρ 4, ρ 5, ρ 6], γ 1) = .inr (0, 0, γ 1) := by
    unfold en60
    refine zIN (show ¬ (1 : Nat) = 0 by decide) (zIP (show (1 : Nat) = 1 by decide) (zLV (γ 1) rfl (zLV (ρ 0) rfl (zLV (ρ 1) rfl (zLV (ρ 2) rfl (zLV (ρ 3) rfl (zLV (ρ 4) rfl ?_)))))))
    refine zLV (ρ 5) rfl (zLV (ρ 6) rfl (zIN w_0 (zIN w_1 (zLE m0 (zIN w_2 (zLE m1 (zLE m2 ?_)))))))
    refine zIN w_3 (zLE m3 (zIN wl_0 ?_))
    rfl
  exact zGoo_aend hJ hD
theorem yn60 {S : Nat → zSpc}  : ∀ x g o v gz, zSem uW uT w60_.2.2.2.1 w60_.2.2.1.1.length S q60 (fun i => q60a.getD i []) (zNA a60_) x g o v gz → sn60 x g o v gz := by
  intro a g o v gz h
  exact zSem_all (l0 := q60) (las := q60a) (S := S) (J := (fun i vs g1 => jn60 a g i vs g1)) (P := sn60 a g) (fun _ => (show zAll _ [q60_0] from (zAll_c (vn60_0 ) zAll_n))) (fun _ => (show zAllI _ 0 [q60a0, q60a1] from ⟨(show zAll _ [q60a0_0, q60a0_1, q60a0_2, q60a0_3, q60a0_4, q60a0_5, q60a0_6] from (zAll_c (vn60a0_0 ) (zAll_c (vn60a0_1 ) (zAll_c (vn60a0_2 ) (zAll_c (vn60a0_3 ) (zAll_c (vn60a0_4 ) (zAll_c (vn60a0_5 ) (zAll_c (vn60a0_6 ) zAll_n)))))))), ⟨(show zAll _ [q60a1_0, q60a1_1, q60a1_2, q60a1_3, q60a1_4, q60a1_5] from (zAll_c (vn60a1_0 ) (zAll_c (vn60a1_1 ) (zAll_c (vn60a1_2 ) (zAll_c (vn60a1_3 ) (zAll_c (vn60a1_4 ) (zAll_c (vn60a1_5 ) zAll_n))))))), trivial⟩⟩)) h
theorem vn61_0 {S : Nat → zSpc} (hS59 : zIm S 59 sn59) {a : List Int} {g : rHp} : ∀ (ρ : Nat → Int) (γ : Nat → rHp), zO 5 S a g q61_0 ρ γ → zGl (fun i vs g1 => jn61 a g i vs g1) (sn61 a g) q61_0 ρ γ := by
  intro ρ γ h
  obtain ⟨ha, hg, hr, hf, hm, hc, hl⟩ := h
  have ha : a = [ρ 0, ρ 1, ρ 2, ρ 3, ρ 4] := ha
  subst ha
  subst hg
  have r5 : (1 : Int) ≤ ρ 5 ∧ ρ 5 ≤ 1 := zRnA hr 5
  have w_0 : ρ 5 ≠ 0 := by omega
  have m3 : γ 0 15 0 84 = ρ 5 := zAllA hm 3
  show jn61 [ρ 0, ρ 1, ρ 2, ρ 3, ρ 4] (γ 0) 0 [ρ 0, ρ 1, ρ 2, ρ 3, ρ 4, ρ 1 + 1] (γ 0)
  have hD : dn61 [ρ 0, ρ 1] (γ 0) = .inl (0, [ρ 0, ρ 1, ρ 1 + 1], γ 0) := by
    unfold dn61
    refine zLV (ρ 0) rfl (zLV (ρ 1) rfl (zLE m3 (zIP w_0 ?_)))
    rfl
  exact zGoo_to hD
theorem vn61_1 {S : Nat → zSpc} (hS59 : zIm S 59 sn59) {a : List Int} {g : rHp} : ∀ (ρ : Nat → Int) (γ : Nat → rHp), zO 5 S a g q61_1 ρ γ → zGl (fun i vs g1 => jn61 a g i vs g1) (sn61 a g) q61_1 ρ γ := by
  intro ρ γ h
  obtain ⟨ha, hg, hr, hf, hm, hc, hl⟩ := h
  have ha : a = [ρ 0, ρ 1, ρ 2, ρ 3, ρ 4] := ha
  subst ha
  subst hg
  have r5 : (0 : Int) ≤ ρ 5 ∧ ρ 5 ≤ 0 := zRnA hr 5
  have w_0 : ¬ (ρ 5 ≠ 0) := by omega
  have m3 : γ 0 15 0 84 = ρ 5 := zAllA hm 3
  show sn61 [ρ 0, ρ 1, ρ 2, ρ 3, ρ 4] (γ 0) 0 0 (γ 0)
  have hD : dn61 [ρ 0, ρ 1] (γ 0) = .inr (0, 0, γ 0) := by
    unfold dn61
    refine zLV (ρ 0) rfl (zLV (ρ 1) rfl (zLE m3 (zIN w_0 ?_)))
    rfl
  exact zGoo_end hD
theorem vn61a0_0 {S : Nat → zSpc} (hS59 : zIm S 59 sn59) {a : List Int} {g : rHp} : ∀ (ρ : Nat → Int) (γ : Nat → rHp), jn61 a g 0 (zAg (zNA a61_ 0) ρ) (γ 1) → zO 5 S a g q61a0_0 ρ γ → zGl (fun i vs g1 => jn61 a g i vs g1) (sn61 a g) q61a0_0 ρ γ := by
  intro ρ γ hJ h
  obtain ⟨ha, hg, hr, hf, hm, hc, hl⟩ := h
  have ha : a = [ρ 0, ρ 1, ρ 2, ρ 3, ρ 4] := ha
  subst ha
  subst hg
  have hJ : jn61 [ρ 0, ρ 1, ρ 2, ρ 3, ρ 4] (γ 0) 0 [ρ 0, ρ 1, ρ 2, ρ 3, ρ 4, ρ 5] (γ 1) := hJ
  have f0 : (0 : Int) ≤ ρ 5 + -ρ 2 := zAllA hf 0
  have w_0 : ρ 5 ≥ ρ 2 := by omega
  have m0 : γ 0 73 0 (ρ 0) = ρ 2 := zAllA hm 0
  show jn61 [ρ 0, ρ 1, ρ 2, ρ 3, ρ 4] (γ 0) 1 [ρ 0, ρ 1, ρ 2, ρ 3, ρ 4, 0] (γ 1)
  have hD : en61 (γ 0) (0, [ρ 0, ρ 1, ρ 5], γ 1) = .inl (1, [ρ 0, ρ 1, 0], γ 1) := by
    unfold en61
    refine zIP (show (0 : Nat) = 0 by decide) (zLV (γ 1) rfl (zLV (ρ 0) rfl (zLV (ρ 1) rfl (zLV (ρ 5) rfl (zLE m0 (zIP w_0 ?_))))))
    rfl
  exact zGoo_ato hJ hD
theorem vn61a0_1 {S : Nat → zSpc} (hS59 : zIm S 59 sn59) {a : List Int} {g : rHp} : ∀ (ρ : Nat → Int) (γ : Nat → rHp), jn61 a g 0 (zAg (zNA a61_ 0) ρ) (γ 1) → zO 5 S a g q61a0_1 ρ γ → zGl (fun i vs g1 => jn61 a g i vs g1) (sn61 a g) q61a0_1 ρ γ := by
  intro ρ γ hJ h
  obtain ⟨ha, hg, hr, hf, hm, hc, hl⟩ := h
  have ha : a = [ρ 0, ρ 1, ρ 2, ρ 3, ρ 4] := ha
  subst ha
  subst hg
  have hJ : jn61 [ρ 0, ρ 1, ρ 2, ρ 3, ρ 4] (γ 0) 0 [ρ 0, ρ 1, ρ 2, ρ 3, ρ 4, ρ 5] (γ 1) := hJ
  have r6 : (1 : Int) ≤ ρ 6 ∧ ρ 6 ≤ 7 := zRnA hr 6
  have f0 : (0 : Int) ≤ -ρ 5 + ρ 2 + (-1) := zAllA hf 0
  obtain ⟨w_0, w_1⟩ : (¬ (ρ 5 ≥ ρ 2)) ∧ (ρ 6 ≠ 0) := ⟨by omega, by omega⟩
  have m0 : γ 0 73 0 (ρ 0) = ρ 2 := zAllA hm 0
  have m3 : γ 0 77 0 (ρ 5 + 8 * ρ 0) = ρ 6 := zAllA hm 3
  show jn61 [ρ 0, ρ 1, ρ 2, ρ 3, ρ 4] (γ 0) 0 [ρ 0, ρ 1, ρ 2, ρ 3, ρ 4, ρ 5 + 1] (γ 1)
  have hD : en61 (γ 0) (0, [ρ 0, ρ 1, ρ 5], γ 1) = .inl (0, [ρ 0, ρ 1, ρ 5 + 1], γ 1) := by
    unfold en61
    refine zIP (show (0 : Nat) = 0 by decide) (zLV (γ 1) rfl (zLV (ρ 0) rfl (zLV (ρ 1) rfl (zLV (ρ 5) rfl (zLE m0 (zIN w_0 (zLE m3 ?_)))))))
    refine zIP w_1 ?_
    rfl
  exact zGoo_ato hJ hD
theorem vn61a0_2 {S : Nat → zSpc} (hS59 : zIm S 59 sn59) {a : List Int} {g : rHp} : ∀ (ρ : Nat → Int) (γ : Nat → rHp), jn61 a g 0 (zAg (zNA a61_ 0) ρ) (γ 1) → zO 5 S a g q61a0_2 ρ γ → zGl (fun i vs g1 => jn61 a g i vs g1) (sn61 a g) q61a0_2 ρ γ := by
  intro ρ γ hJ h
  obtain ⟨ha, hg, hr, hf, hm, hc, hl⟩ := h
  have ha : a = [ρ 0, ρ 1, ρ 2, ρ 3, ρ 4] := ha
  subst ha
  subst hg
  have hJ : jn61 [ρ 0, ρ 1, ρ 2, ρ 3, ρ 4] (γ 0) 0 [ρ 0, ρ 1, ρ 2, ρ 3, ρ 4, ρ 5] (γ 1) := hJ
  have r6 : (0 : Int) ≤ ρ 6 ∧ ρ 6 ≤ 0 := zRnA hr 6
  have f0 : (0 : Int) ≤ -ρ 5 + ρ 2 + (-1) := zAllA hf 0
  obtain ⟨w_0, w_1⟩ : (¬ (ρ 5 ≥ ρ 2)) ∧ (¬ (ρ 6 ≠ 0)) := ⟨by omega, by omega⟩
  have m0 : γ 0 73 0 (ρ 0) = ρ 2 := zAllA hm 0
  have m3 : γ 0 77 0 (ρ 5 + 8 * ρ 0) = ρ 6 := zAllA hm 3
  show sn61 [ρ 0, ρ 1, ρ 2, ρ 3, ρ 4] (γ 0) 0 0 (γ 1)
  have hD : en61 (γ 0) (0, [ρ 0, ρ 1, ρ 5], γ 1) = .inr (0, 0, γ 1) := by
    unfold en61
    refine zIP (show (0 : Nat) = 0 by decide) (zLV (γ 1) rfl (zLV (ρ 0) rfl (zLV (ρ 1) rfl (zLV (ρ 5) rfl (zLE m0 (zIN w_0 (zLE m3 ?_)))))))
    refine zIN w_1 ?_
    rfl
  exact zGoo_aend hJ hD
theorem vn61a1_0 {S : Nat → zSpc} (hS59 : zIm S 59 sn59) {a : List Int} {g : rHp} : ∀ (ρ : Nat → Int) (γ : Nat → rHp), jn61 a g 1 (zAg (zNA a61_ 1) ρ) (γ 1) → zO 5 S a g q61a1_0 ρ γ → zGl (fun i vs g1 => jn61 a g i vs g1) (sn61 a g) q61a1_0 ρ γ := by
  intro ρ γ hJ h
  obtain ⟨ha, hg, hr, hf, hm, hc, hl⟩ := h
  have ha : a = [ρ 0, ρ 1, ρ 2, ρ 3, ρ 4] := ha
  subst ha
  subst hg
  have hJ : jn61 [ρ 0, ρ 1, ρ 2, ρ 3, ρ 4] (γ 0) 1 [ρ 0, ρ 1, ρ 2, ρ 3, ρ 4, ρ 5] (γ 1) := hJ
  have f0 : (0 : Int) ≤ ρ 5 + -ρ 1 := zAllA hf 0
  have w_0 : ρ 5 ≥ ρ 1 := by omega
  show sn61 [ρ 0, ρ 1, ρ 2, ρ 3, ρ 4] (γ 0) 0 1 (γ 1)
  have hD : en61 (γ 0) (1, [ρ 0, ρ 1, ρ 5], γ 1) = .inr (0, 1, γ 1) := by
    unfold en61
    refine zIN (show ¬ (1 : Nat) = 0 by decide) (zIP (show (1 : Nat) = 1 by decide) (zLV (γ 1) rfl (zLV (ρ 0) rfl (zLV (ρ 1) rfl (zLV (ρ 5) rfl (zIP w_0 ?_))))))
    rfl
  exact zGoo_aend hJ hD
theorem vn61a1_1 {S : Nat → zSpc} (hS59 : zIm S 59 sn59) {a : List Int} {g : rHp} : ∀ (ρ : Nat → Int) (γ : Nat → rHp), jn61 a g 1 (zAg (zNA a61_ 1) ρ) (γ 1) → zO 5 S a g q61a1_1 ρ γ → zGl (fun i vs g1 => jn61 a g i vs g1) (sn61 a g) q61a1_1 ρ γ := by
  intro ρ γ hJ h
  obtain ⟨ha, hg, hr, hf, hm, hc, hl⟩ := h
  have ha : a = [ρ 0, ρ 1, ρ 2, ρ 3, ρ 4] := ha
  subst ha
  subst hg
  have hJ : jn61 [ρ 0, ρ 1, ρ 2, ρ 3, ρ 4] (γ 0) 1 [ρ 0, ρ 1, ρ 2, ρ 3, ρ 4, ρ 5] (γ 1) := hJ
  have r6 : (1 : Int) ≤ ρ 6 ∧ ρ 6 ≤ 7 := zRnA hr 6
  have f0 : (0 : Int) ≤ -ρ 5 + ρ 1 + (-1) := zAllA hf 0
  obtain ⟨w_0, w_1⟩ : (¬ (ρ 5 ≥ ρ 1)) ∧ (ρ 6 ≠ 0) := ⟨by omega, by omega⟩
  have m3 : γ 0 77 0 (ρ 5 + 8 * ρ 0) = ρ 6 := zAllA hm 3
  show jn61 [ρ 0, ρ 1, ρ 2, ρ 3, ρ 4] (γ 0) 1 [ρ 0, ρ 1, ρ 2, ρ 3, ρ 4, ρ 5 + 1] (γ 1)
  have hD : en61 (γ 0) (1, [ρ 0, ρ 1, ρ 5], γ 1) = .inl (1, [ρ 0, ρ 1, ρ 5 + 1], γ 1) := by
    unfold en61
    refine zIN (show ¬ (1 : Nat) = 0 by decide) (zIP (show (1 : Nat) = 1 by decide) (zLV (γ 1) rfl (zLV (ρ 0) rfl (zLV (ρ 1) rfl (zLV (ρ 5) rfl (zIN w_0 (zLE m3 ?_)))))))
    refine zIP w_1 ?_
    rfl
  exact zGoo_ato hJ hD
theorem vn61a1_2 {S : Nat → zSpc} (hS59 : zIm S 59 sn59) {a : List Int} {g : rHp} : ∀ (ρ : Nat → Int) (γ : Nat → rHp), jn61 a g 1 (zAg (zNA a61_ 1) ρ) (γ 1) → zO 5 S a g q61a1_2 ρ γ → zGl (fun i vs g1 => jn61 a g i vs g1) (sn61 a g) q61a1_2 ρ γ := by
  intro ρ γ hJ h
  obtain ⟨ha, hg, hr, hf, hm, hc, hl⟩ := h
  have ha : a = [ρ 0, ρ 1, ρ 2, ρ 3, ρ 4] := ha
  subst ha
  subst hg
  have hJ : jn61 [ρ 0, ρ 1, ρ 2, ρ 3, ρ 4] (γ 0) 1 [ρ 0, ρ 1, ρ 2, ρ 3, ρ 4, ρ 5] (γ 1) := hJ
  have r6 : (0 : Int) ≤ ρ 6 ∧ ρ 6 ≤ 0 := zRnA hr 6
  have f0 : (0 : Int) ≤ -ρ 5 + ρ 1 + (-1) := zAllA hf 0
  obtain ⟨w_0, w_1⟩ : (¬ (ρ 5 ≥ ρ 1)) ∧ (¬ (ρ 6 ≠ 0)) := ⟨by omega, by omega⟩
  have m3 : γ 0 77 0 (ρ 5 + 8 * ρ 0) = ρ 6 := zAllA hm 3
  have m4 : γ 0 104 0 (ρ 5) = ρ 7 := zAllA hm 4
  have l0 : sn59 [ρ 7, ρ 3, ρ 4] (γ 1) 0 0 (γ 2) := hS59 _ _ _ _ _ (zAllA hl 0)
  show jn61 [ρ 0, ρ 1, ρ 2, ρ 3, ρ 4] (γ 0) 1 [ρ 0, ρ 1, ρ 2, ρ 3, ρ 4, ρ 5 + 1] (γ 2)
  have hD : en61 (γ 0) (1, [ρ 0, ρ 1, ρ 5], γ 1) = .inl (1, [ρ 0, ρ 1, ρ 5 + 1], γ 2) := by
    unfold en61
    refine zIN (show ¬ (1 : Nat) = 0 by decide) (zIP (show (1 : Nat) = 1 by decide) (zLV (γ 1) rfl (zLV (ρ 0) rfl (zLV (ρ 1) rfl (zLV (ρ 5) rfl (zIN w_0 (zLE m3 ?_)))))))
    refine zIN w_1 (zLE m4 (zLE (show fn59 [ρ 7] (γ 1) = (0, 0, γ 2) from l0.symm) (zLV (γ 2) rfl (zIN zQ0_ ?_))))
    rfl
  exact zGoo_ato hJ hD
theorem vn61a1_3 {S : Nat → zSpc} (hS59 : zIm S 59 sn59) {a : List Int} {g : rHp} : ∀ (ρ : Nat → Int) (γ : Nat → rHp), jn61 a g 1 (zAg (zNA a61_ 1) ρ) (γ 1) → zO 5 S a g q61a1_3 ρ γ → zGl (fun i vs g1 => jn61 a g i vs g1) (sn61 a g) q61a1_3 ρ γ := by
  intro ρ γ hJ h
  obtain ⟨ha, hg, hr, hf, hm, hc, hl⟩ := h
  have ha : a = [ρ 0, ρ 1, ρ 2, ρ 3, ρ 4] := ha
  subst ha
  subst hg
  have hJ : jn61 [ρ 0, ρ 1, ρ 2, ρ 3, ρ 4] (γ 0) 1 [ρ 0, ρ 1, ρ 2, ρ 3, ρ 4, ρ 5] (γ 1) := hJ
  have r6 : (0 : Int) ≤ ρ 6 ∧ ρ 6 ≤ 0 := zRnA hr 6
  have f2 : (0 : Int) ≤ -ρ 5 + ρ 1 + (-1) := zAllA hf 2
  obtain ⟨w_0, w_1⟩ : (¬ (ρ 5 ≥ ρ 1)) ∧ (¬ (ρ 6 ≠ 0)) := ⟨by omega, by omega⟩
  have m3 : γ 0 77 0 (ρ 5 + 8 * ρ 0) = ρ 6 := zAllA hm 3
  have m4 : γ 0 104 0 (ρ 5) = ρ 7 := zAllA hm 4
  have l0 : sn59 [ρ 7, ρ 3, ρ 4] (γ 1) 0 1 (γ 2) := hS59 _ _ _ _ _ (zAllA hl 0)
  show sn61 [ρ 0, ρ 1, ρ 2, ρ 3, ρ 4] (γ 0) 0 0 (γ 2)
  have hD : en61 (γ 0) (1, [ρ 0, ρ 1, ρ 5], γ 1) = .inr (0, 0, γ 2) := by
    unfold en61
    refine zIN (show ¬ (1 : Nat) = 0 by decide) (zIP (show (1 : Nat) = 1 by decide) (zLV (γ 1) rfl (zLV (ρ 0) rfl (zLV (ρ 1) rfl (zLV (ρ 5) rfl (zIN w_0 (zLE m3 ?_)))))))
    refine zIN w_1 (zLE m4 (zLE (show fn59 [ρ 7] (γ 1) = (0, 1, γ 2) from l0.symm) (zLV (γ 2) rfl (zIP zQ1_ ?_))))
    rfl
  exact zGoo_aend hJ hD
theorem yn61 {S : Nat → zSpc} (hS59 : zIm S 59 sn59) : ∀ x g o v gz, zSem uW uT w61_.2.2.2.1 w61_.2.2.1.1.length S q61 (fun i => q61a.getD i []) (zNA a61_) x g o v gz → sn61 x g o v gz := by
  intro a g o v gz h
  exact zSem_all (l0 := q61) (las := q61a) (S := S) (J := (fun i vs g1 => jn61 a g i vs g1)) (P := sn61 a g) (fun _ => (show zAll _ [q61_0, q61_1] from (zAll_c (vn61_0 hS59) (zAll_c (vn61_1 hS59) zAll_n)))) (fun _ => (show zAllI _ 0 [q61a0, q61a1] from ⟨(show zAll _ [q61a0_0, q61a0_1, q61a0_2] from (zAll_c (vn61a0_0 hS59) (zAll_c (vn61a0_1 hS59) (zAll_c (vn61a0_2 hS59) zAll_n)))), ⟨(show zAll _ [q61a1_0, q61a1_1, q61a1_2, q61a1_3] from (zAll_c (vn61a1_0 hS59) (zAll_c (vn61a1_1 hS59) (zAll_c (vn61a1_2 hS59) (zAll_c (vn61a1_3 hS59) zAll_n))))), trivial⟩⟩)) h
theorem vn62_0 {S : Nat → zSpc} (hS59 : zIm S 59 sn59) (hS60 : zIm S 60 sn60) (hS61 : zIm S 61 sn61) {a : List Int} {g : rHp} : ∀ (ρ : Nat → Int) (γ : Nat → rHp), zO 7 S a g q62_0 ρ γ → zGl (fun i vs g1 => jn62 a g i vs g1) (sn62 a g) q62_0 ρ γ := by
  intro ρ γ h
  obtain ⟨ha, hg, hr, hf, hm, hc, hl⟩ := h
  have ha : a = [ρ 0, ρ 1, ρ 2, ρ 3, ρ 4, ρ 5, ρ 6] := ha
  subst ha
  subst hg
  have r2 : ((-1) : Int) ≤ ρ 2 ∧ ρ 2 ≤ (-1) := zRnA hr 2
  have w_0 : 0 ≤ -ρ 2 + (-1) := by omega
  have l0 : sn61 [ρ 0, ρ 1, ρ 7, ρ 5, ρ 6] (γ 0) 0 0 (γ 1) := hS61 _ _ _ _ _ (zAllA hl 0)
  show sn62 [ρ 0, ρ 1, ρ 2, ρ 3, ρ 4, ρ 5, ρ 6] (γ 0) 0 (-1) (γ 1)
  have hD : dn62 [ρ 0, ρ 1, ρ 2] (γ 0) = .inr (0, (-1), γ 1) := by
    unfold dn62
    refine zLV (ρ 0) rfl (zLV (ρ 1) rfl (zLV (ρ 2) rfl (zLE (show fn61 [ρ 0, ρ 1] (γ 0) = (0, 0, γ 1) from l0.symm) (zLV (γ 1) rfl (zIN zQ0_ (zIP w_0 ?_))))))
    rfl
  exact zGoo_end hD
theorem vn62_1 {S : Nat → zSpc} (hS59 : zIm S 59 sn59) (hS60 : zIm S 60 sn60) (hS61 : zIm S 61 sn61) {a : List Int} {g : rHp} : ∀ (ρ : Nat → Int) (γ : Nat → rHp), zO 7 S a g q62_1 ρ γ → zGl (fun i vs g1 => jn62 a g i vs g1) (sn62 a g) q62_1 ρ γ := by
  intro ρ γ h
  obtain ⟨ha, hg, hr, hf, hm, hc, hl⟩ := h
  have ha : a = [ρ 0, ρ 1, ρ 2, ρ 3, ρ 4, ρ 5, ρ 6] := ha
  subst ha
  subst hg
  have r2 : (0 : Int) ≤ ρ 2 ∧ ρ 2 ≤ 1999 := zRnA hr 2
  have w_0 : ¬ (0 ≤ -ρ 2 + (-1)) := by omega
  have l0 : sn61 [ρ 0, ρ 1, ρ 7, ρ 5, ρ 6] (γ 0) 0 0 (γ 1) := hS61 _ _ _ _ _ (zAllA hl 0)
  show jn62 [ρ 0, ρ 1, ρ 2, ρ 3, ρ 4, ρ 5, ρ 6] (γ 0) 0 [ρ 0, ρ 1, ρ 2, ρ 3, ρ 4, ρ 5, ρ 6, ρ 2, 0] (γ 1)
  have hD : dn62 [ρ 0, ρ 1, ρ 2] (γ 0) = .inl (0, [ρ 0, ρ 1, ρ 2, ρ 2, 0], γ 1) := by
    unfold dn62
    refine zLV (ρ 0) rfl (zLV (ρ 1) rfl (zLV (ρ 2) rfl (zLE (show fn61 [ρ 0, ρ 1] (γ 0) = (0, 0, γ 1) from l0.symm) (zLV (γ 1) rfl (zIN zQ0_ (zIN w_0 ?_))))))
    rfl
  exact zGoo_to hD
theorem vn62_2 {S : Nat → zSpc} (hS59 : zIm S 59 sn59) (hS60 : zIm S 60 sn60) (hS61 : zIm S 61 sn61) {a : List Int} {g : rHp} : ∀ (ρ : Nat → Int) (γ : Nat → rHp), zO 7 S a g q62_2 ρ γ → zGl (fun i vs g1 => jn62 a g i vs g1) (sn62 a g) q62_2 ρ γ := by
  intro ρ γ h
  obtain ⟨ha, hg, hr, hf, hm, hc, hl⟩ := h
  have ha : a = [ρ 0, ρ 1, ρ 2, ρ 3, ρ 4, ρ 5, ρ 6] := ha
  subst ha
  subst hg
  have r2 : ((-1) : Int) ≤ ρ 2 ∧ ρ 2 ≤ (-1) := zRnA hr 2
  have w_0 : 0 ≤ -ρ 2 + (-1) := by omega
  have l0 : sn61 [ρ 0, ρ 1, ρ 7, ρ 5, ρ 6] (γ 0) 0 1 (γ 1) := hS61 _ _ _ _ _ (zAllA hl 0)
  show sn62 [ρ 0, ρ 1, ρ 2, ρ 3, ρ 4, ρ 5, ρ 6] (γ 0) 0 (-1) (γ 1)
  have hD : dn62 [ρ 0, ρ 1, ρ 2] (γ 0) = .inr (0, (-1), γ 1) := by
    unfold dn62
    refine zLV (ρ 0) rfl (zLV (ρ 1) rfl (zLV (ρ 2) rfl (zLE (show fn61 [ρ 0, ρ 1] (γ 0) = (0, 1, γ 1) from l0.symm) (zLV (γ 1) rfl (zIP zQ1_ (zIP w_0 ?_))))))
    rfl
  exact zGoo_end hD
theorem vn62_3 {S : Nat → zSpc} (hS59 : zIm S 59 sn59) (hS60 : zIm S 60 sn60) (hS61 : zIm S 61 sn61) {a : List Int} {g : rHp} : ∀ (ρ : Nat → Int) (γ : Nat → rHp), zO 7 S a g q62_3 ρ γ → zGl (fun i vs g1 => jn62 a g i vs g1) (sn62 a g) q62_3 ρ γ := by
  intro ρ γ h
  obtain ⟨ha, hg, hr, hf, hm, hc, hl⟩ := h
  have ha : a = [ρ 0, ρ 1, ρ 2, ρ 3, ρ 4, ρ 5, ρ 6] := ha
  subst ha
  subst hg
  have r2 : (0 : Int) ≤ ρ 2 ∧ ρ 2 ≤ 1999 := zRnA hr 2
  have w_0 : ¬ (0 ≤ -ρ 2 + (-1)) := by omega
  have l0 : sn61 [ρ 0, ρ 1, ρ 7, ρ 5, ρ 6] (γ 0) 0 1 (γ 1) := hS61 _ _ _ _ _ (zAllA hl 0)
  show jn62 [ρ 0, ρ 1, ρ 2, ρ 3, ρ 4, ρ 5, ρ 6] (γ 0) 0 [ρ 0, ρ 1, ρ 2, ρ 3, ρ 4, ρ 5, ρ 6, ρ 2, 1] (γ 1)
  have hD : dn62 [ρ 0, ρ 1, ρ 2] (γ 0) = .inl (0, [ρ 0, ρ 1, ρ 2, ρ 2, 1], γ 1) := by
    unfold dn62
    refine zLV (ρ 0) rfl (zLV (ρ 1) rfl (zLV (ρ 2) rfl (zLE (show fn61 [ρ 0, ρ 1] (γ 0) = (0, 1, γ 1) from l0.symm) (zLV (γ 1) rfl (zIP zQ1_ (zIN w_0 ?_))))))
    rfl
  exact zGoo_to hD
theorem vn62a0_0 {S : Nat → zSpc} (hS59 : zIm S 59 sn59) (hS60 : zIm S 60 sn60) (hS61 : zIm S 61 sn61) {a : List Int} {g : rHp} : ∀ (ρ : Nat → Int) (γ : Nat → rHp), jn62 a g 0 (zAg (zNA a62_ 0) ρ) (γ 1) → zO 7 S a g q62a0_0 ρ γ → zGl (fun i vs g1 => jn62 a g i vs g1) (sn62 a g) q62a0_0 ρ γ := by
  intro ρ γ hJ h
  obtain ⟨ha, hg, hr, hf, hm, hc, hl⟩ := h
  have ha : a = [ρ 0, ρ 1, ρ 2, ρ 3, ρ 4, ρ 5, ρ 6] := ha
  subst ha
  subst hg
  have hJ : jn62 [ρ 0, ρ 1, ρ 2, ρ 3, ρ 4, ρ 5, ρ 6] (γ 0) 0 [ρ 0, ρ 1, ρ 2, ρ 3, ρ 4, ρ 5, ρ 6, ρ 7, ρ 8] (γ 1) := hJ
  have f0 : (0 : Int) ≤ ρ 7 + -ρ 3 := zAllA hf 0
  have w_0 : ρ 7 ≥ ρ 3 := by omega
  have m0 : γ 0 15 0 81 = ρ 3 := zAllA hm 0
  show sn62 [ρ 0, ρ 1, ρ 2, ρ 3, ρ 4, ρ 5, ρ 6] (γ 0) 0 (-1) (γ 1)
  have hD : en62 (γ 0) (0, [ρ 0, ρ 1, ρ 2, ρ 7, ρ 8], γ 1) = .inr (0, (-1), γ 1) := by
    unfold en62
    refine zIP (show (0 : Nat) = 0 by decide) (zLV (γ 1) rfl (zLV (ρ 0) rfl (zLV (ρ 1) rfl (zLV (ρ 2) rfl (zLV (ρ 7) rfl (zLV (ρ 8) rfl (zLE m0 ?_)))))))
    refine zIP w_0 ?_
    rfl
  exact zGoo_aend hJ hD
theorem vn62a0_1 {S : Nat → zSpc} (hS59 : zIm S 59 sn59) (hS60 : zIm S 60 sn60) (hS61 : zIm S 61 sn61) {a : List Int} {g : rHp} : ∀ (ρ : Nat → Int) (γ : Nat → rHp), jn62 a g 0 (zAg (zNA a62_ 0) ρ) (γ 1) → zO 7 S a g q62a0_1 ρ γ → zGl (fun i vs g1 => jn62 a g i vs g1) (sn62 a g) q62a0_1 ρ γ := by
  intro ρ γ hJ h
  obtain ⟨ha, hg, hr, hf, hm, hc, hl⟩ := h
  have ha : a = [ρ 0, ρ 1, ρ 2, ρ 3, ρ 4, ρ 5, ρ 6] := ha
  subst ha
  subst hg
  have hJ : jn62 [ρ 0, ρ 1, ρ 2, ρ 3, ρ 4, ρ 5, ρ 6] (γ 0) 0 [ρ 0, ρ 1, ρ 2, ρ 3, ρ 4, ρ 5, ρ 6, ρ 7, ρ 8] (γ 1) := hJ
  have r8 : (0 : Int) ≤ ρ 8 ∧ ρ 8 ≤ 0 := zRnA hr 8
  have r9 : ((-1) : Int) ≤ ρ 9 ∧ ρ 9 ≤ (-1) := zRnA hr 9
  have f0 : (0 : Int) ≤ -ρ 7 + ρ 3 + (-1) := zAllA hf 0
  obtain ⟨w_0, w_1, w_2⟩ : (¬ (ρ 7 ≥ ρ 3)) ∧ (ρ 8 = 0) ∧ (0 ≤ -ρ 9 + (-1)) := ⟨by omega, by omega, by omega⟩
  have m0 : γ 0 15 0 81 = ρ 3 := zAllA hm 0
  have m4 : γ 0 96 0 (ρ 7) = ρ 9 := zAllA hm 4
  have l0 : sn60 [ρ 1 + 8 * ρ 0, ρ 7] (γ 1) 0 0 (γ 2) := hS60 _ _ _ _ _ (zAllA hl 0)
  show sn62 [ρ 0, ρ 1, ρ 2, ρ 3, ρ 4, ρ 5, ρ 6] (γ 0) 0 (-1) (γ 2)
  have hD : en62 (γ 0) (0, [ρ 0, ρ 1, ρ 2, ρ 7, ρ 8], γ 1) = .inr (0, (-1), γ 2) := by
    unfold en62
    refine zIP (show (0 : Nat) = 0 by decide) (zLV (γ 1) rfl (zLV (ρ 0) rfl (zLV (ρ 1) rfl (zLV (ρ 2) rfl (zLV (ρ 7) rfl (zLV (ρ 8) rfl (zLE m0 ?_)))))))
    refine zIN w_0 (zIP w_1 (zLE (show fn60 [ρ 1 + 8 * ρ 0, ρ 7] (γ 1) = (0, 0, γ 2) from l0.symm) (zLV (γ 2) rfl (zIN zQ0_ (zLE m4 (zIP w_2 ?_))))))
    rfl
  exact zGoo_aend hJ hD
theorem vn62a0_2 {S : Nat → zSpc} (hS59 : zIm S 59 sn59) (hS60 : zIm S 60 sn60) (hS61 : zIm S 61 sn61) {a : List Int} {g : rHp} : ∀ (ρ : Nat → Int) (γ : Nat → rHp), jn62 a g 0 (zAg (zNA a62_ 0) ρ) (γ 1) → zO 7 S a g q62a0_2 ρ γ → zGl (fun i vs g1 => jn62 a g i vs g1) (sn62 a g) q62a0_2 ρ γ := by
  intro ρ γ hJ h
  obtain ⟨ha, hg, hr, hf, hm, hc, hl⟩ := h
  have ha : a = [ρ 0, ρ 1, ρ 2, ρ 3, ρ 4, ρ 5, ρ 6] := ha
  subst ha
  subst hg
  have hJ : jn62 [ρ 0, ρ 1, ρ 2, ρ 3, ρ 4, ρ 5, ρ 6] (γ 0) 0 [ρ 0, ρ 1, ρ 2, ρ 3, ρ 4, ρ 5, ρ 6, ρ 7, ρ 8] (γ 1) := hJ
  have r8 : (0 : Int) ≤ ρ 8 ∧ ρ 8 ≤ 0 := zRnA hr 8
  have r9 : (0 : Int) ≤ ρ 9 ∧ ρ 9 ≤ 1999 := zRnA hr 9
  have f1 : (0 : Int) ≤ -ρ 7 + ρ 3 + (-1) := zAllA hf 1
  obtain ⟨w_0, w_1, w_2⟩ : (¬ (ρ 7 ≥ ρ 3)) ∧ (ρ 8 = 0) ∧ (¬ (0 ≤ -ρ 9 + (-1))) := ⟨by omega, by omega, by omega⟩
  have m0 : γ 0 15 0 81 = ρ 3 := zAllA hm 0
  have m4 : γ 0 96 0 (ρ 7) = ρ 9 := zAllA hm 4
  have l0 : sn60 [ρ 1 + 8 * ρ 0, ρ 7] (γ 1) 0 0 (γ 2) := hS60 _ _ _ _ _ (zAllA hl 0)
  show jn62 [ρ 0, ρ 1, ρ 2, ρ 3, ρ 4, ρ 5, ρ 6] (γ 0) 0 [ρ 0, ρ 1, ρ 2, ρ 3, ρ 4, ρ 5, ρ 6, ρ 9, ρ 8] (γ 2)
  have hD : en62 (γ 0) (0, [ρ 0, ρ 1, ρ 2, ρ 7, ρ 8], γ 1) = .inl (0, [ρ 0, ρ 1, ρ 2, ρ 9, ρ 8], γ 2) := by
    unfold en62
    refine zIP (show (0 : Nat) = 0 by decide) (zLV (γ 1) rfl (zLV (ρ 0) rfl (zLV (ρ 1) rfl (zLV (ρ 2) rfl (zLV (ρ 7) rfl (zLV (ρ 8) rfl (zLE m0 ?_)))))))
    refine zIN w_0 (zIP w_1 (zLE (show fn60 [ρ 1 + 8 * ρ 0, ρ 7] (γ 1) = (0, 0, γ 2) from l0.symm) (zLV (γ 2) rfl (zIN zQ0_ (zLE m4 (zIN w_2 ?_))))))
    rfl
  exact zGoo_ato hJ hD
theorem vn62a0_3 {S : Nat → zSpc} (hS59 : zIm S 59 sn59) (hS60 : zIm S 60 sn60) (hS61 : zIm S 61 sn61) {a : List Int} {g : rHp} : ∀ (ρ : Nat → Int) (γ : Nat → rHp), jn62 a g 0 (zAg (zNA a62_ 0) ρ) (γ 1) → zO 7 S a g q62a0_3 ρ γ → zGl (fun i vs g1 => jn62 a g i vs g1) (sn62 a g) q62a0_3 ρ γ := by
  intro ρ γ hJ h
  obtain ⟨ha, hg, hr, hf, hm, hc, hl⟩ := h
  have ha : a = [ρ 0, ρ 1, ρ 2, ρ 3, ρ 4, ρ 5, ρ 6] := ha
  subst ha
  subst hg
  have hJ : jn62 [ρ 0, ρ 1, ρ 2, ρ 3, ρ 4, ρ 5, ρ 6] (γ 0) 0 [ρ 0, ρ 1, ρ 2, ρ 3, ρ 4, ρ 5, ρ 6, ρ 7, ρ 8] (γ 1) := hJ
  have r8 : (0 : Int) ≤ ρ 8 ∧ ρ 8 ≤ 0 := zRnA hr 8
  have f0 : (0 : Int) ≤ -ρ 7 + ρ 3 + (-1) := zAllA hf 0
  obtain ⟨w_0, w_1⟩ : (¬ (ρ 7 ≥ ρ 3)) ∧ (ρ 8 = 0) := ⟨by omega, by omega⟩
  have m0 : γ 0 15 0 81 = ρ 3 := zAllA hm 0
  have l0 : sn60 [ρ 1 + 8 * ρ 0, ρ 7] (γ 1) 0 1 (γ 2) := hS60 _ _ _ _ _ (zAllA hl 0)
  show sn62 [ρ 0, ρ 1, ρ 2, ρ 3, ρ 4, ρ 5, ρ 6] (γ 0) 0 (ρ 7) (γ 2)
  have hD : en62 (γ 0) (0, [ρ 0, ρ 1, ρ 2, ρ 7, ρ 8], γ 1) = .inr (0, ρ 7, γ 2) := by
    unfold en62
    refine zIP (show (0 : Nat) = 0 by decide) (zLV (γ 1) rfl (zLV (ρ 0) rfl (zLV (ρ 1) rfl (zLV (ρ 2) rfl (zLV (ρ 7) rfl (zLV (ρ 8) rfl (zLE m0 ?_)))))))
    refine zIN w_0 (zIP w_1 (zLE (show fn60 [ρ 1 + 8 * ρ 0, ρ 7] (γ 1) = (0, 1, γ 2) from l0.symm) (zLV (γ 2) rfl (zIP zQ1_ ?_))))
    rfl
  exact zGoo_aend hJ hD
theorem vn62a0_4 {S : Nat → zSpc} (hS59 : zIm S 59 sn59) (hS60 : zIm S 60 sn60) (hS61 : zIm S 61 sn61) {a : List Int} {g : rHp} : ∀ (ρ : Nat → Int) (γ : Nat → rHp), jn62 a g 0 (zAg (zNA a62_ 0) ρ) (γ 1) → zO 7 S a g q62a0_4 ρ γ → zGl (fun i vs g1 => jn62 a g i vs g1) (sn62 a g) q62a0_4 ρ γ := by
  intro ρ γ hJ h
  obtain ⟨ha, hg, hr, hf, hm, hc, hl⟩ := h
  have ha : a = [ρ 0, ρ 1, ρ 2, ρ 3, ρ 4, ρ 5, ρ 6] := ha
  subst ha
  subst hg
  have hJ : jn62 [ρ 0, ρ 1, ρ 2, ρ 3, ρ 4, ρ 5, ρ 6] (γ 0) 0 [ρ 0, ρ 1, ρ 2, ρ 3, ρ 4, ρ 5, ρ 6, ρ 7, ρ 8] (γ 1) := hJ
  have r8 : (1 : Int) ≤ ρ 8 ∧ ρ 8 ≤ 1 := zRnA hr 8
  have r9 : ((-1) : Int) ≤ ρ 9 ∧ ρ 9 ≤ (-1) := zRnA hr 9
  have f0 : (0 : Int) ≤ -ρ 7 + ρ 3 + (-1) := zAllA hf 0
  obtain ⟨w_0, w_1, w_2⟩ : (¬ (ρ 7 ≥ ρ 3)) ∧ (¬ (ρ 8 = 0)) ∧ (0 ≤ -ρ 9 + (-1)) := ⟨by omega, by omega, by omega⟩
  have m0 : γ 0 15 0 81 = ρ 3 := zAllA hm 0
  have m4 : γ 0 96 0 (ρ 7) = ρ 9 := zAllA hm 4
  have l0 : sn59 [ρ 7, ρ 5, ρ 6] (γ 1) 0 0 (γ 2) := hS59 _ _ _ _ _ (zAllA hl 0)
  show sn62 [ρ 0, ρ 1, ρ 2, ρ 3, ρ 4, ρ 5, ρ 6] (γ 0) 0 (-1) (γ 2)
  have hD : en62 (γ 0) (0, [ρ 0, ρ 1, ρ 2, ρ 7, ρ 8], γ 1) = .inr (0, (-1), γ 2) := by
    unfold en62
    refine zIP (show (0 : Nat) = 0 by decide) (zLV (γ 1) rfl (zLV (ρ 0) rfl (zLV (ρ 1) rfl (zLV (ρ 2) rfl (zLV (ρ 7) rfl (zLV (ρ 8) rfl (zLE m0 ?_)))))))
    refine zIN w_0 (zIN w_1 (zLE (show fn59 [ρ 7] (γ 1) = (0, 0, γ 2) from l0.symm) (zLV (γ 2) rfl (zIN zQ0_ (zLE m4 (zIP w_2 ?_))))))
    rfl
  exact zGoo_aend hJ hD
theorem vn62a0_5 {S : Nat → zSpc} (hS59 : zIm S 59 sn59) (hS60 : zIm S 60 sn60) (hS61 : zIm S 61 sn61) {a : List Int} {g : rHp} : ∀ (ρ : Nat → Int) (γ : Nat → rHp), jn62 a g 0 (zAg (zNA a62_ 0) ρ) (γ 1) → zO 7 S a g q62a0_5 ρ γ → zGl (fun i vs g1 => jn62 a g i vs g1) (sn62 a g) q62a0_5 ρ γ := by
  intro ρ γ hJ h
  obtain ⟨ha, hg, hr, hf, hm, hc, hl⟩ := h
  have ha : a = [ρ 0, ρ 1, ρ 2, ρ 3, ρ 4, ρ 5, ρ 6] := ha
  subst ha
  subst hg
  have hJ : jn62 [ρ 0, ρ 1, ρ 2, ρ 3, ρ 4, ρ 5, ρ 6] (γ 0) 0 [ρ 0, ρ 1, ρ 2, ρ 3, ρ 4, ρ 5, ρ 6, ρ 7, ρ 8] (γ 1) := hJ
  have r8 : (1 : Int) ≤ ρ 8 ∧ ρ 8 ≤ 1 := zRnA hr 8
  have r9 : (0 : Int) ≤ ρ 9 ∧ ρ 9 ≤ 1999 := zRnA hr 9
  have f1 : (0 : Int) ≤ -ρ 7 + ρ 3 + (-1) := zAllA hf 1
  obtain ⟨w_0, w_1, w_2⟩ : (¬ (ρ 7 ≥ ρ 3)) ∧ (¬ (ρ 8 = 0)) ∧ (¬ (0 ≤ -ρ 9 + (-1))) := ⟨by omega, by omega, by omega⟩
  have m0 : γ 0 15 0 81 = ρ 3 := zAllA hm 0
  have m4 : γ 0 96 0 (ρ 7) = ρ 9 := zAllA hm 4
  have l0 : sn59 [ρ 7, ρ 5, ρ 6] (γ 1) 0 0 (γ 2) := hS59 _ _ _ _ _ (zAllA hl 0)
  show jn62 [ρ 0, ρ 1, ρ 2, ρ 3, ρ 4, ρ 5, ρ 6] (γ 0) 0 [ρ 0, ρ 1, ρ 2, ρ 3, ρ 4, ρ 5, ρ 6, ρ 9, ρ 8] (γ 2)
  have hD : en62 (γ 0) (0, [ρ 0, ρ 1, ρ 2, ρ 7, ρ 8], γ 1) = .inl (0, [ρ 0, ρ 1, ρ 2, ρ 9, ρ 8], γ 2) := by
    unfold en62
    refine zIP (show (0 : Nat) = 0 by decide) (zLV (γ 1) rfl (zLV (ρ 0) rfl (zLV (ρ 1) rfl (zLV (ρ 2) rfl (zLV (ρ 7) rfl (zLV (ρ 8) rfl (zLE m0 ?_)))))))
    refine zIN w_0 (zIN w_1 (zLE (show fn59 [ρ 7] (γ 1) = (0, 0, γ 2) from l0.symm) (zLV (γ 2) rfl (zIN zQ0_ (zLE m4 (zIN w_2 ?_))))))
    rfl
  exact zGoo_ato hJ hD
theorem vn62a0_6 {S : Nat → zSpc} (hS59 : zIm S 59 sn59) (hS60 : zIm S 60 sn60) (hS61 : zIm S 61 sn61) {a : List Int} {g : rHp} : ∀ (ρ : Nat → Int) (γ : Nat → rHp), jn62 a g 0 (zAg (zNA a62_ 0) ρ) (γ 1) → zO 7 S a g q62a0_6 ρ γ → zGl (fun i vs g1 => jn62 a g i vs g1) (sn62 a g) q62a0_6 ρ γ := by
  intro ρ γ hJ h
  obtain ⟨ha, hg, hr, hf, hm, hc, hl⟩ := h
  have ha : a = [ρ 0, ρ 1, ρ 2, ρ 3, ρ 4, ρ 5, ρ 6] := ha
  subst ha
  subst hg
  have hJ : jn62 [ρ 0, ρ 1, ρ 2, ρ 3, ρ 4, ρ 5, ρ 6] (γ 0) 0 [ρ 0, ρ 1, ρ 2, ρ 3, ρ 4, ρ 5, ρ 6, ρ 7, ρ 8] (γ 1) := hJ
  have r8 : (1 : Int) ≤ ρ 8 ∧ ρ 8 ≤ 1 := zRnA hr 8
  have r9 : ((-1) : Int) ≤ ρ 9 ∧ ρ 9 ≤ (-1) := zRnA hr 9
  have f2 : (0 : Int) ≤ -ρ 7 + ρ 3 + (-1) := zAllA hf 2
  obtain ⟨w_0, w_1, w_2⟩ : (¬ (ρ 7 ≥ ρ 3)) ∧ (¬ (ρ 8 = 0)) ∧ (0 ≤ -ρ 9 + (-1)) := ⟨by omega, by omega, by omega⟩
  have m0 : γ 0 15 0 81 = ρ 3 := zAllA hm 0
  have m4 : γ 0 96 0 (ρ 7) = ρ 9 := zAllA hm 4
  have l0 : sn59 [ρ 7, ρ 5, ρ 6] (γ 1) 0 1 (γ 2) := hS59 _ _ _ _ _ (zAllA hl 0)
  have l1 : sn60 [ρ 1 + 8 * ρ 0, ρ 7] (γ 2) 0 0 (γ 3) := hS60 _ _ _ _ _ (zAllA hl 1)
  show sn62 [ρ 0, ρ 1, ρ 2, ρ 3, ρ 4, ρ 5, ρ 6] (γ 0) 0 (-1) (γ 3)
  have hD : en62 (γ 0) (0, [ρ 0, ρ 1, ρ 2, ρ 7, ρ 8], γ 1) = .inr (0, (-1), γ 3) := by
    unfold en62
    refine zIP (show (0 : Nat) = 0 by decide) (zLV (γ 1) rfl (zLV (ρ 0) rfl (zLV (ρ 1) rfl (zLV (ρ 2) rfl (zLV (ρ 7) rfl (zLV (ρ 8) rfl (zLE m0 ?_)))))))
    refine zIN w_0 (zIN w_1 (zLE (show fn59 [ρ 7] (γ 1) = (0, 1, γ 2) from l0.symm) (zLV (γ 2) rfl (zIP zQ1_ (zLE (show fn60 [ρ 1 + 8 * ρ 0, ρ 7] (γ 2) = (0, 0, γ 3) from l1.symm) (zLV (γ 3) rfl (zIN zQ0_ ?_)))))))
    refine zLE m4 (zIP w_2 ?_)
    rfl
  exact zGoo_aend hJ hD
theorem vn62a0_7 {S : Nat → zSpc} (hS59 : zIm S 59 sn59) (hS60 : zIm S 60 sn60) (hS61 : zIm S 61 sn61) {a : List Int} {g : rHp} : ∀ (ρ : Nat → Int) (γ : Nat → rHp), jn62 a g 0 (zAg (zNA a62_ 0) ρ) (γ 1) → zO 7 S a g q62a0_7 ρ γ → zGl (fun i vs g1 => jn62 a g i vs g1) (sn62 a g) q62a0_7 ρ γ := by
  intro ρ γ hJ h
  obtain ⟨ha, hg, hr, hf, hm, hc, hl⟩ := h
  have ha : a = [ρ 0, ρ 1, ρ 2, ρ 3, ρ 4, ρ 5, ρ 6] := ha
  subst ha
  subst hg
  have hJ : jn62 [ρ 0, ρ 1, ρ 2, ρ 3, ρ 4, ρ 5, ρ 6] (γ 0) 0 [ρ 0, ρ 1, ρ 2, ρ 3, ρ 4, ρ 5, ρ 6, ρ 7, ρ 8] (γ 1) := hJ
  have r8 : (1 : Int) ≤ ρ 8 ∧ ρ 8 ≤ 1 := zRnA hr 8
  have r9 : (0 : Int) ≤ ρ 9 ∧ ρ 9 ≤ 1999 := zRnA hr 9
  have f3 : (0 : Int) ≤ -ρ 7 + ρ 3 + (-1) := zAllA hf 3
  obtain ⟨w_0, w_1, w_2⟩ : (¬ (ρ 7 ≥ ρ 3)) ∧ (¬ (ρ 8 = 0)) ∧ (¬ (0 ≤ -ρ 9 + (-1))) := ⟨by omega, by omega, by omega⟩
  have m0 : γ 0 15 0 81 = ρ 3 := zAllA hm 0
  have m4 : γ 0 96 0 (ρ 7) = ρ 9 := zAllA hm 4
  have l0 : sn59 [ρ 7, ρ 5, ρ 6] (γ 1) 0 1 (γ 2) := hS59 _ _ _ _ _ (zAllA hl 0)
  have l1 : sn60 [ρ 1 + 8 * ρ 0, ρ 7] (γ 2) 0 0 (γ 3) := hS60 _ _ _ _ _ (zAllA hl 1)
  show jn62 [ρ 0, ρ 1, ρ 2, ρ 3, ρ 4, ρ 5, ρ 6] (γ 0) 0 [ρ 0, ρ 1, ρ 2, ρ 3, ρ 4, ρ 5, ρ 6, ρ 9, ρ 8] (γ 3)
  have hD : en62 (γ 0) (0, [ρ 0, ρ 1, ρ 2, ρ 7, ρ 8], γ 1) = .inl (0, [ρ 0, ρ 1, ρ 2, ρ 9, ρ 8], γ 3) := by
    unfold en62
    refine zIP (show (0 : Nat) = 0 by decide) (zLV (γ 1) rfl (zLV (ρ 0) rfl (zLV (ρ 1) rfl (zLV (ρ 2) rfl (zLV (ρ 7) rfl (zLV (ρ 8) rfl (zLE m0 ?_)))))))
    refine zIN w_0 (zIN w_1 (zLE (show fn59 [ρ 7] (γ 1) = (0, 1, γ 2) from l0.symm) (zLV (γ 2) rfl (zIP zQ1_ (zLE (show fn60 [ρ 1 + 8 * ρ 0, ρ 7] (γ 2) = (0, 0, γ 3) from l1.symm) (zLV (γ 3) rfl (zIN zQ0_ ?_)))))))
    refine zLE m4 (zIN w_2 ?_)
    rfl
  exact zGoo_ato hJ hD
theorem vn62a0_8 {S : Nat → zSpc} (hS59 : zIm S 59 sn59) (hS60 : zIm S 60 sn60) (hS61 : zIm S 61 sn61) {a : List Int} {g : rHp} : ∀ (ρ : Nat → Int) (γ : Nat → rHp), jn62 a g 0 (zAg (zNA a62_ 0) ρ) (γ 1) → zO 7 S a g q62a0_8 ρ γ → zGl (fun i vs g1 => jn62 a g i vs g1) (sn62 a g) q62a0_8 ρ γ := by
  intro ρ γ hJ h
  obtain ⟨ha, hg, hr, hf, hm, hc, hl⟩ := h
  have ha : a = [ρ 0, ρ 1, ρ 2, ρ 3, ρ 4, ρ 5, ρ 6] := ha
  subst ha
  subst hg
  have hJ : jn62 [ρ 0, ρ 1, ρ 2, ρ 3, ρ 4, ρ 5, ρ 6] (γ 0) 0 [ρ 0, ρ 1, ρ 2, ρ 3, ρ 4, ρ 5, ρ 6, ρ 7, ρ 8] (γ 1) := hJ
  have r8 : (1 : Int) ≤ ρ 8 ∧ ρ 8 ≤ 1 := zRnA hr 8
  have f2 : (0 : Int) ≤ -ρ 7 + ρ 3 + (-1) := zAllA hf 2
  obtain ⟨w_0, w_1⟩ : (¬ (ρ 7 ≥ ρ 3)) ∧ (¬ (ρ 8 = 0)) := ⟨by omega, by omega⟩
  have m0 : γ 0 15 0 81 = ρ 3 := zAllA hm 0
  have l0 : sn59 [ρ 7, ρ 5, ρ 6] (γ 1) 0 1 (γ 2) := hS59 _ _ _ _ _ (zAllA hl 0)
  have l1 : sn60 [ρ 1 + 8 * ρ 0, ρ 7] (γ 2) 0 1 (γ 3) := hS60 _ _ _ _ _ (zAllA hl 1)
  show sn62 [ρ 0, ρ 1, ρ 2, ρ 3, ρ 4, ρ 5, ρ 6] (γ 0) 0 (ρ 7) (γ 3)
  have hD : en62 (γ 0) (0, [ρ 0, ρ 1, ρ 2, ρ 7, ρ 8], γ 1) = .inr (0, ρ 7, γ 3) := by
    unfold en62
    refine zIP (show (0 : Nat) = 0 by decide) (zLV (γ 1) rfl (zLV (ρ 0) rfl (zLV (ρ 1) rfl (zLV (ρ 2) rfl (zLV (ρ 7) rfl (zLV (ρ 8) rfl (zLE m0 ?_)))))))
    refine zIN w_0 (zIN w_1 (zLE (show fn59 [ρ 7] (γ 1) = (0, 1, γ 2) from l0.symm) (zLV (γ 2) rfl (zIP zQ1_ (zLE (show fn60 [ρ 1 + 8 * ρ 0, ρ 7] (γ 2) = (0, 1, γ 3) from l1.symm) (zLV (γ 3) rfl (zIP zQ1_ ?_)))))))
    rfl
  exact zGoo_aend hJ hD
theorem yn62 {S : Nat → zSpc} (hS59 : zIm S 59 sn59) (hS60 : zIm S 60 sn60) (hS61 : zIm S 61 sn61) : ∀ x g o v gz, zSem uW uT w62_.2.2.2.1 w62_.2.2.1.1.length S q62 (fun i => q62a.getD i []) (zNA a62_) x g o v gz → sn62 x g o v gz := by
  intro a g o v gz h
  exact zSem_all (l0 := q62) (las := q62a) (S := S) (J := (fun i vs g1 => jn62 a g i vs g1)) (P := sn62 a g) (fun _ => (show zAll _ [q62_0, q62_1, q62_2, q62_3] from (zAll_c (vn62_0 hS59 hS60 hS61) (zAll_c (vn62_1 hS59 hS60 hS61) (zAll_c (vn62_2 hS59 hS60 hS61) (zAll_c (vn62_3 hS59 hS60 hS61) zAll_n)))))) (fun _ => (show zAllI _ 0 [q62a0] from ⟨(show zAll _ [q62a0_0, q62a0_1, q62a0_2, q62a0_3, q62a0_4, q62a0_5, q62a0_6, q62a0_7, q62a0_8] from (zAll_c (vn62a0_0 hS59 hS60 hS61) (zAll_c (vn62a0_1 hS59 hS60 hS61) (zAll_c (vn62a0_2 hS59 hS60 hS61) (zAll_c (vn62a0_3 hS59 hS60 hS61) (zAll_c (vn62a0_4 hS59 hS60 hS61) (zAll_c (vn62a0_5 hS59 hS60 hS61) (zAll_c (vn62a0_6 hS59 hS60 hS61) (zAll_c (vn62a0_7 hS59 hS60 hS61) (zAll_c (vn62a0_8 hS59 hS60 hS61) zAll_n)))))))))), trivial⟩)) h
theorem vn63_0 {S : Nat → zSpc}  {a : List Int} {g : rHp} : ∀ (ρ : Nat → Int) (γ : Nat → rHp), zO 2 S a g q63_0 ρ γ → zGl (fun i vs g1 => jn63 a g i vs g1) (sn63 a g) q63_0 ρ γ := by
  intro ρ γ h
  obtain ⟨ha, hg, hr, hf, hm, hc, hl⟩ := h
  have ha : a = [ρ 0, ρ 1] := ha
  subst ha
  subst hg
  have m0 : γ 0 78 0 (ρ 0) = ρ 2 := zAllA hm 0
  have m1 : γ 0 66 0 (ρ 2) = ρ 3 := zAllA hm 1
  show jn63 [ρ 0, ρ 1] (γ 0) 0 [ρ 0, ρ 1, 0, ρ 3] (γ 0)
  have hD : dn63 [ρ 0, ρ 1] (γ 0) = .inl (0, [ρ 0, ρ 1, 0, ρ 3], γ 0) := by
    unfold dn63
    refine zLV (ρ 0) rfl (zLV (ρ 1) rfl (zLE m0 (zLE m1 ?_)))
    rfl
  exact zGoo_to hD
theorem vn63a0_0 {S : Nat → zSpc}  {a : List Int} {g : rHp} : ∀ (ρ : Nat → Int) (γ : Nat → rHp), jn63 a g 0 (zAg (zNA a63_ 0) ρ) (γ 1) → zO 2 S a g q63a0_0 ρ γ → zGl (fun i vs g1 => jn63 a g i vs g1) (sn63 a g) q63a0_0 ρ γ := by
  intro ρ γ hJ h
  obtain ⟨ha, hg, hr, hf, hm, hc, hl⟩ := h
  have ha : a = [ρ 0, ρ 1] := ha
  subst ha
  subst hg
  have hJ : jn63 [ρ 0, ρ 1] (γ 0) 0 [ρ 0, ρ 1, ρ 2, ρ 3] (γ 1) := hJ
  have f0 : (0 : Int) ≤ -ρ 3 + ρ 2 := zAllA hf 0
  have w_0 : ρ 2 ≥ ρ 3 := by omega
  show sn63 [ρ 0, ρ 1] (γ 0) 0 0 (γ 1)
  have hD : en63 (γ 0) (0, [ρ 0, ρ 1, ρ 2, ρ 3], γ 1) = .inr (0, 0, γ 1) := by
    unfold en63
    refine zIP (show (0 : Nat) = 0 by decide) (zLV (γ 1) rfl (zLV (ρ 0) rfl (zLV (ρ 1) rfl (zLV (ρ 2) rfl (zLV (ρ 3) rfl (zIP w_0 ?_))))))
    rfl
  exact zGoo_aend hJ hD
theorem vn63a0_1 {S : Nat → zSpc}  {a : List Int} {g : rHp} : ∀ (ρ : Nat → Int) (γ : Nat → rHp), jn63 a g 0 (zAg (zNA a63_ 0) ρ) (γ 1) → zO 2 S a g q63a0_1 ρ γ → zGl (fun i vs g1 => jn63 a g i vs g1) (sn63 a g) q63a0_1 ρ γ := by
  intro ρ γ hJ h
  obtain ⟨ha, hg, hr, hf, hm, hc, hl⟩ := h
  have ha : a = [ρ 0, ρ 1] := ha
  subst ha
  subst hg
  have hJ : jn63 [ρ 0, ρ 1] (γ 0) 0 [ρ 0, ρ 1, ρ 2, ρ 3] (γ 1) := hJ
  have r4 : (0 : Int) ≤ ρ 4 ∧ ρ 4 ≤ 3 := zRnA hr 4
  have f0 : (0 : Int) ≤ ρ 3 + -ρ 2 + (-1) := zAllA hf 0
  have w_0 : ¬ (ρ 2 ≥ ρ 3) := by omega
  have m0 : γ 0 80 0 (ρ 2 + 4 * ρ 0) = ρ 4 := zAllA hm 0
  have l0 : ρ 4 ≠ 1 := zAllA hl 0
  have wl_0 : ρ 4 ≠ 1 := by omega
  show jn63 [ρ 0, ρ 1] (γ 0) 0 [ρ 0, ρ 1, ρ 2 + 1, ρ 3] (γ 1)
  have hD : en63 (γ 0) (0, [ρ 0, ρ 1, ρ 2, ρ 3], γ 1) = .inl (0, [ρ 0, ρ 1, ρ 2 + 1, ρ 3], γ 1) := by
    unfold en63
    refine zIP (show (0 : Nat) = 0 by decide) (zLV (γ 1) rfl (zLV (ρ 0) rfl (zLV (ρ 1) rfl (zLV (ρ 2) rfl (zLV (ρ 3) rfl (zIN w_0 (zLE m0 ?_)))))))
    refine zIP wl_0 ?_
    rfl
  exact zGoo_ato hJ hD
theorem vn63a0_2 {S : Nat → zSpc}  {a : List Int} {g : rHp} : ∀ (ρ : Nat → Int) (γ : Nat → rHp), jn63 a g 0 (zAg (zNA a63_ 0) ρ) (γ 1) → zO 2 S a g q63a0_2 ρ γ → zGl (fun i vs g1 => jn63 a g i vs g1) (sn63 a g) q63a0_2 ρ γ := by
  intro ρ γ hJ h
  obtain ⟨ha, hg, hr, hf, hm, hc, hl⟩ := h
  have ha : a = [ρ 0, ρ 1] := ha
  subst ha
  subst hg
  have hJ : jn63 [ρ 0, ρ 1] (γ 0) 0 [ρ 0, ρ 1, ρ 2, ρ 3] (γ 1) := hJ
  have r4 : (1 : Int) ≤ ρ 4 ∧ ρ 4 ≤ 1 := zRnA hr 4
  have f0 : (0 : Int) ≤ ρ 3 + -ρ 2 + (-1) := zAllA hf 0
  obtain ⟨w_0, w_1⟩ : (¬ (ρ 2 ≥ ρ 3)) ∧ (¬ (ρ 4 ≠ 1)) := ⟨by omega, by omega⟩
  have m0 : γ 0 80 0 (ρ 2 + 4 * ρ 0) = ρ 4 := zAllA hm 0
  have m1 : γ 0 81 0 (ρ 2 + 4 * ρ 0) = ρ 5 := zAllA hm 1
  have m2 : γ 0 99 0 (ρ 2 + 4 * ρ 1) = ρ 6 := zAllA hm 2
  have c2 : γ 2 = rUp (γ 1) 103 0 (ρ 5) (ρ 6) := And.right (zChA hc 0)
  show jn63 [ρ 0, ρ 1] (γ 0) 0 [ρ 0, ρ 1, ρ 2 + 1, ρ 3] (γ 2)
  have hD : en63 (γ 0) (0, [ρ 0, ρ 1, ρ 2, ρ 3], γ 1) = .inl (0, [ρ 0, ρ 1, ρ 2 + 1, ρ 3], γ 2) := by
    unfold en63
    refine zIP (show (0 : Nat) = 0 by decide) (zLV (γ 1) rfl (zLV (ρ 0) rfl (zLV (ρ 1) rfl (zLV (ρ 2) rfl (zLV (ρ 3) rfl (zIN w_0 (zLE m0 ?_)))))))
    refine zIN w_1 (zLE m1 (zLE m2 (zLE c2.symm ?_)))
    rfl
  exact zGoo_ato hJ hD
theorem yn63 {S : Nat → zSpc}  : ∀ x g o v gz, zSem uW uT w63_.2.2.2.1 w63_.2.2.1.1.length S q63 (fun i => q63a.getD i []) (zNA a63_) x g o v gz → sn63 x g o v gz := by
  intro a g o v gz h
  exact zSem_all (l0 := q63) (las := q63a) (S := S) (J := (fun i vs g1 => jn63 a g i vs g1)) (P := sn63 a g) (fun _ => (show zAll _ [q63_0] from (zAll_c (vn63_0 ) zAll_n))) (fun _ => (show zAllI _ 0 [q63a0] from ⟨(show zAll _ [q63a0_0, q63a0_1, q63a0_2] from (zAll_c (vn63a0_0 ) (zAll_c (vn63a0_1 ) (zAll_c (vn63a0_2 ) zAll_n)))), trivial⟩)) h
theorem vn64_0 {S : Nat → zSpc} (hS55 : zIm S 55 sn55) (hS58 : zIm S 58 sn58) (hS60 : zIm S 60 sn60) {a : List Int} {g : rHp} : ∀ (ρ : Nat → Int) (γ : Nat → rHp), zO 5 S a g q64_0 ρ γ → zGl (fun i vs g1 => jn64 a g i vs g1) (sn64 a g) q64_0 ρ γ := by
  intro ρ γ h
  obtain ⟨ha, hg, hr, hf, hm, hc, hl⟩ := h
  have ha : a = [ρ 0, ρ 1, ρ 2, ρ 3, ρ 4] := ha
  subst ha
  subst hg
  have r1 : (1 : Int) ≤ ρ 1 ∧ ρ 1 ≤ 1 := zRnA hr 1
  have r6 : ((-1) : Int) ≤ ρ 6 ∧ ρ 6 ≤ (-1) := zRnA hr 6
  obtain ⟨w_0, w_1⟩ : (0 ≤ -ρ 1 + 1) ∧ (0 ≤ -ρ 6 + (-1)) := ⟨by omega, by omega⟩
  have m0 : γ 0 77 0 (ρ 0) = ρ 1 := zAllA hm 0
  have m4 : γ 0 78 0 (ρ 0) = ρ 5 := zAllA hm 4
  have m5 : γ 0 100 0 (ρ 5) = ρ 6 := zAllA hm 5
  show sn64 [ρ 0, ρ 1, ρ 2, ρ 3, ρ 4] (γ 0) 0 1 (γ 0)
  have hD : dn64 [ρ 0] (γ 0) = .inr (0, 1, γ 0) := by
    unfold dn64
    refine zLV (ρ 0) rfl (zLE m0 (zIP w_0 (zLE m4 (zLE m5 (zIP w_1 ?_)))))
    rfl
  exact zGoo_end hD
theorem vn64_1 {S : Nat → zSpc} (hS55 : zIm S 55 sn55) (hS58 : zIm S 58 sn58) (hS60 : zIm S 60 sn60) {a : List Int} {g : rHp} : ∀ (ρ : Nat → Int) (γ : Nat → rHp), zO 5 S a g q64_1 ρ γ → zGl (fun i vs g1 => jn64 a g i vs g1) (sn64 a g) q64_1 ρ γ := by
  intro ρ γ h
  obtain ⟨ha, hg, hr, hf, hm, hc, hl⟩ := h
  have ha : a = [ρ 0, ρ 1, ρ 2, ρ 3, ρ 4] := ha
  subst ha
  subst hg
  have r1 : (1 : Int) ≤ ρ 1 ∧ ρ 1 ≤ 1 := zRnA hr 1
  have r6 : (0 : Int) ≤ ρ 6 ∧ ρ 6 ≤ 1999 := zRnA hr 6
  obtain ⟨w_0, w_1⟩ : (0 ≤ -ρ 1 + 1) ∧ (¬ (0 ≤ -ρ 6 + (-1))) := ⟨by omega, by omega⟩
  have m0 : γ 0 77 0 (ρ 0) = ρ 1 := zAllA hm 0
  have m4 : γ 0 78 0 (ρ 0) = ρ 5 := zAllA hm 4
  have m5 : γ 0 100 0 (ρ 5) = ρ 6 := zAllA hm 5
  show jn64 [ρ 0, ρ 1, ρ 2, ρ 3, ρ 4] (γ 0) 0 [ρ 0, ρ 1, ρ 2, ρ 3, ρ 4, ρ 6] (γ 0)
  have hD : dn64 [ρ 0] (γ 0) = .inl (0, [ρ 0, ρ 6], γ 0) := by
    unfold dn64
    refine zLV (ρ 0) rfl (zLE m0 (zIP w_0 (zLE m4 (zLE m5 (zIN w_1 ?_)))))
    rfl
  exact zGoo_to hD
theorem vn64_2 {S : Nat → zSpc} (hS55 : zIm S 55 sn55) (hS58 : zIm S 58 sn58) (hS60 : zIm S 60 sn60) {a : List Int} {g : rHp} : ∀ (ρ : Nat → Int) (γ : Nat → rHp), zO 5 S a g q64_2 ρ γ → zGl (fun i vs g1 => jn64 a g i vs g1) (sn64 a g) q64_2 ρ γ := by
  intro ρ γ h
  obtain ⟨ha, hg, hr, hf, hm, hc, hl⟩ := h
  have ha : a = [ρ 0, ρ 1, ρ 2, ρ 3, ρ 4] := ha
  subst ha
  subst hg
  have r1 : (2 : Int) ≤ ρ 1 ∧ ρ 1 ≤ 2 := zRnA hr 1
  obtain ⟨w_0, w_1⟩ : (¬ (0 ≤ -ρ 1 + 1)) ∧ (0 ≤ -ρ 1 + 2) := ⟨by omega, by omega⟩
  have m0 : γ 0 77 0 (ρ 0) = ρ 1 := zAllA hm 0
  have l0 : sn58 [4 * ρ 0] (γ 0) 0 (ρ 5) (γ 1) := hS58 _ _ _ _ _ (zAllA hl 0)
  have l1 : sn58 [4 * ρ 0 + 1] (γ 1) 0 (ρ 6) (γ 2) := hS58 _ _ _ _ _ (zAllA hl 1)
  have l2 : sn55 [ρ 5] (γ 2) 0 0 (γ 3) := hS55 _ _ _ _ _ (zAllA hl 2)
  show sn64 [ρ 0, ρ 1, ρ 2, ρ 3, ρ 4] (γ 0) 0 0 (γ 3)
  have hD : dn64 [ρ 0] (γ 0) = .inr (0, 0, γ 3) := by
    unfold dn64
    refine zLV (ρ 0) rfl (zLE m0 (zIN w_0 (zIP w_1 (zLE (show fn58 [4 * ρ 0] (γ 0) = (0, ρ 5, γ 1) from l0.symm) (zLV (γ 1) rfl (zLV (ρ 5) rfl (zLE (show fn58 [4 * ρ 0 + 1] (γ 1) = (0, ρ 6, γ 2) from l1.symm) ?_)))))))
    refine zLV (γ 2) rfl (zLV (ρ 6) rfl (zLE (show fn55 [ρ 5] (γ 2) = (0, 0, γ 3) from l2.symm) (zLV (γ 3) rfl (zIN zQ0_ ?_))))
    rfl
  exact zGoo_end hD
theorem vn64_3 {S : Nat → zSpc} (hS55 : zIm S 55 sn55) (hS58 : zIm S 58 sn58) (hS60 : zIm S 60 sn60) {a : List Int} {g : rHp} : ∀ (ρ : Nat → Int) (γ : Nat → rHp), zO 5 S a g q64_3 ρ γ → zGl (fun i vs g1 => jn64 a g i vs g1) (sn64 a g) q64_3 ρ γ := by
  intro ρ γ h
  obtain ⟨ha, hg, hr, hf, hm, hc, hl⟩ := h
  have ha : a = [ρ 0, ρ 1, ρ 2, ρ 3, ρ 4] := ha
  subst ha
  subst hg
  have r1 : (2 : Int) ≤ ρ 1 ∧ ρ 1 ≤ 2 := zRnA hr 1
  obtain ⟨w_0, w_1⟩ : (¬ (0 ≤ -ρ 1 + 1)) ∧ (0 ≤ -ρ 1 + 2) := ⟨by omega, by omega⟩
  have m0 : γ 0 77 0 (ρ 0) = ρ 1 := zAllA hm 0
  have l0 : sn58 [4 * ρ 0] (γ 0) 0 (ρ 5) (γ 1) := hS58 _ _ _ _ _ (zAllA hl 0)
  have l1 : sn58 [4 * ρ 0 + 1] (γ 1) 0 (ρ 6) (γ 2) := hS58 _ _ _ _ _ (zAllA hl 1)
  have l2 : sn55 [ρ 5] (γ 2) 0 1 (γ 3) := hS55 _ _ _ _ _ (zAllA hl 2)
  have l3 : sn55 [ρ 6] (γ 3) 0 0 (γ 4) := hS55 _ _ _ _ _ (zAllA hl 3)
  show sn64 [ρ 0, ρ 1, ρ 2, ρ 3, ρ 4] (γ 0) 0 0 (γ 4)
  have hD : dn64 [ρ 0] (γ 0) = .inr (0, 0, γ 4) := by
    unfold dn64
    refine zLV (ρ 0) rfl (zLE m0 (zIN w_0 (zIP w_1 (zLE (show fn58 [4 * ρ 0] (γ 0) = (0, ρ 5, γ 1) from l0.symm) (zLV (γ 1) rfl (zLV (ρ 5) rfl (zLE (show fn58 [4 * ρ 0 + 1] (γ 1) = (0, ρ 6, γ 2) from l1.symm) ?_)))))))
    refine zLV (γ 2) rfl (zLV (ρ 6) rfl (zLE (show fn55 [ρ 5] (γ 2) = (0, 1, γ 3) from l2.symm) (zLV (γ 3) rfl (zIP zQ1_ (zLE (show fn55 [ρ 6] (γ 3) = (0, 0, γ 4) from l3.symm) (zLV (γ 4) rfl (zIN zQ0_ ?_)))))))
    rfl
  exact zGoo_end hD
theorem vn64_4 {S : Nat → zSpc} (hS55 : zIm S 55 sn55) (hS58 : zIm S 58 sn58) (hS60 : zIm S 60 sn60) {a : List Int} {g : rHp} : ∀ (ρ : Nat → Int) (γ : Nat → rHp), zO 5 S a g q64_4 ρ γ → zGl (fun i vs g1 => jn64 a g i vs g1) (sn64 a g) q64_4 ρ γ := by
  intro ρ γ h
  obtain ⟨ha, hg, hr, hf, hm, hc, hl⟩ := h
  have ha : a = [ρ 0, ρ 1, ρ 2, ρ 3, ρ 4] := ha
  subst ha
  subst hg
  have r1 : (2 : Int) ≤ ρ 1 ∧ ρ 1 ≤ 2 := zRnA hr 1
  have f0 : (0 : Int) ≤ -ρ 6 + ρ 5 := zAllA hf 0
  obtain ⟨w_0, w_1, w_2⟩ : (¬ (0 ≤ -ρ 1 + 1)) ∧ (0 ≤ -ρ 1 + 2) ∧ (ρ 5 ≥ ρ 6) := ⟨by omega, by omega, by omega⟩
  have m0 : γ 0 77 0 (ρ 0) = ρ 1 := zAllA hm 0
  have l0 : sn58 [4 * ρ 0] (γ 0) 0 (ρ 5) (γ 1) := hS58 _ _ _ _ _ (zAllA hl 0)
  have l1 : sn58 [4 * ρ 0 + 1] (γ 1) 0 (ρ 6) (γ 2) := hS58 _ _ _ _ _ (zAllA hl 1)
  have l2 : sn55 [ρ 5] (γ 2) 0 1 (γ 3) := hS55 _ _ _ _ _ (zAllA hl 2)
  have l3 : sn55 [ρ 6] (γ 3) 0 1 (γ 4) := hS55 _ _ _ _ _ (zAllA hl 3)
  show sn64 [ρ 0, ρ 1, ρ 2, ρ 3, ρ 4] (γ 0) 0 0 (γ 4)
  have hD : dn64 [ρ 0] (γ 0) = .inr (0, 0, γ 4) := by
    unfold dn64
    refine zLV (ρ 0) rfl (zLE m0 (zIN w_0 (zIP w_1 (zLE (show fn58 [4 * ρ 0] (γ 0) = (0, ρ 5, γ 1) from l0.symm) (zLV (γ 1) rfl (zLV (ρ 5) rfl (zLE (show fn58 [4 * ρ 0 + 1] (γ 1) = (0, ρ 6, γ 2) from l1.symm) ?_)))))))
    refine zLV (γ 2) rfl (zLV (ρ 6) rfl (zLE (show fn55 [ρ 5] (γ 2) = (0, 1, γ 3) from l2.symm) (zLV (γ 3) rfl (zIP zQ1_ (zLE (show fn55 [ρ 6] (γ 3) = (0, 1, γ 4) from l3.symm) (zLV (γ 4) rfl (zIP zQ1_ ?_)))))))
    refine zIP w_2 ?_
    rfl
  exact zGoo_end hD
theorem vn64_5 {S : Nat → zSpc} (hS55 : zIm S 55 sn55) (hS58 : zIm S 58 sn58) (hS60 : zIm S 60 sn60) {a : List Int} {g : rHp} : ∀ (ρ : Nat → Int) (γ : Nat → rHp), zO 5 S a g q64_5 ρ γ → zGl (fun i vs g1 => jn64 a g i vs g1) (sn64 a g) q64_5 ρ γ := by
  intro ρ γ h
  obtain ⟨ha, hg, hr, hf, hm, hc, hl⟩ := h
  have ha : a = [ρ 0, ρ 1, ρ 2, ρ 3, ρ 4] := ha
  subst ha
  subst hg
  have r1 : (2 : Int) ≤ ρ 1 ∧ ρ 1 ≤ 2 := zRnA hr 1
  have f0 : (0 : Int) ≤ ρ 6 + -ρ 5 + (-1) := zAllA hf 0
  obtain ⟨w_0, w_1, w_2⟩ : (¬ (0 ≤ -ρ 1 + 1)) ∧ (0 ≤ -ρ 1 + 2) ∧ (¬ (ρ 5 ≥ ρ 6)) := ⟨by omega, by omega, by omega⟩
  have m0 : γ 0 77 0 (ρ 0) = ρ 1 := zAllA hm 0
  have l0 : sn58 [4 * ρ 0] (γ 0) 0 (ρ 5) (γ 1) := hS58 _ _ _ _ _ (zAllA hl 0)
  have l1 : sn58 [4 * ρ 0 + 1] (γ 1) 0 (ρ 6) (γ 2) := hS58 _ _ _ _ _ (zAllA hl 1)
  have l2 : sn55 [ρ 5] (γ 2) 0 1 (γ 3) := hS55 _ _ _ _ _ (zAllA hl 2)
  have l3 : sn55 [ρ 6] (γ 3) 0 1 (γ 4) := hS55 _ _ _ _ _ (zAllA hl 3)
  show sn64 [ρ 0, ρ 1, ρ 2, ρ 3, ρ 4] (γ 0) 0 1 (γ 4)
  have hD : dn64 [ρ 0] (γ 0) = .inr (0, 1, γ 4) := by
    unfold dn64
    refine zLV (ρ 0) rfl (zLE m0 (zIN w_0 (zIP w_1 (zLE (show fn58 [4 * ρ 0] (γ 0) = (0, ρ 5, γ 1) from l0.symm) (zLV (γ 1) rfl (zLV (ρ 5) rfl (zLE (show fn58 [4 * ρ 0 + 1] (γ 1) = (0, ρ 6, γ 2) from l1.symm) ?_)))))))
    refine zLV (γ 2) rfl (zLV (ρ 6) rfl (zLE (show fn55 [ρ 5] (γ 2) = (0, 1, γ 3) from l2.symm) (zLV (γ 3) rfl (zIP zQ1_ (zLE (show fn55 [ρ 6] (γ 3) = (0, 1, γ 4) from l3.symm) (zLV (γ 4) rfl (zIP zQ1_ ?_)))))))
    refine zIN w_2 ?_
    rfl
  exact zGoo_end hD
theorem vn64_6 {S : Nat → zSpc} (hS55 : zIm S 55 sn55) (hS58 : zIm S 58 sn58) (hS60 : zIm S 60 sn60) {a : List Int} {g : rHp} : ∀ (ρ : Nat → Int) (γ : Nat → rHp), zO 5 S a g q64_6 ρ γ → zGl (fun i vs g1 => jn64 a g i vs g1) (sn64 a g) q64_6 ρ γ := by
  intro ρ γ h
  obtain ⟨ha, hg, hr, hf, hm, hc, hl⟩ := h
  have ha : a = [ρ 0, ρ 1, ρ 2, ρ 3, ρ 4] := ha
  subst ha
  subst hg
  have r1 : (3 : Int) ≤ ρ 1 ∧ ρ 1 ≤ 3 := zRnA hr 1
  have r5 : ((-2147483648) : Int) ≤ ρ 5 ∧ ρ 5 ≤ 1099511640064 := zRnA hr 5
  have r6 : ((-2147483648) : Int) ≤ ρ 6 ∧ ρ 6 ≤ 1099511640064 := zRnA hr 6
  obtain ⟨w_0, w_1, w_2⟩ : (¬ (0 ≤ -ρ 1 + 1)) ∧ (¬ (0 ≤ -ρ 1 + 2)) ∧ (0 ≤ -ρ 1 + 3) := ⟨by omega, by omega, by omega⟩
  have m0 : γ 0 77 0 (ρ 0) = ρ 1 := zAllA hm 0
  have l0 : sn58 [4 * ρ 0] (γ 0) 0 (ρ 5) (γ 1) := hS58 _ _ _ _ _ (zAllA hl 0)
  have l1 : sn58 [4 * ρ 0 + 1] (γ 1) 0 (ρ 6) (γ 2) := hS58 _ _ _ _ _ (zAllA hl 1)
  have l2 : ρ 5 ≠ ρ 6 := zAllA hl 2
  have wl_0 : ρ 5 ≠ ρ 6 := by omega
  show sn64 [ρ 0, ρ 1, ρ 2, ρ 3, ρ 4] (γ 0) 0 0 (γ 2)
  have hD : dn64 [ρ 0] (γ 0) = .inr (0, 0, γ 2) := by
    unfold dn64
    refine zLV (ρ 0) rfl (zLE m0 (zIN w_0 (zIN w_1 (zIP w_2 (zLE (show fn58 [4 * ρ 0] (γ 0) = (0, ρ 5, γ 1) from l0.symm) (zLV (γ 1) rfl (zLV (ρ 5) rfl ?_)))))))
    refine zLE (show fn58 [4 * ρ 0 + 1] (γ 1) = (0, ρ 6, γ 2) from l1.symm) (zLV (γ 2) rfl (zLV (ρ 6) rfl (zIP wl_0 ?_)))
    rfl
  exact zGoo_end hD
theorem vn64_7 {S : Nat → zSpc} (hS55 : zIm S 55 sn55) (hS58 : zIm S 58 sn58) (hS60 : zIm S 60 sn60) {a : List Int} {g : rHp} : ∀ (ρ : Nat → Int) (γ : Nat → rHp), zO 5 S a g q64_7 ρ γ → zGl (fun i vs g1 => jn64 a g i vs g1) (sn64 a g) q64_7 ρ γ := by
  intro ρ γ h
  obtain ⟨ha, hg, hr, hf, hm, hc, hl⟩ := h
  have ha : a = [ρ 0, ρ 1, ρ 2, ρ 3, ρ 4] := ha
  subst ha
  subst hg
  have r1 : (3 : Int) ≤ ρ 1 ∧ ρ 1 ≤ 3 := zRnA hr 1
  have f0 : (0 : Int) ≤ ρ 6 + -ρ 5 := zAllA hf 0
  have f1 : (0 : Int) ≤ -ρ 6 + ρ 5 := zAllA hf 1
  obtain ⟨w_0, w_1, w_2, w_3⟩ : (¬ (0 ≤ -ρ 1 + 1)) ∧ (¬ (0 ≤ -ρ 1 + 2)) ∧ (0 ≤ -ρ 1 + 3) ∧ (¬ (ρ 5 ≠ ρ 6)) := ⟨by omega, by omega, by omega, by omega⟩
  have m0 : γ 0 77 0 (ρ 0) = ρ 1 := zAllA hm 0
  have l0 : sn58 [4 * ρ 0] (γ 0) 0 (ρ 5) (γ 1) := hS58 _ _ _ _ _ (zAllA hl 0)
  have l1 : sn58 [4 * ρ 0 + 1] (γ 1) 0 (ρ 6) (γ 2) := hS58 _ _ _ _ _ (zAllA hl 1)
  show sn64 [ρ 0, ρ 1, ρ 2, ρ 3, ρ 4] (γ 0) 0 1 (γ 2)
  have hD : dn64 [ρ 0] (γ 0) = .inr (0, 1, γ 2) := by
    unfold dn64
    refine zLV (ρ 0) rfl (zLE m0 (zIN w_0 (zIN w_1 (zIP w_2 (zLE (show fn58 [4 * ρ 0] (γ 0) = (0, ρ 5, γ 1) from l0.symm) (zLV (γ 1) rfl (zLV (ρ 5) rfl ?_)))))))
    refine zLE (show fn58 [4 * ρ 0 + 1] (γ 1) = (0, ρ 6, γ 2) from l1.symm) (zLV (γ 2) rfl (zLV (ρ 6) rfl (zIN w_3 ?_)))
    rfl
  exact zGoo_end hD
theorem vn64_8 {S : Nat → zSpc} (hS55 : zIm S 55 sn55) (hS58 : zIm S 58 sn58) (hS60 : zIm S 60 sn60) {a : List Int} {g : rHp} : ∀ (ρ : Nat → Int) (γ : Nat → rHp), zO 5 S a g q64_8 ρ γ → zGl (fun i vs g1 => jn64 a g i vs g1) (sn64 a g) q64_8 ρ γ := by
  intro ρ γ h
  obtain ⟨ha, hg, hr, hf, hm, hc, hl⟩ := h
  have ha : a = [ρ 0, ρ 1, ρ 2, ρ 3, ρ 4] := ha
  subst ha
  subst hg
  have r1 : (4 : Int) ≤ ρ 1 ∧ ρ 1 ≤ 4 := zRnA hr 1
  have f0 : (0 : Int) ≤ ρ 6 + -ρ 5 := zAllA hf 0
  have f1 : (0 : Int) ≤ -ρ 6 + ρ 5 := zAllA hf 1
  obtain ⟨w_0, w_1, w_2, w_3⟩ : (¬ (0 ≤ -ρ 1 + 1)) ∧ (¬ (0 ≤ -ρ 1 + 2)) ∧ (¬ (0 ≤ -ρ 1 + 3)) ∧ (ρ 5 = ρ 6) := ⟨by omega, by omega, by omega, by omega⟩
  have m0 : γ 0 77 0 (ρ 0) = ρ 1 := zAllA hm 0
  have l0 : sn58 [4 * ρ 0] (γ 0) 0 (ρ 5) (γ 1) := hS58 _ _ _ _ _ (zAllA hl 0)
  have l1 : sn58 [4 * ρ 0 + 1] (γ 1) 0 (ρ 6) (γ 2) := hS58 _ _ _ _ _ (zAllA hl 1)
  show sn64 [ρ 0, ρ 1, ρ 2, ρ 3, ρ 4] (γ 0) 0 0 (γ 2)
  have hD : dn64 [ρ 0] (γ 0) = .inr (0, 0, γ 2) := by
    unfold dn64
    refine zLV (ρ 0) rfl (zLE m0 (zIN w_0 (zIN w_1 (zIN w_2 (zLE (show fn58 [4 * ρ 0] (γ 0) = (0, ρ 5, γ 1) from l0.symm) (zLV (γ 1) rfl (zLV (ρ 5) rfl ?_)))))))
    refine zLE (show fn58 [4 * ρ 0 + 1] (γ 1) = (0, ρ 6, γ 2) from l1.symm) (zLV (γ 2) rfl (zLV (ρ 6) rfl (zIP w_3 ?_)))
    rfl
  exact zGoo_end hD
theorem vn64_9 {S : Nat → zSpc} (hS55 : zIm S 55 sn55) (hS58 : zIm S 58 sn58) (hS60 : zIm S 60 sn60) {a : List Int} {g : rHp} : ∀ (ρ : Nat → Int) (γ : Nat → rHp), zO 5 S a g q64_9 ρ γ → zGl (fun i vs g1 => jn64 a g i vs g1) (sn64 a g) q64_9 ρ γ := by
  intro ρ γ h
  obtain ⟨ha, hg, hr, hf, hm, hc, hl⟩ := h
  have ha : a = [ρ 0, ρ 1, ρ 2, ρ 3, ρ 4] := ha
  subst ha
  subst hg
  have r1 : (4 : Int) ≤ ρ 1 ∧ ρ 1 ≤ 4 := zRnA hr 1
  have r5 : ((-2147483648) : Int) ≤ ρ 5 ∧ ρ 5 ≤ 1099511640064 := zRnA hr 5
  have r6 : ((-2147483648) : Int) ≤ ρ 6 ∧ ρ 6 ≤ 1099511640064 := zRnA hr 6
  obtain ⟨w_0, w_1, w_2⟩ : (¬ (0 ≤ -ρ 1 + 1)) ∧ (¬ (0 ≤ -ρ 1 + 2)) ∧ (¬ (0 ≤ -ρ 1 + 3)) := ⟨by omega, by omega, by omega⟩
  have m0 : γ 0 77 0 (ρ 0) = ρ 1 := zAllA hm 0
  have l0 : sn58 [4 * ρ 0] (γ 0) 0 (ρ 5) (γ 1) := hS58 _ _ _ _ _ (zAllA hl 0)
  have l1 : sn58 [4 * ρ 0 + 1] (γ 1) 0 (ρ 6) (γ 2) := hS58 _ _ _ _ _ (zAllA hl 1)
  have l2 : ρ 5 ≠ ρ 6 := zAllA hl 2
  have wl_0 : ¬ (ρ 5 = ρ 6) := by omega
  show sn64 [ρ 0, ρ 1, ρ 2, ρ 3, ρ 4] (γ 0) 0 1 (γ 2)
  have hD : dn64 [ρ 0] (γ 0) = .inr (0, 1, γ 2) := by
    unfold dn64
    refine zLV (ρ 0) rfl (zLE m0 (zIN w_0 (zIN w_1 (zIN w_2 (zLE (show fn58 [4 * ρ 0] (γ 0) = (0, ρ 5, γ 1) from l0.symm) (zLV (γ 1) rfl (zLV (ρ 5) rfl ?_)))))))
    refine zLE (show fn58 [4 * ρ 0 + 1] (γ 1) = (0, ρ 6, γ 2) from l1.symm) (zLV (γ 2) rfl (zLV (ρ 6) rfl (zIN wl_0 ?_)))
    rfl
  exact zGoo_end hD
theorem vn64a0_0 {S : Nat → zSpc} (hS55 : zIm S 55 sn55) (hS58 : zIm S 58 sn58) (hS60 : zIm S 60 sn60) {a : List Int} {g : rHp} : ∀ (ρ : Nat → Int) (γ : Nat → rHp), jn64 a g 0 (zAg (zNA a64_ 0) ρ) (γ 1) → zO 5 S a g q64a0_0 ρ γ → zGl (fun i vs g1 => jn64 a g i vs g1) (sn64 a g) q64a0_0 ρ γ := by
  intro ρ γ hJ h
  obtain ⟨ha, hg, hr, hf, hm, hc, hl⟩ := h
  have ha : a = [ρ 0, ρ 1, ρ 2, ρ 3, ρ 4] := ha
  subst ha
  subst hg
  have hJ : jn64 [ρ 0, ρ 1, ρ 2, ρ 3, ρ 4] (γ 0) 0 [ρ 0, ρ 1, ρ 2, ρ 3, ρ 4, ρ 5] (γ 1) := hJ
  have f0 : (0 : Int) ≤ ρ 5 + -ρ 3 := zAllA hf 0
  have w_0 : ρ 5 ≥ ρ 3 := by omega
  have m2 : γ 0 15 0 81 = ρ 3 := zAllA hm 2
  show sn64 [ρ 0, ρ 1, ρ 2, ρ 3, ρ 4] (γ 0) 0 1 (γ 1)
  have hD : en64 (γ 0) (0, [ρ 0, ρ 5], γ 1) = .inr (0, 1, γ 1) := by
    unfold en64
    refine zIP (show (0 : Nat) = 0 by decide) (zLV (γ 1) rfl (zLV (ρ 0) rfl (zLV (ρ 5) rfl (zLE m2 (zIP w_0 ?_)))))
    rfl
  exact zGoo_aend hJ hD
theorem vn64a0_1 {S : Nat → zSpc} (hS55 : zIm S 55 sn55) (hS58 : zIm S 58 sn58) (hS60 : zIm S 60 sn60) {a : List Int} {g : rHp} : ∀ (ρ : Nat → Int) (γ : Nat → rHp), jn64 a g 0 (zAg (zNA a64_ 0) ρ) (γ 1) → zO 5 S a g q64a0_1 ρ γ → zGl (fun i vs g1 => jn64 a g i vs g1) (sn64 a g) q64a0_1 ρ γ := by
  intro ρ γ hJ h
  obtain ⟨ha, hg, hr, hf, hm, hc, hl⟩ := h
  have ha : a = [ρ 0, ρ 1, ρ 2, ρ 3, ρ 4] := ha
  subst ha
  subst hg
  have hJ : jn64 [ρ 0, ρ 1, ρ 2, ρ 3, ρ 4] (γ 0) 0 [ρ 0, ρ 1, ρ 2, ρ 3, ρ 4, ρ 5] (γ 1) := hJ
  have r6 : ((-1) : Int) ≤ ρ 6 ∧ ρ 6 ≤ (-1) := zRnA hr 6
  have f0 : (0 : Int) ≤ -ρ 5 + ρ 3 + (-1) := zAllA hf 0
  obtain ⟨w_0, w_1⟩ : (¬ (ρ 5 ≥ ρ 3)) ∧ (0 ≤ -ρ 6 + (-1)) := ⟨by omega, by omega⟩
  have m2 : γ 0 15 0 81 = ρ 3 := zAllA hm 2
  have m4 : γ 0 96 0 (ρ 5) = ρ 6 := zAllA hm 4
  have l0 : sn60 [ρ 0, ρ 5] (γ 1) 0 0 (γ 2) := hS60 _ _ _ _ _ (zAllA hl 0)
  show sn64 [ρ 0, ρ 1, ρ 2, ρ 3, ρ 4] (γ 0) 0 1 (γ 2)
  have hD : en64 (γ 0) (0, [ρ 0, ρ 5], γ 1) = .inr (0, 1, γ 2) := by
    unfold en64
    refine zIP (show (0 : Nat) = 0 by decide) (zLV (γ 1) rfl (zLV (ρ 0) rfl (zLV (ρ 5) rfl (zLE m2 (zIN w_0 (zLE (show fn60 [ρ 0, ρ 5] (γ 1) = (0, 0, γ 2) from l0.symm) (zLV (γ 2) rfl ?_)))))))
    refine zIN zQ0_ (zLE m4 (zIP w_1 ?_))
    rfl
  exact zGoo_aend hJ hD
theorem vn64a0_2 {S : Nat → zSpc} (hS55 : zIm S 55 sn55) (hS58 : zIm S 58 sn58) (hS60 : zIm S 60 sn60) {a : List Int} {g : rHp} : ∀ (ρ : Nat → Int) (γ : Nat → rHp), jn64 a g 0 (zAg (zNA a64_ 0) ρ) (γ 1) → zO 5 S a g q64a0_2 ρ γ → zGl (fun i vs g1 => jn64 a g i vs g1) (sn64 a g) q64a0_2 ρ γ := by
  intro ρ γ hJ h
  obtain ⟨ha, hg, hr, hf, hm, hc, hl⟩ := h
  have ha : a = [ρ 0, ρ 1, ρ 2, ρ 3, ρ 4] := ha
  subst ha
  subst hg
  have hJ : jn64 [ρ 0, ρ 1, ρ 2, ρ 3, ρ 4] (γ 0) 0 [ρ 0, ρ 1, ρ 2, ρ 3, ρ 4, ρ 5] (γ 1) := hJ
  have r6 : (0 : Int) ≤ ρ 6 ∧ ρ 6 ≤ 1999 := zRnA hr 6
  have f1 : (0 : Int) ≤ -ρ 5 + ρ 3 + (-1) := zAllA hf 1
  obtain ⟨w_0, w_1⟩ : (¬ (ρ 5 ≥ ρ 3)) ∧ (¬ (0 ≤ -ρ 6 + (-1))) := ⟨by omega, by omega⟩
  have m2 : γ 0 15 0 81 = ρ 3 := zAllA hm 2
  have m4 : γ 0 96 0 (ρ 5) = ρ 6 := zAllA hm 4
  have l0 : sn60 [ρ 0, ρ 5] (γ 1) 0 0 (γ 2) := hS60 _ _ _ _ _ (zAllA hl 0)
  show jn64 [ρ 0, ρ 1, ρ 2, ρ 3, ρ 4] (γ 0) 0 [ρ 0, ρ 1, ρ 2, ρ 3, ρ 4, ρ 6] (γ 2)
  have hD : en64 (γ 0) (0, [ρ 0, ρ 5], γ 1) = .inl (0, [ρ 0, ρ 6], γ 2) := by
    unfold en64
    refine zIP (show (0 : Nat) = 0 by decide) (zLV (γ 1) rfl (zLV (ρ 0) rfl (zLV (ρ 5) rfl (zLE m2 (zIN w_0 (zLE (show fn60 [ρ 0, ρ 5] (γ 1) = (0, 0, γ 2) from l0.symm) (zLV (γ 2) rfl ?_)))))))
    refine zIN zQ0_ (zLE m4 (zIN w_1 ?_))
    rfl
  exact zGoo_ato hJ hD
theorem vn64a0_3 {S : Nat → zSpc} (hS55 : zIm S 55 sn55) (hS58 : zIm S 58 sn58) (hS60 : zIm S 60 sn60) {a : List Int} {g : rHp} : ∀ (ρ : Nat → Int) (γ : Nat → rHp), jn64 a g 0 (zAg (zNA a64_ 0) ρ) (γ 1) → zO 5 S a g q64a0_3 ρ γ → zGl (fun i vs g1 => jn64 a g i vs g1) (sn64 a g) q64a0_3 ρ γ := by
  intro ρ γ hJ h
  obtain ⟨ha, hg, hr, hf, hm, hc, hl⟩ := h
  have ha : a = [ρ 0, ρ 1, ρ 2, ρ 3, ρ 4] := ha
  subst ha
  subst hg
  have hJ : jn64 [ρ 0, ρ 1, ρ 2, ρ 3, ρ 4] (γ 0) 0 [ρ 0, ρ 1, ρ 2, ρ 3, ρ 4, ρ 5] (γ 1) := hJ
  have f0 : (0 : Int) ≤ -ρ 5 + ρ 3 + (-1) := zAllA hf 0
  have w_0 : ¬ (ρ 5 ≥ ρ 3) := by omega
  have m2 : γ 0 15 0 81 = ρ 3 := zAllA hm 2
  have l0 : sn60 [ρ 0, ρ 5] (γ 1) 0 1 (γ 2) := hS60 _ _ _ _ _ (zAllA hl 0)
  show sn64 [ρ 0, ρ 1, ρ 2, ρ 3, ρ 4] (γ 0) 0 0 (γ 2)
  have hD : en64 (γ 0) (0, [ρ 0, ρ 5], γ 1) = .inr (0, 0, γ 2) := by
    unfold en64
    refine zIP (show (0 : Nat) = 0 by decide) (zLV (γ 1) rfl (zLV (ρ 0) rfl (zLV (ρ 5) rfl (zLE m2 (zIN w_0 (zLE (show fn60 [ρ 0, ρ 5] (γ 1) = (0, 1, γ 2) from l0.symm) (zLV (γ 2) rfl ?_)))))))
    refine zIP zQ1_ ?_
    rfl
  exact zGoo_aend hJ hD
theorem yn64 {S : Nat → zSpc} (hS55 : zIm S 55 sn55) (hS58 : zIm S 58 sn58) (hS60 : zIm S 60 sn60) : ∀ x g o v gz, zSem uW uT w64_.2.2.2.1 w64_.2.2.1.1.length S q64 (fun i => q64a.getD i []) (zNA a64_) x g o v gz → sn64 x g o v gz := by
  intro a g o v gz h
  exact zSem_all (l0 := q64) (las := q64a) (S := S) (J := (fun i vs g1 => jn64 a g i vs g1)) (P := sn64 a g) (fun _ => (show zAll _ [q64_0, q64_1, q64_2, q64_3, q64_4, q64_5, q64_6, q64_7, q64_8, q64_9] from (zAll_c (vn64_0 hS55 hS58 hS60) (zAll_c (vn64_1 hS55 hS58 hS60) (zAll_c (vn64_2 hS55 hS58 hS60) (zAll_c (vn64_3 hS55 hS58 hS60) (zAll_c (vn64_4 hS55 hS58 hS60) (zAll_c (vn64_5 hS55 hS58 hS60) (zAll_c (vn64_6 hS55 hS58 hS60) (zAll_c (vn64_7 hS55 hS58 hS60) (zAll_c (vn64_8 hS55 hS58 hS60) (zAll_c (vn64_9 hS55 hS58 hS60) zAll_n)))))))))))) (fun _ => (show zAllI _ 0 [q64a0] from ⟨(show zAll _ [q64a0_0, q64a0_1, q64a0_2, q64a0_3] from (zAll_c (vn64a0_0 hS55 hS58 hS60) (zAll_c (vn64a0_1 hS55 hS58 hS60) (zAll_c (vn64a0_2 hS55 hS58 hS60) (zAll_c (vn64a0_3 hS55 hS58 hS60) zAll_n))))), trivial⟩)) h
theorem vn65_0 {S : Nat → zSpc} (hS55 : zIm S 55 sn55) (hS58 : zIm S 58 sn58) {a : List Int} {g : rHp} : ∀ (ρ : Nat → Int) (γ : Nat → rHp), zO 5 S a g q65_0 ρ γ → zGl (fun _ _ _ => True) (sn65 a g) q65_0 ρ γ := by
  intro ρ γ h
  obtain ⟨ha, hg, hr, hf, hm, hc, hl⟩ := h
  have ha : a = [ρ 0, ρ 1, ρ 2, ρ 3, ρ 4] := ha
  subst ha
  subst hg
  have m0 : γ 0 77 0 (ρ 0) = ρ 1 := zAllA hm 0
  have m1 : γ 0 81 0 (4 * ρ 0) = ρ 2 := zAllA hm 1
  have l0 : sn58 [4 * ρ 0] (γ 0) 0 (ρ 5) (γ 1) := hS58 _ _ _ _ _ (zAllA hl 0)
  have l1 : sn58 [4 * ρ 0 + 1] (γ 1) 0 (ρ 6) (γ 2) := hS58 _ _ _ _ _ (zAllA hl 1)
  have l2 : sn58 [4 * ρ 0 + 2] (γ 2) 0 (ρ 7) (γ 3) := hS58 _ _ _ _ _ (zAllA hl 2)
  have l3 : sn55 [ρ 6] (γ 3) 0 0 (γ 4) := hS55 _ _ _ _ _ (zAllA hl 3)
  show sn65 [ρ 0, ρ 1, ρ 2, ρ 3, ρ 4] (γ 0) 0 0 (γ 4)
  refine Eq.symm ?_
  show fn65 [ρ 0] (γ 0) = _
  unfold fn65
  refine zLV (ρ 0) rfl (zLE m0 (zLE m1 (zLE (show fn58 [4 * ρ 0] (γ 0) = (0, ρ 5, γ 1) from l0.symm) (zLV (γ 1) rfl (zLE (show fn58 [4 * ρ 0 + 1] (γ 1) = (0, ρ 6, γ 2) from l1.symm) (zLV (γ 2) rfl (zLV (ρ 6) rfl ?_)))))))
  refine zLE (show fn58 [4 * ρ 0 + 2] (γ 2) = (0, ρ 7, γ 3) from l2.symm) (zLV (γ 3) rfl (zLV (ρ 7) rfl (zLE (show fn55 [ρ 6] (γ 3) = (0, 0, γ 4) from l3.symm) (zLV (γ 4) rfl (zIN zQ0_ ?_)))))
  rfl
theorem vn65_1 {S : Nat → zSpc} (hS55 : zIm S 55 sn55) (hS58 : zIm S 58 sn58) {a : List Int} {g : rHp} : ∀ (ρ : Nat → Int) (γ : Nat → rHp), zO 5 S a g q65_1 ρ γ → zGl (fun _ _ _ => True) (sn65 a g) q65_1 ρ γ := by
  intro ρ γ h
  obtain ⟨ha, hg, hr, hf, hm, hc, hl⟩ := h
  have ha : a = [ρ 0, ρ 1, ρ 2, ρ 3, ρ 4] := ha
  subst ha
  subst hg
  have m0 : γ 0 77 0 (ρ 0) = ρ 1 := zAllA hm 0
  have m1 : γ 0 81 0 (4 * ρ 0) = ρ 2 := zAllA hm 1
  have l0 : sn58 [4 * ρ 0] (γ 0) 0 (ρ 5) (γ 1) := hS58 _ _ _ _ _ (zAllA hl 0)
  have l1 : sn58 [4 * ρ 0 + 1] (γ 1) 0 (ρ 6) (γ 2) := hS58 _ _ _ _ _ (zAllA hl 1)
  have l2 : sn58 [4 * ρ 0 + 2] (γ 2) 0 (ρ 7) (γ 3) := hS58 _ _ _ _ _ (zAllA hl 2)
  have l3 : sn55 [ρ 6] (γ 3) 0 1 (γ 4) := hS55 _ _ _ _ _ (zAllA hl 3)
  have l4 : sn55 [ρ 7] (γ 4) 0 0 (γ 5) := hS55 _ _ _ _ _ (zAllA hl 4)
  show sn65 [ρ 0, ρ 1, ρ 2, ρ 3, ρ 4] (γ 0) 0 0 (γ 5)
  refine Eq.symm ?_
  show fn65 [ρ 0] (γ 0) = _
  unfold fn65
  refine zLV (ρ 0) rfl (zLE m0 (zLE m1 (zLE (show fn58 [4 * ρ 0] (γ 0) = (0, ρ 5, γ 1) from l0.symm) (zLV (γ 1) rfl (zLE (show fn58 [4 * ρ 0 + 1] (γ 1) = (0, ρ 6, γ 2) from l1.symm) (zLV (γ 2) rfl (zLV (ρ 6) rfl ?_)))))))
  refine zLE (show fn58 [4 * ρ 0 + 2] (γ 2) = (0, ρ 7, γ 3) from l2.symm) (zLV (γ 3) rfl (zLV (ρ 7) rfl (zLE (show fn55 [ρ 6] (γ 3) = (0, 1, γ 4) from l3.symm) (zLV (γ 4) rfl (zIP zQ1_ (zLE (show fn55 [ρ 7] (γ 4) = (0, 0, γ 5) from l4.symm) (zLV (γ 5) rfl ?_)))))))
  refine zIN zQ0_ ?_
  rfl
theorem vn65_2 {S : Nat → zSpc} (hS55 : zIm S 55 sn55) (hS58 : zIm S 58 sn58) {a : List Int} {g : rHp} : ∀ (ρ : Nat → Int) (γ : Nat → rHp), zO 5 S a g q65_2 ρ γ → zGl (fun _ _ _ => True) (sn65 a g) q65_2 ρ γ := by
  intro ρ γ h
  obtain ⟨ha, hg, hr, hf, hm, hc, hl⟩ := h
  have ha : a = [ρ 0, ρ 1, ρ 2, ρ 3, ρ 4] := ha
  subst ha
  subst hg
  have r1 : (7 : Int) ≤ ρ 1 ∧ ρ 1 ≤ 7 := zRnA hr 1
  have r8 : ((-9223372036854775808) : Int) ≤ ρ 8 ∧ ρ 8 ≤ (-100000001) := zRnA hr 8
  obtain ⟨w_0, w_1, w_2⟩ : (ρ 1 ≠ 5) ∧ (ρ 1 ≠ 6) ∧ (ρ 8 < (-100000000)) := ⟨by omega, by omega, by omega⟩
  have m0 : γ 0 77 0 (ρ 0) = ρ 1 := zAllA hm 0
  have m1 : γ 0 81 0 (4 * ρ 0) = ρ 2 := zAllA hm 1
  have l0 : sn58 [4 * ρ 0] (γ 0) 0 (ρ 5) (γ 1) := hS58 _ _ _ _ _ (zAllA hl 0)
  have l1 : sn58 [4 * ρ 0 + 1] (γ 1) 0 (ρ 6) (γ 2) := hS58 _ _ _ _ _ (zAllA hl 1)
  have l2 : sn58 [4 * ρ 0 + 2] (γ 2) 0 (ρ 7) (γ 3) := hS58 _ _ _ _ _ (zAllA hl 2)
  have l3 : sn55 [ρ 6] (γ 3) 0 1 (γ 4) := hS55 _ _ _ _ _ (zAllA hl 3)
  have l4 : sn55 [ρ 7] (γ 4) 0 1 (γ 5) := hS55 _ _ _ _ _ (zAllA hl 4)
  have l5 : zOpP (.lmul) (γ 0) (γ 1) [ρ 6, ρ 7] (ρ 8) := zAllA hl 5
  show sn65 [ρ 0, ρ 1, ρ 2, ρ 3, ρ 4] (γ 0) 0 0 (γ 5)
  refine Eq.symm ?_
  show fn65 [ρ 0] (γ 0) = _
  unfold fn65
  refine zLV (ρ 0) rfl (zLE m0 (zLE m1 (zLE (show fn58 [4 * ρ 0] (γ 0) = (0, ρ 5, γ 1) from l0.symm) (zLV (γ 1) rfl (zLE (show fn58 [4 * ρ 0 + 1] (γ 1) = (0, ρ 6, γ 2) from l1.symm) (zLV (γ 2) rfl (zLV (ρ 6) rfl ?_)))))))
  refine zLE (show fn58 [4 * ρ 0 + 2] (γ 2) = (0, ρ 7, γ 3) from l2.symm) (zLV (γ 3) rfl (zLV (ρ 7) rfl (zLE (show fn55 [ρ 6] (γ 3) = (0, 1, γ 4) from l3.symm) (zLV (γ 4) rfl (zIP zQ1_ (zLE (show fn55 [ρ 7] (γ 4) = (0, 1, γ 5) from l4.symm) (zLV (γ 5) rfl ?_)))))))
  refine zIP zQ1_ (zIP w_0 (zIP w_1 (zLE (zF2_ok l5) (zIP w_2 ?_))))
  rfl
theorem vn65_3 {S : Nat → zSpc} (hS55 : zIm S 55 sn55) (hS58 : zIm S 58 sn58) {a : List Int} {g : rHp} : ∀ (ρ : Nat → Int) (γ : Nat → rHp), zO 5 S a g q65_3 ρ γ → zGl (fun _ _ _ => True) (sn65 a g) q65_3 ρ γ := by
  intro ρ γ h
  obtain ⟨ha, hg, hr, hf, hm, hc, hl⟩ := h
  have ha : a = [ρ 0, ρ 1, ρ 2, ρ 3, ρ 4] := ha
  subst ha
  subst hg
  have r1 : (7 : Int) ≤ ρ 1 ∧ ρ 1 ≤ 7 := zRnA hr 1
  have r8 : ((-100000000) : Int) ≤ ρ 8 ∧ ρ 8 ≤ 100000000 := zRnA hr 8
  obtain ⟨w_0, w_1, w_2, w_3⟩ : (ρ 1 ≠ 5) ∧ (ρ 1 ≠ 6) ∧ (¬ (ρ 8 < (-100000000))) ∧ (ρ 8 ≤ 100000000) := ⟨by omega, by omega, by omega, by omega⟩
  have m0 : γ 0 77 0 (ρ 0) = ρ 1 := zAllA hm 0
  have m1 : γ 0 81 0 (4 * ρ 0) = ρ 2 := zAllA hm 1
  have c6 : γ 6 = rUp (γ 5) 103 0 (ρ 2) (ρ 8) := And.right (zChA hc 0)
  have l0 : sn58 [4 * ρ 0] (γ 0) 0 (ρ 5) (γ 1) := hS58 _ _ _ _ _ (zAllA hl 0)
  have l1 : sn58 [4 * ρ 0 + 1] (γ 1) 0 (ρ 6) (γ 2) := hS58 _ _ _ _ _ (zAllA hl 1)
  have l2 : sn58 [4 * ρ 0 + 2] (γ 2) 0 (ρ 7) (γ 3) := hS58 _ _ _ _ _ (zAllA hl 2)
  have l3 : sn55 [ρ 6] (γ 3) 0 1 (γ 4) := hS55 _ _ _ _ _ (zAllA hl 3)
  have l4 : sn55 [ρ 7] (γ 4) 0 1 (γ 5) := hS55 _ _ _ _ _ (zAllA hl 4)
  have l5 : zOpP (.lmul) (γ 0) (γ 1) [ρ 6, ρ 7] (ρ 8) := zAllA hl 5
  show sn65 [ρ 0, ρ 1, ρ 2, ρ 3, ρ 4] (γ 0) 0 1 (γ 6)
  refine Eq.symm ?_
  show fn65 [ρ 0] (γ 0) = _
  unfold fn65
  refine zLV (ρ 0) rfl (zLE m0 (zLE m1 (zLE (show fn58 [4 * ρ 0] (γ 0) = (0, ρ 5, γ 1) from l0.symm) (zLV (γ 1) rfl (zLE (show fn58 [4 * ρ 0 + 1] (γ 1) = (0, ρ 6, γ 2) from l1.symm) (zLV (γ 2) rfl (zLV (ρ 6) rfl ?_)))))))
  refine zLE (show fn58 [4 * ρ 0 + 2] (γ 2) = (0, ρ 7, γ 3) from l2.symm) (zLV (γ 3) rfl (zLV (ρ 7) rfl (zLE (show fn55 [ρ 6] (γ 3) = (0, 1, γ 4) from l3.symm) (zLV (γ 4) rfl (zIP zQ1_ (zLE (show fn55 [ρ 7] (γ 4) = (0, 1, γ 5) from l4.symm) (zLV (γ 5) rfl ?_)))))))
  refine zIP zQ1_ (zIP w_0 (zIP w_1 (zLE (zF2_ok l5) (zIN w_2 (zIP w_3 (zLE c6.symm ?_))))))
  rfl
theorem vn65_4 {S : Nat → zSpc} (hS55 : zIm S 55 sn55) (hS58 : zIm S 58 sn58) {a : List Int} {g : rHp} : ∀ (ρ : Nat → Int) (γ : Nat → rHp), zO 5 S a g q65_4 ρ γ → zGl (fun _ _ _ => True) (sn65 a g) q65_4 ρ γ := by
  intro ρ γ h
  obtain ⟨ha, hg, hr, hf, hm, hc, hl⟩ := h
  have ha : a = [ρ 0, ρ 1, ρ 2, ρ 3, ρ 4] := ha
  subst ha
  subst hg
  have r1 : (7 : Int) ≤ ρ 1 ∧ ρ 1 ≤ 7 := zRnA hr 1
  have r8 : (100000001 : Int) ≤ ρ 8 ∧ ρ 8 ≤ 9223372036854775807 := zRnA hr 8
  obtain ⟨w_0, w_1, w_2, w_3⟩ : (ρ 1 ≠ 5) ∧ (ρ 1 ≠ 6) ∧ (¬ (ρ 8 < (-100000000))) ∧ (¬ (ρ 8 ≤ 100000000)) := ⟨by omega, by omega, by omega, by omega⟩
  have m0 : γ 0 77 0 (ρ 0) = ρ 1 := zAllA hm 0
  have m1 : γ 0 81 0 (4 * ρ 0) = ρ 2 := zAllA hm 1
  have l0 : sn58 [4 * ρ 0] (γ 0) 0 (ρ 5) (γ 1) := hS58 _ _ _ _ _ (zAllA hl 0)
  have l1 : sn58 [4 * ρ 0 + 1] (γ 1) 0 (ρ 6) (γ 2) := hS58 _ _ _ _ _ (zAllA hl 1)
  have l2 : sn58 [4 * ρ 0 + 2] (γ 2) 0 (ρ 7) (γ 3) := hS58 _ _ _ _ _ (zAllA hl 2)
  have l3 : sn55 [ρ 6] (γ 3) 0 1 (γ 4) := hS55 _ _ _ _ _ (zAllA hl 3)
  have l4 : sn55 [ρ 7] (γ 4) 0 1 (γ 5) := hS55 _ _ _ _ _ (zAllA hl 4)
  have l5 : zOpP (.lmul) (γ 0) (γ 1) [ρ 6, ρ 7] (ρ 8) := zAllA hl 5
  show sn65 [ρ 0, ρ 1, ρ 2, ρ 3, ρ 4] (γ 0) 0 0 (γ 5)
  refine Eq.symm ?_
  show fn65 [ρ 0] (γ 0) = _
  unfold fn65
  refine zLV (ρ 0) rfl (zLE m0 (zLE m1 (zLE (show fn58 [4 * ρ 0] (γ 0) = (0, ρ 5, γ 1) from l0.symm) (zLV (γ 1) rfl (zLE (show fn58 [4 * ρ 0 + 1] (γ 1) = (0, ρ 6, γ 2) from l1.symm) (zLV (γ 2) rfl (zLV (ρ 6) rfl ?_)))))))
  refine zLE (show fn58 [4 * ρ 0 + 2] (γ 2) = (0, ρ 7, γ 3) from l2.symm) (zLV (γ 3) rfl (zLV (ρ 7) rfl (zLE (show fn55 [ρ 6] (γ 3) = (0, 1, γ 4) from l3.symm) (zLV (γ 4) rfl (zIP zQ1_ (zLE (show fn55 [ρ 7] (γ 4) = (0, 1, γ 5) from l4.symm) (zLV (γ 5) rfl ?_)))))))
  refine zIP zQ1_ (zIP w_0 (zIP w_1 (zLE (zF2_ok l5) (zIN w_2 (zIN w_3 ?_)))))
  rfl
theorem vn65_5 {S : Nat → zSpc} (hS55 : zIm S 55 sn55) (hS58 : zIm S 58 sn58) {a : List Int} {g : rHp} : ∀ (ρ : Nat → Int) (γ : Nat → rHp), zO 5 S a g q65_5 ρ γ → zGl (fun _ _ _ => True) (sn65 a g) q65_5 ρ γ := by
  intro ρ γ h
  obtain ⟨ha, hg, hr, hf, hm, hc, hl⟩ := h
  have ha : a = [ρ 0, ρ 1, ρ 2, ρ 3, ρ 4] := ha
  subst ha
  subst hg
  have r1 : (6 : Int) ≤ ρ 1 ∧ ρ 1 ≤ 6 := zRnA hr 1
  have f0 : (0 : Int) ≤ ρ 7 + -ρ 6 + (-100000001) := zAllA hf 0
  obtain ⟨w_0, w_1, w_2⟩ : (ρ 1 ≠ 5) ∧ (¬ (ρ 1 ≠ 6)) ∧ (-ρ 7 + ρ 6 < (-100000000)) := ⟨by omega, by omega, by omega⟩
  have m0 : γ 0 77 0 (ρ 0) = ρ 1 := zAllA hm 0
  have m1 : γ 0 81 0 (4 * ρ 0) = ρ 2 := zAllA hm 1
  have l0 : sn58 [4 * ρ 0] (γ 0) 0 (ρ 5) (γ 1) := hS58 _ _ _ _ _ (zAllA hl 0)
  have l1 : sn58 [4 * ρ 0 + 1] (γ 1) 0 (ρ 6) (γ 2) := hS58 _ _ _ _ _ (zAllA hl 1)
  have l2 : sn58 [4 * ρ 0 + 2] (γ 2) 0 (ρ 7) (γ 3) := hS58 _ _ _ _ _ (zAllA hl 2)
  have l3 : sn55 [ρ 6] (γ 3) 0 1 (γ 4) := hS55 _ _ _ _ _ (zAllA hl 3)
  have l4 : sn55 [ρ 7] (γ 4) 0 1 (γ 5) := hS55 _ _ _ _ _ (zAllA hl 4)
  show sn65 [ρ 0, ρ 1, ρ 2, ρ 3, ρ 4] (γ 0) 0 0 (γ 5)
  refine Eq.symm ?_
  show fn65 [ρ 0] (γ 0) = _
  unfold fn65
  refine zLV (ρ 0) rfl (zLE m0 (zLE m1 (zLE (show fn58 [4 * ρ 0] (γ 0) = (0, ρ 5, γ 1) from l0.symm) (zLV (γ 1) rfl (zLE (show fn58 [4 * ρ 0 + 1] (γ 1) = (0, ρ 6, γ 2) from l1.symm) (zLV (γ 2) rfl (zLV (ρ 6) rfl ?_)))))))
  refine zLE (show fn58 [4 * ρ 0 + 2] (γ 2) = (0, ρ 7, γ 3) from l2.symm) (zLV (γ 3) rfl (zLV (ρ 7) rfl (zLE (show fn55 [ρ 6] (γ 3) = (0, 1, γ 4) from l3.symm) (zLV (γ 4) rfl (zIP zQ1_ (zLE (show fn55 [ρ 7] (γ 4) = (0, 1, γ 5) from l4.symm) (zLV (γ 5) rfl ?_)))))))
  refine zIP zQ1_ (zIP w_0 (zIN w_1 (zIP w_2 ?_)))
  rfl
theorem vn65_6 {S : Nat → zSpc} (hS55 : zIm S 55 sn55) (hS58 : zIm S 58 sn58) {a : List Int} {g : rHp} : ∀ (ρ : Nat → Int) (γ : Nat → rHp), zO 5 S a g q65_6 ρ γ → zGl (fun _ _ _ => True) (sn65 a g) q65_6 ρ γ := by
  intro ρ γ h
  obtain ⟨ha, hg, hr, hf, hm, hc, hl⟩ := h
  have ha : a = [ρ 0, ρ 1, ρ 2, ρ 3, ρ 4] := ha
  subst ha
  subst hg
  have r1 : (6 : Int) ≤ ρ 1 ∧ ρ 1 ≤ 6 := zRnA hr 1
  have f0 : (0 : Int) ≤ ρ 7 + -ρ 6 + 100000000 := zAllA hf 0
  have f1 : (0 : Int) ≤ -ρ 7 + ρ 6 + 100000000 := zAllA hf 1
  obtain ⟨w_0, w_1, w_2, w_3⟩ : (ρ 1 ≠ 5) ∧ (¬ (ρ 1 ≠ 6)) ∧ (¬ (-ρ 7 + ρ 6 < (-100000000))) ∧ (-ρ 7 + ρ 6 ≤ 100000000) := ⟨by omega, by omega, by omega, by omega⟩
  have m0 : γ 0 77 0 (ρ 0) = ρ 1 := zAllA hm 0
  have m1 : γ 0 81 0 (4 * ρ 0) = ρ 2 := zAllA hm 1
  have c6 : γ 6 = rUp (γ 5) 103 0 (ρ 2) (-ρ 7 + ρ 6) := And.right (zChA hc 0)
  have l0 : sn58 [4 * ρ 0] (γ 0) 0 (ρ 5) (γ 1) := hS58 _ _ _ _ _ (zAllA hl 0)
  have l1 : sn58 [4 * ρ 0 + 1] (γ 1) 0 (ρ 6) (γ 2) := hS58 _ _ _ _ _ (zAllA hl 1)
  have l2 : sn58 [4 * ρ 0 + 2] (γ 2) 0 (ρ 7) (γ 3) := hS58 _ _ _ _ _ (zAllA hl 2)
  have l3 : sn55 [ρ 6] (γ 3) 0 1 (γ 4) := hS55 _ _ _ _ _ (zAllA hl 3)
  have l4 : sn55 [ρ 7] (γ 4) 0 1 (γ 5) := hS55 _ _ _ _ _ (zAllA hl 4)
  show sn65 [ρ 0, ρ 1, ρ 2, ρ 3, ρ 4] (γ 0) 0 1 (γ 6)
  refine Eq.symm ?_
  show fn65 [ρ 0] (γ 0) = _
  unfold fn65
  refine zLV (ρ 0) rfl (zLE m0 (zLE m1 (zLE (show fn58 [4 * ρ 0] (γ 0) = (0, ρ 5, γ 1) from l0.symm) (zLV (γ 1) rfl (zLE (show fn58 [4 * ρ 0 + 1] (γ 1) = (0, ρ 6, γ 2) from l1.symm) (zLV (γ 2) rfl (zLV (ρ 6) rfl ?_)))))))
  refine zLE (show fn58 [4 * ρ 0 + 2] (γ 2) = (0, ρ 7, γ 3) from l2.symm) (zLV (γ 3) rfl (zLV (ρ 7) rfl (zLE (show fn55 [ρ 6] (γ 3) = (0, 1, γ 4) from l3.symm) (zLV (γ 4) rfl (zIP zQ1_ (zLE (show fn55 [ρ 7] (γ 4) = (0, 1, γ 5) from l4.symm) (zLV (γ 5) rfl ?_)))))))
  refine zIP zQ1_ (zIP w_0 (zIN w_1 (zIN w_2 (zIP w_3 (zLE c6.symm ?_)))))
  rfl
theorem vn65_7 {S : Nat → zSpc} (hS55 : zIm S 55 sn55) (hS58 : zIm S 58 sn58) {a : List Int} {g : rHp} : ∀ (ρ : Nat → Int) (γ : Nat → rHp), zO 5 S a g q65_7 ρ γ → zGl (fun _ _ _ => True) (sn65 a g) q65_7 ρ γ := by
  intro ρ γ h
  obtain ⟨ha, hg, hr, hf, hm, hc, hl⟩ := h
  have ha : a = [ρ 0, ρ 1, ρ 2, ρ 3, ρ 4] := ha
  subst ha
  subst hg
  have r1 : (6 : Int) ≤ ρ 1 ∧ ρ 1 ≤ 6 := zRnA hr 1
  have f0 : (0 : Int) ≤ -ρ 7 + ρ 6 + (-100000001) := zAllA hf 0
  obtain ⟨w_0, w_1, w_2, w_3⟩ : (ρ 1 ≠ 5) ∧ (¬ (ρ 1 ≠ 6)) ∧ (¬ (-ρ 7 + ρ 6 < (-100000000))) ∧ (¬ (-ρ 7 + ρ 6 ≤ 100000000)) := ⟨by omega, by omega, by omega, by omega⟩
  have m0 : γ 0 77 0 (ρ 0) = ρ 1 := zAllA hm 0
  have m1 : γ 0 81 0 (4 * ρ 0) = ρ 2 := zAllA hm 1
  have l0 : sn58 [4 * ρ 0] (γ 0) 0 (ρ 5) (γ 1) := hS58 _ _ _ _ _ (zAllA hl 0)
  have l1 : sn58 [4 * ρ 0 + 1] (γ 1) 0 (ρ 6) (γ 2) := hS58 _ _ _ _ _ (zAllA hl 1)
  have l2 : sn58 [4 * ρ 0 + 2] (γ 2) 0 (ρ 7) (γ 3) := hS58 _ _ _ _ _ (zAllA hl 2)
  have l3 : sn55 [ρ 6] (γ 3) 0 1 (γ 4) := hS55 _ _ _ _ _ (zAllA hl 3)
  have l4 : sn55 [ρ 7] (γ 4) 0 1 (γ 5) := hS55 _ _ _ _ _ (zAllA hl 4)
  show sn65 [ρ 0, ρ 1, ρ 2, ρ 3, ρ 4] (γ 0) 0 0 (γ 5)
  refine Eq.symm ?_
  show fn65 [ρ 0] (γ 0) = _
  unfold fn65
  refine zLV (ρ 0) rfl (zLE m0 (zLE m1 (zLE (show fn58 [4 * ρ 0] (γ 0) = (0, ρ 5, γ 1) from l0.symm) (zLV (γ 1) rfl (zLE (show fn58 [4 * ρ 0 + 1] (γ 1) = (0, ρ 6, γ 2) from l1.symm) (zLV (γ 2) rfl (zLV (ρ 6) rfl ?_)))))))
  refine zLE (show fn58 [4 * ρ 0 + 2] (γ 2) = (0, ρ 7, γ 3) from l2.symm) (zLV (γ 3) rfl (zLV (ρ 7) rfl (zLE (show fn55 [ρ 6] (γ 3) = (0, 1, γ 4) from l3.symm) (zLV (γ 4) rfl (zIP zQ1_ (zLE (show fn55 [ρ 7] (γ 4) = (0, 1, γ 5) from l4.symm) (zLV (γ 5) rfl ?_)))))))
  refine zIP zQ1_ (zIP w_0 (zIN w_1 (zIN w_2 (zIN w_3 ?_))))
  rfl
theorem vn65_8 {S : Nat → zSpc} (hS55 : zIm S 55 sn55) (hS58 : zIm S 58 sn58) {a : List Int} {g : rHp} : ∀ (ρ : Nat → Int) (γ : Nat → rHp), zO 5 S a g q65_8 ρ γ → zGl (fun _ _ _ => True) (sn65 a g) q65_8 ρ γ := by
  intro ρ γ h
  obtain ⟨ha, hg, hr, hf, hm, hc, hl⟩ := h
  have ha : a = [ρ 0, ρ 1, ρ 2, ρ 3, ρ 4] := ha
  subst ha
  subst hg
  have r1 : (5 : Int) ≤ ρ 1 ∧ ρ 1 ≤ 5 := zRnA hr 1
  have f0 : (0 : Int) ≤ -ρ 7 + -ρ 6 + (-100000001) := zAllA hf 0
  obtain ⟨w_0, w_1⟩ : (¬ (ρ 1 ≠ 5)) ∧ (ρ 7 + ρ 6 < (-100000000)) := ⟨by omega, by omega⟩
  have m0 : γ 0 77 0 (ρ 0) = ρ 1 := zAllA hm 0
  have m1 : γ 0 81 0 (4 * ρ 0) = ρ 2 := zAllA hm 1
  have l0 : sn58 [4 * ρ 0] (γ 0) 0 (ρ 5) (γ 1) := hS58 _ _ _ _ _ (zAllA hl 0)
  have l1 : sn58 [4 * ρ 0 + 1] (γ 1) 0 (ρ 6) (γ 2) := hS58 _ _ _ _ _ (zAllA hl 1)
  have l2 : sn58 [4 * ρ 0 + 2] (γ 2) 0 (ρ 7) (γ 3) := hS58 _ _ _ _ _ (zAllA hl 2)
  have l3 : sn55 [ρ 6] (γ 3) 0 1 (γ 4) := hS55 _ _ _ _ _ (zAllA hl 3)
  have l4 : sn55 [ρ 7] (γ 4) 0 1 (γ 5) := hS55 _ _ _ _ _ (zAllA hl 4)
  show sn65 [ρ 0, ρ 1, ρ 2, ρ 3, ρ 4] (γ 0) 0 0 (γ 5)
  refine Eq.symm ?_
  show fn65 [ρ 0] (γ 0) = _
  unfold fn65
  refine zLV (ρ 0) rfl (zLE m0 (zLE m1 (zLE (show fn58 [4 * ρ 0] (γ 0) = (0, ρ 5, γ 1) from l0.symm) (zLV (γ 1) rfl (zLE (show fn58 [4 * ρ 0 + 1] (γ 1) = (0, ρ 6, γ 2) from l1.symm) (zLV (γ 2) rfl (zLV (ρ 6) rfl ?_)))))))
  refine zLE (show fn58 [4 * ρ 0 + 2] (γ 2) = (0, ρ 7, γ 3) from l2.symm) (zLV (γ 3) rfl (zLV (ρ 7) rfl (zLE (show fn55 [ρ 6] (γ 3) = (0, 1, γ 4) from l3.symm) (zLV (γ 4) rfl (zIP zQ1_ (zLE (show fn55 [ρ 7] (γ 4) = (0, 1, γ 5) from l4.symm) (zLV (γ 5) rfl ?_)))))))
  refine zIP zQ1_ (zIN w_0 (zIP w_1 ?_))
  rfl
theorem vn65_9 {S : Nat → zSpc} (hS55 : zIm S 55 sn55) (hS58 : zIm S 58 sn58) {a : List Int} {g : rHp} : ∀ (ρ : Nat → Int) (γ : Nat → rHp), zO 5 S a g q65_9 ρ γ → zGl (fun _ _ _ => True) (sn65 a g) q65_9 ρ γ := by
  intro ρ γ h
  obtain ⟨ha, hg, hr, hf, hm, hc, hl⟩ := h
  have ha : a = [ρ 0, ρ 1, ρ 2, ρ 3, ρ 4] := ha
  subst ha
  subst hg
  have r1 : (5 : Int) ≤ ρ 1 ∧ ρ 1 ≤ 5 := zRnA hr 1
  have f0 : (0 : Int) ≤ -ρ 7 + -ρ 6 + 100000000 := zAllA hf 0
  have f1 : (0 : Int) ≤ ρ 7 + ρ 6 + 100000000 := zAllA hf 1
  obtain ⟨w_0, w_1, w_2⟩ : (¬ (ρ 1 ≠ 5)) ∧ (¬ (ρ 7 + ρ 6 < (-100000000))) ∧ (ρ 7 + ρ 6 ≤ 100000000) := ⟨by omega, by omega, by omega⟩
  have m0 : γ 0 77 0 (ρ 0) = ρ 1 := zAllA hm 0
  have m1 : γ 0 81 0 (4 * ρ 0) = ρ 2 := zAllA hm 1
  have c6 : γ 6 = rUp (γ 5) 103 0 (ρ 2) (ρ 7 + ρ 6) := And.right (zChA hc 0)
  have l0 : sn58 [4 * ρ 0] (γ 0) 0 (ρ 5) (γ 1) := hS58 _ _ _ _ _ (zAllA hl 0)
  have l1 : sn58 [4 * ρ 0 + 1] (γ 1) 0 (ρ 6) (γ 2) := hS58 _ _ _ _ _ (zAllA hl 1)
  have l2 : sn58 [4 * ρ 0 + 2] (γ 2) 0 (ρ 7) (γ 3) := hS58 _ _ _ _ _ (zAllA hl 2)
  have l3 : sn55 [ρ 6] (γ 3) 0 1 (γ 4) := hS55 _ _ _ _ _ (zAllA hl 3)
  have l4 : sn55 [ρ 7] (γ 4) 0 1 (γ 5) := hS55 _ _ _ _ _ (zAllA hl 4)
  show sn65 [ρ 0, ρ 1, ρ 2, ρ 3, ρ 4] (γ 0) 0 1 (γ 6)
  refine Eq.symm ?_
  show fn65 [ρ 0] (γ 0) = _
  unfold fn65
  refine zLV (ρ 0) rfl (zLE m0 (zLE m1 (zLE (show fn58 [4 * ρ 0] (γ 0) = (0, ρ 5, γ 1) from l0.symm) (zLV (γ 1) rfl (zLE (show fn58 [4 * ρ 0 + 1] (γ 1) = (0, ρ 6, γ 2) from l1.symm) (zLV (γ 2) rfl (zLV (ρ 6) rfl ?_)))))))
  refine zLE (show fn58 [4 * ρ 0 + 2] (γ 2) = (0, ρ 7, γ 3) from l2.symm) (zLV (γ 3) rfl (zLV (ρ 7) rfl (zLE (show fn55 [ρ 6] (γ 3) = (0, 1, γ 4) from l3.symm) (zLV (γ 4) rfl (zIP zQ1_ (zLE (show fn55 [ρ 7] (γ 4) = (0, 1, γ 5) from l4.symm) (zLV (γ 5) rfl ?_)))))))
  refine zIP zQ1_ (zIN w_0 (zIN w_1 (zIP w_2 (zLE c6.symm ?_))))
  rfl
theorem vn65_10 {S : Nat → zSpc} (hS55 : zIm S 55 sn55) (hS58 : zIm S 58 sn58) {a : List Int} {g : rHp} : ∀ (ρ : Nat → Int) (γ : Nat → rHp), zO 5 S a g q65_10 ρ γ → zGl (fun _ _ _ => True) (sn65 a g) q65_10 ρ γ := by
  intro ρ γ h
  obtain ⟨ha, hg, hr, hf, hm, hc, hl⟩ := h
  have ha : a = [ρ 0, ρ 1, ρ 2, ρ 3, ρ 4] := ha
  subst ha
  subst hg
  have r1 : (5 : Int) ≤ ρ 1 ∧ ρ 1 ≤ 5 := zRnA hr 1
  have f0 : (0 : Int) ≤ ρ 7 + ρ 6 + (-100000001) := zAllA hf 0
  obtain ⟨w_0, w_1, w_2⟩ : (¬ (ρ 1 ≠ 5)) ∧ (¬ (ρ 7 + ρ 6 < (-100000000))) ∧ (¬ (ρ 7 + ρ 6 ≤ 100000000)) := ⟨by omega, by omega, by omega⟩
  have m0 : γ 0 77 0 (ρ 0) = ρ 1 := zAllA hm 0
  have m1 : γ 0 81 0 (4 * ρ 0) = ρ 2 := zAllA hm 1
  have l0 : sn58 [4 * ρ 0] (γ 0) 0 (ρ 5) (γ 1) := hS58 _ _ _ _ _ (zAllA hl 0)
  have l1 : sn58 [4 * ρ 0 + 1] (γ 1) 0 (ρ 6) (γ 2) := hS58 _ _ _ _ _ (zAllA hl 1)
  have l2 : sn58 [4 * ρ 0 + 2] (γ 2) 0 (ρ 7) (γ 3) := hS58 _ _ _ _ _ (zAllA hl 2)
  have l3 : sn55 [ρ 6] (γ 3) 0 1 (γ 4) := hS55 _ _ _ _ _ (zAllA hl 3)
  have l4 : sn55 [ρ 7] (γ 4) 0 1 (γ 5) := hS55 _ _ _ _ _ (zAllA hl 4)
  show sn65 [ρ 0, ρ 1, ρ 2, ρ 3, ρ 4] (γ 0) 0 0 (γ 5)
  refine Eq.symm ?_
  show fn65 [ρ 0] (γ 0) = _
  unfold fn65
  refine zLV (ρ 0) rfl (zLE m0 (zLE m1 (zLE (show fn58 [4 * ρ 0] (γ 0) = (0, ρ 5, γ 1) from l0.symm) (zLV (γ 1) rfl (zLE (show fn58 [4 * ρ 0 + 1] (γ 1) = (0, ρ 6, γ 2) from l1.symm) (zLV (γ 2) rfl (zLV (ρ 6) rfl ?_)))))))
  refine zLE (show fn58 [4 * ρ 0 + 2] (γ 2) = (0, ρ 7, γ 3) from l2.symm) (zLV (γ 3) rfl (zLV (ρ 7) rfl (zLE (show fn55 [ρ 6] (γ 3) = (0, 1, γ 4) from l3.symm) (zLV (γ 4) rfl (zIP zQ1_ (zLE (show fn55 [ρ 7] (γ 4) = (0, 1, γ 5) from l4.symm) (zLV (γ 5) rfl ?_)))))))
  refine zIP zQ1_ (zIN w_0 (zIN w_1 (zIN w_2 ?_)))
  rfl
theorem yn65 {S : Nat → zSpc} (hS55 : zIm S 55 sn55) (hS58 : zIm S 58 sn58) : ∀ x g o v gz, zSem uW uT w65_.2.2.2.1 w65_.2.2.1.1.length S q65 (fun i => q65a.getD i []) (zNA a65_) x g o v gz → sn65 x g o v gz := by
  intro a g o v gz h
  exact zSem_all (l0 := q65) (las := q65a) (S := S) (J := (fun _ _ _ => True)) (P := sn65 a g) (fun _ => (show zAll _ [q65_0, q65_1, q65_2, q65_3, q65_4, q65_5, q65_6, q65_7, q65_8, q65_9, q65_10] from (zAll_c (vn65_0 hS55 hS58) (zAll_c (vn65_1 hS55 hS58) (zAll_c (vn65_2 hS55 hS58) (zAll_c (vn65_3 hS55 hS58) (zAll_c (vn65_4 hS55 hS58) (zAll_c (vn65_5 hS55 hS58) (zAll_c (vn65_6 hS55 hS58) (zAll_c (vn65_7 hS55 hS58) (zAll_c (vn65_8 hS55 hS58) (zAll_c (vn65_9 hS55 hS58) (zAll_c (vn65_10 hS55 hS58) zAll_n))))))))))))) (fun _ => (show zAllI _ 0 [] from trivial)) h
theorem vn67_0 {S : Nat → zSpc}  {a : List Int} {g : rHp} : ∀ (ρ : Nat → Int) (γ : Nat → rHp), zO 2 S a g q67_0 ρ γ → zGl (fun i vs g1 => jn67 a g i vs g1) (sn67 a g) q67_0 ρ γ := by
  intro ρ γ h
  obtain ⟨ha, hg, hr, hf, hm, hc, hl⟩ := h
  have ha : a = [ρ 0, ρ 1] := ha
  subst ha
  subst hg
  show jn67 [ρ 0, ρ 1] (γ 0) 0 [ρ 0, ρ 1, 0] (γ 0)
  have hD : dn67 [ρ 0] (γ 0) = .inl (0, [ρ 0, 0], γ 0) := by
    unfold dn67
    refine zLV (ρ 0) rfl ?_
    rfl
  exact zGoo_to hD
theorem vn67a0_0 {S : Nat → zSpc}  {a : List Int} {g : rHp} : ∀ (ρ : Nat → Int) (γ : Nat → rHp), jn67 a g 0 (zAg (zNA a67_ 0) ρ) (γ 1) → zO 2 S a g q67a0_0 ρ γ → zGl (fun i vs g1 => jn67 a g i vs g1) (sn67 a g) q67a0_0 ρ γ := by
  intro ρ γ hJ h
  obtain ⟨ha, hg, hr, hf, hm, hc, hl⟩ := h
  have ha : a = [ρ 0, ρ 1] := ha
  subst ha
  subst hg
  have hJ : jn67 [ρ 0, ρ 1] (γ 0) 0 [ρ 0, ρ 1, ρ 2] (γ 1) := hJ
  have r2 : (4 : Int) ≤ ρ 2 ∧ ρ 2 ≤ 4 := zRnA hr 2
  have w_0 : ρ 2 ≥ 4 := by omega
  show sn67 [ρ 0, ρ 1] (γ 0) 0 0 (γ 1)
  have hD : en67 (γ 0) (0, [ρ 0, ρ 2], γ 1) = .inr (0, 0, γ 1) := by
    unfold en67
    refine zIP (show (0 : Nat) = 0 by decide) (zLV (γ 1) rfl (zLV (ρ 0) rfl (zLV (ρ 2) rfl (zIP w_0 ?_))))
    rfl
  exact zGoo_aend hJ hD
theorem vn67a0_1 {S : Nat → zSpc}  {a : List Int} {g : rHp} : ∀ (ρ : Nat → Int) (γ : Nat → rHp), jn67 a g 0 (zAg (zNA a67_ 0) ρ) (γ 1) → zO 2 S a g q67a0_1 ρ γ → zGl (fun i vs g1 => jn67 a g i vs g1) (sn67 a g) q67a0_1 ρ γ := by
  intro ρ γ hJ h
  obtain ⟨ha, hg, hr, hf, hm, hc, hl⟩ := h
  have ha : a = [ρ 0, ρ 1] := ha
  subst ha
  subst hg
  have hJ : jn67 [ρ 0, ρ 1] (γ 0) 0 [ρ 0, ρ 1, ρ 2] (γ 1) := hJ
  have r2 : (0 : Int) ≤ ρ 2 ∧ ρ 2 ≤ 3 := zRnA hr 2
  have f0 : (0 : Int) ≤ -ρ 4 + ρ 2 := zAllA hf 0
  obtain ⟨w_0, w_1⟩ : (¬ (ρ 2 ≥ 4)) ∧ (ρ 2 ≥ ρ 4) := ⟨by omega, by omega⟩
  have m1 : γ 0 69 0 (ρ 0) = ρ 3 := zAllA hm 1
  have m2 : γ 0 66 0 (ρ 3) = ρ 4 := zAllA hm 2
  have c2 : γ 2 = rUp (γ 1) 102 0 (ρ 2) 0 := And.right (zChA hc 0)
  show jn67 [ρ 0, ρ 1] (γ 0) 0 [ρ 0, ρ 1, ρ 2 + 1] (γ 2)
  have hD : en67 (γ 0) (0, [ρ 0, ρ 2], γ 1) = .inl (0, [ρ 0, ρ 2 + 1], γ 2) := by
    unfold en67
    refine zIP (show (0 : Nat) = 0 by decide) (zLV (γ 1) rfl (zLV (ρ 0) rfl (zLV (ρ 2) rfl (zIN w_0 (zLE m1 (zLE m2 (zIP w_1 ?_)))))))
    refine zLE c2.symm ?_
    rfl
  exact zGoo_ato hJ hD
theorem vn67a0_2 {S : Nat → zSpc}  {a : List Int} {g : rHp} : ∀ (ρ : Nat → Int) (γ : Nat → rHp), jn67 a g 0 (zAg (zNA a67_ 0) ρ) (γ 1) → zO 2 S a g q67a0_2 ρ γ → zGl (fun i vs g1 => jn67 a g i vs g1) (sn67 a g) q67a0_2 ρ γ := by
  intro ρ γ hJ h
  obtain ⟨ha, hg, hr, hf, hm, hc, hl⟩ := h
  have ha : a = [ρ 0, ρ 1] := ha
  subst ha
  subst hg
  have hJ : jn67 [ρ 0, ρ 1] (γ 0) 0 [ρ 0, ρ 1, ρ 2] (γ 1) := hJ
  have r2 : (0 : Int) ≤ ρ 2 ∧ ρ 2 ≤ 3 := zRnA hr 2
  have r5 : (0 : Int) ≤ ρ 5 ∧ ρ 5 ≤ 2 := zRnA hr 5
  have f0 : (0 : Int) ≤ ρ 4 + -ρ 2 + (-1) := zAllA hf 0
  obtain ⟨w_0, w_1, w_2⟩ : (¬ (ρ 2 ≥ 4)) ∧ (¬ (ρ 2 ≥ ρ 4)) ∧ (ρ 5 ≠ 3) := ⟨by omega, by omega, by omega⟩
  have m1 : γ 0 69 0 (ρ 0) = ρ 3 := zAllA hm 1
  have m2 : γ 0 66 0 (ρ 3) = ρ 4 := zAllA hm 2
  have m3 : γ 0 70 0 (ρ 2 + 4 * ρ 0) = ρ 5 := zAllA hm 3
  have m4 : γ 0 76 0 (ρ 2 + 4 * ρ 0) = ρ 6 := zAllA hm 4
  have c2 : γ 2 = rUp (γ 1) 102 0 (ρ 2) (ρ 6) := And.right (zChA hc 0)
  have l0 : ρ 5 ≠ 1 := zAllA hl 0
  have wl_0 : ρ 5 ≠ 1 := by omega
  show jn67 [ρ 0, ρ 1] (γ 0) 0 [ρ 0, ρ 1, ρ 2 + 1] (γ 2)
  have hD : en67 (γ 0) (0, [ρ 0, ρ 2], γ 1) = .inl (0, [ρ 0, ρ 2 + 1], γ 2) := by
    unfold en67
    refine zIP (show (0 : Nat) = 0 by decide) (zLV (γ 1) rfl (zLV (ρ 0) rfl (zLV (ρ 2) rfl (zIN w_0 (zLE m1 (zLE m2 (zIN w_1 ?_)))))))
    refine zLE m3 (zIP w_2 (zIP wl_0 (zLE m4 (zLE c2.symm ?_))))
    rfl
  exact zGoo_ato hJ hD
theorem vn67a0_3 {S : Nat → zSpc}  {a : List Int} {g : rHp} : ∀ (ρ : Nat → Int) (γ : Nat → rHp), jn67 a g 0 (zAg (zNA a67_ 0) ρ) (γ 1) → zO 2 S a g q67a0_3 ρ γ → zGl (fun i vs g1 => jn67 a g i vs g1) (sn67 a g) q67a0_3 ρ γ := by
  intro ρ γ hJ h
  obtain ⟨ha, hg, hr, hf, hm, hc, hl⟩ := h
  have ha : a = [ρ 0, ρ 1] := ha
  subst ha
  subst hg
  have hJ : jn67 [ρ 0, ρ 1] (γ 0) 0 [ρ 0, ρ 1, ρ 2] (γ 1) := hJ
  have r2 : (0 : Int) ≤ ρ 2 ∧ ρ 2 ≤ 3 := zRnA hr 2
  have r5 : (1 : Int) ≤ ρ 5 ∧ ρ 5 ≤ 1 := zRnA hr 5
  have f0 : (0 : Int) ≤ ρ 4 + -ρ 2 + (-1) := zAllA hf 0
  obtain ⟨w_0, w_1, w_2, w_3⟩ : (¬ (ρ 2 ≥ 4)) ∧ (¬ (ρ 2 ≥ ρ 4)) ∧ (ρ 5 ≠ 3) ∧ (¬ (ρ 5 ≠ 1)) := ⟨by omega, by omega, by omega, by omega⟩
  have m1 : γ 0 69 0 (ρ 0) = ρ 3 := zAllA hm 1
  have m2 : γ 0 66 0 (ρ 3) = ρ 4 := zAllA hm 2
  have m3 : γ 0 70 0 (ρ 2 + 4 * ρ 0) = ρ 5 := zAllA hm 3
  have m4 : γ 0 76 0 (ρ 2 + 4 * ρ 0) = ρ 6 := zAllA hm 4
  have m5 : γ 0 103 0 (ρ 6) = ρ 7 := zAllA hm 5
  have c2 : γ 2 = rUp (γ 1) 102 0 (ρ 2) (ρ 7) := And.right (zChA hc 0)
  show jn67 [ρ 0, ρ 1] (γ 0) 0 [ρ 0, ρ 1, ρ 2 + 1] (γ 2)
  have hD : en67 (γ 0) (0, [ρ 0, ρ 2], γ 1) = .inl (0, [ρ 0, ρ 2 + 1], γ 2) := by
    unfold en67
    refine zIP (show (0 : Nat) = 0 by decide) (zLV (γ 1) rfl (zLV (ρ 0) rfl (zLV (ρ 2) rfl (zIN w_0 (zLE m1 (zLE m2 (zIN w_1 ?_)))))))
    refine zLE m3 (zIP w_2 (zIN w_3 (zLE m4 (zLE m5 (zLE c2.symm ?_)))))
    rfl
  exact zGoo_ato hJ hD
theorem vn67a0_4 {S : Nat → zSpc}  {a : List Int} {g : rHp} : ∀ (ρ : Nat → Int) (γ : Nat → rHp), jn67 a g 0 (zAg (zNA a67_ 0) ρ) (γ 1) → zO 2 S a g q67a0_4 ρ γ → zGl (fun i vs g1 => jn67 a g i vs g1) (sn67 a g) q67a0_4 ρ γ := by
  intro ρ γ hJ h
  obtain ⟨ha, hg, hr, hf, hm, hc, hl⟩ := h
  have ha : a = [ρ 0, ρ 1] := ha
  subst ha
  subst hg
  have hJ : jn67 [ρ 0, ρ 1] (γ 0) 0 [ρ 0, ρ 1, ρ 2] (γ 1) := hJ
  have r2 : (0 : Int) ≤ ρ 2 ∧ ρ 2 ≤ 3 := zRnA hr 2
  have r5 : (3 : Int) ≤ ρ 5 ∧ ρ 5 ≤ 3 := zRnA hr 5
  have f0 : (0 : Int) ≤ ρ 4 + -ρ 2 + (-1) := zAllA hf 0
  obtain ⟨w_0, w_1, w_2⟩ : (¬ (ρ 2 ≥ 4)) ∧ (¬ (ρ 2 ≥ ρ 4)) ∧ (¬ (ρ 5 ≠ 3)) := ⟨by omega, by omega, by omega⟩
  have m1 : γ 0 69 0 (ρ 0) = ρ 3 := zAllA hm 1
  have m2 : γ 0 66 0 (ρ 3) = ρ 4 := zAllA hm 2
  have m3 : γ 0 70 0 (ρ 2 + 4 * ρ 0) = ρ 5 := zAllA hm 3
  have c2 : γ 2 = rUp (γ 1) 102 0 (ρ 2) 0 := And.right (zChA hc 0)
  show jn67 [ρ 0, ρ 1] (γ 0) 0 [ρ 0, ρ 1, ρ 2 + 1] (γ 2)
  have hD : en67 (γ 0) (0, [ρ 0, ρ 2], γ 1) = .inl (0, [ρ 0, ρ 2 + 1], γ 2) := by
    unfold en67
    refine zIP (show (0 : Nat) = 0 by decide) (zLV (γ 1) rfl (zLV (ρ 0) rfl (zLV (ρ 2) rfl (zIN w_0 (zLE m1 (zLE m2 (zIN w_1 ?_)))))))
    refine zLE m3 (zIN w_2 (zLE c2.symm ?_))
    rfl
  exact zGoo_ato hJ hD
theorem yn67 {S : Nat → zSpc}  : ∀ x g o v gz, zSem uW uT w67_.2.2.2.1 w67_.2.2.1.1.length S q67 (fun i => q67a.getD i []) (zNA a67_) x g o v gz → sn67 x g o v gz := by
  intro a g o v gz h
  exact zSem_all (l0 := q67) (las := q67a) (S := S) (J := (fun i vs g1 => jn67 a g i vs g1)) (P := sn67 a g) (fun _ => (show zAll _ [q67_0] from (zAll_c (vn67_0 ) zAll_n))) (fun _ => (show zAllI _ 0 [q67a0] from ⟨(show zAll _ [q67a0_0, q67a0_1, q67a0_2, q67a0_3, q67a0_4] from (zAll_c (vn67a0_0 ) (zAll_c (vn67a0_1 ) (zAll_c (vn67a0_2 ) (zAll_c (vn67a0_3 ) (zAll_c (vn67a0_4 ) zAll_n)))))), trivial⟩)) h
theorem vn68_0 {S : Nat → zSpc} (hS57 : zIm S 57 sn57) (hS67 : zIm S 67 sn67) {a : List Int} {g : rHp} : ∀ (ρ : Nat → Int) (γ : Nat → rHp), zO 8 S a g q68_0 ρ γ → zGl (fun _ _ _ => True) (sn68 a g) q68_0 ρ γ := by
  intro ρ γ h
  obtain ⟨ha, hg, hr, hf, hm, hc, hl⟩ := h
  have ha : a = [ρ 0, ρ 1, ρ 2, ρ 3, ρ 4, ρ 5, ρ 6, ρ 7] := ha
  subst ha
  subst hg
  have m2 : γ 0 69 0 (ρ 0) = ρ 3 := zAllA hm 2
  have l0 : sn67 [ρ 0, ρ 4] (γ 0) 0 0 (γ 1) := hS67 _ _ _ _ _ (zAllA hl 0)
  have l1 : sn57 [ρ 3, ρ 0, ρ 2, ρ 5, ρ 8, ρ 9, ρ 10, ρ 6, ρ 7] (γ 1) 0 0 (γ 2) := hS57 _ _ _ _ _ (zAllA hl 1)
  show sn68 [ρ 0, ρ 1, ρ 2, ρ 3, ρ 4, ρ 5, ρ 6, ρ 7] (γ 0) 0 0 (γ 2)
  refine Eq.symm ?_
  show fn68 [ρ 0] (γ 0) = _
  unfold fn68
  refine zLV (ρ 0) rfl (zLE m2 (zLE (show fn67 [ρ 0] (γ 0) = (0, 0, γ 1) from l0.symm) (zLV (γ 1) rfl (zLE (show fn57 [ρ 3, ρ 0] (γ 1) = (0, 0, γ 2) from l1.symm) (zLV (γ 2) rfl ?_)))))
  rfl
theorem yn68 {S : Nat → zSpc} (hS57 : zIm S 57 sn57) (hS67 : zIm S 67 sn67) : ∀ x g o v gz, zSem uW uT w68_.2.2.2.1 w68_.2.2.1.1.length S q68 (fun i => q68a.getD i []) (zNA a68_) x g o v gz → sn68 x g o v gz := by
  intro a g o v gz h
  exact zSem_all (l0 := q68) (las := q68a) (S := S) (J := (fun _ _ _ => True)) (P := sn68 a g) (fun _ => (show zAll _ [q68_0] from (zAll_c (vn68_0 hS57 hS67) zAll_n))) (fun _ => (show zAllI _ 0 [] from trivial)) h
theorem vn69_0 {S : Nat → zSpc}  {a : List Int} {g : rHp} : ∀ (ρ : Nat → Int) (γ : Nat → rHp), zO 1 S a g q69_0 ρ γ → zGl (fun i vs g1 => jn69 a g i vs g1) (sn69 a g) q69_0 ρ γ := by
  intro ρ γ h
  obtain ⟨ha, hg, hr, hf, hm, hc, hl⟩ := h
  have ha : a = [ρ 0] := ha
  subst ha
  subst hg
  show jn69 [ρ 0] (γ 0) 0 [ρ 0, 0] (γ 0)
  have hD : dn69 [ρ 0] (γ 0) = .inl (0, [ρ 0, 0], γ 0) := by
    unfold dn69
    refine zLV (ρ 0) rfl ?_
    rfl
  exact zGoo_to hD
theorem vn69a0_0 {S : Nat → zSpc}  {a : List Int} {g : rHp} : ∀ (ρ : Nat → Int) (γ : Nat → rHp), jn69 a g 0 (zAg (zNA a69_ 0) ρ) (γ 1) → zO 1 S a g q69a0_0 ρ γ → zGl (fun i vs g1 => jn69 a g i vs g1) (sn69 a g) q69a0_0 ρ γ := by
  intro ρ γ hJ h
  obtain ⟨ha, hg, hr, hf, hm, hc, hl⟩ := h
  have ha : a = [ρ 0] := ha
  subst ha
  subst hg
  have hJ : jn69 [ρ 0] (γ 0) 0 [ρ 0, ρ 1] (γ 1) := hJ
  have r1 : (4 : Int) ≤ ρ 1 ∧ ρ 1 ≤ 4 := zRnA hr 1
  have w_0 : ρ 1 ≥ 4 := by omega
  show sn69 [ρ 0] (γ 0) 0 1 (γ 1)
  have hD : en69 (γ 0) (0, [ρ 0, ρ 1], γ 1) = .inr (0, 1, γ 1) := by
    unfold en69
    refine zIP (show (0 : Nat) = 0 by decide) (zLV (γ 1) rfl (zLV (ρ 0) rfl (zLV (ρ 1) rfl (zIP w_0 ?_))))
    rfl
  exact zGoo_aend hJ hD
theorem vn69a0_1 {S : Nat → zSpc}  {a : List Int} {g : rHp} : ∀ (ρ : Nat → Int) (γ : Nat → rHp), jn69 a g 0 (zAg (zNA a69_ 0) ρ) (γ 1) → zO 1 S a g q69a0_1 ρ γ → zGl (fun i vs g1 => jn69 a g i vs g1) (sn69 a g) q69a0_1 ρ γ := by
  intro ρ γ hJ h
  obtain ⟨ha, hg, hr, hf, hm, hc, hl⟩ := h
  have ha : a = [ρ 0] := ha
  subst ha
  subst hg
  have hJ : jn69 [ρ 0] (γ 0) 0 [ρ 0, ρ 1] (γ 1) := hJ
  have r1 : (0 : Int) ≤ ρ 1 ∧ ρ 1 ≤ 3 := zRnA hr 1
  have f0 : (0 : Int) ≤ ρ 3 + -ρ 2 := zAllA hf 0
  have f1 : (0 : Int) ≤ -ρ 3 + ρ 2 := zAllA hf 1
  obtain ⟨w_0, w_1⟩ : (¬ (ρ 1 ≥ 4)) ∧ (ρ 2 = ρ 3) := ⟨by omega, by omega⟩
  have m0 : γ 0 105 0 (ρ 1 + 4 * ρ 0) = ρ 2 := zAllA hm 0
  have m1 : γ 0 102 0 (ρ 1) = ρ 3 := zAllA hm 1
  show jn69 [ρ 0] (γ 0) 0 [ρ 0, ρ 1 + 1] (γ 1)
  have hD : en69 (γ 0) (0, [ρ 0, ρ 1], γ 1) = .inl (0, [ρ 0, ρ 1 + 1], γ 1) := by
    unfold en69
    refine zIP (show (0 : Nat) = 0 by decide) (zLV (γ 1) rfl (zLV (ρ 0) rfl (zLV (ρ 1) rfl (zIN w_0 (zLE m0 (zLE m1 (zIP w_1 ?_)))))))
    rfl
  exact zGoo_ato hJ hD
theorem vn69a0_2 {S : Nat → zSpc}  {a : List Int} {g : rHp} : ∀ (ρ : Nat → Int) (γ : Nat → rHp), jn69 a g 0 (zAg (zNA a69_ 0) ρ) (γ 1) → zO 1 S a g q69a0_2 ρ γ → zGl (fun i vs g1 => jn69 a g i vs g1) (sn69 a g) q69a0_2 ρ γ := by
  intro ρ γ hJ h
  obtain ⟨ha, hg, hr, hf, hm, hc, hl⟩ := h
  have ha : a = [ρ 0] := ha
  subst ha
  subst hg
  have hJ : jn69 [ρ 0] (γ 0) 0 [ρ 0, ρ 1] (γ 1) := hJ
  have r1 : (0 : Int) ≤ ρ 1 ∧ ρ 1 ≤ 3 := zRnA hr 1
  have r2 : ((-2147483648) : Int) ≤ ρ 2 ∧ ρ 2 ≤ 1099511640064 := zRnA hr 2
  have r3 : ((-2147483648) : Int) ≤ ρ 3 ∧ ρ 3 ≤ 1099511640064 := zRnA hr 3
  have w_0 : ¬ (ρ 1 ≥ 4) := by omega
  have m0 : γ 0 105 0 (ρ 1 + 4 * ρ 0) = ρ 2 := zAllA hm 0
  have m1 : γ 0 102 0 (ρ 1) = ρ 3 := zAllA hm 1
  have l0 : ρ 2 ≠ ρ 3 := zAllA hl 0
  have wl_0 : ¬ (ρ 2 = ρ 3) := by omega
  show sn69 [ρ 0] (γ 0) 0 0 (γ 1)
  have hD : en69 (γ 0) (0, [ρ 0, ρ 1], γ 1) = .inr (0, 0, γ 1) := by
    unfold en69
    refine zIP (show (0 : Nat) = 0 by decide) (zLV (γ 1) rfl (zLV (ρ 0) rfl (zLV (ρ 1) rfl (zIN w_0 (zLE m0 (zLE m1 (zIN wl_0 ?_)))))))
    rfl
  exact zGoo_aend hJ hD
theorem yn69 {S : Nat → zSpc}  : ∀ x g o v gz, zSem uW uT w69_.2.2.2.1 w69_.2.2.1.1.length S q69 (fun i => q69a.getD i []) (zNA a69_) x g o v gz → sn69 x g o v gz := by
  intro a g o v gz h
  exact zSem_all (l0 := q69) (las := q69a) (S := S) (J := (fun i vs g1 => jn69 a g i vs g1)) (P := sn69 a g) (fun _ => (show zAll _ [q69_0] from (zAll_c (vn69_0 ) zAll_n))) (fun _ => (show zAllI _ 0 [q69a0] from ⟨(show zAll _ [q69a0_0, q69a0_1, q69a0_2] from (zAll_c (vn69a0_0 ) (zAll_c (vn69a0_1 ) (zAll_c (vn69a0_2 ) zAll_n)))), trivial⟩)) h
theorem vn70_0 {S : Nat → zSpc} (hS55 : zIm S 55 sn55) (hS67 : zIm S 67 sn67) (hS69 : zIm S 69 sn69) {a : List Int} {g : rHp} : ∀ (ρ : Nat → Int) (γ : Nat → rHp), zO 5 S a g q70_0 ρ γ → zGl (fun i vs g1 => jn70 a g i vs g1) (sn70 a g) q70_0 ρ γ := by
  intro ρ γ h
  obtain ⟨ha, hg, hr, hf, hm, hc, hl⟩ := h
  have ha : a = [ρ 0, ρ 1, ρ 2, ρ 3, ρ 4] := ha
  subst ha
  subst hg
  have l0 : sn67 [ρ 0, ρ 2] (γ 0) 0 0 (γ 1) := hS67 _ _ _ _ _ (zAllA hl 0)
  show jn70 [ρ 0, ρ 1, ρ 2, ρ 3, ρ 4] (γ 0) 0 [ρ 0, ρ 1, ρ 2, ρ 3, ρ 4, 0] (γ 1)
  have hD : dn70 [ρ 0] (γ 0) = .inl (0, [ρ 0, 0], γ 1) := by
    unfold dn70
    refine zLV (ρ 0) rfl (zLE (show fn67 [ρ 0] (γ 0) = (0, 0, γ 1) from l0.symm) (zLV (γ 1) rfl ?_))
    rfl
  exact zGoo_to hD
theorem vn70a0_0 {S : Nat → zSpc} (hS55 : zIm S 55 sn55) (hS67 : zIm S 67 sn67) (hS69 : zIm S 69 sn69) {a : List Int} {g : rHp} : ∀ (ρ : Nat → Int) (γ : Nat → rHp), jn70 a g 0 (zAg (zNA a70_ 0) ρ) (γ 1) → zO 5 S a g q70a0_0 ρ γ → zGl (fun i vs g1 => jn70 a g i vs g1) (sn70 a g) q70a0_0 ρ γ := by
  intro ρ γ hJ h
  obtain ⟨ha, hg, hr, hf, hm, hc, hl⟩ := h
  have ha : a = [ρ 0, ρ 1, ρ 2, ρ 3, ρ 4] := ha
  subst ha
  subst hg
  have hJ : jn70 [ρ 0, ρ 1, ρ 2, ρ 3, ρ 4] (γ 0) 0 [ρ 0, ρ 1, ρ 2, ρ 3, ρ 4, ρ 5] (γ 1) := hJ
  have r5 : (0 : Int) ≤ ρ 5 ∧ ρ 5 ≤ 1999 := zRnA hr 5
  have f1 : (0 : Int) ≤ ρ 5 + -ρ 3 := zAllA hf 1
  obtain ⟨w_0, w_1⟩ : (ρ 5 ≥ ρ 3) ∧ (ρ 5 ≠ 2000) := ⟨by omega, by omega⟩
  have m0 : γ 0 71 0 (ρ 0) = ρ 1 := zAllA hm 0
  have m2 : γ 0 15 0 90 = ρ 3 := zAllA hm 2
  show jn70 [ρ 0, ρ 1, ρ 2, ρ 3, ρ 4] (γ 0) 1 [ρ 0, ρ 1, ρ 2, ρ 3, ρ 4, 0, ρ 5] (γ 1)
  have hD : en70 (γ 0) (0, [ρ 0, ρ 5], γ 1) = .inl (1, [ρ 0, 0, ρ 5], γ 1) := by
    unfold en70
    refine zIP (show (0 : Nat) = 0 by decide) (zLV (γ 1) rfl (zLV (ρ 0) rfl (zLV (ρ 5) rfl (zLE m0 (zLE m2 (zIP w_0 (zIP w_1 ?_)))))))
    rfl
  exact zGoo_ato hJ hD
theorem vn70a0_1 {S : Nat → zSpc} (hS55 : zIm S 55 sn55) (hS67 : zIm S 67 sn67) (hS69 : zIm S 69 sn69) {a : List Int} {g : rHp} : ∀ (ρ : Nat → Int) (γ : Nat → rHp), jn70 a g 0 (zAg (zNA a70_ 0) ρ) (γ 1) → zO 5 S a g q70a0_1 ρ γ → zGl (fun i vs g1 => jn70 a g i vs g1) (sn70 a g) q70a0_1 ρ γ := by
  intro ρ γ hJ h
  obtain ⟨ha, hg, hr, hf, hm, hc, hl⟩ := h
  have ha : a = [ρ 0, ρ 1, ρ 2, ρ 3, ρ 4] := ha
  subst ha
  subst hg
  have hJ : jn70 [ρ 0, ρ 1, ρ 2, ρ 3, ρ 4] (γ 0) 0 [ρ 0, ρ 1, ρ 2, ρ 3, ρ 4, ρ 5] (γ 1) := hJ
  have r3 : (0 : Int) ≤ ρ 3 ∧ ρ 3 ≤ 2000 := zRnA hr 3
  have r5 : (2000 : Int) ≤ ρ 5 ∧ ρ 5 ≤ 2000 := zRnA hr 5
  obtain ⟨w_0, w_1⟩ : (ρ 5 ≥ ρ 3) ∧ (¬ (ρ 5 ≠ 2000)) := ⟨by omega, by omega⟩
  have m0 : γ 0 71 0 (ρ 0) = ρ 1 := zAllA hm 0
  have m2 : γ 0 15 0 90 = ρ 3 := zAllA hm 2
  have c2 : γ 2 = rUp (γ 1) 15 0 77 3 := And.right (zChA hc 0)
  show sn70 [ρ 0, ρ 1, ρ 2, ρ 3, ρ 4] (γ 0) 0 0 (γ 2)
  have hD : en70 (γ 0) (0, [ρ 0, ρ 5], γ 1) = .inr (0, 0, γ 2) := by
    unfold en70
    refine zIP (show (0 : Nat) = 0 by decide) (zLV (γ 1) rfl (zLV (ρ 0) rfl (zLV (ρ 5) rfl (zLE m0 (zLE m2 (zIP w_0 (zIN w_1 ?_)))))))
    refine zLE c2.symm ?_
    rfl
  exact zGoo_aend hJ hD
theorem vn70a0_2 {S : Nat → zSpc} (hS55 : zIm S 55 sn55) (hS67 : zIm S 67 sn67) (hS69 : zIm S 69 sn69) {a : List Int} {g : rHp} : ∀ (ρ : Nat → Int) (γ : Nat → rHp), jn70 a g 0 (zAg (zNA a70_ 0) ρ) (γ 1) → zO 5 S a g q70a0_2 ρ γ → zGl (fun i vs g1 => jn70 a g i vs g1) (sn70 a g) q70a0_2 ρ γ := by
  intro ρ γ hJ h
  obtain ⟨ha, hg, hr, hf, hm, hc, hl⟩ := h
  have ha : a = [ρ 0, ρ 1, ρ 2, ρ 3, ρ 4] := ha
  subst ha
  subst hg
  have hJ : jn70 [ρ 0, ρ 1, ρ 2, ρ 3, ρ 4] (γ 0) 0 [ρ 0, ρ 1, ρ 2, ρ 3, ρ 4, ρ 5] (γ 1) := hJ
  have f0 : (0 : Int) ≤ -ρ 5 + ρ 3 + (-1) := zAllA hf 0
  have w_0 : ¬ (ρ 5 ≥ ρ 3) := by omega
  have m0 : γ 0 71 0 (ρ 0) = ρ 1 := zAllA hm 0
  have m2 : γ 0 15 0 90 = ρ 3 := zAllA hm 2
  have l0 : sn69 [ρ 5] (γ 1) 0 0 (γ 2) := hS69 _ _ _ _ _ (zAllA hl 0)
  show jn70 [ρ 0, ρ 1, ρ 2, ρ 3, ρ 4] (γ 0) 0 [ρ 0, ρ 1, ρ 2, ρ 3, ρ 4, ρ 5 + 1] (γ 2)
  have hD : en70 (γ 0) (0, [ρ 0, ρ 5], γ 1) = .inl (0, [ρ 0, ρ 5 + 1], γ 2) := by
    unfold en70
    refine zIP (show (0 : Nat) = 0 by decide) (zLV (γ 1) rfl (zLV (ρ 0) rfl (zLV (ρ 5) rfl (zLE m0 (zLE m2 (zIN w_0 (zLE (show fn69 [ρ 5] (γ 1) = (0, 0, γ 2) from l0.symm) ?_)))))))
    refine zLV (γ 2) rfl (zIN zQ0_ ?_)
    rfl
  exact zGoo_ato hJ hD
theorem vn70a0_3 {S : Nat → zSpc} (hS55 : zIm S 55 sn55) (hS67 : zIm S 67 sn67) (hS69 : zIm S 69 sn69) {a : List Int} {g : rHp} : ∀ (ρ : Nat → Int) (γ : Nat → rHp), jn70 a g 0 (zAg (zNA a70_ 0) ρ) (γ 1) → zO 5 S a g q70a0_3 ρ γ → zGl (fun i vs g1 => jn70 a g i vs g1) (sn70 a g) q70a0_3 ρ γ := by
  intro ρ γ hJ h
  obtain ⟨ha, hg, hr, hf, hm, hc, hl⟩ := h
  have ha : a = [ρ 0, ρ 1, ρ 2, ρ 3, ρ 4] := ha
  subst ha
  subst hg
  have hJ : jn70 [ρ 0, ρ 1, ρ 2, ρ 3, ρ 4] (γ 0) 0 [ρ 0, ρ 1, ρ 2, ρ 3, ρ 4, ρ 5] (γ 1) := hJ
  have r1 : (2 : Int) ≤ ρ 1 ∧ ρ 1 ≤ 4 := zRnA hr 1
  have r5 : (0 : Int) ≤ ρ 5 ∧ ρ 5 ≤ 1999 := zRnA hr 5
  have f0 : (0 : Int) ≤ -ρ 5 + ρ 3 + (-1) := zAllA hf 0
  obtain ⟨w_0, w_1, w_2⟩ : (¬ (ρ 5 ≥ ρ 3)) ∧ (ρ 5 ≠ 2000) ∧ (ρ 1 ≠ 1) := ⟨by omega, by omega, by omega⟩
  have m0 : γ 0 71 0 (ρ 0) = ρ 1 := zAllA hm 0
  have m2 : γ 0 15 0 90 = ρ 3 := zAllA hm 2
  have m4 : γ 0 106 0 (ρ 5) = ρ 6 := zAllA hm 4
  have m5 : γ 0 72 0 (ρ 0) = ρ 8 := zAllA hm 5
  have m6 : γ 0 103 0 (ρ 8) = ρ 9 := zAllA hm 6
  have c3 : γ 3 = rUp (γ 2) 106 0 (ρ 5) (ρ 7) := And.right (zChA hc 1)
  have l0 : sn69 [ρ 5] (γ 1) 0 1 (γ 2) := hS69 _ _ _ _ _ (zAllA hl 0)
  have l1 : zOpP (.iadd) (γ 0) (γ 1) [ρ 6, 1] (ρ 7) := zAllA hl 1
  have l2 : sn55 [ρ 9] (γ 3) 0 0 (γ 4) := hS55 _ _ _ _ _ (zAllA hl 2)
  show sn70 [ρ 0, ρ 1, ρ 2, ρ 3, ρ 4] (γ 0) 0 0 (γ 4)
  have hD : en70 (γ 0) (0, [ρ 0, ρ 5], γ 1) = .inr (0, 0, γ 4) := by
    unfold en70
    refine zIP (show (0 : Nat) = 0 by decide) (zLV (γ 1) rfl (zLV (ρ 0) rfl (zLV (ρ 5) rfl (zLE m0 (zLE m2 (zIN w_0 (zLE (show fn69 [ρ 5] (γ 1) = (0, 1, γ 2) from l0.symm) ?_)))))))
    refine zLV (γ 2) rfl (zIP zQ1_ (zIP w_1 (zLE m4 (zLE (zF2_ok l1) (zLE c3.symm (zIP w_2 (zLE m5 ?_)))))))
    refine zLE m6 (zLE (show fn55 [ρ 9] (γ 3) = (0, 0, γ 4) from l2.symm) (zLV (γ 4) rfl (zIN zQ0_ ?_)))
    rfl
  exact zGoo_aend hJ hD
theorem vn70a0_4 {S : Nat → zSpc} (hS55 : zIm S 55 sn55) (hS67 : zIm S 67 sn67) (hS69 : zIm S 69 sn69) {a : List Int} {g : rHp} : ∀ (ρ : Nat → Int) (γ : Nat → rHp), jn70 a g 0 (zAg (zNA a70_ 0) ρ) (γ 1) → zO 5 S a g q70a0_4 ρ γ → zGl (fun i vs g1 => jn70 a g i vs g1) (sn70 a g) q70a0_4 ρ γ := by
  intro ρ γ hJ h
  obtain ⟨ha, hg, hr, hf, hm, hc, hl⟩ := h
  have ha : a = [ρ 0, ρ 1, ρ 2, ρ 3, ρ 4] := ha
  subst ha
  subst hg
  have hJ : jn70 [ρ 0, ρ 1, ρ 2, ρ 3, ρ 4] (γ 0) 0 [ρ 0, ρ 1, ρ 2, ρ 3, ρ 4, ρ 5] (γ 1) := hJ
  have r1 : (2 : Int) ≤ ρ 1 ∧ ρ 1 ≤ 4 := zRnA hr 1
  have r5 : (0 : Int) ≤ ρ 5 ∧ ρ 5 ≤ 1999 := zRnA hr 5
  have r13 : (0 : Int) ≤ ρ 13 ∧ ρ 13 ≤ 0 := zRnA hr 13
  have f0 : (0 : Int) ≤ -ρ 5 + ρ 3 + (-1) := zAllA hf 0
  obtain ⟨w_0, w_1, w_2, w_3⟩ : (¬ (ρ 5 ≥ ρ 3)) ∧ (ρ 5 ≠ 2000) ∧ (ρ 1 ≠ 1) ∧ (ρ 13 = 0) := ⟨by omega, by omega, by omega, by omega⟩
  have m0 : γ 0 71 0 (ρ 0) = ρ 1 := zAllA hm 0
  have m2 : γ 0 15 0 90 = ρ 3 := zAllA hm 2
  have m4 : γ 0 106 0 (ρ 5) = ρ 6 := zAllA hm 4
  have m5 : γ 0 72 0 (ρ 0) = ρ 8 := zAllA hm 5
  have m6 : γ 0 103 0 (ρ 8) = ρ 9 := zAllA hm 6
  have m7 : γ 0 107 0 (ρ 5) = ρ 10 := zAllA hm 7
  have m8 : γ 0 109 0 (ρ 5) = ρ 13 := zAllA hm 8
  have c3 : γ 3 = rUp (γ 2) 106 0 (ρ 5) (ρ 7) := And.right (zChA hc 4)
  have c5 : γ 5 = rUp (γ 4) 107 0 (ρ 5) (ρ 12) := And.right (zChA hc 2)
  have c6 : γ 6 = rUp (γ 5) 108 0 (ρ 5) (ρ 9) := And.right (zChA hc 1)
  have c7 : γ 7 = rUp (γ 6) 109 0 (ρ 5) 1 := And.right (zChA hc 0)
  have l0 : sn69 [ρ 5] (γ 1) 0 1 (γ 2) := hS69 _ _ _ _ _ (zAllA hl 0)
  have l1 : zOpP (.iadd) (γ 0) (γ 1) [ρ 6, 1] (ρ 7) := zAllA hl 1
  have l2 : sn55 [ρ 9] (γ 3) 0 1 (γ 4) := hS55 _ _ _ _ _ (zAllA hl 2)
  have l3 : zOpP (.l2i) (γ 0) (γ 1) [ρ 9] (ρ 11) := zAllA hl 3
  have l4 : zOpP (.iadd) (γ 0) (γ 1) [ρ 10, ρ 11] (ρ 12) := zAllA hl 4
  show sn70 [ρ 0, ρ 1, ρ 2, ρ 3, ρ 4] (γ 0) 0 0 (γ 7)
  have hD : en70 (γ 0) (0, [ρ 0, ρ 5], γ 1) = .inr (0, 0, γ 7) := by
    unfold en70
    refine zIP (show (0 : Nat) = 0 by decide) (zLV (γ 1) rfl (zLV (ρ 0) rfl (zLV (ρ 5) rfl (zLE m0 (zLE m2 (zIN w_0 (zLE (show fn69 [ρ 5] (γ 1) = (0, 1, γ 2) from l0.symm) ?_)))))))
    refine zLV (γ 2) rfl (zIP zQ1_ (zIP w_1 (zLE m4 (zLE (zF2_ok l1) (zLE c3.symm (zIP w_2 (zLE m5 ?_)))))))
    refine zLE m6 (zLE (show fn55 [ρ 9] (γ 3) = (0, 1, γ 4) from l2.symm) (zLV (γ 4) rfl (zIP zQ1_ (zLE m7 (zLE (zF1_ok l3) (zLE (zF2_ok l4) (zLE c5.symm ?_)))))))
    refine zLE m8 (zIP w_3 (zLE c6.symm (zLE c7.symm ?_)))
    rfl
  exact zGoo_aend hJ hD
theorem vn70a0_5 {S : Nat → zSpc} (hS55 : zIm S 55 sn55) (hS67 : zIm S 67 sn67) (hS69 : zIm S 69 sn69) {a : List Int} {g : rHp} : ∀ (ρ : Nat → Int) (γ : Nat → rHp), jn70 a g 0 (zAg (zNA a70_ 0) ρ) (γ 1) → zO 5 S a g q70a0_5 ρ γ → zGl (fun i vs g1 => jn70 a g i vs g1) (sn70 a g) q70a0_5 ρ γ := by
  intro ρ γ hJ h
  obtain ⟨ha, hg, hr, hf, hm, hc, hl⟩ := h
  have ha : a = [ρ 0, ρ 1, ρ 2, ρ 3, ρ 4] := ha
  subst ha
  subst hg
  have hJ : jn70 [ρ 0, ρ 1, ρ 2, ρ 3, ρ 4] (γ 0) 0 [ρ 0, ρ 1, ρ 2, ρ 3, ρ 4, ρ 5] (γ 1) := hJ
  have r1 : (2 : Int) ≤ ρ 1 ∧ ρ 1 ≤ 4 := zRnA hr 1
  have r5 : (0 : Int) ≤ ρ 5 ∧ ρ 5 ≤ 1999 := zRnA hr 5
  have r13 : (1 : Int) ≤ ρ 13 ∧ ρ 13 ≤ 1 := zRnA hr 13
  have f0 : (0 : Int) ≤ ρ 14 + -ρ 9 := zAllA hf 0
  have f1 : (0 : Int) ≤ -ρ 5 + ρ 3 + (-1) := zAllA hf 1
  obtain ⟨w_0, w_1, w_2, w_3, w_4⟩ : (¬ (ρ 5 ≥ ρ 3)) ∧ (ρ 5 ≠ 2000) ∧ (ρ 1 ≠ 1) ∧ (¬ (ρ 13 = 0)) ∧ (ρ 9 ≤ ρ 14) := ⟨by omega, by omega, by omega, by omega, by omega⟩
  have m0 : γ 0 71 0 (ρ 0) = ρ 1 := zAllA hm 0
  have m2 : γ 0 15 0 90 = ρ 3 := zAllA hm 2
  have m4 : γ 0 106 0 (ρ 5) = ρ 6 := zAllA hm 4
  have m5 : γ 0 72 0 (ρ 0) = ρ 8 := zAllA hm 5
  have m6 : γ 0 103 0 (ρ 8) = ρ 9 := zAllA hm 6
  have m7 : γ 0 107 0 (ρ 5) = ρ 10 := zAllA hm 7
  have m8 : γ 0 109 0 (ρ 5) = ρ 13 := zAllA hm 8
  have m9 : γ 0 108 0 (ρ 5) = ρ 14 := zAllA hm 9
  have c3 : γ 3 = rUp (γ 2) 106 0 (ρ 5) (ρ 7) := And.right (zChA hc 3)
  have c5 : γ 5 = rUp (γ 4) 107 0 (ρ 5) (ρ 12) := And.right (zChA hc 1)
  have c6 : γ 6 = rUp (γ 5) 109 0 (ρ 5) 1 := And.right (zChA hc 0)
  have l0 : sn69 [ρ 5] (γ 1) 0 1 (γ 2) := hS69 _ _ _ _ _ (zAllA hl 0)
  have l1 : zOpP (.iadd) (γ 0) (γ 1) [ρ 6, 1] (ρ 7) := zAllA hl 1
  have l2 : sn55 [ρ 9] (γ 3) 0 1 (γ 4) := hS55 _ _ _ _ _ (zAllA hl 2)
  have l3 : zOpP (.l2i) (γ 0) (γ 1) [ρ 9] (ρ 11) := zAllA hl 3
  have l4 : zOpP (.iadd) (γ 0) (γ 1) [ρ 10, ρ 11] (ρ 12) := zAllA hl 4
  have l5 : ρ 1 ≠ 3 := zAllA hl 5
  have wl_0 : ρ 1 ≠ 3 := by omega
  show sn70 [ρ 0, ρ 1, ρ 2, ρ 3, ρ 4] (γ 0) 0 0 (γ 6)
  have hD : en70 (γ 0) (0, [ρ 0, ρ 5], γ 1) = .inr (0, 0, γ 6) := by
    unfold en70
    refine zIP (show (0 : Nat) = 0 by decide) (zLV (γ 1) rfl (zLV (ρ 0) rfl (zLV (ρ 5) rfl (zLE m0 (zLE m2 (zIN w_0 (zLE (show fn69 [ρ 5] (γ 1) = (0, 1, γ 2) from l0.symm) ?_)))))))
    refine zLV (γ 2) rfl (zIP zQ1_ (zIP w_1 (zLE m4 (zLE (zF2_ok l1) (zLE c3.symm (zIP w_2 (zLE m5 ?_)))))))
    refine zLE m6 (zLE (show fn55 [ρ 9] (γ 3) = (0, 1, γ 4) from l2.symm) (zLV (γ 4) rfl (zIP zQ1_ (zLE m7 (zLE (zF1_ok l3) (zLE (zF2_ok l4) (zLE c5.symm ?_)))))))
    refine zLE m8 (zIN w_3 (zIP wl_0 (zLE m9 (zIP w_4 (zLE c6.symm ?_)))))
    rfl
  exact zGoo_aend hJ hD
theorem vn70a0_6 {S : Nat → zSpc} (hS55 : zIm S 55 sn55) (hS67 : zIm S 67 sn67) (hS69 : zIm S 69 sn69) {a : List Int} {g : rHp} : ∀ (ρ : Nat → Int) (γ : Nat → rHp), jn70 a g 0 (zAg (zNA a70_ 0) ρ) (γ 1) → zO 5 S a g q70a0_6 ρ γ → zGl (fun i vs g1 => jn70 a g i vs g1) (sn70 a g) q70a0_6 ρ γ := by
  intro ρ γ hJ h
  obtain ⟨ha, hg, hr, hf, hm, hc, hl⟩ := h
  have ha : a = [ρ 0, ρ 1, ρ 2, ρ 3, ρ 4] := ha
  subst ha
  subst hg
  have hJ : jn70 [ρ 0, ρ 1, ρ 2, ρ 3, ρ 4] (γ 0) 0 [ρ 0, ρ 1, ρ 2, ρ 3, ρ 4, ρ 5] (γ 1) := hJ
  have r1 : (2 : Int) ≤ ρ 1 ∧ ρ 1 ≤ 4 := zRnA hr 1
  have r5 : (0 : Int) ≤ ρ 5 ∧ ρ 5 ≤ 1999 := zRnA hr 5
  have r13 : (1 : Int) ≤ ρ 13 ∧ ρ 13 ≤ 1 := zRnA hr 13
  have f0 : (0 : Int) ≤ -ρ 14 + ρ 9 + (-1) := zAllA hf 0
  have f1 : (0 : Int) ≤ -ρ 5 + ρ 3 + (-1) := zAllA hf 1
  obtain ⟨w_0, w_1, w_2, w_3, w_4⟩ : (¬ (ρ 5 ≥ ρ 3)) ∧ (ρ 5 ≠ 2000) ∧ (ρ 1 ≠ 1) ∧ (¬ (ρ 13 = 0)) ∧ (¬ (ρ 9 ≤ ρ 14)) := ⟨by omega, by omega, by omega, by omega, by omega⟩
  have m0 : γ 0 71 0 (ρ 0) = ρ 1 := zAllA hm 0
  have m2 : γ 0 15 0 90 = ρ 3 := zAllA hm 2
  have m4 : γ 0 106 0 (ρ 5) = ρ 6 := zAllA hm 4
  have m5 : γ 0 72 0 (ρ 0) = ρ 8 := zAllA hm 5
  have m6 : γ 0 103 0 (ρ 8) = ρ 9 := zAllA hm 6
  have m7 : γ 0 107 0 (ρ 5) = ρ 10 := zAllA hm 7
  have m8 : γ 0 109 0 (ρ 5) = ρ 13 := zAllA hm 8
  have m9 : γ 0 108 0 (ρ 5) = ρ 14 := zAllA hm 9
  have c3 : γ 3 = rUp (γ 2) 106 0 (ρ 5) (ρ 7) := And.right (zChA hc 4)
  have c5 : γ 5 = rUp (γ 4) 107 0 (ρ 5) (ρ 12) := And.right (zChA hc 2)
  have c6 : γ 6 = rUp (γ 5) 108 0 (ρ 5) (ρ 9) := And.right (zChA hc 1)
  have c7 : γ 7 = rUp (γ 6) 109 0 (ρ 5) 1 := And.right (zChA hc 0)
  have l0 : sn69 [ρ 5] (γ 1) 0 1 (γ 2) := hS69 _ _ _ _ _ (zAllA hl 0)
  have l1 : zOpP (.iadd) (γ 0) (γ 1) [ρ 6, 1] (ρ 7) := zAllA hl 1
  have l2 : sn55 [ρ 9] (γ 3) 0 1 (γ 4) := hS55 _ _ _ _ _ (zAllA hl 2)
  have l3 : zOpP (.l2i) (γ 0) (γ 1) [ρ 9] (ρ 11) := zAllA hl 3
  have l4 : zOpP (.iadd) (γ 0) (γ 1) [ρ 10, ρ 11] (ρ 12) := zAllA hl 4
  have l5 : ρ 1 ≠ 3 := zAllA hl 5
  have wl_0 : ρ 1 ≠ 3 := by omega
  show sn70 [ρ 0, ρ 1, ρ 2, ρ 3, ρ 4] (γ 0) 0 0 (γ 7)
  have hD : en70 (γ 0) (0, [ρ 0, ρ 5], γ 1) = .inr (0, 0, γ 7) := by
    unfold en70
    refine zIP (show (0 : Nat) = 0 by decide) (zLV (γ 1) rfl (zLV (ρ 0) rfl (zLV (ρ 5) rfl (zLE m0 (zLE m2 (zIN w_0 (zLE (show fn69 [ρ 5] (γ 1) = (0, 1, γ 2) from l0.symm) ?_)))))))
    refine zLV (γ 2) rfl (zIP zQ1_ (zIP w_1 (zLE m4 (zLE (zF2_ok l1) (zLE c3.symm (zIP w_2 (zLE m5 ?_)))))))
    refine zLE m6 (zLE (show fn55 [ρ 9] (γ 3) = (0, 1, γ 4) from l2.symm) (zLV (γ 4) rfl (zIP zQ1_ (zLE m7 (zLE (zF1_ok l3) (zLE (zF2_ok l4) (zLE c5.symm ?_)))))))
    refine zLE m8 (zIN w_3 (zIP wl_0 (zLE m9 (zIN w_4 (zLE c6.symm (zLE c7.symm ?_))))))
    rfl
  exact zGoo_aend hJ hD
theorem vn70a0_7 {S : Nat → zSpc} (hS55 : zIm S 55 sn55) (hS67 : zIm S 67 sn67) (hS69 : zIm S 69 sn69) {a : List Int} {g : rHp} : ∀ (ρ : Nat → Int) (γ : Nat → rHp), jn70 a g 0 (zAg (zNA a70_ 0) ρ) (γ 1) → zO 5 S a g q70a0_7 ρ γ → zGl (fun i vs g1 => jn70 a g i vs g1) (sn70 a g) q70a0_7 ρ γ := by
  intro ρ γ hJ h
  obtain ⟨ha, hg, hr, hf, hm, hc, hl⟩ := h
  have ha : a = [ρ 0, ρ 1, ρ 2, ρ 3, ρ 4] := ha
  subst ha
  subst hg
  have hJ : jn70 [ρ 0, ρ 1, ρ 2, ρ 3, ρ 4] (γ 0) 0 [ρ 0, ρ 1, ρ 2, ρ 3, ρ 4, ρ 5] (γ 1) := hJ
  have r1 : (3 : Int) ≤ ρ 1 ∧ ρ 1 ≤ 3 := zRnA hr 1
  have r5 : (0 : Int) ≤ ρ 5 ∧ ρ 5 ≤ 1999 := zRnA hr 5
  have r13 : (1 : Int) ≤ ρ 13 ∧ ρ 13 ≤ 1 := zRnA hr 13
  have f0 : (0 : Int) ≤ -ρ 14 + ρ 9 := zAllA hf 0
  have f1 : (0 : Int) ≤ -ρ 5 + ρ 3 + (-1) := zAllA hf 1
  obtain ⟨w_0, w_1, w_2, w_3, w_4, w_5⟩ : (¬ (ρ 5 ≥ ρ 3)) ∧ (ρ 5 ≠ 2000) ∧ (ρ 1 ≠ 1) ∧ (¬ (ρ 13 = 0)) ∧ (¬ (ρ 1 ≠ 3)) ∧ (ρ 9 ≥ ρ 14) := ⟨by omega, by omega, by omega, by omega, by omega, by omega⟩
  have m0 : γ 0 71 0 (ρ 0) = ρ 1 := zAllA hm 0
  have m2 : γ 0 15 0 90 = ρ 3 := zAllA hm 2
  have m4 : γ 0 106 0 (ρ 5) = ρ 6 := zAllA hm 4
  have m5 : γ 0 72 0 (ρ 0) = ρ 8 := zAllA hm 5
  have m6 : γ 0 103 0 (ρ 8) = ρ 9 := zAllA hm 6
  have m7 : γ 0 107 0 (ρ 5) = ρ 10 := zAllA hm 7
  have m8 : γ 0 109 0 (ρ 5) = ρ 13 := zAllA hm 8
  have m9 : γ 0 108 0 (ρ 5) = ρ 14 := zAllA hm 9
  have c3 : γ 3 = rUp (γ 2) 106 0 (ρ 5) (ρ 7) := And.right (zChA hc 3)
  have c5 : γ 5 = rUp (γ 4) 107 0 (ρ 5) (ρ 12) := And.right (zChA hc 1)
  have c6 : γ 6 = rUp (γ 5) 109 0 (ρ 5) 1 := And.right (zChA hc 0)
  have l0 : sn69 [ρ 5] (γ 1) 0 1 (γ 2) := hS69 _ _ _ _ _ (zAllA hl 0)
  have l1 : zOpP (.iadd) (γ 0) (γ 1) [ρ 6, 1] (ρ 7) := zAllA hl 1
  have l2 : sn55 [ρ 9] (γ 3) 0 1 (γ 4) := hS55 _ _ _ _ _ (zAllA hl 2)
  have l3 : zOpP (.l2i) (γ 0) (γ 1) [ρ 9] (ρ 11) := zAllA hl 3
  have l4 : zOpP (.iadd) (γ 0) (γ 1) [ρ 10, ρ 11] (ρ 12) := zAllA hl 4
  show sn70 [ρ 0, ρ 1, ρ 2, ρ 3, ρ 4] (γ 0) 0 0 (γ 6)
  have hD : en70 (γ 0) (0, [ρ 0, ρ 5], γ 1) = .inr (0, 0, γ 6) := by
    unfold en70
    refine zIP (show (0 : Nat) = 0 by decide) (zLV (γ 1) rfl (zLV (ρ 0) rfl (zLV (ρ 5) rfl (zLE m0 (zLE m2 (zIN w_0 (zLE (show fn69 [ρ 5] (γ 1) = (0, 1, γ 2) from l0.symm) ?_)))))))
    refine zLV (γ 2) rfl (zIP zQ1_ (zIP w_1 (zLE m4 (zLE (zF2_ok l1) (zLE c3.symm (zIP w_2 (zLE m5 ?_)))))))
    refine zLE m6 (zLE (show fn55 [ρ 9] (γ 3) = (0, 1, γ 4) from l2.symm) (zLV (γ 4) rfl (zIP zQ1_ (zLE m7 (zLE (zF1_ok l3) (zLE (zF2_ok l4) (zLE c5.symm ?_)))))))
    refine zLE m8 (zIN w_3 (zIN w_4 (zLE m9 (zIP w_5 (zLE c6.symm ?_)))))
    rfl
  exact zGoo_aend hJ hD
theorem vn70a0_8 {S : Nat → zSpc} (hS55 : zIm S 55 sn55) (hS67 : zIm S 67 sn67) (hS69 : zIm S 69 sn69) {a : List Int} {g : rHp} : ∀ (ρ : Nat → Int) (γ : Nat → rHp), jn70 a g 0 (zAg (zNA a70_ 0) ρ) (γ 1) → zO 5 S a g q70a0_8 ρ γ → zGl (fun i vs g1 => jn70 a g i vs g1) (sn70 a g) q70a0_8 ρ γ := by
  intro ρ γ hJ h
  obtain ⟨ha, hg, hr, hf, hm, hc, hl⟩ := h
  have ha : a = [ρ 0, ρ 1, ρ 2, ρ 3, ρ 4] := ha
  subst ha
  subst hg
  have hJ : jn70 [ρ 0, ρ 1, ρ 2, ρ 3, ρ 4] (γ 0) 0 [ρ 0, ρ 1, ρ 2, ρ 3, ρ 4, ρ 5] (γ 1) := hJ
  have r1 : (3 : Int) ≤ ρ 1 ∧ ρ 1 ≤ 3 := zRnA hr 1
  have r5 : (0 : Int) ≤ ρ 5 ∧ ρ 5 ≤ 1999 := zRnA hr 5
  have r13 : (1 : Int) ≤ ρ 13 ∧ ρ 13 ≤ 1 := zRnA hr 13
  have f0 : (0 : Int) ≤ ρ 14 + -ρ 9 + (-1) := zAllA hf 0
  have f1 : (0 : Int) ≤ -ρ 5 + ρ 3 + (-1) := zAllA hf 1
  obtain ⟨w_0, w_1, w_2, w_3, w_4, w_5⟩ : (¬ (ρ 5 ≥ ρ 3)) ∧ (ρ 5 ≠ 2000) ∧ (ρ 1 ≠ 1) ∧ (¬ (ρ 13 = 0)) ∧ (¬ (ρ 1 ≠ 3)) ∧ (¬ (ρ 9 ≥ ρ 14)) := ⟨by omega, by omega, by omega, by omega, by omega, by omega⟩
  have m0 : γ 0 71 0 (ρ 0) = ρ 1 := zAllA hm 0
  have m2 : γ 0 15 0 90 = ρ 3 := zAllA hm 2
  have m4 : γ 0 106 0 (ρ 5) = ρ 6 := zAllA hm 4
  have m5 : γ 0 72 0 (ρ 0) = ρ 8 := zAllA hm 5
  have m6 : γ 0 103 0 (ρ 8) = ρ 9 := zAllA hm 6
  have m7 : γ 0 107 0 (ρ 5) = ρ 10 := zAllA hm 7
  have m8 : γ 0 109 0 (ρ 5) = ρ 13 := zAllA hm 8
  have m9 : γ 0 108 0 (ρ 5) = ρ 14 := zAllA hm 9
  have c3 : γ 3 = rUp (γ 2) 106 0 (ρ 5) (ρ 7) := And.right (zChA hc 4)
  have c5 : γ 5 = rUp (γ 4) 107 0 (ρ 5) (ρ 12) := And.right (zChA hc 2)
  have c6 : γ 6 = rUp (γ 5) 108 0 (ρ 5) (ρ 9) := And.right (zChA hc 1)
  have c7 : γ 7 = rUp (γ 6) 109 0 (ρ 5) 1 := And.right (zChA hc 0)
  have l0 : sn69 [ρ 5] (γ 1) 0 1 (γ 2) := hS69 _ _ _ _ _ (zAllA hl 0)
  have l1 : zOpP (.iadd) (γ 0) (γ 1) [ρ 6, 1] (ρ 7) := zAllA hl 1
  have l2 : sn55 [ρ 9] (γ 3) 0 1 (γ 4) := hS55 _ _ _ _ _ (zAllA hl 2)
  have l3 : zOpP (.l2i) (γ 0) (γ 1) [ρ 9] (ρ 11) := zAllA hl 3
  have l4 : zOpP (.iadd) (γ 0) (γ 1) [ρ 10, ρ 11] (ρ 12) := zAllA hl 4
  show sn70 [ρ 0, ρ 1, ρ 2, ρ 3, ρ 4] (γ 0) 0 0 (γ 7)
  have hD : en70 (γ 0) (0, [ρ 0, ρ 5], γ 1) = .inr (0, 0, γ 7) := by
    unfold en70
    refine zIP (show (0 : Nat) = 0 by decide) (zLV (γ 1) rfl (zLV (ρ 0) rfl (zLV (ρ 5) rfl (zLE m0 (zLE m2 (zIN w_0 (zLE (show fn69 [ρ 5] (γ 1) = (0, 1, γ 2) from l0.symm) ?_)))))))
    refine zLV (γ 2) rfl (zIP zQ1_ (zIP w_1 (zLE m4 (zLE (zF2_ok l1) (zLE c3.symm (zIP w_2 (zLE m5 ?_)))))))
    refine zLE m6 (zLE (show fn55 [ρ 9] (γ 3) = (0, 1, γ 4) from l2.symm) (zLV (γ 4) rfl (zIP zQ1_ (zLE m7 (zLE (zF1_ok l3) (zLE (zF2_ok l4) (zLE c5.symm ?_)))))))
    refine zLE m8 (zIN w_3 (zIN w_4 (zLE m9 (zIN w_5 (zLE c6.symm (zLE c7.symm ?_))))))
    rfl
  exact zGoo_aend hJ hD
theorem vn70a0_9 {S : Nat → zSpc} (hS55 : zIm S 55 sn55) (hS67 : zIm S 67 sn67) (hS69 : zIm S 69 sn69) {a : List Int} {g : rHp} : ∀ (ρ : Nat → Int) (γ : Nat → rHp), jn70 a g 0 (zAg (zNA a70_ 0) ρ) (γ 1) → zO 5 S a g q70a0_9 ρ γ → zGl (fun i vs g1 => jn70 a g i vs g1) (sn70 a g) q70a0_9 ρ γ := by
  intro ρ γ hJ h
  obtain ⟨ha, hg, hr, hf, hm, hc, hl⟩ := h
  have ha : a = [ρ 0, ρ 1, ρ 2, ρ 3, ρ 4] := ha
  subst ha
  subst hg
  have hJ : jn70 [ρ 0, ρ 1, ρ 2, ρ 3, ρ 4] (γ 0) 0 [ρ 0, ρ 1, ρ 2, ρ 3, ρ 4, ρ 5] (γ 1) := hJ
  have r1 : (1 : Int) ≤ ρ 1 ∧ ρ 1 ≤ 1 := zRnA hr 1
  have r5 : (0 : Int) ≤ ρ 5 ∧ ρ 5 ≤ 1999 := zRnA hr 5
  have f0 : (0 : Int) ≤ -ρ 5 + ρ 3 + (-1) := zAllA hf 0
  obtain ⟨w_0, w_1, w_2⟩ : (¬ (ρ 5 ≥ ρ 3)) ∧ (ρ 5 ≠ 2000) ∧ (¬ (ρ 1 ≠ 1)) := ⟨by omega, by omega, by omega⟩
  have m0 : γ 0 71 0 (ρ 0) = ρ 1 := zAllA hm 0
  have m2 : γ 0 15 0 90 = ρ 3 := zAllA hm 2
  have m4 : γ 0 106 0 (ρ 5) = ρ 6 := zAllA hm 4
  have c3 : γ 3 = rUp (γ 2) 106 0 (ρ 5) (ρ 7) := And.right (zChA hc 0)
  have l0 : sn69 [ρ 5] (γ 1) 0 1 (γ 2) := hS69 _ _ _ _ _ (zAllA hl 0)
  have l1 : zOpP (.iadd) (γ 0) (γ 1) [ρ 6, 1] (ρ 7) := zAllA hl 1
  show sn70 [ρ 0, ρ 1, ρ 2, ρ 3, ρ 4] (γ 0) 0 0 (γ 3)
  have hD : en70 (γ 0) (0, [ρ 0, ρ 5], γ 1) = .inr (0, 0, γ 3) := by
    unfold en70
    refine zIP (show (0 : Nat) = 0 by decide) (zLV (γ 1) rfl (zLV (ρ 0) rfl (zLV (ρ 5) rfl (zLE m0 (zLE m2 (zIN w_0 (zLE (show fn69 [ρ 5] (γ 1) = (0, 1, γ 2) from l0.symm) ?_)))))))
    refine zLV (γ 2) rfl (zIP zQ1_ (zIP w_1 (zLE m4 (zLE (zF2_ok l1) (zLE c3.symm (zIN w_2 ?_))))))
    rfl
  exact zGoo_aend hJ hD
theorem vn70a0_10 {S : Nat → zSpc} (hS55 : zIm S 55 sn55) (hS67 : zIm S 67 sn67) (hS69 : zIm S 69 sn69) {a : List Int} {g : rHp} : ∀ (ρ : Nat → Int) (γ : Nat → rHp), jn70 a g 0 (zAg (zNA a70_ 0) ρ) (γ 1) → zO 5 S a g q70a0_10 ρ γ → zGl (fun i vs g1 => jn70 a g i vs g1) (sn70 a g) q70a0_10 ρ γ := by
  intro ρ γ hJ h
  obtain ⟨ha, hg, hr, hf, hm, hc, hl⟩ := h
  have ha : a = [ρ 0, ρ 1, ρ 2, ρ 3, ρ 4] := ha
  subst ha
  subst hg
  have hJ : jn70 [ρ 0, ρ 1, ρ 2, ρ 3, ρ 4] (γ 0) 0 [ρ 0, ρ 1, ρ 2, ρ 3, ρ 4, ρ 5] (γ 1) := hJ
  have r5 : (2000 : Int) ≤ ρ 5 ∧ ρ 5 ≤ 2000 := zRnA hr 5
  have f0 : (0 : Int) ≤ -ρ 5 + ρ 3 + (-1) := zAllA hf 0
  obtain ⟨w_0, w_1⟩ : (¬ (ρ 5 ≥ ρ 3)) ∧ (¬ (ρ 5 ≠ 2000)) := ⟨by omega, by omega⟩
  have m0 : γ 0 71 0 (ρ 0) = ρ 1 := zAllA hm 0
  have m2 : γ 0 15 0 90 = ρ 3 := zAllA hm 2
  have c3 : γ 3 = rUp (γ 2) 15 0 77 3 := And.right (zChA hc 0)
  have l0 : sn69 [ρ 5] (γ 1) 0 1 (γ 2) := hS69 _ _ _ _ _ (zAllA hl 0)
  show sn70 [ρ 0, ρ 1, ρ 2, ρ 3, ρ 4] (γ 0) 0 0 (γ 3)
  have hD : en70 (γ 0) (0, [ρ 0, ρ 5], γ 1) = .inr (0, 0, γ 3) := by
    unfold en70
    refine zIP (show (0 : Nat) = 0 by decide) (zLV (γ 1) rfl (zLV (ρ 0) rfl (zLV (ρ 5) rfl (zLE m0 (zLE m2 (zIN w_0 (zLE (show fn69 [ρ 5] (γ 1) = (0, 1, γ 2) from l0.symm) ?_)))))))
    refine zLV (γ 2) rfl (zIP zQ1_ (zIN w_1 (zLE c3.symm ?_)))
    rfl
  exact zGoo_aend hJ hD
theorem vn70a1_0 {S : Nat → zSpc} (hS55 : zIm S 55 sn55) (hS67 : zIm S 67 sn67) (hS69 : zIm S 69 sn69) {a : List Int} {g : rHp} : ∀ (ρ : Nat → Int) (γ : Nat → rHp), jn70 a g 1 (zAg (zNA a70_ 1) ρ) (γ 1) → zO 5 S a g q70a1_0 ρ γ → zGl (fun i vs g1 => jn70 a g i vs g1) (sn70 a g) q70a1_0 ρ γ := by
  intro ρ γ hJ h
  obtain ⟨ha, hg, hr, hf, hm, hc, hl⟩ := h
  have ha : a = [ρ 0, ρ 1, ρ 2, ρ 3, ρ 4] := ha
  subst ha
  subst hg
  have hJ : jn70 [ρ 0, ρ 1, ρ 2, ρ 3, ρ 4] (γ 0) 1 [ρ 0, ρ 1, ρ 2, ρ 3, ρ 4, ρ 5, ρ 6] (γ 1) := hJ
  have r1 : (2 : Int) ≤ ρ 1 ∧ ρ 1 ≤ 4 := zRnA hr 1
  have r5 : (4 : Int) ≤ ρ 5 ∧ ρ 5 ≤ 4 := zRnA hr 5
  obtain ⟨w_0, w_1⟩ : (ρ 5 ≥ 4) ∧ (ρ 1 ≠ 1) := ⟨by omega, by omega⟩
  have m0 : γ 0 71 0 (ρ 0) = ρ 1 := zAllA hm 0
  have m2 : γ 0 15 0 90 = ρ 3 := zAllA hm 2
  have m4 : γ 0 72 0 (ρ 0) = ρ 7 := zAllA hm 4
  have m5 : γ 0 103 0 (ρ 7) = ρ 8 := zAllA hm 5
  have c2 : γ 2 = rUp (γ 1) 106 0 (ρ 6) 0 := And.right (zChA hc 5)
  have c3 : γ 3 = rUp (γ 2) 107 0 (ρ 6) 0 := And.right (zChA hc 4)
  have c4 : γ 4 = rUp (γ 3) 109 0 (ρ 6) 0 := And.right (zChA hc 3)
  have c5 : γ 5 = rUp (γ 4) 15 0 90 (ρ 3 + 1) := And.right (zChA hc 2)
  have c6 : γ 6 = rUp (γ 5) 106 0 (ρ 6) 1 := And.right (zChA hc 1)
  have l0 : sn55 [ρ 8] (γ 6) 0 0 (γ 7) := hS55 _ _ _ _ _ (zAllA hl 0)
  show sn70 [ρ 0, ρ 1, ρ 2, ρ 3, ρ 4] (γ 0) 0 0 (γ 7)
  have hD : en70 (γ 0) (1, [ρ 0, ρ 5, ρ 6], γ 1) = .inr (0, 0, γ 7) := by
    unfold en70
    refine zIN (show ¬ (1 : Nat) = 0 by decide) (zIP (show (1 : Nat) = 1 by decide) (zLV (γ 1) rfl (zLV (ρ 0) rfl (zLV (ρ 5) rfl (zLV (ρ 6) rfl (zLE m0 (zLE m2 ?_)))))))
    refine zIP w_0 (zLE c2.symm (zLE c3.symm (zLE c4.symm (zLE c5.symm (zLE c6.symm (zIP w_1 (zLE m4 ?_)))))))
    refine zLE m5 (zLE (show fn55 [ρ 8] (γ 6) = (0, 0, γ 7) from l0.symm) (zLV (γ 7) rfl (zIN zQ0_ ?_)))
    rfl
  exact zGoo_aend hJ hD
theorem vn70a1_1 {S : Nat → zSpc} (hS55 : zIm S 55 sn55) (hS67 : zIm S 67 sn67) (hS69 : zIm S 69 sn69) {a : List Int} {g : rHp} : ∀ (ρ : Nat → Int) (γ : Nat → rHp), jn70 a g 1 (zAg (zNA a70_ 1) ρ) (γ 1) → zO 5 S a g q70a1_1 ρ γ → zGl (fun i vs g1 => jn70 a g i vs g1) (sn70 a g) q70a1_1 ρ γ := by
  intro ρ γ hJ h
  obtain ⟨ha, hg, hr, hf, hm, hc, hl⟩ := h
  have ha : a = [ρ 0, ρ 1, ρ 2, ρ 3, ρ 4] := ha
  subst ha
  subst hg
  have hJ : jn70 [ρ 0, ρ 1, ρ 2, ρ 3, ρ 4] (γ 0) 1 [ρ 0, ρ 1, ρ 2, ρ 3, ρ 4, ρ 5, ρ 6] (γ 1) := hJ
  have r1 : (2 : Int) ≤ ρ 1 ∧ ρ 1 ≤ 4 := zRnA hr 1
  have r5 : (4 : Int) ≤ ρ 5 ∧ ρ 5 ≤ 4 := zRnA hr 5
  obtain ⟨w_0, w_1⟩ : (ρ 5 ≥ 4) ∧ (ρ 1 ≠ 1) := ⟨by omega, by omega⟩
  have m0 : γ 0 71 0 (ρ 0) = ρ 1 := zAllA hm 0
  have m2 : γ 0 15 0 90 = ρ 3 := zAllA hm 2
  have m4 : γ 0 72 0 (ρ 0) = ρ 7 := zAllA hm 4
  have m5 : γ 0 103 0 (ρ 7) = ρ 8 := zAllA hm 5
  have c2 : γ 2 = rUp (γ 1) 106 0 (ρ 6) 0 := And.right (zChA hc 8)
  have c3 : γ 3 = rUp (γ 2) 107 0 (ρ 6) 0 := And.right (zChA hc 7)
  have c4 : γ 4 = rUp (γ 3) 109 0 (ρ 6) 0 := And.right (zChA hc 6)
  have c5 : γ 5 = rUp (γ 4) 15 0 90 (ρ 3 + 1) := And.right (zChA hc 5)
  have c6 : γ 6 = rUp (γ 5) 106 0 (ρ 6) 1 := And.right (zChA hc 4)
  have c8 : γ 8 = rUp (γ 7) 107 0 (ρ 6) (ρ 9) := And.right (zChA hc 2)
  have c9 : γ 9 = rUp (γ 8) 108 0 (ρ 6) (ρ 8) := And.right (zChA hc 1)
  have c10 : γ 10 = rUp (γ 9) 109 0 (ρ 6) 1 := And.right (zChA hc 0)
  have l0 : sn55 [ρ 8] (γ 6) 0 1 (γ 7) := hS55 _ _ _ _ _ (zAllA hl 0)
  have l1 : zOpP (.l2i) (γ 0) (γ 1) [ρ 8] (ρ 9) := zAllA hl 1
  show sn70 [ρ 0, ρ 1, ρ 2, ρ 3, ρ 4] (γ 0) 0 0 (γ 10)
  have hD : en70 (γ 0) (1, [ρ 0, ρ 5, ρ 6], γ 1) = .inr (0, 0, γ 10) := by
    unfold en70
    refine zIN (show ¬ (1 : Nat) = 0 by decide) (zIP (show (1 : Nat) = 1 by decide) (zLV (γ 1) rfl (zLV (ρ 0) rfl (zLV (ρ 5) rfl (zLV (ρ 6) rfl (zLE m0 (zLE m2 ?_)))))))
    refine zIP w_0 (zLE c2.symm (zLE c3.symm (zLE c4.symm (zLE c5.symm (zLE c6.symm (zIP w_1 (zLE m4 ?_)))))))
    refine zLE m5 (zLE (show fn55 [ρ 8] (γ 6) = (0, 1, γ 7) from l0.symm) (zLV (γ 7) rfl (zIP zQ1_ (zLE (zF1_ok l1) (zLE c8.symm (zLE c9.symm (zLE c10.symm ?_)))))))
    rfl
  exact zGoo_aend hJ hD
theorem vn70a1_2 {S : Nat → zSpc} (hS55 : zIm S 55 sn55) (hS67 : zIm S 67 sn67) (hS69 : zIm S 69 sn69) {a : List Int} {g : rHp} : ∀ (ρ : Nat → Int) (γ : Nat → rHp), jn70 a g 1 (zAg (zNA a70_ 1) ρ) (γ 1) → zO 5 S a g q70a1_2 ρ γ → zGl (fun i vs g1 => jn70 a g i vs g1) (sn70 a g) q70a1_2 ρ γ := by
  intro ρ γ hJ h
  obtain ⟨ha, hg, hr, hf, hm, hc, hl⟩ := h
  have ha : a = [ρ 0, ρ 1, ρ 2, ρ 3, ρ 4] := ha
  subst ha
  subst hg
  have hJ : jn70 [ρ 0, ρ 1, ρ 2, ρ 3, ρ 4] (γ 0) 1 [ρ 0, ρ 1, ρ 2, ρ 3, ρ 4, ρ 5, ρ 6] (γ 1) := hJ
  have r1 : (1 : Int) ≤ ρ 1 ∧ ρ 1 ≤ 1 := zRnA hr 1
  have r5 : (4 : Int) ≤ ρ 5 ∧ ρ 5 ≤ 4 := zRnA hr 5
  obtain ⟨w_0, w_1⟩ : (ρ 5 ≥ 4) ∧ (¬ (ρ 1 ≠ 1)) := ⟨by omega, by omega⟩
  have m0 : γ 0 71 0 (ρ 0) = ρ 1 := zAllA hm 0
  have m2 : γ 0 15 0 90 = ρ 3 := zAllA hm 2
  have c2 : γ 2 = rUp (γ 1) 106 0 (ρ 6) 0 := And.right (zChA hc 4)
  have c3 : γ 3 = rUp (γ 2) 107 0 (ρ 6) 0 := And.right (zChA hc 3)
  have c4 : γ 4 = rUp (γ 3) 109 0 (ρ 6) 0 := And.right (zChA hc 2)
  have c5 : γ 5 = rUp (γ 4) 15 0 90 (ρ 3 + 1) := And.right (zChA hc 1)
  have c6 : γ 6 = rUp (γ 5) 106 0 (ρ 6) 1 := And.right (zChA hc 0)
  show sn70 [ρ 0, ρ 1, ρ 2, ρ 3, ρ 4] (γ 0) 0 0 (γ 6)
  have hD : en70 (γ 0) (1, [ρ 0, ρ 5, ρ 6], γ 1) = .inr (0, 0, γ 6) := by
    unfold en70
    refine zIN (show ¬ (1 : Nat) = 0 by decide) (zIP (show (1 : Nat) = 1 by decide) (zLV (γ 1) rfl (zLV (ρ 0) rfl (zLV (ρ 5) rfl (zLV (ρ 6) rfl (zLE m0 (zLE m2 ?_)))))))
    refine zIP w_0 (zLE c2.symm (zLE c3.symm (zLE c4.symm (zLE c5.symm (zLE c6.symm (zIN w_1 ?_))))))
    rfl
  exact zGoo_aend hJ hD
theorem vn70a1_3 {S : Nat → zSpc} (hS55 : zIm S 55 sn55) (hS67 : zIm S 67 sn67) (hS69 : zIm S 69 sn69) {a : List Int} {g : rHp} : ∀ (ρ : Nat → Int) (γ : Nat → rHp), jn70 a g 1 (zAg (zNA a70_ 1) ρ) (γ 1) → zO 5 S a g q70a1_3 ρ γ → zGl (fun i vs g1 => jn70 a g i vs g1) (sn70 a g) q70a1_3 ρ γ := by
  intro ρ γ hJ h
  obtain ⟨ha, hg, hr, hf, hm, hc, hl⟩ := h
  have ha : a = [ρ 0, ρ 1, ρ 2, ρ 3, ρ 4] := ha
  subst ha
  subst hg
  have hJ : jn70 [ρ 0, ρ 1, ρ 2, ρ 3, ρ 4] (γ 0) 1 [ρ 0, ρ 1, ρ 2, ρ 3, ρ 4, ρ 5, ρ 6] (γ 1) := hJ
  have r5 : (0 : Int) ≤ ρ 5 ∧ ρ 5 ≤ 3 := zRnA hr 5
  have w_0 : ¬ (ρ 5 ≥ 4) := by omega
  have m0 : γ 0 71 0 (ρ 0) = ρ 1 := zAllA hm 0
  have m2 : γ 0 15 0 90 = ρ 3 := zAllA hm 2
  have m4 : γ 1 102 0 (ρ 5) = ρ 7 := zAllA hm 4
  have c2 : γ 2 = rUp (γ 1) 105 0 (4 * ρ 6 + ρ 5) (ρ 7) := And.right (zChA hc 0)
  show jn70 [ρ 0, ρ 1, ρ 2, ρ 3, ρ 4] (γ 0) 1 [ρ 0, ρ 1, ρ 2, ρ 3, ρ 4, ρ 5 + 1, ρ 6] (γ 2)
  have hD : en70 (γ 0) (1, [ρ 0, ρ 5, ρ 6], γ 1) = .inl (1, [ρ 0, ρ 5 + 1, ρ 6], γ 2) := by
    unfold en70
    refine zIN (show ¬ (1 : Nat) = 0 by decide) (zIP (show (1 : Nat) = 1 by decide) (zLV (γ 1) rfl (zLV (ρ 0) rfl (zLV (ρ 5) rfl (zLV (ρ 6) rfl (zLE m0 (zLE m2 ?_)))))))
    refine zIN w_0 (zLE m4 (zLE c2.symm ?_))
    rfl
  exact zGoo_ato hJ hD
theorem yn70 {S : Nat → zSpc} (hS55 : zIm S 55 sn55) (hS67 : zIm S 67 sn67) (hS69 : zIm S 69 sn69) : ∀ x g o v gz, zSem uW uT w70_.2.2.2.1 w70_.2.2.1.1.length S q70 (fun i => q70a.getD i []) (zNA a70_) x g o v gz → sn70 x g o v gz := by
  intro a g o v gz h
  exact zSem_all (l0 := q70) (las := q70a) (S := S) (J := (fun i vs g1 => jn70 a g i vs g1)) (P := sn70 a g) (fun _ => (show zAll _ [q70_0] from (zAll_c (vn70_0 hS55 hS67 hS69) zAll_n))) (fun _ => (show zAllI _ 0 [q70a0, q70a1] from ⟨(show zAll _ [q70a0_0, q70a0_1, q70a0_2, q70a0_3, q70a0_4, q70a0_5, q70a0_6, q70a0_7, q70a0_8, q70a0_9, q70a0_10] from (zAll_c (vn70a0_0 hS55 hS67 hS69) (zAll_c (vn70a0_1 hS55 hS67 hS69) (zAll_c (vn70a0_2 hS55 hS67 hS69) (zAll_c (vn70a0_3 hS55 hS67 hS69) (zAll_c (vn70a0_4 hS55 hS67 hS69) (zAll_c (vn70a0_5 hS55 hS67 hS69) (zAll_c (vn70a0_6 hS55 hS67 hS69) (zAll_c (vn70a0_7 hS55 hS67 hS69) (zAll_c (vn70a0_8 hS55 hS67 hS69) (zAll_c (vn70a0_9 hS55 hS67 hS69) (zAll_c (vn70a0_10 hS55 hS67 hS69) zAll_n)))))))))))), ⟨(show zAll _ [q70a1_0, q70a1_1, q70a1_2, q70a1_3] from (zAll_c (vn70a1_0 hS55 hS67 hS69) (zAll_c (vn70a1_1 hS55 hS67 hS69) (zAll_c (vn70a1_2 hS55 hS67 hS69) (zAll_c (vn70a1_3 hS55 hS67 hS69) zAll_n))))), trivial⟩⟩)) h
theorem vn71_0 {S : Nat → zSpc}  {a : List Int} {g : rHp} : ∀ (ρ : Nat → Int) (γ : Nat → rHp), zO 2 S a g q71_0 ρ γ → zGl (fun i vs g1 => jn71 a g i vs g1) (sn71 a g) q71_0 ρ γ := by
  intro ρ γ h
  obtain ⟨ha, hg, hr, hf, hm, hc, hl⟩ := h
  have ha : a = [ρ 0, ρ 1] := ha
  subst ha
  subst hg
  show jn71 [ρ 0, ρ 1] (γ 0) 0 [ρ 0, ρ 1, 0, 0] (γ 0)
  have hD : dn71 [ρ 0] (γ 0) = .inl (0, [ρ 0, 0, 0], γ 0) := by
    unfold dn71
    refine zLV (ρ 0) rfl ?_
    rfl
  exact zGoo_to hD
theorem vn71a0_0 {S : Nat → zSpc}  {a : List Int} {g : rHp} : ∀ (ρ : Nat → Int) (γ : Nat → rHp), jn71 a g 0 (zAg (zNA a71_ 0) ρ) (γ 1) → zO 2 S a g q71a0_0 ρ γ → zGl (fun i vs g1 => jn71 a g i vs g1) (sn71 a g) q71a0_0 ρ γ := by
  intro ρ γ hJ h
  obtain ⟨ha, hg, hr, hf, hm, hc, hl⟩ := h
  have ha : a = [ρ 0, ρ 1] := ha
  subst ha
  subst hg
  have hJ : jn71 [ρ 0, ρ 1] (γ 0) 0 [ρ 0, ρ 1, ρ 2, ρ 3] (γ 1) := hJ
  have f0 : (0 : Int) ≤ ρ 2 + -ρ 1 := zAllA hf 0
  have w_0 : ρ 2 ≥ ρ 1 := by omega
  have m0 : γ 0 73 0 (ρ 0) = ρ 1 := zAllA hm 0
  show sn71 [ρ 0, ρ 1] (γ 0) 0 (ρ 3) (γ 1)
  have hD : en71 (γ 0) (0, [ρ 0, ρ 2, ρ 3], γ 1) = .inr (0, ρ 3, γ 1) := by
    unfold en71
    refine zIP (show (0 : Nat) = 0 by decide) (zLV (γ 1) rfl (zLV (ρ 0) rfl (zLV (ρ 2) rfl (zLV (ρ 3) rfl (zLE m0 (zIP w_0 ?_))))))
    rfl
  exact zGoo_aend hJ hD
theorem vn71a0_1 {S : Nat → zSpc}  {a : List Int} {g : rHp} : ∀ (ρ : Nat → Int) (γ : Nat → rHp), jn71 a g 0 (zAg (zNA a71_ 0) ρ) (γ 1) → zO 2 S a g q71a0_1 ρ γ → zGl (fun i vs g1 => jn71 a g i vs g1) (sn71 a g) q71a0_1 ρ γ := by
  intro ρ γ hJ h
  obtain ⟨ha, hg, hr, hf, hm, hc, hl⟩ := h
  have ha : a = [ρ 0, ρ 1] := ha
  subst ha
  subst hg
  have hJ : jn71 [ρ 0, ρ 1] (γ 0) 0 [ρ 0, ρ 1, ρ 2, ρ 3] (γ 1) := hJ
  have r4 : (1 : Int) ≤ ρ 4 ∧ ρ 4 ≤ 7 := zRnA hr 4
  have f0 : (0 : Int) ≤ -ρ 2 + ρ 1 + (-1) := zAllA hf 0
  obtain ⟨w_0, w_1⟩ : (¬ (ρ 2 ≥ ρ 1)) ∧ (ρ 4 ≠ 0) := ⟨by omega, by omega⟩
  have m0 : γ 0 73 0 (ρ 0) = ρ 1 := zAllA hm 0
  have m1 : γ 0 77 0 (ρ 2 + 8 * ρ 0) = ρ 4 := zAllA hm 1
  show jn71 [ρ 0, ρ 1] (γ 0) 0 [ρ 0, ρ 1, ρ 2 + 1, ρ 3] (γ 1)
  have hD : en71 (γ 0) (0, [ρ 0, ρ 2, ρ 3], γ 1) = .inl (0, [ρ 0, ρ 2 + 1, ρ 3], γ 1) := by
    unfold en71
    refine zIP (show (0 : Nat) = 0 by decide) (zLV (γ 1) rfl (zLV (ρ 0) rfl (zLV (ρ 2) rfl (zLV (ρ 3) rfl (zLE m0 (zIN w_0 (zLE m1 ?_)))))))
    refine zIP w_1 ?_
    rfl
  exact zGoo_ato hJ hD
theorem vn71a0_2 {S : Nat → zSpc}  {a : List Int} {g : rHp} : ∀ (ρ : Nat → Int) (γ : Nat → rHp), jn71 a g 0 (zAg (zNA a71_ 0) ρ) (γ 1) → zO 2 S a g q71a0_2 ρ γ → zGl (fun i vs g1 => jn71 a g i vs g1) (sn71 a g) q71a0_2 ρ γ := by
  intro ρ γ hJ h
  obtain ⟨ha, hg, hr, hf, hm, hc, hl⟩ := h
  have ha : a = [ρ 0, ρ 1] := ha
  subst ha
  subst hg
  have hJ : jn71 [ρ 0, ρ 1] (γ 0) 0 [ρ 0, ρ 1, ρ 2, ρ 3] (γ 1) := hJ
  have r4 : (0 : Int) ≤ ρ 4 ∧ ρ 4 ≤ 0 := zRnA hr 4
  have f0 : (0 : Int) ≤ -ρ 2 + ρ 1 + (-1) := zAllA hf 0
  obtain ⟨w_0, w_1⟩ : (¬ (ρ 2 ≥ ρ 1)) ∧ (¬ (ρ 4 ≠ 0)) := ⟨by omega, by omega⟩
  have m0 : γ 0 73 0 (ρ 0) = ρ 1 := zAllA hm 0
  have m1 : γ 0 77 0 (ρ 2 + 8 * ρ 0) = ρ 4 := zAllA hm 1
  show jn71 [ρ 0, ρ 1] (γ 0) 0 [ρ 0, ρ 1, ρ 2 + 1, ρ 3 + 1] (γ 1)
  have hD : en71 (γ 0) (0, [ρ 0, ρ 2, ρ 3], γ 1) = .inl (0, [ρ 0, ρ 2 + 1, ρ 3 + 1], γ 1) := by
    unfold en71
    refine zIP (show (0 : Nat) = 0 by decide) (zLV (γ 1) rfl (zLV (ρ 0) rfl (zLV (ρ 2) rfl (zLV (ρ 3) rfl (zLE m0 (zIN w_0 (zLE m1 ?_)))))))
    refine zIN w_1 ?_
    rfl
  exact zGoo_ato hJ hD
theorem yn71 {S : Nat → zSpc}  : ∀ x g o v gz, zSem uW uT w71_.2.2.2.1 w71_.2.2.1.1.length S q71 (fun i => q71a.getD i []) (zNA a71_) x g o v gz → sn71 x g o v gz := by
  intro a g o v gz h
  exact zSem_all (l0 := q71) (las := q71a) (S := S) (J := (fun i vs g1 => jn71 a g i vs g1)) (P := sn71 a g) (fun _ => (show zAll _ [q71_0] from (zAll_c (vn71_0 ) zAll_n))) (fun _ => (show zAllI _ 0 [q71a0] from ⟨(show zAll _ [q71a0_0, q71a0_1, q71a0_2] from (zAll_c (vn71a0_0 ) (zAll_c (vn71a0_1 ) (zAll_c (vn71a0_2 ) zAll_n)))), trivial⟩)) h
