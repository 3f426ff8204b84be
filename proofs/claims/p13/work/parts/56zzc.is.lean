/-! ===== the runs are the functions ===== -/
set_option maxRecDepth 100000 in
theorem vn179_0 {S : Nat → zSpc}  {a : List Int} {g : rHp} : ∀ (ρ : Nat → Int) (γ : Nat → rHp), zO 11 S a g q179_0 ρ γ → zGl (fun _ _ _ => True) (sn179 a g) q179_0 ρ γ := by
  intro ρ γ h
  obtain ⟨ha, hg, hr, hf, hm, hc, hl⟩ := h
  have ha : a = [ρ 0, ρ 1, ρ 2, ρ 3, ρ 4, ρ 5, ρ 6, ρ 7, ρ 8, ρ 9, ρ 10] := ha
  subst ha
  subst hg
  have r0 : ((-2147483648) : Int) ≤ ρ 0 ∧ ρ 0 ≤ (-1) := zRnA hr 0
  have w_0 : ρ 0 < 0 := by omega
  have m0 : γ 0 0 0 8 = ρ 1 := zAllA hm 0
  have m1 : γ 0 0 0 9 = ρ 2 := zAllA hm 1
  have m2 : γ 0 1 0 7 = ρ 3 := zAllA hm 2
  have m3 : γ 0 1 0 8 = ρ 4 := zAllA hm 3
  have m4 : γ 0 1 0 9 = ρ 5 := zAllA hm 4
  have m5 : γ 0 1 0 10 = ρ 6 := zAllA hm 5
  have m6 : γ 0 2 0 3 = ρ 7 := zAllA hm 6
  have m7 : γ 0 3 0 1 = ρ 8 := zAllA hm 7
  have m8 : γ 0 4 0 7 = ρ 9 := zAllA hm 8
  have m9 : γ 0 7 0 1 = ρ 10 := zAllA hm 9
  show sn179 [ρ 0, ρ 1, ρ 2, ρ 3, ρ 4, ρ 5, ρ 6, ρ 7, ρ 8, ρ 9, ρ 10] (γ 0) 2 0 (γ 0)
  refine Eq.symm ?_
  show fn179 [ρ 0] (γ 0) = _
  unfold fn179
  refine zLV (ρ 0) rfl (zLE m0 (zLE m1 (zLE m2 (zLE m3 (zLE m4 (zLE m5 (zLE m6 ?_)))))))
  refine zLE m7 (zLE m8 (zLE m9 (zIP w_0 ?_)))
  rfl
set_option maxRecDepth 100000 in
theorem vn179_1 {S : Nat → zSpc}  {a : List Int} {g : rHp} : ∀ (ρ : Nat → Int) (γ : Nat → rHp), zO 11 S a g q179_1 ρ γ → zGl (fun _ _ _ => True) (sn179 a g) q179_1 ρ γ := by
  intro ρ γ h
  obtain ⟨ha, hg, hr, hf, hm, hc, hl⟩ := h
  have ha : a = [ρ 0, ρ 1, ρ 2, ρ 3, ρ 4, ρ 5, ρ 6, ρ 7, ρ 8, ρ 9, ρ 10] := ha
  subst ha
  subst hg
  have r0 : (9 : Int) ≤ ρ 0 ∧ ρ 0 ≤ 9 := zRnA hr 0
  obtain ⟨w_0, w_1, w_2⟩ : (¬ (ρ 0 < 0)) ∧ (ρ 0 < 10) ∧ (ρ 0 = 9) := ⟨by omega, by omega, by omega⟩
  have m0 : γ 0 0 0 8 = ρ 1 := zAllA hm 0
  have m1 : γ 0 0 0 9 = ρ 2 := zAllA hm 1
  have m2 : γ 0 1 0 7 = ρ 3 := zAllA hm 2
  have m3 : γ 0 1 0 8 = ρ 4 := zAllA hm 3
  have m4 : γ 0 1 0 9 = ρ 5 := zAllA hm 4
  have m5 : γ 0 1 0 10 = ρ 6 := zAllA hm 5
  have m6 : γ 0 2 0 3 = ρ 7 := zAllA hm 6
  have m7 : γ 0 3 0 1 = ρ 8 := zAllA hm 7
  have m8 : γ 0 4 0 7 = ρ 9 := zAllA hm 8
  have m9 : γ 0 7 0 1 = ρ 10 := zAllA hm 9
  show sn179 [ρ 0, ρ 1, ρ 2, ρ 3, ρ 4, ρ 5, ρ 6, ρ 7, ρ 8, ρ 9, ρ 10] (γ 0) 0 (ρ 8) (γ 0)
  refine Eq.symm ?_
  show fn179 [ρ 0] (γ 0) = _
  unfold fn179
  refine zLV (ρ 0) rfl (zLE m0 (zLE m1 (zLE m2 (zLE m3 (zLE m4 (zLE m5 (zLE m6 ?_)))))))
  refine zLE m7 (zLE m8 (zLE m9 (zIN w_0 (zIP w_1 (zIP w_2 ?_)))))
  rfl
set_option maxRecDepth 100000 in
theorem vn179_2 {S : Nat → zSpc}  {a : List Int} {g : rHp} : ∀ (ρ : Nat → Int) (γ : Nat → rHp), zO 11 S a g q179_2 ρ γ → zGl (fun _ _ _ => True) (sn179 a g) q179_2 ρ γ := by
  intro ρ γ h
  obtain ⟨ha, hg, hr, hf, hm, hc, hl⟩ := h
  have ha : a = [ρ 0, ρ 1, ρ 2, ρ 3, ρ 4, ρ 5, ρ 6, ρ 7, ρ 8, ρ 9, ρ 10] := ha
  subst ha
  subst hg
  have r0 : (0 : Int) ≤ ρ 0 ∧ ρ 0 ≤ 0 := zRnA hr 0
  obtain ⟨w_0, w_1, w_2, w_3⟩ : (¬ (ρ 0 < 0)) ∧ (ρ 0 < 10) ∧ (¬ (ρ 0 = 9)) ∧ (ρ 0 = 0) := ⟨by omega, by omega, by omega, by omega⟩
  have m0 : γ 0 0 0 8 = ρ 1 := zAllA hm 0
  have m1 : γ 0 0 0 9 = ρ 2 := zAllA hm 1
  have m2 : γ 0 1 0 7 = ρ 3 := zAllA hm 2
  have m3 : γ 0 1 0 8 = ρ 4 := zAllA hm 3
  have m4 : γ 0 1 0 9 = ρ 5 := zAllA hm 4
  have m5 : γ 0 1 0 10 = ρ 6 := zAllA hm 5
  have m6 : γ 0 2 0 3 = ρ 7 := zAllA hm 6
  have m7 : γ 0 3 0 1 = ρ 8 := zAllA hm 7
  have m8 : γ 0 4 0 7 = ρ 9 := zAllA hm 8
  have m9 : γ 0 7 0 1 = ρ 10 := zAllA hm 9
  show sn179 [ρ 0, ρ 1, ρ 2, ρ 3, ρ 4, ρ 5, ρ 6, ρ 7, ρ 8, ρ 9, ρ 10] (γ 0) 0 (ρ 7) (γ 0)
  refine Eq.symm ?_
  show fn179 [ρ 0] (γ 0) = _
  unfold fn179
  refine zLV (ρ 0) rfl (zLE m0 (zLE m1 (zLE m2 (zLE m3 (zLE m4 (zLE m5 (zLE m6 ?_)))))))
  refine zLE m7 (zLE m8 (zLE m9 (zIN w_0 (zIP w_1 (zIN w_2 (zIP w_3 ?_))))))
  rfl
set_option maxRecDepth 100000 in
theorem vn179_3 {S : Nat → zSpc}  {a : List Int} {g : rHp} : ∀ (ρ : Nat → Int) (γ : Nat → rHp), zO 11 S a g q179_3 ρ γ → zGl (fun _ _ _ => True) (sn179 a g) q179_3 ρ γ := by
  intro ρ γ h
  obtain ⟨ha, hg, hr, hf, hm, hc, hl⟩ := h
  have ha : a = [ρ 0, ρ 1, ρ 2, ρ 3, ρ 4, ρ 5, ρ 6, ρ 7, ρ 8, ρ 9, ρ 10] := ha
  subst ha
  subst hg
  have r0 : (1 : Int) ≤ ρ 0 ∧ ρ 0 ≤ 1 := zRnA hr 0
  obtain ⟨w_0, w_1, w_2, w_3, w_4⟩ : (¬ (ρ 0 < 0)) ∧ (ρ 0 < 10) ∧ (¬ (ρ 0 = 9)) ∧ (¬ (ρ 0 = 0)) ∧ (ρ 0 = 1) := ⟨by omega, by omega, by omega, by omega, by omega⟩
  have m0 : γ 0 0 0 8 = ρ 1 := zAllA hm 0
  have m1 : γ 0 0 0 9 = ρ 2 := zAllA hm 1
  have m2 : γ 0 1 0 7 = ρ 3 := zAllA hm 2
  have m3 : γ 0 1 0 8 = ρ 4 := zAllA hm 3
  have m4 : γ 0 1 0 9 = ρ 5 := zAllA hm 4
  have m5 : γ 0 1 0 10 = ρ 6 := zAllA hm 5
  have m6 : γ 0 2 0 3 = ρ 7 := zAllA hm 6
  have m7 : γ 0 3 0 1 = ρ 8 := zAllA hm 7
  have m8 : γ 0 4 0 7 = ρ 9 := zAllA hm 8
  have m9 : γ 0 7 0 1 = ρ 10 := zAllA hm 9
  show sn179 [ρ 0, ρ 1, ρ 2, ρ 3, ρ 4, ρ 5, ρ 6, ρ 7, ρ 8, ρ 9, ρ 10] (γ 0) 0 (ρ 10) (γ 0)
  refine Eq.symm ?_
  show fn179 [ρ 0] (γ 0) = _
  unfold fn179
  refine zLV (ρ 0) rfl (zLE m0 (zLE m1 (zLE m2 (zLE m3 (zLE m4 (zLE m5 (zLE m6 ?_)))))))
  refine zLE m7 (zLE m8 (zLE m9 (zIN w_0 (zIP w_1 (zIN w_2 (zIN w_3 (zIP w_4 ?_)))))))
  rfl
set_option maxRecDepth 100000 in
theorem vn179_4 {S : Nat → zSpc}  {a : List Int} {g : rHp} : ∀ (ρ : Nat → Int) (γ : Nat → rHp), zO 11 S a g q179_4 ρ γ → zGl (fun _ _ _ => True) (sn179 a g) q179_4 ρ γ := by
  intro ρ γ h
  obtain ⟨ha, hg, hr, hf, hm, hc, hl⟩ := h
  have ha : a = [ρ 0, ρ 1, ρ 2, ρ 3, ρ 4, ρ 5, ρ 6, ρ 7, ρ 8, ρ 9, ρ 10] := ha
  subst ha
  subst hg
  have r0 : (2 : Int) ≤ ρ 0 ∧ ρ 0 ≤ 2 := zRnA hr 0
  obtain ⟨w_0, w_1, w_2, w_3, w_4, w_5⟩ : (¬ (ρ 0 < 0)) ∧ (ρ 0 < 10) ∧ (¬ (ρ 0 = 9)) ∧ (¬ (ρ 0 = 0)) ∧ (¬ (ρ 0 = 1)) ∧ (ρ 0 = 2) := ⟨by omega, by omega, by omega, by omega, by omega, by omega⟩
  have m0 : γ 0 0 0 8 = ρ 1 := zAllA hm 0
  have m1 : γ 0 0 0 9 = ρ 2 := zAllA hm 1
  have m2 : γ 0 1 0 7 = ρ 3 := zAllA hm 2
  have m3 : γ 0 1 0 8 = ρ 4 := zAllA hm 3
  have m4 : γ 0 1 0 9 = ρ 5 := zAllA hm 4
  have m5 : γ 0 1 0 10 = ρ 6 := zAllA hm 5
  have m6 : γ 0 2 0 3 = ρ 7 := zAllA hm 6
  have m7 : γ 0 3 0 1 = ρ 8 := zAllA hm 7
  have m8 : γ 0 4 0 7 = ρ 9 := zAllA hm 8
  have m9 : γ 0 7 0 1 = ρ 10 := zAllA hm 9
  show sn179 [ρ 0, ρ 1, ρ 2, ρ 3, ρ 4, ρ 5, ρ 6, ρ 7, ρ 8, ρ 9, ρ 10] (γ 0) 0 (ρ 6) (γ 0)
  refine Eq.symm ?_
  show fn179 [ρ 0] (γ 0) = _
  unfold fn179
  refine zLV (ρ 0) rfl (zLE m0 (zLE m1 (zLE m2 (zLE m3 (zLE m4 (zLE m5 (zLE m6 ?_)))))))
  refine zLE m7 (zLE m8 (zLE m9 (zIN w_0 (zIP w_1 (zIN w_2 (zIN w_3 (zIN w_4 ?_)))))))
  refine zIP w_5 ?_
  rfl
set_option maxRecDepth 100000 in
theorem vn179_5 {S : Nat → zSpc}  {a : List Int} {g : rHp} : ∀ (ρ : Nat → Int) (γ : Nat → rHp), zO 11 S a g q179_5 ρ γ → zGl (fun _ _ _ => True) (sn179 a g) q179_5 ρ γ := by
  intro ρ γ h
  obtain ⟨ha, hg, hr, hf, hm, hc, hl⟩ := h
  have ha : a = [ρ 0, ρ 1, ρ 2, ρ 3, ρ 4, ρ 5, ρ 6, ρ 7, ρ 8, ρ 9, ρ 10] := ha
  subst ha
  subst hg
  have r0 : (3 : Int) ≤ ρ 0 ∧ ρ 0 ≤ 3 := zRnA hr 0
  obtain ⟨w_0, w_1, w_2, w_3, w_4, w_5, w_6⟩ : (¬ (ρ 0 < 0)) ∧ (ρ 0 < 10) ∧ (¬ (ρ 0 = 9)) ∧ (¬ (ρ 0 = 0)) ∧ (¬ (ρ 0 = 1)) ∧ (¬ (ρ 0 = 2)) ∧ (ρ 0 = 3) := ⟨by omega, by omega, by omega, by omega, by omega, by omega, by omega⟩
  have m0 : γ 0 0 0 8 = ρ 1 := zAllA hm 0
  have m1 : γ 0 0 0 9 = ρ 2 := zAllA hm 1
  have m2 : γ 0 1 0 7 = ρ 3 := zAllA hm 2
  have m3 : γ 0 1 0 8 = ρ 4 := zAllA hm 3
  have m4 : γ 0 1 0 9 = ρ 5 := zAllA hm 4
  have m5 : γ 0 1 0 10 = ρ 6 := zAllA hm 5
  have m6 : γ 0 2 0 3 = ρ 7 := zAllA hm 6
  have m7 : γ 0 3 0 1 = ρ 8 := zAllA hm 7
  have m8 : γ 0 4 0 7 = ρ 9 := zAllA hm 8
  have m9 : γ 0 7 0 1 = ρ 10 := zAllA hm 9
  show sn179 [ρ 0, ρ 1, ρ 2, ρ 3, ρ 4, ρ 5, ρ 6, ρ 7, ρ 8, ρ 9, ρ 10] (γ 0) 0 (ρ 5) (γ 0)
  refine Eq.symm ?_
  show fn179 [ρ 0] (γ 0) = _
  unfold fn179
  refine zLV (ρ 0) rfl (zLE m0 (zLE m1 (zLE m2 (zLE m3 (zLE m4 (zLE m5 (zLE m6 ?_)))))))
  refine zLE m7 (zLE m8 (zLE m9 (zIN w_0 (zIP w_1 (zIN w_2 (zIN w_3 (zIN w_4 ?_)))))))
  refine zIN w_5 (zIP w_6 ?_)
  rfl
set_option maxRecDepth 100000 in
theorem vn179_6 {S : Nat → zSpc}  {a : List Int} {g : rHp} : ∀ (ρ : Nat → Int) (γ : Nat → rHp), zO 11 S a g q179_6 ρ γ → zGl (fun _ _ _ => True) (sn179 a g) q179_6 ρ γ := by
  intro ρ γ h
  obtain ⟨ha, hg, hr, hf, hm, hc, hl⟩ := h
  have ha : a = [ρ 0, ρ 1, ρ 2, ρ 3, ρ 4, ρ 5, ρ 6, ρ 7, ρ 8, ρ 9, ρ 10] := ha
  subst ha
  subst hg
  have r0 : (4 : Int) ≤ ρ 0 ∧ ρ 0 ≤ 4 := zRnA hr 0
  obtain ⟨w_0, w_1, w_2, w_3, w_4, w_5, w_6, w_7⟩ : (¬ (ρ 0 < 0)) ∧ (ρ 0 < 10) ∧ (¬ (ρ 0 = 9)) ∧ (¬ (ρ 0 = 0)) ∧ (¬ (ρ 0 = 1)) ∧ (¬ (ρ 0 = 2)) ∧ (¬ (ρ 0 = 3)) ∧ (ρ 0 = 4) := ⟨by omega, by omega, by omega, by omega, by omega, by omega, by omega, by omega⟩
  have m0 : γ 0 0 0 8 = ρ 1 := zAllA hm 0
  have m1 : γ 0 0 0 9 = ρ 2 := zAllA hm 1
  have m2 : γ 0 1 0 7 = ρ 3 := zAllA hm 2
  have m3 : γ 0 1 0 8 = ρ 4 := zAllA hm 3
  have m4 : γ 0 1 0 9 = ρ 5 := zAllA hm 4
  have m5 : γ 0 1 0 10 = ρ 6 := zAllA hm 5
  have m6 : γ 0 2 0 3 = ρ 7 := zAllA hm 6
  have m7 : γ 0 3 0 1 = ρ 8 := zAllA hm 7
  have m8 : γ 0 4 0 7 = ρ 9 := zAllA hm 8
  have m9 : γ 0 7 0 1 = ρ 10 := zAllA hm 9
  show sn179 [ρ 0, ρ 1, ρ 2, ρ 3, ρ 4, ρ 5, ρ 6, ρ 7, ρ 8, ρ 9, ρ 10] (γ 0) 0 (ρ 3) (γ 0)
  refine Eq.symm ?_
  show fn179 [ρ 0] (γ 0) = _
  unfold fn179
  refine zLV (ρ 0) rfl (zLE m0 (zLE m1 (zLE m2 (zLE m3 (zLE m4 (zLE m5 (zLE m6 ?_)))))))
  refine zLE m7 (zLE m8 (zLE m9 (zIN w_0 (zIP w_1 (zIN w_2 (zIN w_3 (zIN w_4 ?_)))))))
  refine zIN w_5 (zIN w_6 (zIP w_7 ?_))
  rfl
set_option maxRecDepth 100000 in
theorem vn179_7 {S : Nat → zSpc}  {a : List Int} {g : rHp} : ∀ (ρ : Nat → Int) (γ : Nat → rHp), zO 11 S a g q179_7 ρ γ → zGl (fun _ _ _ => True) (sn179 a g) q179_7 ρ γ := by
  intro ρ γ h
  obtain ⟨ha, hg, hr, hf, hm, hc, hl⟩ := h
  have ha : a = [ρ 0, ρ 1, ρ 2, ρ 3, ρ 4, ρ 5, ρ 6, ρ 7, ρ 8, ρ 9, ρ 10] := ha
  subst ha
  subst hg
  have r0 : (5 : Int) ≤ ρ 0 ∧ ρ 0 ≤ 5 := zRnA hr 0
  have r11 : (0 : Int) ≤ ρ 11 ∧ ρ 11 ≤ 0 := zRnA hr 11
  obtain ⟨w_0, w_1, w_2, w_3, w_4, w_5, w_6, w_7, w_8, w_9⟩ : (¬ (ρ 0 < 0)) ∧ (ρ 0 < 10) ∧ (¬ (ρ 0 = 9)) ∧ (¬ (ρ 0 = 0)) ∧ (¬ (ρ 0 = 1)) ∧ (¬ (ρ 0 = 2)) ∧ (¬ (ρ 0 = 3)) ∧ (¬ (ρ 0 = 4)) ∧ (ρ 0 = 5) ∧ (ρ 11 = 0) := ⟨by omega, by omega, by omega, by omega, by omega, by omega, by omega, by omega, by omega, by omega⟩
  have m0 : γ 0 0 0 8 = ρ 1 := zAllA hm 0
  have m1 : γ 0 0 0 9 = ρ 2 := zAllA hm 1
  have m2 : γ 0 1 0 7 = ρ 3 := zAllA hm 2
  have m3 : γ 0 1 0 8 = ρ 4 := zAllA hm 3
  have m4 : γ 0 1 0 9 = ρ 5 := zAllA hm 4
  have m5 : γ 0 1 0 10 = ρ 6 := zAllA hm 5
  have m6 : γ 0 2 0 3 = ρ 7 := zAllA hm 6
  have m7 : γ 0 3 0 1 = ρ 8 := zAllA hm 7
  have m8 : γ 0 4 0 7 = ρ 9 := zAllA hm 8
  have m9 : γ 0 7 0 1 = ρ 10 := zAllA hm 9
  have m10 : γ 0 0 0 7 = ρ 11 := zAllA hm 10
  show sn179 [ρ 0, ρ 1, ρ 2, ρ 3, ρ 4, ρ 5, ρ 6, ρ 7, ρ 8, ρ 9, ρ 10] (γ 0) 0 0 (γ 0)
  refine Eq.symm ?_
  show fn179 [ρ 0] (γ 0) = _
  unfold fn179
  refine zLV (ρ 0) rfl (zLE m0 (zLE m1 (zLE m2 (zLE m3 (zLE m4 (zLE m5 (zLE m6 ?_)))))))
  refine zLE m7 (zLE m8 (zLE m9 (zIN w_0 (zIP w_1 (zIN w_2 (zIN w_3 (zIN w_4 ?_)))))))
  refine zIN w_5 (zIN w_6 (zIN w_7 (zIP w_8 (zLE m10 (zIP w_9 ?_)))))
  rfl
set_option maxRecDepth 100000 in
theorem vn179_8 {S : Nat → zSpc}  {a : List Int} {g : rHp} : ∀ (ρ : Nat → Int) (γ : Nat → rHp), zO 11 S a g q179_8 ρ γ → zGl (fun _ _ _ => True) (sn179 a g) q179_8 ρ γ := by
  intro ρ γ h
  obtain ⟨ha, hg, hr, hf, hm, hc, hl⟩ := h
  have ha : a = [ρ 0, ρ 1, ρ 2, ρ 3, ρ 4, ρ 5, ρ 6, ρ 7, ρ 8, ρ 9, ρ 10] := ha
  subst ha
  subst hg
  have r0 : (5 : Int) ≤ ρ 0 ∧ ρ 0 ≤ 5 := zRnA hr 0
  have r11 : (1 : Int) ≤ ρ 11 ∧ ρ 11 ≤ 1 := zRnA hr 11
  obtain ⟨w_0, w_1, w_2, w_3, w_4, w_5, w_6, w_7, w_8, w_9⟩ : (¬ (ρ 0 < 0)) ∧ (ρ 0 < 10) ∧ (¬ (ρ 0 = 9)) ∧ (¬ (ρ 0 = 0)) ∧ (¬ (ρ 0 = 1)) ∧ (¬ (ρ 0 = 2)) ∧ (¬ (ρ 0 = 3)) ∧ (¬ (ρ 0 = 4)) ∧ (ρ 0 = 5) ∧ (¬ (ρ 11 = 0)) := ⟨by omega, by omega, by omega, by omega, by omega, by omega, by omega, by omega, by omega, by omega⟩
  have m0 : γ 0 0 0 8 = ρ 1 := zAllA hm 0
  have m1 : γ 0 0 0 9 = ρ 2 := zAllA hm 1
  have m2 : γ 0 1 0 7 = ρ 3 := zAllA hm 2
  have m3 : γ 0 1 0 8 = ρ 4 := zAllA hm 3
  have m4 : γ 0 1 0 9 = ρ 5 := zAllA hm 4
  have m5 : γ 0 1 0 10 = ρ 6 := zAllA hm 5
  have m6 : γ 0 2 0 3 = ρ 7 := zAllA hm 6
  have m7 : γ 0 3 0 1 = ρ 8 := zAllA hm 7
  have m8 : γ 0 4 0 7 = ρ 9 := zAllA hm 8
  have m9 : γ 0 7 0 1 = ρ 10 := zAllA hm 9
  have m10 : γ 0 0 0 7 = ρ 11 := zAllA hm 10
  show sn179 [ρ 0, ρ 1, ρ 2, ρ 3, ρ 4, ρ 5, ρ 6, ρ 7, ρ 8, ρ 9, ρ 10] (γ 0) 0 (ρ 9) (γ 0)
  refine Eq.symm ?_
  show fn179 [ρ 0] (γ 0) = _
  unfold fn179
  refine zLV (ρ 0) rfl (zLE m0 (zLE m1 (zLE m2 (zLE m3 (zLE m4 (zLE m5 (zLE m6 ?_)))))))
  refine zLE m7 (zLE m8 (zLE m9 (zIN w_0 (zIP w_1 (zIN w_2 (zIN w_3 (zIN w_4 ?_)))))))
  refine zIN w_5 (zIN w_6 (zIN w_7 (zIP w_8 (zLE m10 (zIN w_9 ?_)))))
  rfl
set_option maxRecDepth 100000 in
theorem vn179_9 {S : Nat → zSpc}  {a : List Int} {g : rHp} : ∀ (ρ : Nat → Int) (γ : Nat → rHp), zO 11 S a g q179_9 ρ γ → zGl (fun _ _ _ => True) (sn179 a g) q179_9 ρ γ := by
  intro ρ γ h
  obtain ⟨ha, hg, hr, hf, hm, hc, hl⟩ := h
  have ha : a = [ρ 0, ρ 1, ρ 2, ρ 3, ρ 4, ρ 5, ρ 6, ρ 7, ρ 8, ρ 9, ρ 10] := ha
  subst ha
  subst hg
  have r0 : (6 : Int) ≤ ρ 0 ∧ ρ 0 ≤ 6 := zRnA hr 0
  obtain ⟨w_0, w_1, w_2, w_3, w_4, w_5, w_6, w_7, w_8, w_9⟩ : (¬ (ρ 0 < 0)) ∧ (ρ 0 < 10) ∧ (¬ (ρ 0 = 9)) ∧ (¬ (ρ 0 = 0)) ∧ (¬ (ρ 0 = 1)) ∧ (¬ (ρ 0 = 2)) ∧ (¬ (ρ 0 = 3)) ∧ (¬ (ρ 0 = 4)) ∧ (¬ (ρ 0 = 5)) ∧ (ρ 0 = 6) := ⟨by omega, by omega, by omega, by omega, by omega, by omega, by omega, by omega, by omega, by omega⟩
  have m0 : γ 0 0 0 8 = ρ 1 := zAllA hm 0
  have m1 : γ 0 0 0 9 = ρ 2 := zAllA hm 1
  have m2 : γ 0 1 0 7 = ρ 3 := zAllA hm 2
  have m3 : γ 0 1 0 8 = ρ 4 := zAllA hm 3
  have m4 : γ 0 1 0 9 = ρ 5 := zAllA hm 4
  have m5 : γ 0 1 0 10 = ρ 6 := zAllA hm 5
  have m6 : γ 0 2 0 3 = ρ 7 := zAllA hm 6
  have m7 : γ 0 3 0 1 = ρ 8 := zAllA hm 7
  have m8 : γ 0 4 0 7 = ρ 9 := zAllA hm 8
  have m9 : γ 0 7 0 1 = ρ 10 := zAllA hm 9
  show sn179 [ρ 0, ρ 1, ρ 2, ρ 3, ρ 4, ρ 5, ρ 6, ρ 7, ρ 8, ρ 9, ρ 10] (γ 0) 0 (ρ 1) (γ 0)
  refine Eq.symm ?_
  show fn179 [ρ 0] (γ 0) = _
  unfold fn179
  refine zLV (ρ 0) rfl (zLE m0 (zLE m1 (zLE m2 (zLE m3 (zLE m4 (zLE m5 (zLE m6 ?_)))))))
  refine zLE m7 (zLE m8 (zLE m9 (zIN w_0 (zIP w_1 (zIN w_2 (zIN w_3 (zIN w_4 ?_)))))))
  refine zIN w_5 (zIN w_6 (zIN w_7 (zIN w_8 (zIP w_9 ?_))))
  rfl
set_option maxRecDepth 100000 in
theorem vn179_10 {S : Nat → zSpc}  {a : List Int} {g : rHp} : ∀ (ρ : Nat → Int) (γ : Nat → rHp), zO 11 S a g q179_10 ρ γ → zGl (fun _ _ _ => True) (sn179 a g) q179_10 ρ γ := by
  intro ρ γ h
  obtain ⟨ha, hg, hr, hf, hm, hc, hl⟩ := h
  have ha : a = [ρ 0, ρ 1, ρ 2, ρ 3, ρ 4, ρ 5, ρ 6, ρ 7, ρ 8, ρ 9, ρ 10] := ha
  subst ha
  subst hg
  have r0 : (7 : Int) ≤ ρ 0 ∧ ρ 0 ≤ 7 := zRnA hr 0
  obtain ⟨w_0, w_1, w_2, w_3, w_4, w_5, w_6, w_7, w_8, w_9, w_10⟩ : (¬ (ρ 0 < 0)) ∧ (ρ 0 < 10) ∧ (¬ (ρ 0 = 9)) ∧ (¬ (ρ 0 = 0)) ∧ (¬ (ρ 0 = 1)) ∧ (¬ (ρ 0 = 2)) ∧ (¬ (ρ 0 = 3)) ∧ (¬ (ρ 0 = 4)) ∧ (¬ (ρ 0 = 5)) ∧ (¬ (ρ 0 = 6)) ∧ (ρ 0 = 7) := ⟨by omega, by omega, by omega, by omega, by omega, by omega, by omega, by omega, by omega, by omega, by omega⟩
  have m0 : γ 0 0 0 8 = ρ 1 := zAllA hm 0
  have m1 : γ 0 0 0 9 = ρ 2 := zAllA hm 1
  have m2 : γ 0 1 0 7 = ρ 3 := zAllA hm 2
  have m3 : γ 0 1 0 8 = ρ 4 := zAllA hm 3
  have m4 : γ 0 1 0 9 = ρ 5 := zAllA hm 4
  have m5 : γ 0 1 0 10 = ρ 6 := zAllA hm 5
  have m6 : γ 0 2 0 3 = ρ 7 := zAllA hm 6
  have m7 : γ 0 3 0 1 = ρ 8 := zAllA hm 7
  have m8 : γ 0 4 0 7 = ρ 9 := zAllA hm 8
  have m9 : γ 0 7 0 1 = ρ 10 := zAllA hm 9
  show sn179 [ρ 0, ρ 1, ρ 2, ρ 3, ρ 4, ρ 5, ρ 6, ρ 7, ρ 8, ρ 9, ρ 10] (γ 0) 0 (ρ 2) (γ 0)
  refine Eq.symm ?_
  show fn179 [ρ 0] (γ 0) = _
  unfold fn179
  refine zLV (ρ 0) rfl (zLE m0 (zLE m1 (zLE m2 (zLE m3 (zLE m4 (zLE m5 (zLE m6 ?_)))))))
  refine zLE m7 (zLE m8 (zLE m9 (zIN w_0 (zIP w_1 (zIN w_2 (zIN w_3 (zIN w_4 ?_)))))))
  refine zIN w_5 (zIN w_6 (zIN w_7 (zIN w_8 (zIN w_9 (zIP w_10 ?_)))))
  rfl
set_option maxRecDepth 100000 in
theorem vn179_11 {S : Nat → zSpc}  {a : List Int} {g : rHp} : ∀ (ρ : Nat → Int) (γ : Nat → rHp), zO 11 S a g q179_11 ρ γ → zGl (fun _ _ _ => True) (sn179 a g) q179_11 ρ γ := by
  intro ρ γ h
  obtain ⟨ha, hg, hr, hf, hm, hc, hl⟩ := h
  have ha : a = [ρ 0, ρ 1, ρ 2, ρ 3, ρ 4, ρ 5, ρ 6, ρ 7, ρ 8, ρ 9, ρ 10] := ha
  subst ha
  subst hg
  have r0 : (8 : Int) ≤ ρ 0 ∧ ρ 0 ≤ 8 := zRnA hr 0
  have r11 : (0 : Int) ≤ ρ 11 ∧ ρ 11 ≤ 0 := zRnA hr 11
  obtain ⟨w_0, w_1, w_2, w_3, w_4, w_5, w_6, w_7, w_8, w_9, w_10, w_11⟩ : (¬ (ρ 0 < 0)) ∧ (ρ 0 < 10) ∧ (¬ (ρ 0 = 9)) ∧ (¬ (ρ 0 = 0)) ∧ (¬ (ρ 0 = 1)) ∧ (¬ (ρ 0 = 2)) ∧ (¬ (ρ 0 = 3)) ∧ (¬ (ρ 0 = 4)) ∧ (¬ (ρ 0 = 5)) ∧ (¬ (ρ 0 = 6)) ∧ (¬ (ρ 0 = 7)) ∧ (ρ 11 = 0) := ⟨by omega, by omega, by omega, by omega, by omega, by omega, by omega, by omega, by omega, by omega, by omega, by omega⟩
  have m0 : γ 0 0 0 8 = ρ 1 := zAllA hm 0
  have m1 : γ 0 0 0 9 = ρ 2 := zAllA hm 1
  have m2 : γ 0 1 0 7 = ρ 3 := zAllA hm 2
  have m3 : γ 0 1 0 8 = ρ 4 := zAllA hm 3
  have m4 : γ 0 1 0 9 = ρ 5 := zAllA hm 4
  have m5 : γ 0 1 0 10 = ρ 6 := zAllA hm 5
  have m6 : γ 0 2 0 3 = ρ 7 := zAllA hm 6
  have m7 : γ 0 3 0 1 = ρ 8 := zAllA hm 7
  have m8 : γ 0 4 0 7 = ρ 9 := zAllA hm 8
  have m9 : γ 0 7 0 1 = ρ 10 := zAllA hm 9
  have m10 : γ 0 0 0 7 = ρ 11 := zAllA hm 10
  show sn179 [ρ 0, ρ 1, ρ 2, ρ 3, ρ 4, ρ 5, ρ 6, ρ 7, ρ 8, ρ 9, ρ 10] (γ 0) 0 0 (γ 0)
  refine Eq.symm ?_
  show fn179 [ρ 0] (γ 0) = _
  unfold fn179
  refine zLV (ρ 0) rfl (zLE m0 (zLE m1 (zLE m2 (zLE m3 (zLE m4 (zLE m5 (zLE m6 ?_)))))))
  refine zLE m7 (zLE m8 (zLE m9 (zIN w_0 (zIP w_1 (zIN w_2 (zIN w_3 (zIN w_4 ?_)))))))
  refine zIN w_5 (zIN w_6 (zIN w_7 (zIN w_8 (zIN w_9 (zIN w_10 (zLE m10 (zIP w_11 ?_)))))))
  rfl
set_option maxRecDepth 100000 in
theorem vn179_12 {S : Nat → zSpc}  {a : List Int} {g : rHp} : ∀ (ρ : Nat → Int) (γ : Nat → rHp), zO 11 S a g q179_12 ρ γ → zGl (fun _ _ _ => True) (sn179 a g) q179_12 ρ γ := by
  intro ρ γ h
  obtain ⟨ha, hg, hr, hf, hm, hc, hl⟩ := h
  have ha : a = [ρ 0, ρ 1, ρ 2, ρ 3, ρ 4, ρ 5, ρ 6, ρ 7, ρ 8, ρ 9, ρ 10] := ha
  subst ha
  subst hg
  have r0 : (8 : Int) ≤ ρ 0 ∧ ρ 0 ≤ 8 := zRnA hr 0
  have r11 : (1 : Int) ≤ ρ 11 ∧ ρ 11 ≤ 1 := zRnA hr 11
  obtain ⟨w_0, w_1, w_2, w_3, w_4, w_5, w_6, w_7, w_8, w_9, w_10, w_11⟩ : (¬ (ρ 0 < 0)) ∧ (ρ 0 < 10) ∧ (¬ (ρ 0 = 9)) ∧ (¬ (ρ 0 = 0)) ∧ (¬ (ρ 0 = 1)) ∧ (¬ (ρ 0 = 2)) ∧ (¬ (ρ 0 = 3)) ∧ (¬ (ρ 0 = 4)) ∧ (¬ (ρ 0 = 5)) ∧ (¬ (ρ 0 = 6)) ∧ (¬ (ρ 0 = 7)) ∧ (¬ (ρ 11 = 0)) := ⟨by omega, by omega, by omega, by omega, by omega, by omega, by omega, by omega, by omega, by omega, by omega, by omega⟩
  have m0 : γ 0 0 0 8 = ρ 1 := zAllA hm 0
  have m1 : γ 0 0 0 9 = ρ 2 := zAllA hm 1
  have m2 : γ 0 1 0 7 = ρ 3 := zAllA hm 2
  have m3 : γ 0 1 0 8 = ρ 4 := zAllA hm 3
  have m4 : γ 0 1 0 9 = ρ 5 := zAllA hm 4
  have m5 : γ 0 1 0 10 = ρ 6 := zAllA hm 5
  have m6 : γ 0 2 0 3 = ρ 7 := zAllA hm 6
  have m7 : γ 0 3 0 1 = ρ 8 := zAllA hm 7
  have m8 : γ 0 4 0 7 = ρ 9 := zAllA hm 8
  have m9 : γ 0 7 0 1 = ρ 10 := zAllA hm 9
  have m10 : γ 0 0 0 7 = ρ 11 := zAllA hm 10
  show sn179 [ρ 0, ρ 1, ρ 2, ρ 3, ρ 4, ρ 5, ρ 6, ρ 7, ρ 8, ρ 9, ρ 10] (γ 0) 0 (ρ 4) (γ 0)
  refine Eq.symm ?_
  show fn179 [ρ 0] (γ 0) = _
  unfold fn179
  refine zLV (ρ 0) rfl (zLE m0 (zLE m1 (zLE m2 (zLE m3 (zLE m4 (zLE m5 (zLE m6 ?_)))))))
  refine zLE m7 (zLE m8 (zLE m9 (zIN w_0 (zIP w_1 (zIN w_2 (zIN w_3 (zIN w_4 ?_)))))))
  refine zIN w_5 (zIN w_6 (zIN w_7 (zIN w_8 (zIN w_9 (zIN w_10 (zLE m10 (zIN w_11 ?_)))))))
  rfl
set_option maxRecDepth 100000 in
theorem vn179_13 {S : Nat → zSpc}  {a : List Int} {g : rHp} : ∀ (ρ : Nat → Int) (γ : Nat → rHp), zO 11 S a g q179_13 ρ γ → zGl (fun _ _ _ => True) (sn179 a g) q179_13 ρ γ := by
  intro ρ γ h
  obtain ⟨ha, hg, hr, hf, hm, hc, hl⟩ := h
  have ha : a = [ρ 0, ρ 1, ρ 2, ρ 3, ρ 4, ρ 5, ρ 6, ρ 7, ρ 8, ρ 9, ρ 10] := ha
  subst ha
  subst hg
  have r0 : (10 : Int) ≤ ρ 0 ∧ ρ 0 ≤ 2147483647 := zRnA hr 0
  obtain ⟨w_0, w_1⟩ : (¬ (ρ 0 < 0)) ∧ (¬ (ρ 0 < 10)) := ⟨by omega, by omega⟩
  have m0 : γ 0 0 0 8 = ρ 1 := zAllA hm 0
  have m1 : γ 0 0 0 9 = ρ 2 := zAllA hm 1
  have m2 : γ 0 1 0 7 = ρ 3 := zAllA hm 2
  have m3 : γ 0 1 0 8 = ρ 4 := zAllA hm 3
  have m4 : γ 0 1 0 9 = ρ 5 := zAllA hm 4
  have m5 : γ 0 1 0 10 = ρ 6 := zAllA hm 5
  have m6 : γ 0 2 0 3 = ρ 7 := zAllA hm 6
  have m7 : γ 0 3 0 1 = ρ 8 := zAllA hm 7
  have m8 : γ 0 4 0 7 = ρ 9 := zAllA hm 8
  have m9 : γ 0 7 0 1 = ρ 10 := zAllA hm 9
  show sn179 [ρ 0, ρ 1, ρ 2, ρ 3, ρ 4, ρ 5, ρ 6, ρ 7, ρ 8, ρ 9, ρ 10] (γ 0) 2 0 (γ 0)
  refine Eq.symm ?_
  show fn179 [ρ 0] (γ 0) = _
  unfold fn179
  refine zLV (ρ 0) rfl (zLE m0 (zLE m1 (zLE m2 (zLE m3 (zLE m4 (zLE m5 (zLE m6 ?_)))))))
  refine zLE m7 (zLE m8 (zLE m9 (zIN w_0 (zIN w_1 ?_))))
  rfl
set_option maxRecDepth 100000 in
theorem yn179 {S : Nat → zSpc}  : ∀ x g o v gz, zSem uW uT w179_.2.2.2.1 w179_.2.2.1.1.length S q179 (fun i => q179a.getD i []) (zNA a179_) x g o v gz → sn179 x g o v gz := by
  intro a g o v gz h
  exact zSem_all (l0 := q179) (las := q179a) (S := S) (J := (fun _ _ _ => True)) (P := sn179 a g) (fun _ => (show zAll _ [q179_0, q179_1, q179_2, q179_3, q179_4, q179_5, q179_6, q179_7, q179_8, q179_9, q179_10, q179_11, q179_12, q179_13] from (zAll_c (vn179_0 ) (zAll_c (vn179_1 ) (zAll_c (vn179_2 ) (zAll_c (vn179_3 ) (zAll_c (vn179_4 ) (zAll_c (vn179_5 ) (zAll_c (vn179_6 ) (zAll_c (vn179_7 ) (zAll_c (vn179_8 ) (zAll_c (vn179_9 ) (zAll_c (vn179_10 ) (zAll_c (vn179_11 ) (zAll_c (vn179_12 ) (zAll_c (vn179_13 ) zAll_n)))))))))))))))) (fun _ => (show zAllI _ 0 [] from trivial)) h
set_option maxRecDepth 100000 in
theorem vn180_0 {S : Nat → zSpc}  {a : List Int} {g : rHp} : ∀ (ρ : Nat → Int) (γ : Nat → rHp), zO 1 S a g q180_0 ρ γ → zGl (fun _ _ _ => True) (sn180 a g) q180_0 ρ γ := by
  intro ρ γ h
  obtain ⟨ha, hg, hr, hf, hm, hc, hl⟩ := h
  have ha : a = [ρ 0] := ha
  subst ha
  subst hg
  have c1 : γ 1 = rUp (γ 0) 7 0 1 0 := And.right (zChA hc 0)
  show sn180 [ρ 0] (γ 0) 0 0 (γ 1)
  refine Eq.symm ?_
  show fn180 [] (γ 0) = _
  unfold fn180
  refine zLE c1.symm ?_
  rfl
set_option maxRecDepth 100000 in
theorem yn180 {S : Nat → zSpc}  : ∀ x g o v gz, zSem uW uT w180_.2.2.2.1 w180_.2.2.1.1.length S q180 (fun i => q180a.getD i []) (zNA a180_) x g o v gz → sn180 x g o v gz := by
  intro a g o v gz h
  exact zSem_all (l0 := q180) (las := q180a) (S := S) (J := (fun _ _ _ => True)) (P := sn180 a g) (fun _ => (show zAll _ [q180_0] from (zAll_c (vn180_0 ) zAll_n))) (fun _ => (show zAllI _ 0 [] from trivial)) h
set_option maxRecDepth 100000 in
theorem vn181_0 {S : Nat → zSpc}  {a : List Int} {g : rHp} : ∀ (ρ : Nat → Int) (γ : Nat → rHp), zO 2 S a g q181_0 ρ γ → zGl (fun _ _ _ => True) (sn181 a g) q181_0 ρ γ := by
  intro ρ γ h
  obtain ⟨ha, hg, hr, hf, hm, hc, hl⟩ := h
  have ha : a = [ρ 0, ρ 1] := ha
  subst ha
  subst hg
  have r1 : (200 : Int) ≤ ρ 1 ∧ ρ 1 ≤ 200 := zRnA hr 1
  have w_0 : ρ 1 ≥ 200 := by omega
  have m0 : γ 0 7 0 1 = ρ 1 := zAllA hm 0
  show sn181 [ρ 0, ρ 1] (γ 0) 0 0 (γ 0)
  refine Eq.symm ?_
  show fn181 [ρ 0] (γ 0) = _
  unfold fn181
  refine zLV (ρ 0) rfl (zLE m0 (zIP w_0 ?_))
  rfl
set_option maxRecDepth 100000 in
theorem vn181_1 {S : Nat → zSpc}  {a : List Int} {g : rHp} : ∀ (ρ : Nat → Int) (γ : Nat → rHp), zO 2 S a g q181_1 ρ γ → zGl (fun _ _ _ => True) (sn181 a g) q181_1 ρ γ := by
  intro ρ γ h
  obtain ⟨ha, hg, hr, hf, hm, hc, hl⟩ := h
  have ha : a = [ρ 0, ρ 1] := ha
  subst ha
  subst hg
  have r1 : (0 : Int) ≤ ρ 1 ∧ ρ 1 ≤ 199 := zRnA hr 1
  have w_0 : ¬ (ρ 1 ≥ 200) := by omega
  have m0 : γ 0 7 0 1 = ρ 1 := zAllA hm 0
  have c1 : γ 1 = rUp (γ 0) 39 0 (ρ 1) (ρ 2) := And.right (zChA hc 1)
  have c2 : γ 2 = rUp (γ 1) 7 0 1 (ρ 1 + 1) := And.right (zChA hc 0)
  have l0 : zOpP (.i2b) (γ 0) (γ 1) [ρ 0] (ρ 2) := zAllA hl 0
  show sn181 [ρ 0, ρ 1] (γ 0) 0 0 (γ 2)
  refine Eq.symm ?_
  show fn181 [ρ 0] (γ 0) = _
  unfold fn181
  refine zLV (ρ 0) rfl (zLE m0 (zIN w_0 (zLE (zF1_ok l0) (zLE c1.symm (zLE c2.symm ?_)))))
  rfl
set_option maxRecDepth 100000 in
theorem yn181 {S : Nat → zSpc}  : ∀ x g o v gz, zSem uW uT w181_.2.2.2.1 w181_.2.2.1.1.length S q181 (fun i => q181a.getD i []) (zNA a181_) x g o v gz → sn181 x g o v gz := by
  intro a g o v gz h
  exact zSem_all (l0 := q181) (las := q181a) (S := S) (J := (fun _ _ _ => True)) (P := sn181 a g) (fun _ => (show zAll _ [q181_0, q181_1] from (zAll_c (vn181_0 ) (zAll_c (vn181_1 ) zAll_n)))) (fun _ => (show zAllI _ 0 [] from trivial)) h
set_option maxRecDepth 100000 in
theorem vn182_0 {S : Nat → zSpc}  {a : List Int} {g : rHp} : ∀ (ρ : Nat → Int) (γ : Nat → rHp), zO 1 S a g q182_0 ρ γ → zGl (fun _ _ _ => True) (sn182 a g) q182_0 ρ γ := by
  intro ρ γ h
  obtain ⟨ha, hg, hr, hf, hm, hc, hl⟩ := h
  have ha : a = [ρ 0] := ha
  subst ha
  subst hg
  have r0 : (37 : Int) ≤ ρ 0 ∧ ρ 0 ≤ 2147483647 := zRnA hr 0
  obtain ⟨w_0, w_1⟩ : (ρ 0 > 26) ∧ (ρ 0 > 36) := ⟨by omega, by omega⟩
  show sn182 [ρ 0] (γ 0) 0 95 (γ 0)
  refine Eq.symm ?_
  show fn182 [ρ 0] (γ 0) = _
  unfold fn182
  refine zLV (ρ 0) rfl (zIP w_0 (zIP w_1 ?_))
  rfl
set_option maxRecDepth 100000 in
theorem vn182_1 {S : Nat → zSpc}  {a : List Int} {g : rHp} : ∀ (ρ : Nat → Int) (γ : Nat → rHp), zO 1 S a g q182_1 ρ γ → zGl (fun _ _ _ => True) (sn182 a g) q182_1 ρ γ := by
  intro ρ γ h
  obtain ⟨ha, hg, hr, hf, hm, hc, hl⟩ := h
  have ha : a = [ρ 0] := ha
  subst ha
  subst hg
  have r0 : (27 : Int) ≤ ρ 0 ∧ ρ 0 ≤ 36 := zRnA hr 0
  obtain ⟨w_0, w_1⟩ : (ρ 0 > 26) ∧ (¬ (ρ 0 > 36)) := ⟨by omega, by omega⟩
  show sn182 [ρ 0] (γ 0) 0 (ρ 0 + 21) (γ 0)
  refine Eq.symm ?_
  show fn182 [ρ 0] (γ 0) = _
  unfold fn182
  refine zLV (ρ 0) rfl (zIP w_0 (zIN w_1 ?_))
  rfl
set_option maxRecDepth 100000 in
theorem vn182_2 {S : Nat → zSpc}  {a : List Int} {g : rHp} : ∀ (ρ : Nat → Int) (γ : Nat → rHp), zO 1 S a g q182_2 ρ γ → zGl (fun _ _ _ => True) (sn182 a g) q182_2 ρ γ := by
  intro ρ γ h
  obtain ⟨ha, hg, hr, hf, hm, hc, hl⟩ := h
  have ha : a = [ρ 0] := ha
  subst ha
  subst hg
  have r0 : ((-2147483648) : Int) ≤ ρ 0 ∧ ρ 0 ≤ 26 := zRnA hr 0
  have w_0 : ¬ (ρ 0 > 26) := by omega
  show sn182 [ρ 0] (γ 0) 0 (ρ 0 + 96) (γ 0)
  refine Eq.symm ?_
  show fn182 [ρ 0] (γ 0) = _
  unfold fn182
  refine zLV (ρ 0) rfl (zIN w_0 ?_)
  rfl
set_option maxRecDepth 100000 in
theorem yn182 {S : Nat → zSpc}  : ∀ x g o v gz, zSem uW uT w182_.2.2.2.1 w182_.2.2.1.1.length S q182 (fun i => q182a.getD i []) (zNA a182_) x g o v gz → sn182 x g o v gz := by
  intro a g o v gz h
  exact zSem_all (l0 := q182) (las := q182a) (S := S) (J := (fun _ _ _ => True)) (P := sn182 a g) (fun _ => (show zAll _ [q182_0, q182_1, q182_2] from (zAll_c (vn182_0 ) (zAll_c (vn182_1 ) (zAll_c (vn182_2 ) zAll_n))))) (fun _ => (show zAllI _ 0 [] from trivial)) h
set_option maxRecDepth 100000 in
theorem vn183_0 {S : Nat → zSpc} (hS181 : zIm S 181 sn181) (hS182 : zIm S 182 sn182) {a : List Int} {g : rHp} : ∀ (ρ : Nat → Int) (γ : Nat → rHp), zO 2 S a g q183_0 ρ γ → zGl (fun i vs g1 => jn183 a g i vs g1) (sn183 a g) q183_0 ρ γ := by
  intro ρ γ h
  obtain ⟨ha, hg, hr, hf, hm, hc, hl⟩ := h
  have ha : a = [ρ 0, ρ 1] := ha
  subst ha
  subst hg
  show jn183 [ρ 0, ρ 1] (γ 0) 0 [ρ 0, ρ 1, 1, 1] (γ 0)
  have hD : dn183 [ρ 0] (γ 0) = .inl (0, [ρ 0, 1, 1], γ 0) := by
    unfold dn183
    refine zLV (ρ 0) rfl ?_
    rfl
  exact zGoo_to hD
set_option maxRecDepth 100000 in
theorem vn183a0_0 {S : Nat → zSpc} (hS181 : zIm S 181 sn181) (hS182 : zIm S 182 sn182) {a : List Int} {g : rHp} : ∀ (ρ : Nat → Int) (γ : Nat → rHp), jn183 a g 0 (zAg (zNA a183_ 0) ρ) (γ 1) → zO 2 S a g q183a0_0 ρ γ → zGl (fun i vs g1 => jn183 a g i vs g1) (sn183 a g) q183a0_0 ρ γ := by
  intro ρ γ hJ h
  obtain ⟨ha, hg, hr, hf, hm, hc, hl⟩ := h
  have ha : a = [ρ 0, ρ 1] := ha
  subst ha
  subst hg
  have hJ : jn183 [ρ 0, ρ 1] (γ 0) 0 [ρ 0, ρ 1, ρ 2, ρ 3] (γ 1) := hJ
  have r2 : (12 : Int) ≤ ρ 2 ∧ ρ 2 ≤ 12 := zRnA hr 2
  have w_0 : ρ 2 ≥ 12 := by omega
  show jn183 [ρ 0, ρ 1] (γ 0) 1 [ρ 0, ρ 1, ρ 0, ρ 3, ρ 1] (γ 1)
  have hD : en183 (γ 0) (0, [ρ 0, ρ 2, ρ 3], γ 1) = .inl (1, [ρ 0, ρ 0, ρ 3], γ 1) := by
    unfold en183
    refine zIP (show (0 : Nat) = 0 by decide) (zLV (γ 1) rfl (zLV (ρ 0) rfl (zLV (ρ 2) rfl (zLV (ρ 3) rfl (zIP w_0 ?_)))))
    rfl
  exact zGoo_ato hJ hD
set_option maxRecDepth 100000 in
theorem vn183a0_1 {S : Nat → zSpc} (hS181 : zIm S 181 sn181) (hS182 : zIm S 182 sn182) {a : List Int} {g : rHp} : ∀ (ρ : Nat → Int) (γ : Nat → rHp), jn183 a g 0 (zAg (zNA a183_ 0) ρ) (γ 1) → zO 2 S a g q183a0_1 ρ γ → zGl (fun i vs g1 => jn183 a g i vs g1) (sn183 a g) q183a0_1 ρ γ := by
  intro ρ γ hJ h
  obtain ⟨ha, hg, hr, hf, hm, hc, hl⟩ := h
  have ha : a = [ρ 0, ρ 1] := ha
  subst ha
  subst hg
  have hJ : jn183 [ρ 0, ρ 1] (γ 0) 0 [ρ 0, ρ 1, ρ 2, ρ 3] (γ 1) := hJ
  have r2 : (1 : Int) ≤ ρ 2 ∧ ρ 2 ≤ 11 := zRnA hr 2
  have f0 : (0 : Int) ≤ -ρ 4 + ρ 3 + (-1) := zAllA hf 0
  obtain ⟨w_0, w_1⟩ : (¬ (ρ 2 ≥ 12)) ∧ (ρ 3 > ρ 4) := ⟨by omega, by omega⟩
  have l0 : zOpP (.ldiv) (γ 0) (γ 1) [ρ 0, 38] (ρ 4) := zAllA hl 0
  show jn183 [ρ 0, ρ 1] (γ 0) 1 [ρ 0, ρ 1, ρ 0, ρ 3, ρ 1] (γ 1)
  have hD : en183 (γ 0) (0, [ρ 0, ρ 2, ρ 3], γ 1) = .inl (1, [ρ 0, ρ 0, ρ 3], γ 1) := by
    unfold en183
    refine zIP (show (0 : Nat) = 0 by decide) (zLV (γ 1) rfl (zLV (ρ 0) rfl (zLV (ρ 2) rfl (zLV (ρ 3) rfl (zIN w_0 (zLE (zF2_ok l0) (zIP w_1 ?_)))))))
    rfl
  exact zGoo_ato hJ hD
set_option maxRecDepth 100000 in
theorem vn183a0_2 {S : Nat → zSpc} (hS181 : zIm S 181 sn181) (hS182 : zIm S 182 sn182) {a : List Int} {g : rHp} : ∀ (ρ : Nat → Int) (γ : Nat → rHp), jn183 a g 0 (zAg (zNA a183_ 0) ρ) (γ 1) → zO 2 S a g q183a0_2 ρ γ → zGl (fun i vs g1 => jn183 a g i vs g1) (sn183 a g) q183a0_2 ρ γ := by
  intro ρ γ hJ h
  obtain ⟨ha, hg, hr, hf, hm, hc, hl⟩ := h
  have ha : a = [ρ 0, ρ 1] := ha
  subst ha
  subst hg
  have hJ : jn183 [ρ 0, ρ 1] (γ 0) 0 [ρ 0, ρ 1, ρ 2, ρ 3] (γ 1) := hJ
  have r2 : (1 : Int) ≤ ρ 2 ∧ ρ 2 ≤ 11 := zRnA hr 2
  have f0 : (0 : Int) ≤ ρ 4 + -ρ 3 := zAllA hf 0
  obtain ⟨w_0, w_1⟩ : (¬ (ρ 2 ≥ 12)) ∧ (¬ (ρ 3 > ρ 4)) := ⟨by omega, by omega⟩
  have l0 : zOpP (.ldiv) (γ 0) (γ 1) [ρ 0, 38] (ρ 4) := zAllA hl 0
  have l1 : zOpP (.lmul) (γ 0) (γ 1) [ρ 3, 38] (ρ 5) := zAllA hl 1
  show jn183 [ρ 0, ρ 1] (γ 0) 0 [ρ 0, ρ 1, ρ 2 + 1, ρ 5] (γ 1)
  have hD : en183 (γ 0) (0, [ρ 0, ρ 2, ρ 3], γ 1) = .inl (0, [ρ 0, ρ 2 + 1, ρ 5], γ 1) := by
    unfold en183
    refine zIP (show (0 : Nat) = 0 by decide) (zLV (γ 1) rfl (zLV (ρ 0) rfl (zLV (ρ 2) rfl (zLV (ρ 3) rfl (zIN w_0 (zLE (zF2_ok l0) (zIN w_1 ?_)))))))
    refine zLE (zF2_ok l1) ?_
    rfl
  exact zGoo_ato hJ hD
set_option maxRecDepth 100000 in
theorem vn183a1_0 {S : Nat → zSpc} (hS181 : zIm S 181 sn181) (hS182 : zIm S 182 sn182) {a : List Int} {g : rHp} : ∀ (ρ : Nat → Int) (γ : Nat → rHp), jn183 a g 1 (zAg (zNA a183_ 1) ρ) (γ 1) → zO 2 S a g q183a1_0 ρ γ → zGl (fun i vs g1 => jn183 a g i vs g1) (sn183 a g) q183a1_0 ρ γ := by
  intro ρ γ hJ h
  obtain ⟨ha, hg, hr, hf, hm, hc, hl⟩ := h
  have ha : a = [ρ 0, ρ 1] := ha
  subst ha
  subst hg
  have hJ : jn183 [ρ 0, ρ 1] (γ 0) 1 [ρ 0, ρ 1, ρ 2, ρ 3, ρ 4] (γ 1) := hJ
  have r3 : ((-9223372036854775808) : Int) ≤ ρ 3 ∧ ρ 3 ≤ 0 := zRnA hr 3
  have w_0 : ρ 3 ≤ 0 := by omega
  show sn183 [ρ 0, ρ 1] (γ 0) 0 0 (γ 1)
  have hD : en183 (γ 0) (1, [ρ 0, ρ 2, ρ 3], γ 1) = .inr (0, 0, γ 1) := by
    unfold en183
    refine zIN (show ¬ (1 : Nat) = 0 by decide) (zIP (show (1 : Nat) = 1 by decide) (zLV (γ 1) rfl (zLV (ρ 0) rfl (zLV (ρ 2) rfl (zLV (ρ 3) rfl (zIP w_0 ?_))))))
    rfl
  exact zGoo_aend hJ hD
set_option maxRecDepth 100000 in
theorem vn183a1_1 {S : Nat → zSpc} (hS181 : zIm S 181 sn181) (hS182 : zIm S 182 sn182) {a : List Int} {g : rHp} : ∀ (ρ : Nat → Int) (γ : Nat → rHp), jn183 a g 1 (zAg (zNA a183_ 1) ρ) (γ 1) → zO 2 S a g q183a1_1 ρ γ → zGl (fun i vs g1 => jn183 a g i vs g1) (sn183 a g) q183a1_1 ρ γ := by
  intro ρ γ hJ h
  obtain ⟨ha, hg, hr, hf, hm, hc, hl⟩ := h
  have ha : a = [ρ 0, ρ 1] := ha
  subst ha
  subst hg
  have hJ : jn183 [ρ 0, ρ 1] (γ 0) 1 [ρ 0, ρ 1, ρ 2, ρ 3, ρ 4] (γ 1) := hJ
  have r3 : (1 : Int) ≤ ρ 3 ∧ ρ 3 ≤ 9223372036854775807 := zRnA hr 3
  have f1 : (0 : Int) ≤ 38 * ρ 10 + -ρ 3 + 37 := zAllA hf 1
  have f2 : (0 : Int) ≤ (-38) * ρ 10 + ρ 3 := zAllA hf 2
  obtain ⟨w_0, w_1⟩ : (¬ (ρ 3 ≤ 0)) ∧ ((ρ 3) / 38 = ρ 10) := ⟨by omega, by omega⟩
  have l0 : zOpP (.ldiv) (γ 0) (γ 1) [ρ 2, ρ 3] (ρ 5) := zAllA hl 0
  have l1 : zOpP (.l2i) (γ 0) (γ 1) [ρ 5] (ρ 6) := zAllA hl 1
  have l2 : sn182 [ρ 6] (γ 1) 0 (ρ 7) (γ 2) := hS182 _ _ _ _ _ (zAllA hl 2)
  have l3 : sn181 [ρ 7, ρ 4] (γ 2) 0 0 (γ 3) := hS181 _ _ _ _ _ (zAllA hl 3)
  have l4 : zOpP (.lrem) (γ 0) (γ 1) [ρ 2, ρ 3] (ρ 9) := zAllA hl 4
  show jn183 [ρ 0, ρ 1] (γ 0) 1 [ρ 0, ρ 1, ρ 9, ρ 10, ρ 8] (γ 3)
  have hD : en183 (γ 0) (1, [ρ 0, ρ 2, ρ 3], γ 1) = .inl (1, [ρ 0, ρ 9, ρ 10], γ 3) := by
    unfold en183
    refine zIN (show ¬ (1 : Nat) = 0 by decide) (zIP (show (1 : Nat) = 1 by decide) (zLV (γ 1) rfl (zLV (ρ 0) rfl (zLV (ρ 2) rfl (zLV (ρ 3) rfl (zIN w_0 (zLE (zF2_ok l0) ?_)))))))
    refine zLE (zF1_ok l1) (zLE (show fn182 [ρ 6] (γ 1) = (0, ρ 7, γ 2) from l2.symm) (zLV (γ 2) rfl (zLV (ρ 7) rfl (zLE (show fn181 [ρ 7] (γ 2) = (0, 0, γ 3) from l3.symm) (zLV (γ 3) rfl (zLE (zF2_ok l4) (zLE w_1 ?_)))))))
    rfl
  exact zGoo_ato hJ hD
set_option maxRecDepth 100000 in
theorem yn183 {S : Nat → zSpc} (hS181 : zIm S 181 sn181) (hS182 : zIm S 182 sn182) : ∀ x g o v gz, zSem uW uT w183_.2.2.2.1 w183_.2.2.1.1.length S q183 (fun i => q183a.getD i []) (zNA a183_) x g o v gz → sn183 x g o v gz := by
  intro a g o v gz h
  exact zSem_all (l0 := q183) (las := q183a) (S := S) (J := (fun i vs g1 => jn183 a g i vs g1)) (P := sn183 a g) (fun _ => (show zAll _ [q183_0] from (zAll_c (vn183_0 hS181 hS182) zAll_n))) (fun _ => (show zAllI _ 0 [q183a0, q183a1] from ⟨(show zAll _ [q183a0_0, q183a0_1, q183a0_2] from (zAll_c (vn183a0_0 hS181 hS182) (zAll_c (vn183a0_1 hS181 hS182) (zAll_c (vn183a0_2 hS181 hS182) zAll_n)))), ⟨(show zAll _ [q183a1_0, q183a1_1] from (zAll_c (vn183a1_0 hS181 hS182) (zAll_c (vn183a1_1 hS181 hS182) zAll_n))), trivial⟩⟩)) h
set_option maxRecDepth 100000 in
theorem vn184_0 {S : Nat → zSpc} (hS181 : zIm S 181 sn181) {a : List Int} {g : rHp} : ∀ (ρ : Nat → Int) (γ : Nat → rHp), zO 2 S a g q184_0 ρ γ → zGl (fun i vs g1 => jn184 a g i vs g1) (sn184 a g) q184_0 ρ γ := by
  intro ρ γ h
  obtain ⟨ha, hg, hr, hf, hm, hc, hl⟩ := h
  have ha : a = [ρ 0, ρ 1] := ha
  subst ha
  subst hg
  have r0 : (0 : Int) ≤ ρ 0 ∧ ρ 0 ≤ 9223372036854775807 := zRnA hr 0
  have w_0 : ρ 0 ≥ 0 := by omega
  show jn184 [ρ 0, ρ 1] (γ 0) 0 [ρ 0, ρ 1, 0, 1, ρ 0, ρ 1] (γ 0)
  have hD : dn184 [ρ 0] (γ 0) = .inl (0, [ρ 0, 0, 1, ρ 0], γ 0) := by
    unfold dn184
    refine zLV (ρ 0) rfl (zIP w_0 ?_)
    rfl
  exact zGoo_to hD
set_option maxRecDepth 100000 in
theorem vn184_1 {S : Nat → zSpc} (hS181 : zIm S 181 sn181) {a : List Int} {g : rHp} : ∀ (ρ : Nat → Int) (γ : Nat → rHp), zO 2 S a g q184_1 ρ γ → zGl (fun i vs g1 => jn184 a g i vs g1) (sn184 a g) q184_1 ρ γ := by
  intro ρ γ h
  obtain ⟨ha, hg, hr, hf, hm, hc, hl⟩ := h
  have ha : a = [ρ 0, ρ 1] := ha
  subst ha
  subst hg
  have r0 : ((-9223372036854775808) : Int) ≤ ρ 0 ∧ ρ 0 ≤ (-1) := zRnA hr 0
  have w_0 : ¬ (ρ 0 ≥ 0) := by omega
  have l0 : sn181 [45, ρ 1] (γ 0) 0 0 (γ 1) := hS181 _ _ _ _ _ (zAllA hl 0)
  have l1 : zOpP (.lneg) (γ 0) (γ 1) [ρ 0] (ρ 3) := zAllA hl 1
  show jn184 [ρ 0, ρ 1] (γ 0) 0 [ρ 0, ρ 1, 0, 1, ρ 3, ρ 2] (γ 1)
  have hD : dn184 [ρ 0] (γ 0) = .inl (0, [ρ 0, 0, 1, ρ 3], γ 1) := by
    unfold dn184
    refine zLV (ρ 0) rfl (zIN w_0 (zLE (show fn181 [45] (γ 0) = (0, 0, γ 1) from l0.symm) (zLV (γ 1) rfl (zLE (zF1_ok l1) ?_))))
    rfl
  exact zGoo_to hD
set_option maxRecDepth 100000 in
theorem vn184a0_0 {S : Nat → zSpc} (hS181 : zIm S 181 sn181) {a : List Int} {g : rHp} : ∀ (ρ : Nat → Int) (γ : Nat → rHp), jn184 a g 0 (zAg (zNA a184_ 0) ρ) (γ 1) → zO 2 S a g q184a0_0 ρ γ → zGl (fun i vs g1 => jn184 a g i vs g1) (sn184 a g) q184a0_0 ρ γ := by
  intro ρ γ hJ h
  obtain ⟨ha, hg, hr, hf, hm, hc, hl⟩ := h
  have ha : a = [ρ 0, ρ 1] := ha
  subst ha
  subst hg
  have hJ : jn184 [ρ 0, ρ 1] (γ 0) 0 [ρ 0, ρ 1, ρ 2, ρ 3, ρ 4, ρ 5] (γ 1) := hJ
  have r2 : (18 : Int) ≤ ρ 2 ∧ ρ 2 ≤ 18 := zRnA hr 2
  have w_0 : ρ 2 ≥ 18 := by omega
  show jn184 [ρ 0, ρ 1] (γ 0) 1 [ρ 0, ρ 1, ρ 2, ρ 3, ρ 4, ρ 5] (γ 1)
  have hD : en184 (γ 0) (0, [ρ 0, ρ 2, ρ 3, ρ 4], γ 1) = .inl (1, [ρ 0, ρ 2, ρ 3, ρ 4], γ 1) := by
    unfold en184
    refine zIP (show (0 : Nat) = 0 by decide) (zLV (γ 1) rfl (zLV (ρ 0) rfl (zLV (ρ 2) rfl (zLV (ρ 3) rfl (zLV (ρ 4) rfl (zIP w_0 ?_))))))
    rfl
  exact zGoo_ato hJ hD
set_option maxRecDepth 100000 in
theorem vn184a0_1 {S : Nat → zSpc} (hS181 : zIm S 181 sn181) {a : List Int} {g : rHp} : ∀ (ρ : Nat → Int) (γ : Nat → rHp), jn184 a g 0 (zAg (zNA a184_ 0) ρ) (γ 1) → zO 2 S a g q184a0_1 ρ γ → zGl (fun i vs g1 => jn184 a g i vs g1) (sn184 a g) q184a0_1 ρ γ := by
  intro ρ γ hJ h
  obtain ⟨ha, hg, hr, hf, hm, hc, hl⟩ := h
  have ha : a = [ρ 0, ρ 1] := ha
  subst ha
  subst hg
  have hJ : jn184 [ρ 0, ρ 1] (γ 0) 0 [ρ 0, ρ 1, ρ 2, ρ 3, ρ 4, ρ 5] (γ 1) := hJ
  have r2 : (0 : Int) ≤ ρ 2 ∧ ρ 2 ≤ 17 := zRnA hr 2
  have f0 : (0 : Int) ≤ -ρ 6 + ρ 3 + (-1) := zAllA hf 0
  obtain ⟨w_0, w_1⟩ : (¬ (ρ 2 ≥ 18)) ∧ (ρ 3 > ρ 6) := ⟨by omega, by omega⟩
  have l0 : zOpP (.ldiv) (γ 0) (γ 1) [ρ 4, 10] (ρ 6) := zAllA hl 0
  show jn184 [ρ 0, ρ 1] (γ 0) 1 [ρ 0, ρ 1, ρ 2, ρ 3, ρ 4, ρ 5] (γ 1)
  have hD : en184 (γ 0) (0, [ρ 0, ρ 2, ρ 3, ρ 4], γ 1) = .inl (1, [ρ 0, ρ 2, ρ 3, ρ 4], γ 1) := by
    unfold en184
    refine zIP (show (0 : Nat) = 0 by decide) (zLV (γ 1) rfl (zLV (ρ 0) rfl (zLV (ρ 2) rfl (zLV (ρ 3) rfl (zLV (ρ 4) rfl (zIN w_0 (zLE (zF2_ok l0) ?_)))))))
    refine zIP w_1 ?_
    rfl
  exact zGoo_ato hJ hD
set_option maxRecDepth 100000 in
theorem vn184a0_2 {S : Nat → zSpc} (hS181 : zIm S 181 sn181) {a : List Int} {g : rHp} : ∀ (ρ : Nat → Int) (γ : Nat → rHp), jn184 a g 0 (zAg (zNA a184_ 0) ρ) (γ 1) → zO 2 S a g q184a0_2 ρ γ → zGl (fun i vs g1 => jn184 a g i vs g1) (sn184 a g) q184a0_2 ρ γ := by
  intro ρ γ hJ h
  obtain ⟨ha, hg, hr, hf, hm, hc, hl⟩ := h
  have ha : a = [ρ 0, ρ 1] := ha
  subst ha
  subst hg
  have hJ : jn184 [ρ 0, ρ 1] (γ 0) 0 [ρ 0, ρ 1, ρ 2, ρ 3, ρ 4, ρ 5] (γ 1) := hJ
  have r2 : (0 : Int) ≤ ρ 2 ∧ ρ 2 ≤ 17 := zRnA hr 2
  have f0 : (0 : Int) ≤ ρ 6 + -ρ 3 := zAllA hf 0
  obtain ⟨w_0, w_1⟩ : (¬ (ρ 2 ≥ 18)) ∧ (¬ (ρ 3 > ρ 6)) := ⟨by omega, by omega⟩
  have l0 : zOpP (.ldiv) (γ 0) (γ 1) [ρ 4, 10] (ρ 6) := zAllA hl 0
  have l1 : zOpP (.lmul) (γ 0) (γ 1) [ρ 3, 10] (ρ 7) := zAllA hl 1
  show jn184 [ρ 0, ρ 1] (γ 0) 0 [ρ 0, ρ 1, ρ 2 + 1, ρ 7, ρ 4, ρ 5] (γ 1)
  have hD : en184 (γ 0) (0, [ρ 0, ρ 2, ρ 3, ρ 4], γ 1) = .inl (0, [ρ 0, ρ 2 + 1, ρ 7, ρ 4], γ 1) := by
    unfold en184
    refine zIP (show (0 : Nat) = 0 by decide) (zLV (γ 1) rfl (zLV (ρ 0) rfl (zLV (ρ 2) rfl (zLV (ρ 3) rfl (zLV (ρ 4) rfl (zIN w_0 (zLE (zF2_ok l0) ?_)))))))
    refine zIN w_1 (zLE (zF2_ok l1) ?_)
    rfl
  exact zGoo_ato hJ hD
set_option maxRecDepth 100000 in
theorem vn184a1_0 {S : Nat → zSpc} (hS181 : zIm S 181 sn181) {a : List Int} {g : rHp} : ∀ (ρ : Nat → Int) (γ : Nat → rHp), jn184 a g 1 (zAg (zNA a184_ 1) ρ) (γ 1) → zO 2 S a g q184a1_0 ρ γ → zGl (fun i vs g1 => jn184 a g i vs g1) (sn184 a g) q184a1_0 ρ γ := by
  intro ρ γ hJ h
  obtain ⟨ha, hg, hr, hf, hm, hc, hl⟩ := h
  have ha : a = [ρ 0, ρ 1] := ha
  subst ha
  subst hg
  have hJ : jn184 [ρ 0, ρ 1] (γ 0) 1 [ρ 0, ρ 1, ρ 2, ρ 3, ρ 4, ρ 5] (γ 1) := hJ
  have r3 : ((-9223372036854775808) : Int) ≤ ρ 3 ∧ ρ 3 ≤ 0 := zRnA hr 3
  have w_0 : ρ 3 ≤ 0 := by omega
  show sn184 [ρ 0, ρ 1] (γ 0) 0 0 (γ 1)
  have hD : en184 (γ 0) (1, [ρ 0, ρ 2, ρ 3, ρ 4], γ 1) = .inr (0, 0, γ 1) := by
    unfold en184
    refine zIN (show ¬ (1 : Nat) = 0 by decide) (zIP (show (1 : Nat) = 1 by decide) (zLV (γ 1) rfl (zLV (ρ 0) rfl (zLV (ρ 2) rfl (zLV (ρ 3) rfl (zLV (ρ 4) rfl (zIP w_0 ?_)))))))
    rfl
  exact zGoo_aend hJ hD
set_option maxRecDepth 100000 in
theorem vn184a1_1 {S : Nat → zSpc} (hS181 : zIm S 181 sn181) {a : List Int} {g : rHp} : ∀ (ρ : Nat → Int) (γ : Nat → rHp), jn184 a g 1 (zAg (zNA a184_ 1) ρ) (γ 1) → zO 2 S a g q184a1_1 ρ γ → zGl (fun i vs g1 => jn184 a g i vs g1) (sn184 a g) q184a1_1 ρ γ := by
  intro ρ γ hJ h
  obtain ⟨ha, hg, hr, hf, hm, hc, hl⟩ := h
  have ha : a = [ρ 0, ρ 1] := ha
  subst ha
  subst hg
  have hJ : jn184 [ρ 0, ρ 1] (γ 0) 1 [ρ 0, ρ 1, ρ 2, ρ 3, ρ 4, ρ 5] (γ 1) := hJ
  have r3 : (1 : Int) ≤ ρ 3 ∧ ρ 3 ≤ 9223372036854775807 := zRnA hr 3
  have f1 : (0 : Int) ≤ 10 * ρ 11 + -ρ 3 + 9 := zAllA hf 1
  have f2 : (0 : Int) ≤ (-10) * ρ 11 + ρ 3 := zAllA hf 2
  obtain ⟨w_0, w_1⟩ : (¬ (ρ 3 ≤ 0)) ∧ ((ρ 3) / 10 = ρ 11) := ⟨by omega, by omega⟩
  have l0 : zOpP (.ldiv) (γ 0) (γ 1) [ρ 4, ρ 3] (ρ 6) := zAllA hl 0
  have l1 : zOpP (.l2i) (γ 0) (γ 1) [ρ 6] (ρ 7) := zAllA hl 1
  have l2 : zOpP (.iadd) (γ 0) (γ 1) [48, ρ 7] (ρ 8) := zAllA hl 2
  have l3 : sn181 [ρ 8, ρ 5] (γ 1) 0 0 (γ 2) := hS181 _ _ _ _ _ (zAllA hl 3)
  have l4 : zOpP (.lrem) (γ 0) (γ 1) [ρ 4, ρ 3] (ρ 10) := zAllA hl 4
  show jn184 [ρ 0, ρ 1] (γ 0) 1 [ρ 0, ρ 1, ρ 2, ρ 11, ρ 10, ρ 9] (γ 2)
  have hD : en184 (γ 0) (1, [ρ 0, ρ 2, ρ 3, ρ 4], γ 1) = .inl (1, [ρ 0, ρ 2, ρ 11, ρ 10], γ 2) := by
    unfold en184
    refine zIN (show ¬ (1 : Nat) = 0 by decide) (zIP (show (1 : Nat) = 1 by decide) (zLV (γ 1) rfl (zLV (ρ 0) rfl (zLV (ρ 2) rfl (zLV (ρ 3) rfl (zLV (ρ 4) rfl (zIN w_0 ?_)))))))
    refine zLE (zF2_ok l0) (zLE (zF1_ok l1) (zLE (zF2_ok l2) (zLE (show fn181 [ρ 8] (γ 1) = (0, 0, γ 2) from l3.symm) (zLV (γ 2) rfl (zLE (zF2_ok l4) (zLE w_1 ?_))))))
    rfl
  exact zGoo_ato hJ hD
set_option maxRecDepth 100000 in
theorem yn184 {S : Nat → zSpc} (hS181 : zIm S 181 sn181) : ∀ x g o v gz, zSem uW uT w184_.2.2.2.1 w184_.2.2.1.1.length S q184 (fun i => q184a.getD i []) (zNA a184_) x g o v gz → sn184 x g o v gz := by
  intro a g o v gz h
  exact zSem_all (l0 := q184) (las := q184a) (S := S) (J := (fun i vs g1 => jn184 a g i vs g1)) (P := sn184 a g) (fun _ => (show zAll _ [q184_0, q184_1] from (zAll_c (vn184_0 hS181) (zAll_c (vn184_1 hS181) zAll_n)))) (fun _ => (show zAllI _ 0 [q184a0, q184a1] from ⟨(show zAll _ [q184a0_0, q184a0_1, q184a0_2] from (zAll_c (vn184a0_0 hS181) (zAll_c (vn184a0_1 hS181) (zAll_c (vn184a0_2 hS181) zAll_n)))), ⟨(show zAll _ [q184a1_0, q184a1_1] from (zAll_c (vn184a1_0 hS181) (zAll_c (vn184a1_1 hS181) zAll_n))), trivial⟩⟩)) h
set_option maxRecDepth 100000 in
theorem vn185_0 {S : Nat → zSpc} (hS93 : zIm S 93 sn93) (hS171 : zIm S 171 sn171) (hS172 : zIm S 172 sn172) (hS180 : zIm S 180 sn180) (hS181 : zIm S 181 sn181) (hS183 : zIm S 183 sn183) (hS184 : zIm S 184 sn184) {a : List Int} {g : rHp} : ∀ (ρ : Nat → Int) (γ : Nat → rHp), zO 4 S a g q185_0 ρ γ → zGl (fun i vs g1 => jn185 a g i vs g1) (sn185 a g) q185_0 ρ γ := by
  intro ρ γ h
  obtain ⟨ha, hg, hr, hf, hm, hc, hl⟩ := h
  have ha : a = [ρ 0, ρ 1, ρ 2, ρ 3] := ha
  subst ha
  subst hg
  have m3 : γ 0 28 0 (ρ 0) = ρ 4 := zAllA hm 3
  have m5 : γ 0 16 0 (ρ 4) = ρ 5 := zAllA hm 5
  have l0 : sn171 [ρ 0, ρ 1] (γ 0) 0 0 (γ 1) := hS171 _ _ _ _ _ (zAllA hl 0)
  have l1 : sn180 [ρ 2] (γ 1) 0 0 (γ 2) := hS180 _ _ _ _ _ (zAllA hl 1)
  have l2 : sn183 [ρ 5, 0] (γ 2) 0 0 (γ 3) := hS183 _ _ _ _ _ (zAllA hl 2)
  show jn185 [ρ 0, ρ 1, ρ 2, ρ 3] (γ 0) 0 [ρ 0, ρ 1, ρ 2, ρ 3, 0, ρ 4, ρ 6] (γ 3)
  have hD : dn185 [ρ 0] (γ 0) = .inl (0, [ρ 0, 0, ρ 4], γ 3) := by
    unfold dn185
    refine zLV (ρ 0) rfl (zLE (show fn171 [ρ 0] (γ 0) = (0, 0, γ 1) from l0.symm) (zLV (γ 1) rfl (zIP (show (0 : Nat) = 0 by decide) (zLE m3 (zLE (show fn180 [] (γ 1) = (0, 0, γ 2) from l1.symm) (zLV (γ 2) rfl (zLE m5 ?_)))))))
    refine zLE (show fn183 [ρ 5] (γ 2) = (0, 0, γ 3) from l2.symm) (zLV (γ 3) rfl ?_)
    rfl
  exact zGoo_to hD
set_option maxRecDepth 100000 in
theorem vn185_1 {S : Nat → zSpc} (hS93 : zIm S 93 sn93) (hS171 : zIm S 171 sn171) (hS172 : zIm S 172 sn172) (hS180 : zIm S 180 sn180) (hS181 : zIm S 181 sn181) (hS183 : zIm S 183 sn183) (hS184 : zIm S 184 sn184) {a : List Int} {g : rHp} : ∀ (ρ : Nat → Int) (γ : Nat → rHp), zO 4 S a g q185_1 ρ γ → zGl (fun i vs g1 => jn185 a g i vs g1) (sn185 a g) q185_1 ρ γ := by
  intro ρ γ h
  obtain ⟨ha, hg, hr, hf, hm, hc, hl⟩ := h
  have ha : a = [ρ 0, ρ 1, ρ 2, ρ 3] := ha
  subst ha
  subst hg
  have l0 : sn171 [ρ 0, ρ 1] (γ 0) 1 0 (γ 1) := hS171 _ _ _ _ _ (zAllA hl 0)
  show sn185 [ρ 0, ρ 1, ρ 2, ρ 3] (γ 0) 1 0 (γ 1)
  have hD : dn185 [ρ 0] (γ 0) = .inr (1, 0, γ 1) := by
    unfold dn185
    refine zLV (ρ 0) rfl (zLE (show fn171 [ρ 0] (γ 0) = (1, 0, γ 1) from l0.symm) (zLV (γ 1) rfl (zIN (show ¬ (1 : Nat) = 0 by decide) (zIP (show (1 : Nat) = 1 by decide) ?_))))
    rfl
  exact zGoo_end hD
set_option maxRecDepth 100000 in
theorem vn185_2 {S : Nat → zSpc} (hS93 : zIm S 93 sn93) (hS171 : zIm S 171 sn171) (hS172 : zIm S 172 sn172) (hS180 : zIm S 180 sn180) (hS181 : zIm S 181 sn181) (hS183 : zIm S 183 sn183) (hS184 : zIm S 184 sn184) {a : List Int} {g : rHp} : ∀ (ρ : Nat → Int) (γ : Nat → rHp), zO 4 S a g q185_2 ρ γ → zGl (fun i vs g1 => jn185 a g i vs g1) (sn185 a g) q185_2 ρ γ := by
  intro ρ γ h
  obtain ⟨ha, hg, hr, hf, hm, hc, hl⟩ := h
  have ha : a = [ρ 0, ρ 1, ρ 2, ρ 3] := ha
  subst ha
  subst hg
  have l0 : sn171 [ρ 0, ρ 1] (γ 0) 5 0 (γ 1) := hS171 _ _ _ _ _ (zAllA hl 0)
  show sn185 [ρ 0, ρ 1, ρ 2, ρ 3] (γ 0) 5 0 (γ 1)
  have hD : dn185 [ρ 0] (γ 0) = .inr (5, 0, γ 1) := by
    unfold dn185
    refine zLV (ρ 0) rfl (zLE (show fn171 [ρ 0] (γ 0) = (5, 0, γ 1) from l0.symm) (zLV (γ 1) rfl (zIN (show ¬ (5 : Nat) = 0 by decide) (zIN (show ¬ (5 : Nat) = 1 by decide) ?_))))
    rfl
  exact zGoo_end hD
set_option maxRecDepth 100000 in
theorem vn185a0_0 {S : Nat → zSpc} (hS93 : zIm S 93 sn93) (hS171 : zIm S 171 sn171) (hS172 : zIm S 172 sn172) (hS180 : zIm S 180 sn180) (hS181 : zIm S 181 sn181) (hS183 : zIm S 183 sn183) (hS184 : zIm S 184 sn184) {a : List Int} {g : rHp} : ∀ (ρ : Nat → Int) (γ : Nat → rHp), jn185 a g 0 (zAg (zNA a185_ 0) ρ) (γ 1) → zO 4 S a g q185a0_0 ρ γ → zGl (fun i vs g1 => jn185 a g i vs g1) (sn185 a g) q185a0_0 ρ γ := by
  intro ρ γ hJ h
  obtain ⟨ha, hg, hr, hf, hm, hc, hl⟩ := h
  have ha : a = [ρ 0, ρ 1, ρ 2, ρ 3] := ha
  subst ha
  subst hg
  have hJ : jn185 [ρ 0, ρ 1, ρ 2, ρ 3] (γ 0) 0 [ρ 0, ρ 1, ρ 2, ρ 3, ρ 4, ρ 5, ρ 6] (γ 1) := hJ
  have f1 : (0 : Int) ≤ -ρ 7 + ρ 4 := zAllA hf 1
  have w_0 : ρ 4 ≥ ρ 7 := by omega
  have m4 : γ 0 17 0 (ρ 5) = ρ 7 := zAllA hm 4
  have m5 : γ 2 7 0 1 = ρ 8 := zAllA hm 5
  have l0 : sn181 [41, ρ 6] (γ 1) 0 0 (γ 2) := hS181 _ _ _ _ _ (zAllA hl 0)
  show sn185 [ρ 0, ρ 1, ρ 2, ρ 3] (γ 0) 0 (ρ 8) (γ 2)
  have hD : en185 (γ 0) (0, [ρ 0, ρ 4, ρ 5], γ 1) = .inr (0, ρ 8, γ 2) := by
    unfold en185
    refine zIP (show (0 : Nat) = 0 by decide) (zLV (γ 1) rfl (zLV (ρ 0) rfl (zLV (ρ 4) rfl (zLV (ρ 5) rfl (zLE m4 (zIP w_0 (zLE (show fn181 [41] (γ 1) = (0, 0, γ 2) from l0.symm) ?_)))))))
    refine zLV (γ 2) rfl (zLE m5 ?_)
    rfl
  exact zGoo_aend hJ hD
set_option maxRecDepth 100000 in
theorem vn185a0_1 {S : Nat → zSpc} (hS93 : zIm S 93 sn93) (hS171 : zIm S 171 sn171) (hS172 : zIm S 172 sn172) (hS180 : zIm S 180 sn180) (hS181 : zIm S 181 sn181) (hS183 : zIm S 183 sn183) (hS184 : zIm S 184 sn184) {a : List Int} {g : rHp} : ∀ (ρ : Nat → Int) (γ : Nat → rHp), jn185 a g 0 (zAg (zNA a185_ 0) ρ) (γ 1) → zO 4 S a g q185a0_1 ρ γ → zGl (fun i vs g1 => jn185 a g i vs g1) (sn185 a g) q185a0_1 ρ γ := by
  intro ρ γ hJ h
  obtain ⟨ha, hg, hr, hf, hm, hc, hl⟩ := h
  have ha : a = [ρ 0, ρ 1, ρ 2, ρ 3] := ha
  subst ha
  subst hg
  have hJ : jn185 [ρ 0, ρ 1, ρ 2, ρ 3] (γ 0) 0 [ρ 0, ρ 1, ρ 2, ρ 3, ρ 4, ρ 5, ρ 6] (γ 1) := hJ
  have r4 : (1 : Int) ≤ ρ 4 ∧ ρ 4 ≤ 4 := zRnA hr 4
  have f2 : (0 : Int) ≤ ρ 7 + -ρ 4 + (-1) := zAllA hf 2
  obtain ⟨w_0, w_1⟩ : (¬ (ρ 4 ≥ ρ 7)) ∧ (ρ 4 ≠ 0) := ⟨by omega, by omega⟩
  have m4 : γ 0 17 0 (ρ 5) = ρ 7 := zAllA hm 4
  have m6 : γ 0 27 0 (ρ 4 + 4 * ρ 0) = ρ 9 := zAllA hm 6
  have l0 : sn181 [44, ρ 6] (γ 1) 0 0 (γ 2) := hS181 _ _ _ _ _ (zAllA hl 0)
  have l1 : sn172 [ρ 9] (γ 2) 0 0 (γ 3) := hS172 _ _ _ _ _ (zAllA hl 1)
  have l2 : zOpP (.l2i) (γ 0) (γ 1) [ρ 9 + (-1099511627776)] (ρ 10) := zAllA hl 2
  have l3 : sn93 [ρ 10, ρ 3] (γ 3) 0 (ρ 11) (γ 4) := hS93 _ _ _ _ _ (zAllA hl 3)
  have l4 : sn183 [ρ 11, ρ 8] (γ 4) 0 0 (γ 5) := hS183 _ _ _ _ _ (zAllA hl 4)
  show jn185 [ρ 0, ρ 1, ρ 2, ρ 3] (γ 0) 0 [ρ 0, ρ 1, ρ 2, ρ 3, ρ 4 + 1, ρ 5, ρ 12] (γ 5)
  have hD : en185 (γ 0) (0, [ρ 0, ρ 4, ρ 5], γ 1) = .inl (0, [ρ 0, ρ 4 + 1, ρ 5], γ 5) := by
    unfold en185
    refine zIP (show (0 : Nat) = 0 by decide) (zLV (γ 1) rfl (zLV (ρ 0) rfl (zLV (ρ 4) rfl (zLV (ρ 5) rfl (zLE m4 (zIN w_0 (zIP w_1 ?_)))))))
    refine zLE (show fn181 [44] (γ 1) = (0, 0, γ 2) from l0.symm) (zLV (γ 2) rfl (zLE m6 (zLE (show fn172 [ρ 9] (γ 2) = (0, 0, γ 3) from l1.symm) (zLV (γ 3) rfl (zIN zQ0_ (zLE (zF1_ok l2) (zLE (show fn93 [ρ 10] (γ 3) = (0, ρ 11, γ 4) from l3.symm) ?_)))))))
    refine zLV (γ 4) rfl (zLV (ρ 11) rfl (zLE (show fn183 [ρ 11] (γ 4) = (0, 0, γ 5) from l4.symm) (zLV (γ 5) rfl ?_)))
    rfl
  exact zGoo_ato hJ hD
set_option maxRecDepth 100000 in
theorem vn185a0_2 {S : Nat → zSpc} (hS93 : zIm S 93 sn93) (hS171 : zIm S 171 sn171) (hS172 : zIm S 172 sn172) (hS180 : zIm S 180 sn180) (hS181 : zIm S 181 sn181) (hS183 : zIm S 183 sn183) (hS184 : zIm S 184 sn184) {a : List Int} {g : rHp} : ∀ (ρ : Nat → Int) (γ : Nat → rHp), jn185 a g 0 (zAg (zNA a185_ 0) ρ) (γ 1) → zO 4 S a g q185a0_2 ρ γ → zGl (fun i vs g1 => jn185 a g i vs g1) (sn185 a g) q185a0_2 ρ γ := by
  intro ρ γ hJ h
  obtain ⟨ha, hg, hr, hf, hm, hc, hl⟩ := h
  have ha : a = [ρ 0, ρ 1, ρ 2, ρ 3] := ha
  subst ha
  subst hg
  have hJ : jn185 [ρ 0, ρ 1, ρ 2, ρ 3] (γ 0) 0 [ρ 0, ρ 1, ρ 2, ρ 3, ρ 4, ρ 5, ρ 6] (γ 1) := hJ
  have r4 : (1 : Int) ≤ ρ 4 ∧ ρ 4 ≤ 4 := zRnA hr 4
  have f2 : (0 : Int) ≤ ρ 7 + -ρ 4 + (-1) := zAllA hf 2
  obtain ⟨w_0, w_1⟩ : (¬ (ρ 4 ≥ ρ 7)) ∧ (ρ 4 ≠ 0) := ⟨by omega, by omega⟩
  have m4 : γ 0 17 0 (ρ 5) = ρ 7 := zAllA hm 4
  have m6 : γ 0 27 0 (ρ 4 + 4 * ρ 0) = ρ 9 := zAllA hm 6
  have l0 : sn181 [44, ρ 6] (γ 1) 0 0 (γ 2) := hS181 _ _ _ _ _ (zAllA hl 0)
  have l1 : sn172 [ρ 9] (γ 2) 0 1 (γ 3) := hS172 _ _ _ _ _ (zAllA hl 1)
  have l2 : sn184 [ρ 9, ρ 8] (γ 3) 0 0 (γ 4) := hS184 _ _ _ _ _ (zAllA hl 2)
  show jn185 [ρ 0, ρ 1, ρ 2, ρ 3] (γ 0) 0 [ρ 0, ρ 1, ρ 2, ρ 3, ρ 4 + 1, ρ 5, ρ 10] (γ 4)
  have hD : en185 (γ 0) (0, [ρ 0, ρ 4, ρ 5], γ 1) = .inl (0, [ρ 0, ρ 4 + 1, ρ 5], γ 4) := by
    unfold en185
    refine zIP (show (0 : Nat) = 0 by decide) (zLV (γ 1) rfl (zLV (ρ 0) rfl (zLV (ρ 4) rfl (zLV (ρ 5) rfl (zLE m4 (zIN w_0 (zIP w_1 ?_)))))))
    refine zLE (show fn181 [44] (γ 1) = (0, 0, γ 2) from l0.symm) (zLV (γ 2) rfl (zLE m6 (zLE (show fn172 [ρ 9] (γ 2) = (0, 1, γ 3) from l1.symm) (zLV (γ 3) rfl (zIP zQ1_ (zLE (show fn184 [ρ 9] (γ 3) = (0, 0, γ 4) from l2.symm) (zLV (γ 4) rfl ?_)))))))
    rfl
  exact zGoo_ato hJ hD
set_option maxRecDepth 100000 in
theorem vn185a0_3 {S : Nat → zSpc} (hS93 : zIm S 93 sn93) (hS171 : zIm S 171 sn171) (hS172 : zIm S 172 sn172) (hS180 : zIm S 180 sn180) (hS181 : zIm S 181 sn181) (hS183 : zIm S 183 sn183) (hS184 : zIm S 184 sn184) {a : List Int} {g : rHp} : ∀ (ρ : Nat → Int) (γ : Nat → rHp), jn185 a g 0 (zAg (zNA a185_ 0) ρ) (γ 1) → zO 4 S a g q185a0_3 ρ γ → zGl (fun i vs g1 => jn185 a g i vs g1) (sn185 a g) q185a0_3 ρ γ := by
  intro ρ γ hJ h
  obtain ⟨ha, hg, hr, hf, hm, hc, hl⟩ := h
  have ha : a = [ρ 0, ρ 1, ρ 2, ρ 3] := ha
  subst ha
  subst hg
  have hJ : jn185 [ρ 0, ρ 1, ρ 2, ρ 3] (γ 0) 0 [ρ 0, ρ 1, ρ 2, ρ 3, ρ 4, ρ 5, ρ 6] (γ 1) := hJ
  have r4 : (0 : Int) ≤ ρ 4 ∧ ρ 4 ≤ 0 := zRnA hr 4
  have f2 : (0 : Int) ≤ ρ 7 + -ρ 4 + (-1) := zAllA hf 2
  obtain ⟨w_0, w_1⟩ : (¬ (ρ 4 ≥ ρ 7)) ∧ (¬ (ρ 4 ≠ 0)) := ⟨by omega, by omega⟩
  have m4 : γ 0 17 0 (ρ 5) = ρ 7 := zAllA hm 4
  have m6 : γ 0 27 0 (ρ 4 + 4 * ρ 0) = ρ 9 := zAllA hm 6
  have l0 : sn181 [40, ρ 6] (γ 1) 0 0 (γ 2) := hS181 _ _ _ _ _ (zAllA hl 0)
  have l1 : sn172 [ρ 9] (γ 2) 0 0 (γ 3) := hS172 _ _ _ _ _ (zAllA hl 1)
  have l2 : zOpP (.l2i) (γ 0) (γ 1) [ρ 9 + (-1099511627776)] (ρ 10) := zAllA hl 2
  have l3 : sn93 [ρ 10, ρ 3] (γ 3) 0 (ρ 11) (γ 4) := hS93 _ _ _ _ _ (zAllA hl 3)
  have l4 : sn183 [ρ 11, ρ 8] (γ 4) 0 0 (γ 5) := hS183 _ _ _ _ _ (zAllA hl 4)
  show jn185 [ρ 0, ρ 1, ρ 2, ρ 3] (γ 0) 0 [ρ 0, ρ 1, ρ 2, ρ 3, ρ 4 + 1, ρ 5, ρ 12] (γ 5)
  have hD : en185 (γ 0) (0, [ρ 0, ρ 4, ρ 5], γ 1) = .inl (0, [ρ 0, ρ 4 + 1, ρ 5], γ 5) := by
    unfold en185
    refine zIP (show (0 : Nat) = 0 by decide) (zLV (γ 1) rfl (zLV (ρ 0) rfl (zLV (ρ 4) rfl (zLV (ρ 5) rfl (zLE m4 (zIN w_0 (zIN w_1 ?_)))))))
    refine zLE (show fn181 [40] (γ 1) = (0, 0, γ 2) from l0.symm) (zLV (γ 2) rfl (zLE m6 (zLE (show fn172 [ρ 9] (γ 2) = (0, 0, γ 3) from l1.symm) (zLV (γ 3) rfl (zIN zQ0_ (zLE (zF1_ok l2) (zLE (show fn93 [ρ 10] (γ 3) = (0, ρ 11, γ 4) from l3.symm) ?_)))))))
    refine zLV (γ 4) rfl (zLV (ρ 11) rfl (zLE (show fn183 [ρ 11] (γ 4) = (0, 0, γ 5) from l4.symm) (zLV (γ 5) rfl ?_)))
    rfl
  exact zGoo_ato hJ hD
set_option maxRecDepth 100000 in
theorem vn185a0_4 {S : Nat → zSpc} (hS93 : zIm S 93 sn93) (hS171 : zIm S 171 sn171) (hS172 : zIm S 172 sn172) (hS180 : zIm S 180 sn180) (hS181 : zIm S 181 sn181) (hS183 : zIm S 183 sn183) (hS184 : zIm S 184 sn184) {a : List Int} {g : rHp} : ∀ (ρ : Nat → Int) (γ : Nat → rHp), jn185 a g 0 (zAg (zNA a185_ 0) ρ) (γ 1) → zO 4 S a g q185a0_4 ρ γ → zGl (fun i vs g1 => jn185 a g i vs g1) (sn185 a g) q185a0_4 ρ γ := by
  intro ρ γ hJ h
  obtain ⟨ha, hg, hr, hf, hm, hc, hl⟩ := h
  have ha : a = [ρ 0, ρ 1, ρ 2, ρ 3] := ha
  subst ha
  subst hg
  have hJ : jn185 [ρ 0, ρ 1, ρ 2, ρ 3] (γ 0) 0 [ρ 0, ρ 1, ρ 2, ρ 3, ρ 4, ρ 5, ρ 6] (γ 1) := hJ
  have r4 : (0 : Int) ≤ ρ 4 ∧ ρ 4 ≤ 0 := zRnA hr 4
  have f2 : (0 : Int) ≤ ρ 7 + -ρ 4 + (-1) := zAllA hf 2
  obtain ⟨w_0, w_1⟩ : (¬ (ρ 4 ≥ ρ 7)) ∧ (¬ (ρ 4 ≠ 0)) := ⟨by omega, by omega⟩
  have m4 : γ 0 17 0 (ρ 5) = ρ 7 := zAllA hm 4
  have m6 : γ 0 27 0 (ρ 4 + 4 * ρ 0) = ρ 9 := zAllA hm 6
  have l0 : sn181 [40, ρ 6] (γ 1) 0 0 (γ 2) := hS181 _ _ _ _ _ (zAllA hl 0)
  have l1 : sn172 [ρ 9] (γ 2) 0 1 (γ 3) := hS172 _ _ _ _ _ (zAllA hl 1)
  have l2 : sn184 [ρ 9, ρ 8] (γ 3) 0 0 (γ 4) := hS184 _ _ _ _ _ (zAllA hl 2)
  show jn185 [ρ 0, ρ 1, ρ 2, ρ 3] (γ 0) 0 [ρ 0, ρ 1, ρ 2, ρ 3, ρ 4 + 1, ρ 5, ρ 10] (γ 4)
  have hD : en185 (γ 0) (0, [ρ 0, ρ 4, ρ 5], γ 1) = .inl (0, [ρ 0, ρ 4 + 1, ρ 5], γ 4) := by
    unfold en185
    refine zIP (show (0 : Nat) = 0 by decide) (zLV (γ 1) rfl (zLV (ρ 0) rfl (zLV (ρ 4) rfl (zLV (ρ 5) rfl (zLE m4 (zIN w_0 (zIN w_1 ?_)))))))
    refine zLE (show fn181 [40] (γ 1) = (0, 0, γ 2) from l0.symm) (zLV (γ 2) rfl (zLE m6 (zLE (show fn172 [ρ 9] (γ 2) = (0, 1, γ 3) from l1.symm) (zLV (γ 3) rfl (zIP zQ1_ (zLE (show fn184 [ρ 9] (γ 3) = (0, 0, γ 4) from l2.symm) (zLV (γ 4) rfl ?_)))))))
    rfl
  exact zGoo_ato hJ hD
set_option maxRecDepth 100000 in
theorem yn185 {S : Nat → zSpc} (hS93 : zIm S 93 sn93) (hS171 : zIm S 171 sn171) (hS172 : zIm S 172 sn172) (hS180 : zIm S 180 sn180) (hS181 : zIm S 181 sn181) (hS183 : zIm S 183 sn183) (hS184 : zIm S 184 sn184) : ∀ x g o v gz, zSem uW uT w185_.2.2.2.1 w185_.2.2.1.1.length S q185 (fun i => q185a.getD i []) (zNA a185_) x g o v gz → sn185 x g o v gz := by
  intro a g o v gz h
  exact zSem_all (l0 := q185) (las := q185a) (S := S) (J := (fun i vs g1 => jn185 a g i vs g1)) (P := sn185 a g) (fun _ => (show zAll _ [q185_0, q185_1, q185_2] from (zAll_c (vn185_0 hS93 hS171 hS172 hS180 hS181 hS183 hS184) (zAll_c (vn185_1 hS93 hS171 hS172 hS180 hS181 hS183 hS184) (zAll_c (vn185_2 hS93 hS171 hS172 hS180 hS181 hS183 hS184) zAll_n))))) (fun _ => (show zAllI _ 0 [q185a0] from ⟨(show zAll _ [q185a0_0, q185a0_1, q185a0_2, q185a0_3, q185a0_4] from (zAll_c (vn185a0_0 hS93 hS171 hS172 hS180 hS181 hS183 hS184) (zAll_c (vn185a0_1 hS93 hS171 hS172 hS180 hS181 hS183 hS184) (zAll_c (vn185a0_2 hS93 hS171 hS172 hS180 hS181 hS183 hS184) (zAll_c (vn185a0_3 hS93 hS171 hS172 hS180 hS181 hS183 hS184) (zAll_c (vn185a0_4 hS93 hS171 hS172 hS180 hS181 hS183 hS184) zAll_n)))))), trivial⟩)) h
set_option maxRecDepth 100000 in
theorem vn241_0 {S : Nat → zSpc}  {a : List Int} {g : rHp} : ∀ (ρ : Nat → Int) (γ : Nat → rHp), zO 10 S a g q241_0 ρ γ → zGl (fun _ _ _ => True) (sn241 a g) q241_0 ρ γ := by
  intro ρ γ h
  obtain ⟨ha, hg, hr, hf, hm, hc, hl⟩ := h
  have ha : a = [ρ 0, ρ 1, ρ 2, ρ 3, ρ 4, ρ 5, ρ 6, ρ 7, ρ 8, ρ 9] := ha
  subst ha
  subst hg
  have c1 : γ 1 = rUp (γ 0) 6 0 9 2 := And.right (zChA hc 4)
  have c2 : γ 2 = rUp (γ 1) 6 0 10 (ρ 0) := And.right (zChA hc 3)
  have c3 : γ 3 = rUp (γ 2) 6 0 7 (ρ 1) := And.right (zChA hc 2)
  have c4 : γ 4 = rUp (γ 3) 6 0 8 (ρ 2) := And.right (zChA hc 1)
  have c5 : γ 5 = rUp (γ 4) 6 0 13 0 := And.right (zChA hc 0)
  show sn241 [ρ 0, ρ 1, ρ 2, ρ 3, ρ 4, ρ 5, ρ 6, ρ 7, ρ 8, ρ 9] (γ 0) 0 0 (γ 5)
  refine Eq.symm ?_
  show fn241 [ρ 0, ρ 1, ρ 2] (γ 0) = _
  unfold fn241
  refine zLV (ρ 0) rfl (zLV (ρ 1) rfl (zLV (ρ 2) rfl (zLE c1.symm (zLE c2.symm (zLE c3.symm (zLE c4.symm (zLE c5.symm ?_)))))))
  rfl
set_option maxRecDepth 100000 in
theorem yn241 {S : Nat → zSpc}  : ∀ x g o v gz, zSem uW uT w241_.2.2.2.1 w241_.2.2.1.1.length S q241 (fun i => q241a.getD i []) (zNA a241_) x g o v gz → sn241 x g o v gz := by
  intro a g o v gz h
  exact zSem_all (l0 := q241) (las := q241a) (S := S) (J := (fun _ _ _ => True)) (P := sn241 a g) (fun _ => (show zAll _ [q241_0] from (zAll_c (vn241_0 ) zAll_n))) (fun _ => (show zAllI _ 0 [] from trivial)) h
set_option maxRecDepth 100000 in
theorem vn262_0 {S : Nat → zSpc} (hS241 : zIm S 241 sn241) (hS261 : zIm S 261 sn261) {a : List Int} {g : rHp} : ∀ (ρ : Nat → Int) (γ : Nat → rHp), zO 16 S a g q262_0 ρ γ → zGl (fun _ _ _ => True) (sn262 a g) q262_0 ρ γ := by
  intro ρ γ h
  obtain ⟨ha, hg, hr, hf, hm, hc, hl⟩ := h
  have ha : a = [ρ 0, ρ 1, ρ 2, ρ 3, ρ 4, ρ 5, ρ 6, ρ 7, ρ 8, ρ 9, ρ 10, ρ 11, ρ 12, ρ 13, ρ 14, ρ 15] := ha
  subst ha
  subst hg
  have m3 : γ 0 4 0 7 = ρ 5 := zAllA hm 3
  have c2 : γ 2 = rUp (γ 1) 6 0 6 (ρ 1) := And.right (zChA hc 3)
  have c3 : γ 3 = rUp (γ 2) 6 0 11 (ρ 5) := And.right (zChA hc 2)
  have c4 : γ 4 = rUp (γ 3) 6 0 0 0 := And.right (zChA hc 1)
  have l0 : sn241 [0, ρ 0, (-1), ρ 13, ρ 14, ρ 15, ρ 7, ρ 8, ρ 9, ρ 12] (γ 0) 0 0 (γ 1) := hS241 _ _ _ _ _ (zAllA hl 0)
  have l1 : sn261 [0, 2, ρ 1, ρ 2, ρ 16, ρ 4, ρ 5, ρ 6, (-1), 0, ρ 5, ρ 11, 0, ρ 17, ρ 18, ρ 19, ρ 20, ρ 21, ρ 22, ρ 23, ρ 24, ρ 25, ρ 26, ρ 27, ρ 28, ρ 29, ρ 30, ρ 31, ρ 32, ρ 33, ρ 34, ρ 35, ρ 36, ρ 37, ρ 38, ρ 39, ρ 40, ρ 41, ρ 42, ρ 43, ρ 44, ρ 45, ρ 46, ρ 47, ρ 48, ρ 49, ρ 50, ρ 51, ρ 52, ρ 53, ρ 54, ρ 55, ρ 56, ρ 57, ρ 58, ρ 59, ρ 60, ρ 61, ρ 62, ρ 63, ρ 64, ρ 65, ρ 66, ρ 67, ρ 68, ρ 69, ρ 70] (γ 4) 0 0 (γ 5) := hS261 _ _ _ _ _ (zAllA hl 1)
  show sn262 [ρ 0, ρ 1, ρ 2, ρ 3, ρ 4, ρ 5, ρ 6, ρ 7, ρ 8, ρ 9, ρ 10, ρ 11, ρ 12, ρ 13, ρ 14, ρ 15] (γ 0) 0 0 (γ 5)
  refine Eq.symm ?_
  show fn262 [ρ 0, ρ 1] (γ 0) = _
  unfold fn262
  refine zLV (ρ 0) rfl (zLV (ρ 1) rfl (zLE m3 (zLE (show fn241 [0, ρ 0, (-1)] (γ 0) = (0, 0, γ 1) from l0.symm) (zLV (γ 1) rfl (zLE c2.symm (zLE c3.symm (zLE c4.symm ?_)))))))
  refine zLE (show fn261 [] (γ 4) = (0, 0, γ 5) from l1.symm) (zLV (γ 5) rfl (zIP (show (0 : Nat) = 0 by decide) ?_))
  rfl
set_option maxRecDepth 100000 in
theorem vn262_1 {S : Nat → zSpc} (hS241 : zIm S 241 sn241) (hS261 : zIm S 261 sn261) {a : List Int} {g : rHp} : ∀ (ρ : Nat → Int) (γ : Nat → rHp), zO 16 S a g q262_1 ρ γ → zGl (fun _ _ _ => True) (sn262 a g) q262_1 ρ γ := by
  intro ρ γ h
  obtain ⟨ha, hg, hr, hf, hm, hc, hl⟩ := h
  have ha : a = [ρ 0, ρ 1, ρ 2, ρ 3, ρ 4, ρ 5, ρ 6, ρ 7, ρ 8, ρ 9, ρ 10, ρ 11, ρ 12, ρ 13, ρ 14, ρ 15] := ha
  subst ha
  subst hg
  have m3 : γ 0 4 0 7 = ρ 5 := zAllA hm 3
  have c2 : γ 2 = rUp (γ 1) 6 0 6 (ρ 1) := And.right (zChA hc 3)
  have c3 : γ 3 = rUp (γ 2) 6 0 11 (ρ 5) := And.right (zChA hc 2)
  have c4 : γ 4 = rUp (γ 3) 6 0 0 0 := And.right (zChA hc 1)
  have l0 : sn241 [0, ρ 0, (-1), ρ 13, ρ 14, ρ 15, ρ 7, ρ 8, ρ 9, ρ 12] (γ 0) 0 0 (γ 1) := hS241 _ _ _ _ _ (zAllA hl 0)
  have l1 : sn261 [0, 2, ρ 1, ρ 2, ρ 16, ρ 4, ρ 5, ρ 6, (-1), 0, ρ 5, ρ 11, 0, ρ 17, ρ 18, ρ 19, ρ 20, ρ 21, ρ 22, ρ 23, ρ 24, ρ 25, ρ 26, ρ 27, ρ 28, ρ 29, ρ 30, ρ 31, ρ 32, ρ 33, ρ 34, ρ 35, ρ 36, ρ 37, ρ 38, ρ 39, ρ 40, ρ 41, ρ 42, ρ 43, ρ 44, ρ 45, ρ 46, ρ 47, ρ 48, ρ 49, ρ 50, ρ 51, ρ 52, ρ 53, ρ 54, ρ 55, ρ 56, ρ 57, ρ 58, ρ 59, ρ 60, ρ 61, ρ 62, ρ 63, ρ 64, ρ 65, ρ 66, ρ 67, ρ 68, ρ 69, ρ 70] (γ 4) 4 0 (γ 5) := hS261 _ _ _ _ _ (zAllA hl 1)
  show sn262 [ρ 0, ρ 1, ρ 2, ρ 3, ρ 4, ρ 5, ρ 6, ρ 7, ρ 8, ρ 9, ρ 10, ρ 11, ρ 12, ρ 13, ρ 14, ρ 15] (γ 0) 4 0 (γ 5)
  refine Eq.symm ?_
  show fn262 [ρ 0, ρ 1] (γ 0) = _
  unfold fn262
  refine zLV (ρ 0) rfl (zLV (ρ 1) rfl (zLE m3 (zLE (show fn241 [0, ρ 0, (-1)] (γ 0) = (0, 0, γ 1) from l0.symm) (zLV (γ 1) rfl (zLE c2.symm (zLE c3.symm (zLE c4.symm ?_)))))))
  refine zLE (show fn261 [] (γ 4) = (4, 0, γ 5) from l1.symm) (zLV (γ 5) rfl (zIN (show ¬ (4 : Nat) = 0 by decide) ?_))
  rfl
set_option maxRecDepth 100000 in
theorem yn262 {S : Nat → zSpc} (hS241 : zIm S 241 sn241) (hS261 : zIm S 261 sn261) : ∀ x g o v gz, zSem uW uT w262_.2.2.2.1 w262_.2.2.1.1.length S q262 (fun i => q262a.getD i []) (zNA a262_) x g o v gz → sn262 x g o v gz := by
  intro a g o v gz h
  exact zSem_all (l0 := q262) (las := q262a) (S := S) (J := (fun _ _ _ => True)) (P := sn262 a g) (fun _ => (show zAll _ [q262_0, q262_1] from (zAll_c (vn262_0 hS241 hS261) (zAll_c (vn262_1 hS241 hS261) zAll_n)))) (fun _ => (show zAllI _ 0 [] from trivial)) h
