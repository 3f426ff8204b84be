/-! ===== the runs are the functions ===== -/
theorem vn72_0 {S : Nat → zSpc} (hS62 : zIm S 62 sn62) (hS63 : zIm S 63 sn63) (hS64 : zIm S 64 sn64) (hS65 : zIm S 65 sn65) (hS68 : zIm S 68 sn68) {a : List Int} {g : rHp} : ∀ (ρ : Nat → Int) (γ : Nat → rHp), zO 13 S a g q72_0 ρ γ → zGl (fun i vs g1 => jn72 a g i vs g1) (sn72 a g) q72_0 ρ γ := by
  intro ρ γ h
  obtain ⟨ha, hg, hr, hf, hm, hc, hl⟩ := h
  have ha : a = [ρ 0, ρ 1, ρ 2, ρ 3, ρ 4, ρ 5, ρ 6, ρ 7, ρ 8, ρ 9, ρ 10, ρ 11, ρ 12] := ha
  subst ha
  subst hg
  show jn72 [ρ 0, ρ 1, ρ 2, ρ 3, ρ 4, ρ 5, ρ 6, ρ 7, ρ 8, ρ 9, ρ 10, ρ 11, ρ 12] (γ 0) 0 [ρ 0, ρ 1, ρ 2, ρ 3, ρ 4, ρ 5, ρ 6, ρ 7, ρ 8, ρ 9, ρ 10, ρ 11, ρ 12, 0, ρ 3, ρ 4, ρ 8] (γ 0)
  have hD : dn72 [ρ 0] (γ 0) = .inl (0, [ρ 0, 0], γ 0) := by
    unfold dn72
    refine zLV (ρ 0) rfl ?_
    rfl
  exact zGoo_to hD
theorem vn72a0_0 {S : Nat → zSpc} (hS62 : zIm S 62 sn62) (hS63 : zIm S 63 sn63) (hS64 : zIm S 64 sn64) (hS65 : zIm S 65 sn65) (hS68 : zIm S 68 sn68) {a : List Int} {g : rHp} : ∀ (ρ : Nat → Int) (γ : Nat → rHp), jn72 a g 0 (zAg (zNA a72_ 0) ρ) (γ 1) → zO 13 S a g q72a0_0 ρ γ → zGl (fun i vs g1 => jn72 a g i vs g1) (sn72 a g) q72a0_0 ρ γ := by
  intro ρ γ hJ h
  obtain ⟨ha, hg, hr, hf, hm, hc, hl⟩ := h
  have ha : a = [ρ 0, ρ 1, ρ 2, ρ 3, ρ 4, ρ 5, ρ 6, ρ 7, ρ 8, ρ 9, ρ 10, ρ 11, ρ 12] := ha
  subst ha
  subst hg
  have hJ : jn72 [ρ 0, ρ 1, ρ 2, ρ 3, ρ 4, ρ 5, ρ 6, ρ 7, ρ 8, ρ 9, ρ 10, ρ 11, ρ 12] (γ 0) 0 [ρ 0, ρ 1, ρ 2, ρ 3, ρ 4, ρ 5, ρ 6, ρ 7, ρ 8, ρ 9, ρ 10, ρ 11, ρ 12, ρ 13, ρ 14, ρ 15, ρ 16] (γ 1) := hJ
  have r15 : (1 : Int) ≤ ρ 15 ∧ ρ 15 ≤ 3 := zRnA hr 15
  have w_0 : ρ 15 ≠ 0 := by omega
  have m0 : γ 0 73 0 (ρ 0) = ρ 1 := zAllA hm 0
  have m12 : γ 1 15 0 72 = ρ 14 := zAllA hm 12
  have m13 : γ 1 15 0 77 = ρ 15 := zAllA hm 13
  show sn72 [ρ 0, ρ 1, ρ 2, ρ 3, ρ 4, ρ 5, ρ 6, ρ 7, ρ 8, ρ 9, ρ 10, ρ 11, ρ 12] (γ 0) 0 0 (γ 1)
  have hD : en72 (γ 0) (0, [ρ 0, ρ 13], γ 1) = .inr (0, 0, γ 1) := by
    unfold en72
    refine zIP (show (0 : Nat) = 0 by decide) (zLV (γ 1) rfl (zLV (ρ 0) rfl (zLV (ρ 13) rfl (zLE m0 (zLE m12 (zLE m13 (zIP w_0 ?_)))))))
    rfl
  exact zGoo_aend hJ hD
theorem vn72a0_1 {S : Nat → zSpc} (hS62 : zIm S 62 sn62) (hS63 : zIm S 63 sn63) (hS64 : zIm S 64 sn64) (hS65 : zIm S 65 sn65) (hS68 : zIm S 68 sn68) {a : List Int} {g : rHp} : ∀ (ρ : Nat → Int) (γ : Nat → rHp), jn72 a g 0 (zAg (zNA a72_ 0) ρ) (γ 1) → zO 13 S a g q72a0_1 ρ γ → zGl (fun i vs g1 => jn72 a g i vs g1) (sn72 a g) q72a0_1 ρ γ := by
  intro ρ γ hJ h
  obtain ⟨ha, hg, hr, hf, hm, hc, hl⟩ := h
  have ha : a = [ρ 0, ρ 1, ρ 2, ρ 3, ρ 4, ρ 5, ρ 6, ρ 7, ρ 8, ρ 9, ρ 10, ρ 11, ρ 12] := ha
  subst ha
  subst hg
  have hJ : jn72 [ρ 0, ρ 1, ρ 2, ρ 3, ρ 4, ρ 5, ρ 6, ρ 7, ρ 8, ρ 9, ρ 10, ρ 11, ρ 12] (γ 0) 0 [ρ 0, ρ 1, ρ 2, ρ 3, ρ 4, ρ 5, ρ 6, ρ 7, ρ 8, ρ 9, ρ 10, ρ 11, ρ 12, ρ 13, ρ 14, ρ 15, ρ 16] (γ 1) := hJ
  have r14 : (0 : Int) ≤ ρ 14 ∧ ρ 14 ≤ 49999 := zRnA hr 14
  have r15 : (0 : Int) ≤ ρ 15 ∧ ρ 15 ≤ 0 := zRnA hr 15
  have r17 : (0 : Int) ≤ ρ 17 ∧ ρ 17 ≤ 0 := zRnA hr 17
  have r20 : (0 : Int) ≤ ρ 20 ∧ ρ 20 ≤ 1999 := zRnA hr 20
  have f2 : (0 : Int) ≤ -ρ 13 + ρ 1 + (-1) := zAllA hf 2
  obtain ⟨w_0, w_1, w_2, w_3, w_4, w_5⟩ : (¬ (ρ 15 ≠ 0)) ∧ (ρ 13 ≠ ρ 1) ∧ (0 ≤ -ρ 17 + 4) ∧ (ρ 17 = 0) ∧ (ρ 20 ≥ 0) ∧ (ρ 14 + 1 ≤ 50000) := ⟨by omega, by omega, by omega, by omega, by omega, by omega⟩
  have m0 : γ 0 73 0 (ρ 0) = ρ 1 := zAllA hm 0
  have m12 : γ 1 15 0 72 = ρ 14 := zAllA hm 12
  have m13 : γ 1 15 0 77 = ρ 15 := zAllA hm 13
  have m15 : γ 0 77 0 (ρ 13 + 8 * ρ 0) = ρ 17 := zAllA hm 15
  have m16 : γ 0 78 0 (ρ 13 + 8 * ρ 0) = ρ 18 := zAllA hm 16
  have m17 : γ 1 100 0 (ρ 18) = ρ 19 := zAllA hm 17
  have c3 : γ 3 = rUp (γ 2) 15 0 72 (ρ 14 + 1) := And.right (zChA hc 2)
  have c4 : γ 4 = rUp (γ 3) 104 0 (ρ 13) (ρ 20) := And.right (zChA hc 1)
  have l0 : sn62 [ρ 0, ρ 13, ρ 19, ρ 10, ρ 16, ρ 11, ρ 12] (γ 1) 0 (ρ 20) (γ 2) := hS62 _ _ _ _ _ (zAllA hl 0)
  have l1 : sn63 [ρ 13 + 8 * ρ 0, ρ 20] (γ 4) 0 0 (γ 5) := hS63 _ _ _ _ _ (zAllA hl 1)
  show jn72 [ρ 0, ρ 1, ρ 2, ρ 3, ρ 4, ρ 5, ρ 6, ρ 7, ρ 8, ρ 9, ρ 10, ρ 11, ρ 12] (γ 0) 0 [ρ 0, ρ 1, ρ 2, ρ 3, ρ 4, ρ 5, ρ 6, ρ 7, ρ 8, ρ 9, ρ 10, ρ 11, ρ 12, ρ 13 + 1, ρ 14 + 1, ρ 15, ρ 16] (γ 5)
  have hD : en72 (γ 0) (0, [ρ 0, ρ 13], γ 1) = .inl (0, [ρ 0, ρ 13 + 1], γ 5) := by
    unfold en72
    refine zIP (show (0 : Nat) = 0 by decide) (zLV (γ 1) rfl (zLV (ρ 0) rfl (zLV (ρ 13) rfl (zLE m0 (zLE m12 (zLE m13 (zIN w_0 ?_)))))))
    refine zIP w_1 (zLE m15 (zIP w_2 (zIP w_3 (zLE m16 (zLE m17 (zLE (show fn62 [ρ 0, ρ 13, ρ 19] (γ 1) = (0, ρ 20, γ 2) from l0.symm) (zLV (γ 2) rfl ?_)))))))
    refine zLV (ρ 20) rfl (zIP w_4 (zLE c3.symm (zIP w_5 (zLE c4.symm (zLE (show fn63 [ρ 13 + 8 * ρ 0, ρ 20] (γ 4) = (0, 0, γ 5) from l1.symm) (zLV (γ 5) rfl ?_))))))
    rfl
  exact zGoo_ato hJ hD
theorem vn72a0_2 {S : Nat → zSpc} (hS62 : zIm S 62 sn62) (hS63 : zIm S 63 sn63) (hS64 : zIm S 64 sn64) (hS65 : zIm S 65 sn65) (hS68 : zIm S 68 sn68) {a : List Int} {g : rHp} : ∀ (ρ : Nat → Int) (γ : Nat → rHp), jn72 a g 0 (zAg (zNA a72_ 0) ρ) (γ 1) → zO 13 S a g q72a0_2 ρ γ → zGl (fun i vs g1 => jn72 a g i vs g1) (sn72 a g) q72a0_2 ρ γ := by
  intro ρ γ hJ h
  obtain ⟨ha, hg, hr, hf, hm, hc, hl⟩ := h
  have ha : a = [ρ 0, ρ 1, ρ 2, ρ 3, ρ 4, ρ 5, ρ 6, ρ 7, ρ 8, ρ 9, ρ 10, ρ 11, ρ 12] := ha
  subst ha
  subst hg
  have hJ : jn72 [ρ 0, ρ 1, ρ 2, ρ 3, ρ 4, ρ 5, ρ 6, ρ 7, ρ 8, ρ 9, ρ 10, ρ 11, ρ 12] (γ 0) 0 [ρ 0, ρ 1, ρ 2, ρ 3, ρ 4, ρ 5, ρ 6, ρ 7, ρ 8, ρ 9, ρ 10, ρ 11, ρ 12, ρ 13, ρ 14, ρ 15, ρ 16] (γ 1) := hJ
  have r14 : (50000 : Int) ≤ ρ 14 ∧ ρ 14 ≤ 50001 := zRnA hr 14
  have r15 : (0 : Int) ≤ ρ 15 ∧ ρ 15 ≤ 0 := zRnA hr 15
  have r17 : (0 : Int) ≤ ρ 17 ∧ ρ 17 ≤ 0 := zRnA hr 17
  have r20 : (0 : Int) ≤ ρ 20 ∧ ρ 20 ≤ 1999 := zRnA hr 20
  have f2 : (0 : Int) ≤ -ρ 13 + ρ 1 + (-1) := zAllA hf 2
  obtain ⟨w_0, w_1, w_2, w_3, w_4, w_5⟩ : (¬ (ρ 15 ≠ 0)) ∧ (ρ 13 ≠ ρ 1) ∧ (0 ≤ -ρ 17 + 4) ∧ (ρ 17 = 0) ∧ (ρ 20 ≥ 0) ∧ (¬ (ρ 14 + 1 ≤ 50000)) := ⟨by omega, by omega, by omega, by omega, by omega, by omega⟩
  have m0 : γ 0 73 0 (ρ 0) = ρ 1 := zAllA hm 0
  have m12 : γ 1 15 0 72 = ρ 14 := zAllA hm 12
  have m13 : γ 1 15 0 77 = ρ 15 := zAllA hm 13
  have m15 : γ 0 77 0 (ρ 13 + 8 * ρ 0) = ρ 17 := zAllA hm 15
  have m16 : γ 0 78 0 (ρ 13 + 8 * ρ 0) = ρ 18 := zAllA hm 16
  have m17 : γ 1 100 0 (ρ 18) = ρ 19 := zAllA hm 17
  have c3 : γ 3 = rUp (γ 2) 15 0 72 (ρ 14 + 1) := And.right (zChA hc 3)
  have c4 : γ 4 = rUp (γ 3) 15 0 77 2 := And.right (zChA hc 2)
  have c5 : γ 5 = rUp (γ 4) 104 0 (ρ 13) (ρ 20) := And.right (zChA hc 1)
  have l0 : sn62 [ρ 0, ρ 13, ρ 19, ρ 10, ρ 16, ρ 11, ρ 12] (γ 1) 0 (ρ 20) (γ 2) := hS62 _ _ _ _ _ (zAllA hl 0)
  have l1 : sn63 [ρ 13 + 8 * ρ 0, ρ 20] (γ 5) 0 0 (γ 6) := hS63 _ _ _ _ _ (zAllA hl 1)
  show jn72 [ρ 0, ρ 1, ρ 2, ρ 3, ρ 4, ρ 5, ρ 6, ρ 7, ρ 8, ρ 9, ρ 10, ρ 11, ρ 12] (γ 0) 0 [ρ 0, ρ 1, ρ 2, ρ 3, ρ 4, ρ 5, ρ 6, ρ 7, ρ 8, ρ 9, ρ 10, ρ 11, ρ 12, ρ 13 + 1, ρ 14 + 1, 2, ρ 16] (γ 6)
  have hD : en72 (γ 0) (0, [ρ 0, ρ 13], γ 1) = .inl (0, [ρ 0, ρ 13 + 1], γ 6) := by
    unfold en72
    refine zIP (show (0 : Nat) = 0 by decide) (zLV (γ 1) rfl (zLV (ρ 0) rfl (zLV (ρ 13) rfl (zLE m0 (zLE m12 (zLE m13 (zIN w_0 ?_)))))))
    refine zIP w_1 (zLE m15 (zIP w_2 (zIP w_3 (zLE m16 (zLE m17 (zLE (show fn62 [ρ 0, ρ 13, ρ 19] (γ 1) = (0, ρ 20, γ 2) from l0.symm) (zLV (γ 2) rfl ?_)))))))
    refine zLV (ρ 20) rfl (zIP w_4 (zLE c3.symm (zIN w_5 (zLE c4.symm (zLE c5.symm (zLE (show fn63 [ρ 13 + 8 * ρ 0, ρ 20] (γ 5) = (0, 0, γ 6) from l1.symm) (zLV (γ 6) rfl ?_)))))))
    rfl
  exact zGoo_ato hJ hD
theorem vn72a0_3 {S : Nat → zSpc} (hS62 : zIm S 62 sn62) (hS63 : zIm S 63 sn63) (hS64 : zIm S 64 sn64) (hS65 : zIm S 65 sn65) (hS68 : zIm S 68 sn68) {a : List Int} {g : rHp} : ∀ (ρ : Nat → Int) (γ : Nat → rHp), jn72 a g 0 (zAg (zNA a72_ 0) ρ) (γ 1) → zO 13 S a g q72a0_3 ρ γ → zGl (fun i vs g1 => jn72 a g i vs g1) (sn72 a g) q72a0_3 ρ γ := by
  intro ρ γ hJ h
  obtain ⟨ha, hg, hr, hf, hm, hc, hl⟩ := h
  have ha : a = [ρ 0, ρ 1, ρ 2, ρ 3, ρ 4, ρ 5, ρ 6, ρ 7, ρ 8, ρ 9, ρ 10, ρ 11, ρ 12] := ha
  subst ha
  subst hg
  have hJ : jn72 [ρ 0, ρ 1, ρ 2, ρ 3, ρ 4, ρ 5, ρ 6, ρ 7, ρ 8, ρ 9, ρ 10, ρ 11, ρ 12] (γ 0) 0 [ρ 0, ρ 1, ρ 2, ρ 3, ρ 4, ρ 5, ρ 6, ρ 7, ρ 8, ρ 9, ρ 10, ρ 11, ρ 12, ρ 13, ρ 14, ρ 15, ρ 16] (γ 1) := hJ
  have r15 : (0 : Int) ≤ ρ 15 ∧ ρ 15 ≤ 0 := zRnA hr 15
  have r17 : (0 : Int) ≤ ρ 17 ∧ ρ 17 ≤ 0 := zRnA hr 17
  have r20 : ((-1) : Int) ≤ ρ 20 ∧ ρ 20 ≤ (-1) := zRnA hr 20
  have f2 : (0 : Int) ≤ -ρ 13 + ρ 1 + (-1) := zAllA hf 2
  obtain ⟨w_0, w_1, w_2, w_3, w_4⟩ : (¬ (ρ 15 ≠ 0)) ∧ (ρ 13 ≠ ρ 1) ∧ (0 ≤ -ρ 17 + 4) ∧ (ρ 17 = 0) ∧ (¬ (ρ 20 ≥ 0)) := ⟨by omega, by omega, by omega, by omega, by omega⟩
  have m0 : γ 0 73 0 (ρ 0) = ρ 1 := zAllA hm 0
  have m12 : γ 1 15 0 72 = ρ 14 := zAllA hm 12
  have m13 : γ 1 15 0 77 = ρ 15 := zAllA hm 13
  have m15 : γ 0 77 0 (ρ 13 + 8 * ρ 0) = ρ 17 := zAllA hm 15
  have m16 : γ 0 78 0 (ρ 13 + 8 * ρ 0) = ρ 18 := zAllA hm 16
  have m17 : γ 1 100 0 (ρ 18) = ρ 19 := zAllA hm 17
  have l0 : sn62 [ρ 0, ρ 13, ρ 19, ρ 10, ρ 16, ρ 11, ρ 12] (γ 1) 0 (ρ 20) (γ 2) := hS62 _ _ _ _ _ (zAllA hl 0)
  show jn72 [ρ 0, ρ 1, ρ 2, ρ 3, ρ 4, ρ 5, ρ 6, ρ 7, ρ 8, ρ 9, ρ 10, ρ 11, ρ 12] (γ 0) 1 [ρ 0, ρ 1, ρ 2, ρ 3, ρ 4, ρ 5, ρ 6, ρ 7, ρ 8, ρ 9, ρ 10, ρ 11, ρ 12, ρ 13 + (-1), ρ 13 + 8 * ρ 0, ρ 14, ρ 15, ρ 16] (γ 2)
  have hD : en72 (γ 0) (0, [ρ 0, ρ 13], γ 1) = .inl (1, [ρ 0, ρ 13 + (-1), ρ 13 + 8 * ρ 0], γ 2) := by
    unfold en72
    refine zIP (show (0 : Nat) = 0 by decide) (zLV (γ 1) rfl (zLV (ρ 0) rfl (zLV (ρ 13) rfl (zLE m0 (zLE m12 (zLE m13 (zIN w_0 ?_)))))))
    refine zIP w_1 (zLE m15 (zIP w_2 (zIP w_3 (zLE m16 (zLE m17 (zLE (show fn62 [ρ 0, ρ 13, ρ 19] (γ 1) = (0, ρ 20, γ 2) from l0.symm) (zLV (γ 2) rfl ?_)))))))
    refine zLV (ρ 20) rfl (zIN w_4 ?_)
    rfl
  exact zGoo_ato hJ hD
theorem vn72a0_4 {S : Nat → zSpc} (hS62 : zIm S 62 sn62) (hS63 : zIm S 63 sn63) (hS64 : zIm S 64 sn64) (hS65 : zIm S 65 sn65) (hS68 : zIm S 68 sn68) {a : List Int} {g : rHp} : ∀ (ρ : Nat → Int) (γ : Nat → rHp), jn72 a g 0 (zAg (zNA a72_ 0) ρ) (γ 1) → zO 13 S a g q72a0_4 ρ γ → zGl (fun i vs g1 => jn72 a g i vs g1) (sn72 a g) q72a0_4 ρ γ := by
  intro ρ γ hJ h
  obtain ⟨ha, hg, hr, hf, hm, hc, hl⟩ := h
  have ha : a = [ρ 0, ρ 1, ρ 2, ρ 3, ρ 4, ρ 5, ρ 6, ρ 7, ρ 8, ρ 9, ρ 10, ρ 11, ρ 12] := ha
  subst ha
  subst hg
  have hJ : jn72 [ρ 0, ρ 1, ρ 2, ρ 3, ρ 4, ρ 5, ρ 6, ρ 7, ρ 8, ρ 9, ρ 10, ρ 11, ρ 12] (γ 0) 0 [ρ 0, ρ 1, ρ 2, ρ 3, ρ 4, ρ 5, ρ 6, ρ 7, ρ 8, ρ 9, ρ 10, ρ 11, ρ 12, ρ 13, ρ 14, ρ 15, ρ 16] (γ 1) := hJ
  have r15 : (0 : Int) ≤ ρ 15 ∧ ρ 15 ≤ 0 := zRnA hr 15
  have r17 : (1 : Int) ≤ ρ 17 ∧ ρ 17 ≤ 4 := zRnA hr 17
  have f1 : (0 : Int) ≤ -ρ 13 + ρ 1 + (-1) := zAllA hf 1
  obtain ⟨w_0, w_1, w_2, w_3⟩ : (¬ (ρ 15 ≠ 0)) ∧ (ρ 13 ≠ ρ 1) ∧ (0 ≤ -ρ 17 + 4) ∧ (¬ (ρ 17 = 0)) := ⟨by omega, by omega, by omega, by omega⟩
  have m0 : γ 0 73 0 (ρ 0) = ρ 1 := zAllA hm 0
  have m12 : γ 1 15 0 72 = ρ 14 := zAllA hm 12
  have m13 : γ 1 15 0 77 = ρ 15 := zAllA hm 13
  have m15 : γ 0 77 0 (ρ 13 + 8 * ρ 0) = ρ 17 := zAllA hm 15
  have l0 : sn64 [ρ 13 + 8 * ρ 0, ρ 17, ρ 18, ρ 10, ρ 16] (γ 1) 0 0 (γ 2) := hS64 _ _ _ _ _ (zAllA hl 0)
  show jn72 [ρ 0, ρ 1, ρ 2, ρ 3, ρ 4, ρ 5, ρ 6, ρ 7, ρ 8, ρ 9, ρ 10, ρ 11, ρ 12] (γ 0) 1 [ρ 0, ρ 1, ρ 2, ρ 3, ρ 4, ρ 5, ρ 6, ρ 7, ρ 8, ρ 9, ρ 10, ρ 11, ρ 12, ρ 13 + (-1), ρ 13 + 8 * ρ 0, ρ 14, ρ 15, ρ 16] (γ 2)
  have hD : en72 (γ 0) (0, [ρ 0, ρ 13], γ 1) = .inl (1, [ρ 0, ρ 13 + (-1), ρ 13 + 8 * ρ 0], γ 2) := by
    unfold en72
    refine zIP (show (0 : Nat) = 0 by decide) (zLV (γ 1) rfl (zLV (ρ 0) rfl (zLV (ρ 13) rfl (zLE m0 (zLE m12 (zLE m13 (zIN w_0 ?_)))))))
    refine zIP w_1 (zLE m15 (zIP w_2 (zIN w_3 (zLE (show fn64 [ρ 13 + 8 * ρ 0] (γ 1) = (0, 0, γ 2) from l0.symm) (zLV (γ 2) rfl (zIN zQ0_ ?_))))))
    rfl
  exact zGoo_ato hJ hD
theorem vn72a0_5 {S : Nat → zSpc} (hS62 : zIm S 62 sn62) (hS63 : zIm S 63 sn63) (hS64 : zIm S 64 sn64) (hS65 : zIm S 65 sn65) (hS68 : zIm S 68 sn68) {a : List Int} {g : rHp} : ∀ (ρ : Nat → Int) (γ : Nat → rHp), jn72 a g 0 (zAg (zNA a72_ 0) ρ) (γ 1) → zO 13 S a g q72a0_5 ρ γ → zGl (fun i vs g1 => jn72 a g i vs g1) (sn72 a g) q72a0_5 ρ γ := by
  intro ρ γ hJ h
  obtain ⟨ha, hg, hr, hf, hm, hc, hl⟩ := h
  have ha : a = [ρ 0, ρ 1, ρ 2, ρ 3, ρ 4, ρ 5, ρ 6, ρ 7, ρ 8, ρ 9, ρ 10, ρ 11, ρ 12] := ha
  subst ha
  subst hg
  have hJ : jn72 [ρ 0, ρ 1, ρ 2, ρ 3, ρ 4, ρ 5, ρ 6, ρ 7, ρ 8, ρ 9, ρ 10, ρ 11, ρ 12] (γ 0) 0 [ρ 0, ρ 1, ρ 2, ρ 3, ρ 4, ρ 5, ρ 6, ρ 7, ρ 8, ρ 9, ρ 10, ρ 11, ρ 12, ρ 13, ρ 14, ρ 15, ρ 16] (γ 1) := hJ
  have r15 : (0 : Int) ≤ ρ 15 ∧ ρ 15 ≤ 0 := zRnA hr 15
  have r17 : (1 : Int) ≤ ρ 17 ∧ ρ 17 ≤ 4 := zRnA hr 17
  have f1 : (0 : Int) ≤ -ρ 13 + ρ 1 + (-1) := zAllA hf 1
  obtain ⟨w_0, w_1, w_2, w_3⟩ : (¬ (ρ 15 ≠ 0)) ∧ (ρ 13 ≠ ρ 1) ∧ (0 ≤ -ρ 17 + 4) ∧ (¬ (ρ 17 = 0)) := ⟨by omega, by omega, by omega, by omega⟩
  have m0 : γ 0 73 0 (ρ 0) = ρ 1 := zAllA hm 0
  have m12 : γ 1 15 0 72 = ρ 14 := zAllA hm 12
  have m13 : γ 1 15 0 77 = ρ 15 := zAllA hm 13
  have m15 : γ 0 77 0 (ρ 13 + 8 * ρ 0) = ρ 17 := zAllA hm 15
  have l0 : sn64 [ρ 13 + 8 * ρ 0, ρ 17, ρ 18, ρ 10, ρ 16] (γ 1) 0 1 (γ 2) := hS64 _ _ _ _ _ (zAllA hl 0)
  show jn72 [ρ 0, ρ 1, ρ 2, ρ 3, ρ 4, ρ 5, ρ 6, ρ 7, ρ 8, ρ 9, ρ 10, ρ 11, ρ 12] (γ 0) 0 [ρ 0, ρ 1, ρ 2, ρ 3, ρ 4, ρ 5, ρ 6, ρ 7, ρ 8, ρ 9, ρ 10, ρ 11, ρ 12, ρ 13 + 1, ρ 14, ρ 15, ρ 16] (γ 2)
  have hD : en72 (γ 0) (0, [ρ 0, ρ 13], γ 1) = .inl (0, [ρ 0, ρ 13 + 1], γ 2) := by
    unfold en72
    refine zIP (show (0 : Nat) = 0 by decide) (zLV (γ 1) rfl (zLV (ρ 0) rfl (zLV (ρ 13) rfl (zLE m0 (zLE m12 (zLE m13 (zIN w_0 ?_)))))))
    refine zIP w_1 (zLE m15 (zIP w_2 (zIN w_3 (zLE (show fn64 [ρ 13 + 8 * ρ 0] (γ 1) = (0, 1, γ 2) from l0.symm) (zLV (γ 2) rfl (zIP zQ1_ ?_))))))
    rfl
  exact zGoo_ato hJ hD
theorem vn72a0_6 {S : Nat → zSpc} (hS62 : zIm S 62 sn62) (hS63 : zIm S 63 sn63) (hS64 : zIm S 64 sn64) (hS65 : zIm S 65 sn65) (hS68 : zIm S 68 sn68) {a : List Int} {g : rHp} : ∀ (ρ : Nat → Int) (γ : Nat → rHp), jn72 a g 0 (zAg (zNA a72_ 0) ρ) (γ 1) → zO 13 S a g q72a0_6 ρ γ → zGl (fun i vs g1 => jn72 a g i vs g1) (sn72 a g) q72a0_6 ρ γ := by
  intro ρ γ hJ h
  obtain ⟨ha, hg, hr, hf, hm, hc, hl⟩ := h
  have ha : a = [ρ 0, ρ 1, ρ 2, ρ 3, ρ 4, ρ 5, ρ 6, ρ 7, ρ 8, ρ 9, ρ 10, ρ 11, ρ 12] := ha
  subst ha
  subst hg
  have hJ : jn72 [ρ 0, ρ 1, ρ 2, ρ 3, ρ 4, ρ 5, ρ 6, ρ 7, ρ 8, ρ 9, ρ 10, ρ 11, ρ 12] (γ 0) 0 [ρ 0, ρ 1, ρ 2, ρ 3, ρ 4, ρ 5, ρ 6, ρ 7, ρ 8, ρ 9, ρ 10, ρ 11, ρ 12, ρ 13, ρ 14, ρ 15, ρ 16] (γ 1) := hJ
  have r15 : (0 : Int) ≤ ρ 15 ∧ ρ 15 ≤ 0 := zRnA hr 15
  have r17 : (5 : Int) ≤ ρ 17 ∧ ρ 17 ≤ 7 := zRnA hr 17
  have f1 : (0 : Int) ≤ -ρ 13 + ρ 1 + (-1) := zAllA hf 1
  obtain ⟨w_0, w_1, w_2⟩ : (¬ (ρ 15 ≠ 0)) ∧ (ρ 13 ≠ ρ 1) ∧ (¬ (0 ≤ -ρ 17 + 4)) := ⟨by omega, by omega, by omega⟩
  have m0 : γ 0 73 0 (ρ 0) = ρ 1 := zAllA hm 0
  have m12 : γ 1 15 0 72 = ρ 14 := zAllA hm 12
  have m13 : γ 1 15 0 77 = ρ 15 := zAllA hm 13
  have m15 : γ 0 77 0 (ρ 13 + 8 * ρ 0) = ρ 17 := zAllA hm 15
  have l0 : sn65 [ρ 13 + 8 * ρ 0, ρ 17, ρ 18, ρ 10, ρ 16] (γ 1) 0 0 (γ 2) := hS65 _ _ _ _ _ (zAllA hl 0)
  show jn72 [ρ 0, ρ 1, ρ 2, ρ 3, ρ 4, ρ 5, ρ 6, ρ 7, ρ 8, ρ 9, ρ 10, ρ 11, ρ 12] (γ 0) 1 [ρ 0, ρ 1, ρ 2, ρ 3, ρ 4, ρ 5, ρ 6, ρ 7, ρ 8, ρ 9, ρ 10, ρ 11, ρ 12, ρ 13 + (-1), ρ 13 + 8 * ρ 0, ρ 14, ρ 15, ρ 16] (γ 2)
  have hD : en72 (γ 0) (0, [ρ 0, ρ 13], γ 1) = .inl (1, [ρ 0, ρ 13 + (-1), ρ 13 + 8 * ρ 0], γ 2) := by
    unfold en72
    refine zIP (show (0 : Nat) = 0 by decide) (zLV (γ 1) rfl (zLV (ρ 0) rfl (zLV (ρ 13) rfl (zLE m0 (zLE m12 (zLE m13 (zIN w_0 ?_)))))))
    refine zIP w_1 (zLE m15 (zIN w_2 (zLE (show fn65 [ρ 13 + 8 * ρ 0] (γ 1) = (0, 0, γ 2) from l0.symm) (zLV (γ 2) rfl (zIN zQ0_ ?_)))))
    rfl
  exact zGoo_ato hJ hD
theorem vn72a0_7 {S : Nat → zSpc} (hS62 : zIm S 62 sn62) (hS63 : zIm S 63 sn63) (hS64 : zIm S 64 sn64) (hS65 : zIm S 65 sn65) (hS68 : zIm S 68 sn68) {a : List Int} {g : rHp} : ∀ (ρ : Nat → Int) (γ : Nat → rHp), jn72 a g 0 (zAg (zNA a72_ 0) ρ) (γ 1) → zO 13 S a g q72a0_7 ρ γ → zGl (fun i vs g1 => jn72 a g i vs g1) (sn72 a g) q72a0_7 ρ γ := by
  intro ρ γ hJ h
  obtain ⟨ha, hg, hr, hf, hm, hc, hl⟩ := h
  have ha : a = [ρ 0, ρ 1, ρ 2, ρ 3, ρ 4, ρ 5, ρ 6, ρ 7, ρ 8, ρ 9, ρ 10, ρ 11, ρ 12] := ha
  subst ha
  subst hg
  have hJ : jn72 [ρ 0, ρ 1, ρ 2, ρ 3, ρ 4, ρ 5, ρ 6, ρ 7, ρ 8, ρ 9, ρ 10, ρ 11, ρ 12] (γ 0) 0 [ρ 0, ρ 1, ρ 2, ρ 3, ρ 4, ρ 5, ρ 6, ρ 7, ρ 8, ρ 9, ρ 10, ρ 11, ρ 12, ρ 13, ρ 14, ρ 15, ρ 16] (γ 1) := hJ
  have r15 : (0 : Int) ≤ ρ 15 ∧ ρ 15 ≤ 0 := zRnA hr 15
  have r17 : (5 : Int) ≤ ρ 17 ∧ ρ 17 ≤ 7 := zRnA hr 17
  have f1 : (0 : Int) ≤ -ρ 13 + ρ 1 + (-1) := zAllA hf 1
  obtain ⟨w_0, w_1, w_2⟩ : (¬ (ρ 15 ≠ 0)) ∧ (ρ 13 ≠ ρ 1) ∧ (¬ (0 ≤ -ρ 17 + 4)) := ⟨by omega, by omega, by omega⟩
  have m0 : γ 0 73 0 (ρ 0) = ρ 1 := zAllA hm 0
  have m12 : γ 1 15 0 72 = ρ 14 := zAllA hm 12
  have m13 : γ 1 15 0 77 = ρ 15 := zAllA hm 13
  have m15 : γ 0 77 0 (ρ 13 + 8 * ρ 0) = ρ 17 := zAllA hm 15
  have l0 : sn65 [ρ 13 + 8 * ρ 0, ρ 17, ρ 18, ρ 10, ρ 16] (γ 1) 0 1 (γ 2) := hS65 _ _ _ _ _ (zAllA hl 0)
  show jn72 [ρ 0, ρ 1, ρ 2, ρ 3, ρ 4, ρ 5, ρ 6, ρ 7, ρ 8, ρ 9, ρ 10, ρ 11, ρ 12] (γ 0) 0 [ρ 0, ρ 1, ρ 2, ρ 3, ρ 4, ρ 5, ρ 6, ρ 7, ρ 8, ρ 9, ρ 10, ρ 11, ρ 12, ρ 13 + 1, ρ 14, ρ 15, ρ 16] (γ 2)
  have hD : en72 (γ 0) (0, [ρ 0, ρ 13], γ 1) = .inl (0, [ρ 0, ρ 13 + 1], γ 2) := by
    unfold en72
    refine zIP (show (0 : Nat) = 0 by decide) (zLV (γ 1) rfl (zLV (ρ 0) rfl (zLV (ρ 13) rfl (zLE m0 (zLE m12 (zLE m13 (zIN w_0 ?_)))))))
    refine zIP w_1 (zLE m15 (zIN w_2 (zLE (show fn65 [ρ 13 + 8 * ρ 0] (γ 1) = (0, 1, γ 2) from l0.symm) (zLV (γ 2) rfl (zIP zQ1_ ?_)))))
    rfl
  exact zGoo_ato hJ hD
theorem vn72a0_8 {S : Nat → zSpc} (hS62 : zIm S 62 sn62) (hS63 : zIm S 63 sn63) (hS64 : zIm S 64 sn64) (hS65 : zIm S 65 sn65) (hS68 : zIm S 68 sn68) {a : List Int} {g : rHp} : ∀ (ρ : Nat → Int) (γ : Nat → rHp), jn72 a g 0 (zAg (zNA a72_ 0) ρ) (γ 1) → zO 13 S a g q72a0_8 ρ γ → zGl (fun i vs g1 => jn72 a g i vs g1) (sn72 a g) q72a0_8 ρ γ := by
  intro ρ γ hJ h
  obtain ⟨ha, hg, hr, hf, hm, hc, hl⟩ := h
  have ha : a = [ρ 0, ρ 1, ρ 2, ρ 3, ρ 4, ρ 5, ρ 6, ρ 7, ρ 8, ρ 9, ρ 10, ρ 11, ρ 12] := ha
  subst ha
  subst hg
  have hJ : jn72 [ρ 0, ρ 1, ρ 2, ρ 3, ρ 4, ρ 5, ρ 6, ρ 7, ρ 8, ρ 9, ρ 10, ρ 11, ρ 12] (γ 0) 0 [ρ 0, ρ 1, ρ 2, ρ 3, ρ 4, ρ 5, ρ 6, ρ 7, ρ 8, ρ 9, ρ 10, ρ 11, ρ 12, ρ 13, ρ 14, ρ 15, ρ 16] (γ 1) := hJ
  have r15 : (0 : Int) ≤ ρ 15 ∧ ρ 15 ≤ 0 := zRnA hr 15
  have f3 : (0 : Int) ≤ -ρ 13 + ρ 1 := zAllA hf 3
  have f4 : (0 : Int) ≤ ρ 13 + -ρ 1 := zAllA hf 4
  obtain ⟨w_0, w_1⟩ : (¬ (ρ 15 ≠ 0)) ∧ (¬ (ρ 13 ≠ ρ 1)) := ⟨by omega, by omega⟩
  have m0 : γ 0 73 0 (ρ 0) = ρ 1 := zAllA hm 0
  have m12 : γ 1 15 0 72 = ρ 14 := zAllA hm 12
  have m13 : γ 1 15 0 77 = ρ 15 := zAllA hm 13
  have l0 : sn68 [ρ 0, ρ 2, ρ 6, ρ 17, ρ 7, ρ 16, ρ 9, ρ 15] (γ 1) 0 0 (γ 2) := hS68 _ _ _ _ _ (zAllA hl 0)
  show jn72 [ρ 0, ρ 1, ρ 2, ρ 3, ρ 4, ρ 5, ρ 6, ρ 7, ρ 8, ρ 9, ρ 10, ρ 11, ρ 12] (γ 0) 1 [ρ 0, ρ 1, ρ 2, ρ 3, ρ 4, ρ 5, ρ 6, ρ 7, ρ 8, ρ 9, ρ 10, ρ 11, ρ 12, ρ 13 + (-1), ρ 13 + 8 * ρ 0, ρ 14, ρ 19, ρ 18] (γ 2)
  have hD : en72 (γ 0) (0, [ρ 0, ρ 13], γ 1) = .inl (1, [ρ 0, ρ 13 + (-1), ρ 13 + 8 * ρ 0], γ 2) := by
    unfold en72
    refine zIP (show (0 : Nat) = 0 by decide) (zLV (γ 1) rfl (zLV (ρ 0) rfl (zLV (ρ 13) rfl (zLE m0 (zLE m12 (zLE m13 (zIN w_0 ?_)))))))
    refine zIN w_1 (zLE (show fn68 [ρ 0] (γ 1) = (0, 0, γ 2) from l0.symm) (zLV (γ 2) rfl ?_))
    rfl
  exact zGoo_ato hJ hD
theorem vn72a1_0 {S : Nat → zSpc} (hS62 : zIm S 62 sn62) (hS63 : zIm S 63 sn63) (hS64 : zIm S 64 sn64) (hS65 : zIm S 65 sn65) (hS68 : zIm S 68 sn68) {a : List Int} {g : rHp} : ∀ (ρ : Nat → Int) (γ : Nat → rHp), jn72 a g 1 (zAg (zNA a72_ 1) ρ) (γ 1) → zO 13 S a g q72a1_0 ρ γ → zGl (fun i vs g1 => jn72 a g i vs g1) (sn72 a g) q72a1_0 ρ γ := by
  intro ρ γ hJ h
  obtain ⟨ha, hg, hr, hf, hm, hc, hl⟩ := h
  have ha : a = [ρ 0, ρ 1, ρ 2, ρ 3, ρ 4, ρ 5, ρ 6, ρ 7, ρ 8, ρ 9, ρ 10, ρ 11, ρ 12] := ha
  subst ha
  subst hg
  have hJ : jn72 [ρ 0, ρ 1, ρ 2, ρ 3, ρ 4, ρ 5, ρ 6, ρ 7, ρ 8, ρ 9, ρ 10, ρ 11, ρ 12] (γ 0) 1 [ρ 0, ρ 1, ρ 2, ρ 3, ρ 4, ρ 5, ρ 6, ρ 7, ρ 8, ρ 9, ρ 10, ρ 11, ρ 12, ρ 13, ρ 14, ρ 15, ρ 16, ρ 17] (γ 1) := hJ
  have r13 : ((-1) : Int) ≤ ρ 13 ∧ ρ 13 ≤ (-1) := zRnA hr 13
  have w_0 : ρ 13 < 0 := by omega
  have m12 : γ 1 15 0 72 = ρ 15 := zAllA hm 12
  have m13 : γ 1 15 0 77 = ρ 16 := zAllA hm 13
  show sn72 [ρ 0, ρ 1, ρ 2, ρ 3, ρ 4, ρ 5, ρ 6, ρ 7, ρ 8, ρ 9, ρ 10, ρ 11, ρ 12] (γ 0) 0 0 (γ 1)
  have hD : en72 (γ 0) (1, [ρ 0, ρ 13, ρ 14], γ 1) = .inr (0, 0, γ 1) := by
    unfold en72
    refine zIN (show ¬ (1 : Nat) = 0 by decide) (zIP (show (1 : Nat) = 1 by decide) (zLV (γ 1) rfl (zLV (ρ 0) rfl (zLV (ρ 13) rfl (zLE m12 (zLE m13 (zIP w_0 ?_)))))))
    rfl
  exact zGoo_aend hJ hD
theorem vn72a1_1 {S : Nat → zSpc} (hS62 : zIm S 62 sn62) (hS63 : zIm S 63 sn63) (hS64 : zIm S 64 sn64) (hS65 : zIm S 65 sn65) (hS68 : zIm S 68 sn68) {a : List Int} {g : rHp} : ∀ (ρ : Nat → Int) (γ : Nat → rHp), jn72 a g 1 (zAg (zNA a72_ 1) ρ) (γ 1) → zO 13 S a g q72a1_1 ρ γ → zGl (fun i vs g1 => jn72 a g i vs g1) (sn72 a g) q72a1_1 ρ γ := by
  intro ρ γ hJ h
  obtain ⟨ha, hg, hr, hf, hm, hc, hl⟩ := h
  have ha : a = [ρ 0, ρ 1, ρ 2, ρ 3, ρ 4, ρ 5, ρ 6, ρ 7, ρ 8, ρ 9, ρ 10, ρ 11, ρ 12] := ha
  subst ha
  subst hg
  have hJ : jn72 [ρ 0, ρ 1, ρ 2, ρ 3, ρ 4, ρ 5, ρ 6, ρ 7, ρ 8, ρ 9, ρ 10, ρ 11, ρ 12] (γ 0) 1 [ρ 0, ρ 1, ρ 2, ρ 3, ρ 4, ρ 5, ρ 6, ρ 7, ρ 8, ρ 9, ρ 10, ρ 11, ρ 12, ρ 13, ρ 14, ρ 15, ρ 16, ρ 17] (γ 1) := hJ
  have r13 : (0 : Int) ≤ ρ 13 ∧ ρ 13 ≤ 7 := zRnA hr 13
  have r16 : (1 : Int) ≤ ρ 16 ∧ ρ 16 ≤ 3 := zRnA hr 16
  obtain ⟨w_0, w_1⟩ : (¬ (ρ 13 < 0)) ∧ (ρ 16 ≠ 0) := ⟨by omega, by omega⟩
  have m12 : γ 1 15 0 72 = ρ 15 := zAllA hm 12
  have m13 : γ 1 15 0 77 = ρ 16 := zAllA hm 13
  show sn72 [ρ 0, ρ 1, ρ 2, ρ 3, ρ 4, ρ 5, ρ 6, ρ 7, ρ 8, ρ 9, ρ 10, ρ 11, ρ 12] (γ 0) 0 0 (γ 1)
  have hD : en72 (γ 0) (1, [ρ 0, ρ 13, ρ 14], γ 1) = .inr (0, 0, γ 1) := by
    unfold en72
    refine zIN (show ¬ (1 : Nat) = 0 by decide) (zIP (show (1 : Nat) = 1 by decide) (zLV (γ 1) rfl (zLV (ρ 0) rfl (zLV (ρ 13) rfl (zLE m12 (zLE m13 (zIN w_0 ?_)))))))
    refine zIP w_1 ?_
    rfl
  exact zGoo_aend hJ hD
theorem vn72a1_2 {S : Nat → zSpc} (hS62 : zIm S 62 sn62) (hS63 : zIm S 63 sn63) (hS64 : zIm S 64 sn64) (hS65 : zIm S 65 sn65) (hS68 : zIm S 68 sn68) {a : List Int} {g : rHp} : ∀ (ρ : Nat → Int) (γ : Nat → rHp), jn72 a g 1 (zAg (zNA a72_ 1) ρ) (γ 1) → zO 13 S a g q72a1_2 ρ γ → zGl (fun i vs g1 => jn72 a g i vs g1) (sn72 a g) q72a1_2 ρ γ := by
  intro ρ γ hJ h
  obtain ⟨ha, hg, hr, hf, hm, hc, hl⟩ := h
  have ha : a = [ρ 0, ρ 1, ρ 2, ρ 3, ρ 4, ρ 5, ρ 6, ρ 7, ρ 8, ρ 9, ρ 10, ρ 11, ρ 12] := ha
  subst ha
  subst hg
  have hJ : jn72 [ρ 0, ρ 1, ρ 2, ρ 3, ρ 4, ρ 5, ρ 6, ρ 7, ρ 8, ρ 9, ρ 10, ρ 11, ρ 12] (γ 0) 1 [ρ 0, ρ 1, ρ 2, ρ 3, ρ 4, ρ 5, ρ 6, ρ 7, ρ 8, ρ 9, ρ 10, ρ 11, ρ 12, ρ 13, ρ 14, ρ 15, ρ 16, ρ 17] (γ 1) := hJ
  have r13 : (0 : Int) ≤ ρ 13 ∧ ρ 13 ≤ 7 := zRnA hr 13
  have r15 : (0 : Int) ≤ ρ 15 ∧ ρ 15 ≤ 49999 := zRnA hr 15
  have r16 : (0 : Int) ≤ ρ 16 ∧ ρ 16 ≤ 0 := zRnA hr 16
  have r18 : (0 : Int) ≤ ρ 18 ∧ ρ 18 ≤ 0 := zRnA hr 18
  have r21 : (0 : Int) ≤ ρ 21 ∧ ρ 21 ≤ 1999 := zRnA hr 21
  obtain ⟨w_0, w_1, w_2, w_3, w_4, w_5⟩ : (¬ (ρ 13 < 0)) ∧ (¬ (ρ 16 ≠ 0)) ∧ (0 ≤ -ρ 18 + 4) ∧ (ρ 18 = 0) ∧ (ρ 21 ≥ 0) ∧ (ρ 15 + 1 ≤ 50000) := ⟨by omega, by omega, by omega, by omega, by omega, by omega⟩
  have m12 : γ 1 15 0 72 = ρ 15 := zAllA hm 12
  have m13 : γ 1 15 0 77 = ρ 16 := zAllA hm 13
  have m15 : γ 0 77 0 (ρ 13 + 8 * ρ 0) = ρ 18 := zAllA hm 15
  have m16 : γ 1 104 0 (ρ 13) = ρ 19 := zAllA hm 16
  have m17 : γ 1 96 0 (ρ 19) = ρ 20 := zAllA hm 17
  have c3 : γ 3 = rUp (γ 2) 15 0 72 (ρ 15 + 1) := And.right (zChA hc 2)
  have c4 : γ 4 = rUp (γ 3) 104 0 (ρ 13) (ρ 21) := And.right (zChA hc 1)
  have l0 : sn62 [ρ 0, ρ 13, ρ 20, ρ 10, ρ 17, ρ 11, ρ 12] (γ 1) 0 (ρ 21) (γ 2) := hS62 _ _ _ _ _ (zAllA hl 0)
  have l1 : sn63 [ρ 13 + 8 * ρ 0, ρ 21] (γ 4) 0 0 (γ 5) := hS63 _ _ _ _ _ (zAllA hl 1)
  show jn72 [ρ 0, ρ 1, ρ 2, ρ 3, ρ 4, ρ 5, ρ 6, ρ 7, ρ 8, ρ 9, ρ 10, ρ 11, ρ 12] (γ 0) 0 [ρ 0, ρ 1, ρ 2, ρ 3, ρ 4, ρ 5, ρ 6, ρ 7, ρ 8, ρ 9, ρ 10, ρ 11, ρ 12, ρ 13 + 1, ρ 15 + 1, ρ 16, ρ 17] (γ 5)
  have hD : en72 (γ 0) (1, [ρ 0, ρ 13, ρ 14], γ 1) = .inl (0, [ρ 0, ρ 13 + 1], γ 5) := by
    unfold en72
    refine zIN (show ¬ (1 : Nat) = 0 by decide) (zIP (show (1 : Nat) = 1 by decide) (zLV (γ 1) rfl (zLV (ρ 0) rfl (zLV (ρ 13) rfl (zLE m12 (zLE m13 (zIN w_0 ?_)))))))
    refine zIN w_1 (zLE m15 (zIP w_2 (zIP w_3 (zLE m16 (zLE m17 (zLE (show fn62 [ρ 0, ρ 13, ρ 20] (γ 1) = (0, ρ 21, γ 2) from l0.symm) (zLV (γ 2) rfl ?_)))))))
    refine zLV (ρ 21) rfl (zIP w_4 (zLE c3.symm (zIP w_5 (zLE c4.symm (zLE (show fn63 [ρ 13 + 8 * ρ 0, ρ 21] (γ 4) = (0, 0, γ 5) from l1.symm) (zLV (γ 5) rfl ?_))))))
    rfl
  exact zGoo_ato hJ hD
theorem vn72a1_3 {S : Nat → zSpc} (hS62 : zIm S 62 sn62) (hS63 : zIm S 63 sn63) (hS64 : zIm S 64 sn64) (hS65 : zIm S 65 sn65) (hS68 : zIm S 68 sn68) {a : List Int} {g : rHp} : ∀ (ρ : Nat → Int) (γ : Nat → rHp), jn72 a g 1 (zAg (zNA a72_ 1) ρ) (γ 1) → zO 13 S a g q72a1_3 ρ γ → zGl (fun i vs g1 => jn72 a g i vs g1) (sn72 a g) q72a1_3 ρ γ := by
  intro ρ γ hJ h
  obtain ⟨ha, hg, hr, hf, hm, hc, hl⟩ := h
  have ha : a = [ρ 0, ρ 1, ρ 2, ρ 3, ρ 4, ρ 5, ρ 6, ρ 7, ρ 8, ρ 9, ρ 10, ρ 11, ρ 12] := ha
  subst ha
  subst hg
  have hJ : jn72 [ρ 0, ρ 1, ρ 2, ρ 3, ρ 4, ρ 5, ρ 6, ρ 7, ρ 8, ρ 9, ρ 10, ρ 11, ρ 12] (γ 0) 1 [ρ 0, ρ 1, ρ 2, ρ 3, ρ 4, ρ 5, ρ 6, ρ 7, ρ 8, ρ 9, ρ 10, ρ 11, ρ 12, ρ 13, ρ 14, ρ 15, ρ 16, ρ 17] (γ 1) := hJ
  have r13 : (0 : Int) ≤ ρ 13 ∧ ρ 13 ≤ 7 := zRnA hr 13
  have r15 : (50000 : Int) ≤ ρ 15 ∧ ρ 15 ≤ 50000 := zRnA hr 15
  have r16 : (0 : Int) ≤ ρ 16 ∧ ρ 16 ≤ 0 := zRnA hr 16
  have r18 : (0 : Int) ≤ ρ 18 ∧ ρ 18 ≤ 0 := zRnA hr 18
  have r21 : (0 : Int) ≤ ρ 21 ∧ ρ 21 ≤ 1999 := zRnA hr 21
  obtain ⟨w_0, w_1, w_2, w_3, w_4, w_5⟩ : (¬ (ρ 13 < 0)) ∧ (¬ (ρ 16 ≠ 0)) ∧ (0 ≤ -ρ 18 + 4) ∧ (ρ 18 = 0) ∧ (ρ 21 ≥ 0) ∧ (¬ (ρ 15 + 1 ≤ 50000)) := ⟨by omega, by omega, by omega, by omega, by omega, by omega⟩
  have m12 : γ 1 15 0 72 = ρ 15 := zAllA hm 12
  have m13 : γ 1 15 0 77 = ρ 16 := zAllA hm 13
  have m15 : γ 0 77 0 (ρ 13 + 8 * ρ 0) = ρ 18 := zAllA hm 15
  have m16 : γ 1 104 0 (ρ 13) = ρ 19 := zAllA hm 16
  have m17 : γ 1 96 0 (ρ 19) = ρ 20 := zAllA hm 17
  have c3 : γ 3 = rUp (γ 2) 15 0 72 (ρ 15 + 1) := And.right (zChA hc 3)
  have c4 : γ 4 = rUp (γ 3) 15 0 77 2 := And.right (zChA hc 2)
  have c5 : γ 5 = rUp (γ 4) 104 0 (ρ 13) (ρ 21) := And.right (zChA hc 1)
  have l0 : sn62 [ρ 0, ρ 13, ρ 20, ρ 10, ρ 17, ρ 11, ρ 12] (γ 1) 0 (ρ 21) (γ 2) := hS62 _ _ _ _ _ (zAllA hl 0)
  have l1 : sn63 [ρ 13 + 8 * ρ 0, ρ 21] (γ 5) 0 0 (γ 6) := hS63 _ _ _ _ _ (zAllA hl 1)
  show jn72 [ρ 0, ρ 1, ρ 2, ρ 3, ρ 4, ρ 5, ρ 6, ρ 7, ρ 8, ρ 9, ρ 10, ρ 11, ρ 12] (γ 0) 0 [ρ 0, ρ 1, ρ 2, ρ 3, ρ 4, ρ 5, ρ 6, ρ 7, ρ 8, ρ 9, ρ 10, ρ 11, ρ 12, ρ 13 + 1, ρ 15 + 1, 2, ρ 17] (γ 6)
  have hD : en72 (γ 0) (1, [ρ 0, ρ 13, ρ 14], γ 1) = .inl (0, [ρ 0, ρ 13 + 1], γ 6) := by
    unfold en72
    refine zIN (show ¬ (1 : Nat) = 0 by decide) (zIP (show (1 : Nat) = 1 by decide) (zLV (γ 1) rfl (zLV (ρ 0) rfl (zLV (ρ 13) rfl (zLE m12 (zLE m13 (zIN w_0 ?_)))))))
    refine zIN w_1 (zLE m15 (zIP w_2 (zIP w_3 (zLE m16 (zLE m17 (zLE (show fn62 [ρ 0, ρ 13, ρ 20] (γ 1) = (0, ρ 21, γ 2) from l0.symm) (zLV (γ 2) rfl ?_)))))))
    refine zLV (ρ 21) rfl (zIP w_4 (zLE c3.symm (zIN w_5 (zLE c4.symm (zLE c5.symm (zLE (show fn63 [ρ 13 + 8 * ρ 0, ρ 21] (γ 5) = (0, 0, γ 6) from l1.symm) (zLV (γ 6) rfl ?_)))))))
    rfl
  exact zGoo_ato hJ hD
theorem vn72a1_4 {S : Nat → zSpc} (hS62 : zIm S 62 sn62) (hS63 : zIm S 63 sn63) (hS64 : zIm S 64 sn64) (hS65 : zIm S 65 sn65) (hS68 : zIm S 68 sn68) {a : List Int} {g : rHp} : ∀ (ρ : Nat → Int) (γ : Nat → rHp), jn72 a g 1 (zAg (zNA a72_ 1) ρ) (γ 1) → zO 13 S a g q72a1_4 ρ γ → zGl (fun i vs g1 => jn72 a g i vs g1) (sn72 a g) q72a1_4 ρ γ := by
  intro ρ γ hJ h
  obtain ⟨ha, hg, hr, hf, hm, hc, hl⟩ := h
  have ha : a = [ρ 0, ρ 1, ρ 2, ρ 3, ρ 4, ρ 5, ρ 6, ρ 7, ρ 8, ρ 9, ρ 10, ρ 11, ρ 12] := ha
  subst ha
  subst hg
  have hJ : jn72 [ρ 0, ρ 1, ρ 2, ρ 3, ρ 4, ρ 5, ρ 6, ρ 7, ρ 8, ρ 9, ρ 10, ρ 11, ρ 12] (γ 0) 1 [ρ 0, ρ 1, ρ 2, ρ 3, ρ 4, ρ 5, ρ 6, ρ 7, ρ 8, ρ 9, ρ 10, ρ 11, ρ 12, ρ 13, ρ 14, ρ 15, ρ 16, ρ 17] (γ 1) := hJ
  have r13 : (0 : Int) ≤ ρ 13 ∧ ρ 13 ≤ 7 := zRnA hr 13
  have r16 : (0 : Int) ≤ ρ 16 ∧ ρ 16 ≤ 0 := zRnA hr 16
  have r18 : (0 : Int) ≤ ρ 18 ∧ ρ 18 ≤ 0 := zRnA hr 18
  have r21 : ((-1) : Int) ≤ ρ 21 ∧ ρ 21 ≤ (-1) := zRnA hr 21
  obtain ⟨w_0, w_1, w_2, w_3, w_4⟩ : (¬ (ρ 13 < 0)) ∧ (¬ (ρ 16 ≠ 0)) ∧ (0 ≤ -ρ 18 + 4) ∧ (ρ 18 = 0) ∧ (¬ (ρ 21 ≥ 0)) := ⟨by omega, by omega, by omega, by omega, by omega⟩
  have m12 : γ 1 15 0 72 = ρ 15 := zAllA hm 12
  have m13 : γ 1 15 0 77 = ρ 16 := zAllA hm 13
  have m15 : γ 0 77 0 (ρ 13 + 8 * ρ 0) = ρ 18 := zAllA hm 15
  have m16 : γ 1 104 0 (ρ 13) = ρ 19 := zAllA hm 16
  have m17 : γ 1 96 0 (ρ 19) = ρ 20 := zAllA hm 17
  have l0 : sn62 [ρ 0, ρ 13, ρ 20, ρ 10, ρ 17, ρ 11, ρ 12] (γ 1) 0 (ρ 21) (γ 2) := hS62 _ _ _ _ _ (zAllA hl 0)
  show jn72 [ρ 0, ρ 1, ρ 2, ρ 3, ρ 4, ρ 5, ρ 6, ρ 7, ρ 8, ρ 9, ρ 10, ρ 11, ρ 12] (γ 0) 1 [ρ 0, ρ 1, ρ 2, ρ 3, ρ 4, ρ 5, ρ 6, ρ 7, ρ 8, ρ 9, ρ 10, ρ 11, ρ 12, ρ 13 + (-1), ρ 13 + 8 * ρ 0, ρ 15, ρ 16, ρ 17] (γ 2)
  have hD : en72 (γ 0) (1, [ρ 0, ρ 13, ρ 14], γ 1) = .inl (1, [ρ 0, ρ 13 + (-1), ρ 13 + 8 * ρ 0], γ 2) := by
    unfold en72
    refine zIN (show ¬ (1 : Nat) = 0 by decide) (zIP (show (1 : Nat) = 1 by decide) (zLV (γ 1) rfl (zLV (ρ 0) rfl (zLV (ρ 13) rfl (zLE m12 (zLE m13 (zIN w_0 ?_)))))))
    refine zIN w_1 (zLE m15 (zIP w_2 (zIP w_3 (zLE m16 (zLE m17 (zLE (show fn62 [ρ 0, ρ 13, ρ 20] (γ 1) = (0, ρ 21, γ 2) from l0.symm) (zLV (γ 2) rfl ?_)))))))
    refine zLV (ρ 21) rfl (zIN w_4 ?_)
    rfl
  exact zGoo_ato hJ hD
theorem vn72a1_5 {S : Nat → zSpc} (hS62 : zIm S 62 sn62) (hS63 : zIm S 63 sn63) (hS64 : zIm S 64 sn64) (hS65 : zIm S 65 sn65) (hS68 : zIm S 68 sn68) {a : List Int} {g : rHp} : ∀ (ρ : Nat → Int) (γ : Nat → rHp), jn72 a g 1 (zAg (zNA a72_ 1) ρ) (γ 1) → zO 13 S a g q72a1_5 ρ γ → zGl (fun i vs g1 => jn72 a g i vs g1) (sn72 a g) q72a1_5 ρ γ := by
  intro ρ γ hJ h
  obtain ⟨ha, hg, hr, hf, hm, hc, hl⟩ := h
  have ha : a = [ρ 0, ρ 1, ρ 2, ρ 3, ρ 4, ρ 5, ρ 6, ρ 7, ρ 8, ρ 9, ρ 10, ρ 11, ρ 12] := ha
  subst ha
  subst hg
  have hJ : jn72 [ρ 0, ρ 1, ρ 2, ρ 3, ρ 4, ρ 5, ρ 6, ρ 7, ρ 8, ρ 9, ρ 10, ρ 11, ρ 12] (γ 0) 1 [ρ 0, ρ 1, ρ 2, ρ 3, ρ 4, ρ 5, ρ 6, ρ 7, ρ 8, ρ 9, ρ 10, ρ 11, ρ 12, ρ 13, ρ 14, ρ 15, ρ 16, ρ 17] (γ 1) := hJ
  have r13 : (0 : Int) ≤ ρ 13 ∧ ρ 13 ≤ 7 := zRnA hr 13
  have r16 : (0 : Int) ≤ ρ 16 ∧ ρ 16 ≤ 0 := zRnA hr 16
  have r18 : (1 : Int) ≤ ρ 18 ∧ ρ 18 ≤ 4 := zRnA hr 18
  obtain ⟨w_0, w_1, w_2, w_3⟩ : (¬ (ρ 13 < 0)) ∧ (¬ (ρ 16 ≠ 0)) ∧ (0 ≤ -ρ 18 + 4) ∧ (¬ (ρ 18 = 0)) := ⟨by omega, by omega, by omega, by omega⟩
  have m12 : γ 1 15 0 72 = ρ 15 := zAllA hm 12
  have m13 : γ 1 15 0 77 = ρ 16 := zAllA hm 13
  have m15 : γ 0 77 0 (ρ 13 + 8 * ρ 0) = ρ 18 := zAllA hm 15
  show jn72 [ρ 0, ρ 1, ρ 2, ρ 3, ρ 4, ρ 5, ρ 6, ρ 7, ρ 8, ρ 9, ρ 10, ρ 11, ρ 12] (γ 0) 1 [ρ 0, ρ 1, ρ 2, ρ 3, ρ 4, ρ 5, ρ 6, ρ 7, ρ 8, ρ 9, ρ 10, ρ 11, ρ 12, ρ 13 + (-1), ρ 13 + 8 * ρ 0, ρ 15, ρ 16, ρ 17] (γ 1)
  have hD : en72 (γ 0) (1, [ρ 0, ρ 13, ρ 14], γ 1) = .inl (1, [ρ 0, ρ 13 + (-1), ρ 13 + 8 * ρ 0], γ 1) := by
    unfold en72
    refine zIN (show ¬ (1 : Nat) = 0 by decide) (zIP (show (1 : Nat) = 1 by decide) (zLV (γ 1) rfl (zLV (ρ 0) rfl (zLV (ρ 13) rfl (zLE m12 (zLE m13 (zIN w_0 ?_)))))))
    refine zIN w_1 (zLE m15 (zIP w_2 (zIN w_3 ?_)))
    rfl
  exact zGoo_ato hJ hD
theorem vn72a1_6 {S : Nat → zSpc} (hS62 : zIm S 62 sn62) (hS63 : zIm S 63 sn63) (hS64 : zIm S 64 sn64) (hS65 : zIm S 65 sn65) (hS68 : zIm S 68 sn68) {a : List Int} {g : rHp} : ∀ (ρ : Nat → Int) (γ : Nat → rHp), jn72 a g 1 (zAg (zNA a72_ 1) ρ) (γ 1) → zO 13 S a g q72a1_6 ρ γ → zGl (fun i vs g1 => jn72 a g i vs g1) (sn72 a g) q72a1_6 ρ γ := by
  intro ρ γ hJ h
  obtain ⟨ha, hg, hr, hf, hm, hc, hl⟩ := h
  have ha : a = [ρ 0, ρ 1, ρ 2, ρ 3, ρ 4, ρ 5, ρ 6, ρ 7, ρ 8, ρ 9, ρ 10, ρ 11, ρ 12] := ha
  subst ha
  subst hg
  have hJ : jn72 [ρ 0, ρ 1, ρ 2, ρ 3, ρ 4, ρ 5, ρ 6, ρ 7, ρ 8, ρ 9, ρ 10, ρ 11, ρ 12] (γ 0) 1 [ρ 0, ρ 1, ρ 2, ρ 3, ρ 4, ρ 5, ρ 6, ρ 7, ρ 8, ρ 9, ρ 10, ρ 11, ρ 12, ρ 13, ρ 14, ρ 15, ρ 16, ρ 17] (γ 1) := hJ
  have r13 : (0 : Int) ≤ ρ 13 ∧ ρ 13 ≤ 7 := zRnA hr 13
  have r16 : (0 : Int) ≤ ρ 16 ∧ ρ 16 ≤ 0 := zRnA hr 16
  have r18 : (5 : Int) ≤ ρ 18 ∧ ρ 18 ≤ 7 := zRnA hr 18
  obtain ⟨w_0, w_1, w_2⟩ : (¬ (ρ 13 < 0)) ∧ (¬ (ρ 16 ≠ 0)) ∧ (¬ (0 ≤ -ρ 18 + 4)) := ⟨by omega, by omega, by omega⟩
  have m12 : γ 1 15 0 72 = ρ 15 := zAllA hm 12
  have m13 : γ 1 15 0 77 = ρ 16 := zAllA hm 13
  have m15 : γ 0 77 0 (ρ 13 + 8 * ρ 0) = ρ 18 := zAllA hm 15
  show jn72 [ρ 0, ρ 1, ρ 2, ρ 3, ρ 4, ρ 5, ρ 6, ρ 7, ρ 8, ρ 9, ρ 10, ρ 11, ρ 12] (γ 0) 1 [ρ 0, ρ 1, ρ 2, ρ 3, ρ 4, ρ 5, ρ 6, ρ 7, ρ 8, ρ 9, ρ 10, ρ 11, ρ 12, ρ 13 + (-1), ρ 13 + 8 * ρ 0, ρ 15, ρ 16, ρ 17] (γ 1)
  have hD : en72 (γ 0) (1, [ρ 0, ρ 13, ρ 14], γ 1) = .inl (1, [ρ 0, ρ 13 + (-1), ρ 13 + 8 * ρ 0], γ 1) := by
    unfold en72
    refine zIN (show ¬ (1 : Nat) = 0 by decide) (zIP (show (1 : Nat) = 1 by decide) (zLV (γ 1) rfl (zLV (ρ 0) rfl (zLV (ρ 13) rfl (zLE m12 (zLE m13 (zIN w_0 ?_)))))))
    refine zIN w_1 (zLE m15 (zIN w_2 ?_))
    rfl
  exact zGoo_ato hJ hD
theorem yn72 {S : Nat → zSpc} (hS62 : zIm S 62 sn62) (hS63 : zIm S 63 sn63) (hS64 : zIm S 64 sn64) (hS65 : zIm S 65 sn65) (hS68 : zIm S 68 sn68) : ∀ x g o v gz, zSem uW uT w72_.2.2.2.1 w72_.2.2.1.1.length S q72 (fun i => q72a.getD i []) (zNA a72_) x g o v gz → sn72 x g o v gz := by
  intro a g o v gz h
  exact zSem_all (l0 := q72) (las := q72a) (S := S) (J := (fun i vs g1 => jn72 a g i vs g1)) (P := sn72 a g) (fun _ => (show zAll _ [q72_0] from (zAll_c (vn72_0 hS62 hS63 hS64 hS65 hS68) zAll_n))) (fun _ => (show zAllI _ 0 [q72a0, q72a1] from ⟨(show zAll _ [q72a0_0, q72a0_1, q72a0_2, q72a0_3, q72a0_4, q72a0_5, q72a0_6, q72a0_7, q72a0_8] from (zAll_c (vn72a0_0 hS62 hS63 hS64 hS65 hS68) (zAll_c (vn72a0_1 hS62 hS63 hS64 hS65 hS68) (zAll_c (vn72a0_2 hS62 hS63 hS64 hS65 hS68) (zAll_c (vn72a0_3 hS62 hS63 hS64 hS65 hS68) (zAll_c (vn72a0_4 hS62 hS63 hS64 hS65 hS68) (zAll_c (vn72a0_5 hS62 hS63 hS64 hS65 hS68) (zAll_c (vn72a0_6 hS62 hS63 hS64 hS65 hS68) (zAll_c (vn72a0_7 hS62 hS63 hS64 hS65 hS68) (zAll_c (vn72a0_8 hS62 hS63 hS64 hS65 hS68) zAll_n)))))))))), ⟨(show zAll _ [q72a1_0, q72a1_1, q72a1_2, q72a1_3, q72a1_4, q72a1_5, q72a1_6] from (zAll_c (vn72a1_0 hS62 hS63 hS64 hS65 hS68) (zAll_c (vn72a1_1 hS62 hS63 hS64 hS65 hS68) (zAll_c (vn72a1_2 hS62 hS63 hS64 hS65 hS68) (zAll_c (vn72a1_3 hS62 hS63 hS64 hS65 hS68) (zAll_c (vn72a1_4 hS62 hS63 hS64 hS65 hS68) (zAll_c (vn72a1_5 hS62 hS63 hS64 hS65 hS68) (zAll_c (vn72a1_6 hS62 hS63 hS64 hS65 hS68) zAll_n)))))))), trivial⟩⟩)) h
theorem vn73_0 {S : Nat → zSpc} (hS62 : zIm S 62 sn62) (hS63 : zIm S 63 sn63) (hS64 : zIm S 64 sn64) (hS65 : zIm S 65 sn65) (hS70 : zIm S 70 sn70) {a : List Int} {g : rHp} : ∀ (ρ : Nat → Int) (γ : Nat → rHp), zO 13 S a g q73_0 ρ γ → zGl (fun i vs g1 => jn73 a g i vs g1) (sn73 a g) q73_0 ρ γ := by
  intro ρ γ h
  obtain ⟨ha, hg, hr, hf, hm, hc, hl⟩ := h
  have ha : a = [ρ 0, ρ 1, ρ 2, ρ 3, ρ 4, ρ 5, ρ 6, ρ 7, ρ 8, ρ 9, ρ 10, ρ 11, ρ 12] := ha
  subst ha
  subst hg
  show jn73 [ρ 0, ρ 1, ρ 2, ρ 3, ρ 4, ρ 5, ρ 6, ρ 7, ρ 8, ρ 9, ρ 10, ρ 11, ρ 12] (γ 0) 0 [ρ 0, ρ 1, ρ 2, ρ 3, ρ 4, ρ 5, ρ 6, ρ 7, ρ 8, ρ 9, ρ 10, ρ 11, ρ 12, 0, ρ 3, ρ 4, ρ 12] (γ 0)
  have hD : dn73 [ρ 0] (γ 0) = .inl (0, [ρ 0, 0], γ 0) := by
    unfold dn73
    refine zLV (ρ 0) rfl ?_
    rfl
  exact zGoo_to hD
theorem vn73a0_0 {S : Nat → zSpc} (hS62 : zIm S 62 sn62) (hS63 : zIm S 63 sn63) (hS64 : zIm S 64 sn64) (hS65 : zIm S 65 sn65) (hS70 : zIm S 70 sn70) {a : List Int} {g : rHp} : ∀ (ρ : Nat → Int) (γ : Nat → rHp), jn73 a g 0 (zAg (zNA a73_ 0) ρ) (γ 1) → zO 13 S a g q73a0_0 ρ γ → zGl (fun i vs g1 => jn73 a g i vs g1) (sn73 a g) q73a0_0 ρ γ := by
  intro ρ γ hJ h
  obtain ⟨ha, hg, hr, hf, hm, hc, hl⟩ := h
  have ha : a = [ρ 0, ρ 1, ρ 2, ρ 3, ρ 4, ρ 5, ρ 6, ρ 7, ρ 8, ρ 9, ρ 10, ρ 11, ρ 12] := ha
  subst ha
  subst hg
  have hJ : jn73 [ρ 0, ρ 1, ρ 2, ρ 3, ρ 4, ρ 5, ρ 6, ρ 7, ρ 8, ρ 9, ρ 10, ρ 11, ρ 12] (γ 0) 0 [ρ 0, ρ 1, ρ 2, ρ 3, ρ 4, ρ 5, ρ 6, ρ 7, ρ 8, ρ 9, ρ 10, ρ 11, ρ 12, ρ 13, ρ 14, ρ 15, ρ 16] (γ 1) := hJ
  have r15 : (1 : Int) ≤ ρ 15 ∧ ρ 15 ≤ 3 := zRnA hr 15
  have w_0 : ρ 15 ≠ 0 := by omega
  have m0 : γ 0 73 0 (ρ 0) = ρ 1 := zAllA hm 0
  have m12 : γ 1 15 0 72 = ρ 14 := zAllA hm 12
  have m13 : γ 1 15 0 77 = ρ 15 := zAllA hm 13
  show sn73 [ρ 0, ρ 1, ρ 2, ρ 3, ρ 4, ρ 5, ρ 6, ρ 7, ρ 8, ρ 9, ρ 10, ρ 11, ρ 12] (γ 0) 0 0 (γ 1)
  have hD : en73 (γ 0) (0, [ρ 0, ρ 13], γ 1) = .inr (0, 0, γ 1) := by
    unfold en73
    refine zIP (show (0 : Nat) = 0 by decide) (zLV (γ 1) rfl (zLV (ρ 0) rfl (zLV (ρ 13) rfl (zLE m0 (zLE m12 (zLE m13 (zIP w_0 ?_)))))))
    rfl
  exact zGoo_aend hJ hD
theorem vn73a0_1 {S : Nat → zSpc} (hS62 : zIm S 62 sn62) (hS63 : zIm S 63 sn63) (hS64 : zIm S 64 sn64) (hS65 : zIm S 65 sn65) (hS70 : zIm S 70 sn70) {a : List Int} {g : rHp} : ∀ (ρ : Nat → Int) (γ : Nat → rHp), jn73 a g 0 (zAg (zNA a73_ 0) ρ) (γ 1) → zO 13 S a g q73a0_1 ρ γ → zGl (fun i vs g1 => jn73 a g i vs g1) (sn73 a g) q73a0_1 ρ γ := by
  intro ρ γ hJ h
  obtain ⟨ha, hg, hr, hf, hm, hc, hl⟩ := h
  have ha : a = [ρ 0, ρ 1, ρ 2, ρ 3, ρ 4, ρ 5, ρ 6, ρ 7, ρ 8, ρ 9, ρ 10, ρ 11, ρ 12] := ha
  subst ha
  subst hg
  have hJ : jn73 [ρ 0, ρ 1, ρ 2, ρ 3, ρ 4, ρ 5, ρ 6, ρ 7, ρ 8, ρ 9, ρ 10, ρ 11, ρ 12] (γ 0) 0 [ρ 0, ρ 1, ρ 2, ρ 3, ρ 4, ρ 5, ρ 6, ρ 7, ρ 8, ρ 9, ρ 10, ρ 11, ρ 12, ρ 13, ρ 14, ρ 15, ρ 16] (γ 1) := hJ
  have r14 : (0 : Int) ≤ ρ 14 ∧ ρ 14 ≤ 49999 := zRnA hr 14
  have r15 : (0 : Int) ≤ ρ 15 ∧ ρ 15 ≤ 0 := zRnA hr 15
  have r17 : (0 : Int) ≤ ρ 17 ∧ ρ 17 ≤ 0 := zRnA hr 17
  have r20 : (0 : Int) ≤ ρ 20 ∧ ρ 20 ≤ 1999 := zRnA hr 20
  have f2 : (0 : Int) ≤ -ρ 13 + ρ 1 + (-1) := zAllA hf 2
  obtain ⟨w_0, w_1, w_2, w_3, w_4, w_5⟩ : (¬ (ρ 15 ≠ 0)) ∧ (ρ 13 ≠ ρ 1) ∧ (0 ≤ -ρ 17 + 4) ∧ (ρ 17 = 0) ∧ (ρ 20 ≥ 0) ∧ (ρ 14 + 1 ≤ 50000) := ⟨by omega, by omega, by omega, by omega, by omega, by omega⟩
  have m0 : γ 0 73 0 (ρ 0) = ρ 1 := zAllA hm 0
  have m12 : γ 1 15 0 72 = ρ 14 := zAllA hm 12
  have m13 : γ 1 15 0 77 = ρ 15 := zAllA hm 13
  have m15 : γ 0 77 0 (ρ 13 + 8 * ρ 0) = ρ 17 := zAllA hm 15
  have m16 : γ 0 78 0 (ρ 13 + 8 * ρ 0) = ρ 18 := zAllA hm 16
  have m17 : γ 0 100 0 (ρ 18) = ρ 19 := zAllA hm 17
  have c3 : γ 3 = rUp (γ 2) 15 0 72 (ρ 14 + 1) := And.right (zChA hc 2)
  have c4 : γ 4 = rUp (γ 3) 104 0 (ρ 13) (ρ 20) := And.right (zChA hc 1)
  have l0 : sn62 [ρ 0, ρ 13, ρ 19, ρ 9, ρ 8, ρ 10, ρ 11] (γ 1) 0 (ρ 20) (γ 2) := hS62 _ _ _ _ _ (zAllA hl 0)
  have l1 : sn63 [ρ 13 + 8 * ρ 0, ρ 20] (γ 4) 0 0 (γ 5) := hS63 _ _ _ _ _ (zAllA hl 1)
  show jn73 [ρ 0, ρ 1, ρ 2, ρ 3, ρ 4, ρ 5, ρ 6, ρ 7, ρ 8, ρ 9, ρ 10, ρ 11, ρ 12] (γ 0) 0 [ρ 0, ρ 1, ρ 2, ρ 3, ρ 4, ρ 5, ρ 6, ρ 7, ρ 8, ρ 9, ρ 10, ρ 11, ρ 12, ρ 13 + 1, ρ 14 + 1, ρ 15, ρ 16] (γ 5)
  have hD : en73 (γ 0) (0, [ρ 0, ρ 13], γ 1) = .inl (0, [ρ 0, ρ 13 + 1], γ 5) := by
    unfold en73
    refine zIP (show (0 : Nat) = 0 by decide) (zLV (γ 1) rfl (zLV (ρ 0) rfl (zLV (ρ 13) rfl (zLE m0 (zLE m12 (zLE m13 (zIN w_0 ?_)))))))
    refine zIP w_1 (zLE m15 (zIP w_2 (zIP w_3 (zLE m16 (zLE m17 (zLE (show fn62 [ρ 0, ρ 13, ρ 19] (γ 1) = (0, ρ 20, γ 2) from l0.symm) (zLV (γ 2) rfl ?_)))))))
    refine zLV (ρ 20) rfl (zIP w_4 (zLE c3.symm (zIP w_5 (zLE c4.symm (zLE (show fn63 [ρ 13 + 8 * ρ 0, ρ 20] (γ 4) = (0, 0, γ 5) from l1.symm) (zLV (γ 5) rfl ?_))))))
    rfl
  exact zGoo_ato hJ hD
theorem vn73a0_2 {S : Nat → zSpc} (hS62 : zIm S 62 sn62) (hS63 : zIm S 63 sn63) (hS64 : zIm S 64 sn64) (hS65 : zIm S 65 sn65) (hS70 : zIm S 70 sn70) {a : List Int} {g : rHp} : ∀ (ρ : Nat → Int) (γ : Nat → rHp), jn73 a g 0 (zAg (zNA a73_ 0) ρ) (γ 1) → zO 13 S a g q73a0_2 ρ γ → zGl (fun i vs g1 => jn73 a g i vs g1) (sn73 a g) q73a0_2 ρ γ := by
  intro ρ γ hJ h
  obtain ⟨ha, hg, hr, hf, hm, hc, hl⟩ := h
  have ha : a = [ρ 0, ρ 1, ρ 2, ρ 3, ρ 4, ρ 5, ρ 6, ρ 7, ρ 8, ρ 9, ρ 10, ρ 11, ρ 12] := ha
  subst ha
  subst hg
  have hJ : jn73 [ρ 0, ρ 1, ρ 2, ρ 3, ρ 4, ρ 5, ρ 6, ρ 7, ρ 8, ρ 9, ρ 10, ρ 11, ρ 12] (γ 0) 0 [ρ 0, ρ 1, ρ 2, ρ 3, ρ 4, ρ 5, ρ 6, ρ 7, ρ 8, ρ 9, ρ 10, ρ 11, ρ 12, ρ 13, ρ 14, ρ 15, ρ 16] (γ 1) := hJ
  have r14 : (50000 : Int) ≤ ρ 14 ∧ ρ 14 ≤ 50001 := zRnA hr 14
  have r15 : (0 : Int) ≤ ρ 15 ∧ ρ 15 ≤ 0 := zRnA hr 15
  have r17 : (0 : Int) ≤ ρ 17 ∧ ρ 17 ≤ 0 := zRnA hr 17
  have r20 : (0 : Int) ≤ ρ 20 ∧ ρ 20 ≤ 1999 := zRnA hr 20
  have f2 : (0 : Int) ≤ -ρ 13 + ρ 1 + (-1) := zAllA hf 2
  obtain ⟨w_0, w_1, w_2, w_3, w_4, w_5⟩ : (¬ (ρ 15 ≠ 0)) ∧ (ρ 13 ≠ ρ 1) ∧ (0 ≤ -ρ 17 + 4) ∧ (ρ 17 = 0) ∧ (ρ 20 ≥ 0) ∧ (¬ (ρ 14 + 1 ≤ 50000)) := ⟨by omega, by omega, by omega, by omega, by omega, by omega⟩
  have m0 : γ 0 73 0 (ρ 0) = ρ 1 := zAllA hm 0
  have m12 : γ 1 15 0 72 = ρ 14 := zAllA hm 12
  have m13 : γ 1 15 0 77 = ρ 15 := zAllA hm 13
  have m15 : γ 0 77 0 (ρ 13 + 8 * ρ 0) = ρ 17 := zAllA hm 15
  have m16 : γ 0 78 0 (ρ 13 + 8 * ρ 0) = ρ 18 := zAllA hm 16
  have m17 : γ 0 100 0 (ρ 18) = ρ 19 := zAllA hm 17
  have c3 : γ 3 = rUp (γ 2) 15 0 72 (ρ 14 + 1) := And.right (zChA hc 3)
  have c4 : γ 4 = rUp (γ 3) 15 0 77 2 := And.right (zChA hc 2)
  have c5 : γ 5 = rUp (γ 4) 104 0 (ρ 13) (ρ 20) := And.right (zChA hc 1)
  have l0 : sn62 [ρ 0, ρ 13, ρ 19, ρ 9, ρ 8, ρ 10, ρ 11] (γ 1) 0 (ρ 20) (γ 2) := hS62 _ _ _ _ _ (zAllA hl 0)
  have l1 : sn63 [ρ 13 + 8 * ρ 0, ρ 20] (γ 5) 0 0 (γ 6) := hS63 _ _ _ _ _ (zAllA hl 1)
  show jn73 [ρ 0, ρ 1, ρ 2, ρ 3, ρ 4, ρ 5, ρ 6, ρ 7, ρ 8, ρ 9, ρ 10, ρ 11, ρ 12] (γ 0) 0 [ρ 0, ρ 1, ρ 2, ρ 3, ρ 4, ρ 5, ρ 6, ρ 7, ρ 8, ρ 9, ρ 10, ρ 11, ρ 12, ρ 13 + 1, ρ 14 + 1, 2, ρ 16] (γ 6)
  have hD : en73 (γ 0) (0, [ρ 0, ρ 13], γ 1) = .inl (0, [ρ 0, ρ 13 + 1], γ 6) := by
    unfold en73
    refine zIP (show (0 : Nat) = 0 by decide) (zLV (γ 1) rfl (zLV (ρ 0) rfl (zLV (ρ 13) rfl (zLE m0 (zLE m12 (zLE m13 (zIN w_0 ?_)))))))
    refine zIP w_1 (zLE m15 (zIP w_2 (zIP w_3 (zLE m16 (zLE m17 (zLE (show fn62 [ρ 0, ρ 13, ρ 19] (γ 1) = (0, ρ 20, γ 2) from l0.symm) (zLV (γ 2) rfl ?_)))))))
    refine zLV (ρ 20) rfl (zIP w_4 (zLE c3.symm (zIN w_5 (zLE c4.symm (zLE c5.symm (zLE (show fn63 [ρ 13 + 8 * ρ 0, ρ 20] (γ 5) = (0, 0, γ 6) from l1.symm) (zLV (γ 6) rfl ?_)))))))
    rfl
  exact zGoo_ato hJ hD
theorem vn73a0_3 {S : Nat → zSpc} (hS62 : zIm S 62 sn62) (hS63 : zIm S 63 sn63) (hS64 : zIm S 64 sn64) (hS65 : zIm S 65 sn65) (hS70 : zIm S 70 sn70) {a : List Int} {g : rHp} : ∀ (ρ : Nat → Int) (γ : Nat → rHp), jn73 a g 0 (zAg (zNA a73_ 0) ρ) (γ 1) → zO 13 S a g q73a0_3 ρ γ → zGl (fun i vs g1 => jn73 a g i vs g1) (sn73 a g) q73a0_3 ρ γ := by
  intro ρ γ hJ h
  obtain ⟨ha, hg, hr, hf, hm, hc, hl⟩ := h
  have ha : a = [ρ 0, ρ 1, ρ 2, ρ 3, ρ 4, ρ 5, ρ 6, ρ 7, ρ 8, ρ 9, ρ 10, ρ 11, ρ 12] := ha
  subst ha
  subst hg
  have hJ : jn73 [ρ 0, ρ 1, ρ 2, ρ 3, ρ 4, ρ 5, ρ 6, ρ 7, ρ 8, ρ 9, ρ 10, ρ 11, ρ 12] (γ 0) 0 [ρ 0, ρ 1, ρ 2, ρ 3, ρ 4, ρ 5, ρ 6, ρ 7, ρ 8, ρ 9, ρ 10, ρ 11, ρ 12, ρ 13, ρ 14, ρ 15, ρ 16] (γ 1) := hJ
  have r15 : (0 : Int) ≤ ρ 15 ∧ ρ 15 ≤ 0 := zRnA hr 15
  have r17 : (0 : Int) ≤ ρ 17 ∧ ρ 17 ≤ 0 := zRnA hr 17
  have r20 : ((-1) : Int) ≤ ρ 20 ∧ ρ 20 ≤ (-1) := zRnA hr 20
  have f2 : (0 : Int) ≤ -ρ 13 + ρ 1 + (-1) := zAllA hf 2
  obtain ⟨w_0, w_1, w_2, w_3, w_4⟩ : (¬ (ρ 15 ≠ 0)) ∧ (ρ 13 ≠ ρ 1) ∧ (0 ≤ -ρ 17 + 4) ∧ (ρ 17 = 0) ∧ (¬ (ρ 20 ≥ 0)) := ⟨by omega, by omega, by omega, by omega, by omega⟩
  have m0 : γ 0 73 0 (ρ 0) = ρ 1 := zAllA hm 0
  have m12 : γ 1 15 0 72 = ρ 14 := zAllA hm 12
  have m13 : γ 1 15 0 77 = ρ 15 := zAllA hm 13
  have m15 : γ 0 77 0 (ρ 13 + 8 * ρ 0) = ρ 17 := zAllA hm 15
  have m16 : γ 0 78 0 (ρ 13 + 8 * ρ 0) = ρ 18 := zAllA hm 16
  have m17 : γ 0 100 0 (ρ 18) = ρ 19 := zAllA hm 17
  have l0 : sn62 [ρ 0, ρ 13, ρ 19, ρ 9, ρ 8, ρ 10, ρ 11] (γ 1) 0 (ρ 20) (γ 2) := hS62 _ _ _ _ _ (zAllA hl 0)
  show jn73 [ρ 0, ρ 1, ρ 2, ρ 3, ρ 4, ρ 5, ρ 6, ρ 7, ρ 8, ρ 9, ρ 10, ρ 11, ρ 12] (γ 0) 1 [ρ 0, ρ 1, ρ 2, ρ 3, ρ 4, ρ 5, ρ 6, ρ 7, ρ 8, ρ 9, ρ 10, ρ 11, ρ 12, ρ 13 + (-1), ρ 13 + 8 * ρ 0, ρ 14, ρ 15, ρ 16] (γ 2)
  have hD : en73 (γ 0) (0, [ρ 0, ρ 13], γ 1) = .inl (1, [ρ 0, ρ 13 + (-1), ρ 13 + 8 * ρ 0], γ 2) := by
    unfold en73
    refine zIP (show (0 : Nat) = 0 by decide) (zLV (γ 1) rfl (zLV (ρ 0) rfl (zLV (ρ 13) rfl (zLE m0 (zLE m12 (zLE m13 (zIN w_0 ?_)))))))
    refine zIP w_1 (zLE m15 (zIP w_2 (zIP w_3 (zLE m16 (zLE m17 (zLE (show fn62 [ρ 0, ρ 13, ρ 19] (γ 1) = (0, ρ 20, γ 2) from l0.symm) (zLV (γ 2) rfl ?_)))))))
    refine zLV (ρ 20) rfl (zIN w_4 ?_)
    rfl
  exact zGoo_ato hJ hD
theorem vn73a0_4 {S : Nat → zSpc} (hS62 : zIm S 62 sn62) (hS63 : zIm S 63 sn63) (hS64 : zIm S 64 sn64) (hS65 : zIm S 65 sn65) (hS70 : zIm S 70 sn70) {a : List Int} {g : rHp} : ∀ (ρ : Nat → Int) (γ : Nat → rHp), jn73 a g 0 (zAg (zNA a73_ 0) ρ) (γ 1) → zO 13 S a g q73a0_4 ρ γ → zGl (fun i vs g1 => jn73 a g i vs g1) (sn73 a g) q73a0_4 ρ γ := by
  intro ρ γ hJ h
  obtain ⟨ha, hg, hr, hf, hm, hc, hl⟩ := h
  have ha : a = [ρ 0, ρ 1, ρ 2, ρ 3, ρ 4, ρ 5, ρ 6, ρ 7, ρ 8, ρ 9, ρ 10, ρ 11, ρ 12] := ha
  subst ha
  subst hg
  have hJ : jn73 [ρ 0, ρ 1, ρ 2, ρ 3, ρ 4, ρ 5, ρ 6, ρ 7, ρ 8, ρ 9, ρ 10, ρ 11, ρ 12] (γ 0) 0 [ρ 0, ρ 1, ρ 2, ρ 3, ρ 4, ρ 5, ρ 6, ρ 7, ρ 8, ρ 9, ρ 10, ρ 11, ρ 12, ρ 13, ρ 14, ρ 15, ρ 16] (γ 1) := hJ
  have r15 : (0 : Int) ≤ ρ 15 ∧ ρ 15 ≤ 0 := zRnA hr 15
  have r17 : (1 : Int) ≤ ρ 17 ∧ ρ 17 ≤ 4 := zRnA hr 17
  have f1 : (0 : Int) ≤ -ρ 13 + ρ 1 + (-1) := zAllA hf 1
  obtain ⟨w_0, w_1, w_2, w_3⟩ : (¬ (ρ 15 ≠ 0)) ∧ (ρ 13 ≠ ρ 1) ∧ (0 ≤ -ρ 17 + 4) ∧ (¬ (ρ 17 = 0)) := ⟨by omega, by omega, by omega, by omega⟩
  have m0 : γ 0 73 0 (ρ 0) = ρ 1 := zAllA hm 0
  have m12 : γ 1 15 0 72 = ρ 14 := zAllA hm 12
  have m13 : γ 1 15 0 77 = ρ 15 := zAllA hm 13
  have m15 : γ 0 77 0 (ρ 13 + 8 * ρ 0) = ρ 17 := zAllA hm 15
  have l0 : sn64 [ρ 13 + 8 * ρ 0, ρ 17, ρ 18, ρ 9, ρ 8] (γ 1) 0 0 (γ 2) := hS64 _ _ _ _ _ (zAllA hl 0)
  show jn73 [ρ 0, ρ 1, ρ 2, ρ 3, ρ 4, ρ 5, ρ 6, ρ 7, ρ 8, ρ 9, ρ 10, ρ 11, ρ 12] (γ 0) 1 [ρ 0, ρ 1, ρ 2, ρ 3, ρ 4, ρ 5, ρ 6, ρ 7, ρ 8, ρ 9, ρ 10, ρ 11, ρ 12, ρ 13 + (-1), ρ 13 + 8 * ρ 0, ρ 14, ρ 15, ρ 16] (γ 2)
  have hD : en73 (γ 0) (0, [ρ 0, ρ 13], γ 1) = .inl (1, [ρ 0, ρ 13 + (-1), ρ 13 + 8 * ρ 0], γ 2) := by
    unfold en73
    refine zIP (show (0 : Nat) = 0 by decide) (zLV (γ 1) rfl (zLV (ρ 0) rfl (zLV (ρ 13) rfl (zLE m0 (zLE m12 (zLE m13 (zIN w_0 ?_)))))))
    refine zIP w_1 (zLE m15 (zIP w_2 (zIN w_3 (zLE (show fn64 [ρ 13 + 8 * ρ 0] (γ 1) = (0, 0, γ 2) from l0.symm) (zLV (γ 2) rfl (zIN zQ0_ ?_))))))
    rfl
  exact zGoo_ato hJ hD
theorem vn73a0_5 {S : Nat → zSpc} (hS62 : zIm S 62 sn62) (hS63 : zIm S 63 sn63) (hS64 : zIm S 64 sn64) (hS65 : zIm S 65 sn65) (hS70 : zIm S 70 sn70) {a : List Int} {g : rHp} : ∀ (ρ : Nat → Int) (γ : Nat → rHp), jn73 a g 0 (zAg (zNA a73_ 0) ρ) (γ 1) → zO 13 S a g q73a0_5 ρ γ → zGl (fun i vs g1 => jn73 a g i vs g1) (sn73 a g) q73a0_5 ρ γ := by
  intro ρ γ hJ h
  obtain ⟨ha, hg, hr, hf, hm, hc, hl⟩ := h
  have ha : a = [ρ 0, ρ 1, ρ 2, ρ 3, ρ 4, ρ 5, ρ 6, ρ 7, ρ 8, ρ 9, ρ 10, ρ 11, ρ 12] := ha
  subst ha
  subst hg
  have hJ : jn73 [ρ 0, ρ 1, ρ 2, ρ 3, ρ 4, ρ 5, ρ 6, ρ 7, ρ 8, ρ 9, ρ 10, ρ 11, ρ 12] (γ 0) 0 [ρ 0, ρ 1, ρ 2, ρ 3, ρ 4, ρ 5, ρ 6, ρ 7, ρ 8, ρ 9, ρ 10, ρ 11, ρ 12, ρ 13, ρ 14, ρ 15, ρ 16] (γ 1) := hJ
  have r15 : (0 : Int) ≤ ρ 15 ∧ ρ 15 ≤ 0 := zRnA hr 15
  have r17 : (1 : Int) ≤ ρ 17 ∧ ρ 17 ≤ 4 := zRnA hr 17
  have f1 : (0 : Int) ≤ -ρ 13 + ρ 1 + (-1) := zAllA hf 1
  obtain ⟨w_0, w_1, w_2, w_3⟩ : (¬ (ρ 15 ≠ 0)) ∧ (ρ 13 ≠ ρ 1) ∧ (0 ≤ -ρ 17 + 4) ∧ (¬ (ρ 17 = 0)) := ⟨by omega, by omega, by omega, by omega⟩
  have m0 : γ 0 73 0 (ρ 0) = ρ 1 := zAllA hm 0
  have m12 : γ 1 15 0 72 = ρ 14 := zAllA hm 12
  have m13 : γ 1 15 0 77 = ρ 15 := zAllA hm 13
  have m15 : γ 0 77 0 (ρ 13 + 8 * ρ 0) = ρ 17 := zAllA hm 15
  have l0 : sn64 [ρ 13 + 8 * ρ 0, ρ 17, ρ 18, ρ 9, ρ 8] (γ 1) 0 1 (γ 2) := hS64 _ _ _ _ _ (zAllA hl 0)
  show jn73 [ρ 0, ρ 1, ρ 2, ρ 3, ρ 4, ρ 5, ρ 6, ρ 7, ρ 8, ρ 9, ρ 10, ρ 11, ρ 12] (γ 0) 0 [ρ 0, ρ 1, ρ 2, ρ 3, ρ 4, ρ 5, ρ 6, ρ 7, ρ 8, ρ 9, ρ 10, ρ 11, ρ 12, ρ 13 + 1, ρ 14, ρ 15, ρ 16] (γ 2)
  have hD : en73 (γ 0) (0, [ρ 0, ρ 13], γ 1) = .inl (0, [ρ 0, ρ 13 + 1], γ 2) := by
    unfold en73
    refine zIP (show (0 : Nat) = 0 by decide) (zLV (γ 1) rfl (zLV (ρ 0) rfl (zLV (ρ 13) rfl (zLE m0 (zLE m12 (zLE m13 (zIN w_0 ?_)))))))
    refine zIP w_1 (zLE m15 (zIP w_2 (zIN w_3 (zLE (show fn64 [ρ 13 + 8 * ρ 0] (γ 1) = (0, 1, γ 2) from l0.symm) (zLV (γ 2) rfl (zIP zQ1_ ?_))))))
    rfl
  exact zGoo_ato hJ hD
theorem vn73a0_6 {S : Nat → zSpc} (hS62 : zIm S 62 sn62) (hS63 : zIm S 63 sn63) (hS64 : zIm S 64 sn64) (hS65 : zIm S 65 sn65) (hS70 : zIm S 70 sn70) {a : List Int} {g : rHp} : ∀ (ρ : Nat → Int) (γ : Nat → rHp), jn73 a g 0 (zAg (zNA a73_ 0) ρ) (γ 1) → zO 13 S a g q73a0_6 ρ γ → zGl (fun i vs g1 => jn73 a g i vs g1) (sn73 a g) q73a0_6 ρ γ := by
  intro ρ γ hJ h
  obtain ⟨ha, hg, hr, hf, hm, hc, hl⟩ := h
  have ha : a = [ρ 0, ρ 1, ρ 2, ρ 3, ρ 4, ρ 5, ρ 6, ρ 7, ρ 8, ρ 9, ρ 10, ρ 11, ρ 12] := ha
  subst ha
  subst hg
  have hJ : jn73 [ρ 0, ρ 1, ρ 2, ρ 3, ρ 4, ρ 5, ρ 6, ρ 7, ρ 8, ρ 9, ρ 10, ρ 11, ρ 12] (γ 0) 0 [ρ 0, ρ 1, ρ 2, ρ 3, ρ 4, ρ 5, ρ 6, ρ 7, ρ 8, ρ 9, ρ 10, ρ 11, ρ 12, ρ 13, ρ 14, ρ 15, ρ 16] (γ 1) := hJ
  have r15 : (0 : Int) ≤ ρ 15 ∧ ρ 15 ≤ 0 := zRnA hr 15
  have r17 : (5 : Int) ≤ ρ 17 ∧ ρ 17 ≤ 7 := zRnA hr 17
  have f1 : (0 : Int) ≤ -ρ 13 + ρ 1 + (-1) := zAllA hf 1
  obtain ⟨w_0, w_1, w_2⟩ : (¬ (ρ 15 ≠ 0)) ∧ (ρ 13 ≠ ρ 1) ∧ (¬ (0 ≤ -ρ 17 + 4)) := ⟨by omega, by omega, by omega⟩
  have m0 : γ 0 73 0 (ρ 0) = ρ 1 := zAllA hm 0
  have m12 : γ 1 15 0 72 = ρ 14 := zAllA hm 12
  have m13 : γ 1 15 0 77 = ρ 15 := zAllA hm 13
  have m15 : γ 0 77 0 (ρ 13 + 8 * ρ 0) = ρ 17 := zAllA hm 15
  have l0 : sn65 [ρ 13 + 8 * ρ 0, ρ 17, ρ 18, ρ 9, ρ 8] (γ 1) 0 0 (γ 2) := hS65 _ _ _ _ _ (zAllA hl 0)
  show jn73 [ρ 0, ρ 1, ρ 2, ρ 3, ρ 4, ρ 5, ρ 6, ρ 7, ρ 8, ρ 9, ρ 10, ρ 11, ρ 12] (γ 0) 1 [ρ 0, ρ 1, ρ 2, ρ 3, ρ 4, ρ 5, ρ 6, ρ 7, ρ 8, ρ 9, ρ 10, ρ 11, ρ 12, ρ 13 + (-1), ρ 13 + 8 * ρ 0, ρ 14, ρ 15, ρ 16] (γ 2)
  have hD : en73 (γ 0) (0, [ρ 0, ρ 13], γ 1) = .inl (1, [ρ 0, ρ 13 + (-1), ρ 13 + 8 * ρ 0], γ 2) := by
    unfold en73
    refine zIP (show (0 : Nat) = 0 by decide) (zLV (γ 1) rfl (zLV (ρ 0) rfl (zLV (ρ 13) rfl (zLE m0 (zLE m12 (zLE m13 (zIN w_0 ?_)))))))
    refine zIP w_1 (zLE m15 (zIN w_2 (zLE (show fn65 [ρ 13 + 8 * ρ 0] (γ 1) = (0, 0, γ 2) from l0.symm) (zLV (γ 2) rfl (zIN zQ0_ ?_)))))
    rfl
  exact zGoo_ato hJ hD
theorem vn73a0_7 {S : Nat → zSpc} (hS62 : zIm S 62 sn62) (hS63 : zIm S 63 sn63) (hS64 : zIm S 64 sn64) (hS65 : zIm S 65 sn65) (hS70 : zIm S 70 sn70) {a : List Int} {g : rHp} : ∀ (ρ : Nat → Int) (γ : Nat → rHp), jn73 a g 0 (zAg (zNA a73_ 0) ρ) (γ 1) → zO 13 S a g q73a0_7 ρ γ → zGl (fun i vs g1 => jn73 a g i vs g1) (sn73 a g) q73a0_7 ρ γ := by
  intro ρ γ hJ h
  obtain ⟨ha, hg, hr, hf, hm, hc, hl⟩ := h
  have ha : a = [ρ 0, ρ 1, ρ 2, ρ 3, ρ 4, ρ 5, ρ 6, ρ 7, ρ 8, ρ 9, ρ 10, ρ 11, ρ 12] := ha
  subst ha
  subst hg
  have hJ : jn73 [ρ 0, ρ 1, ρ 2, ρ 3, ρ 4, ρ 5, ρ 6, ρ 7, ρ 8, ρ 9, ρ 10, ρ 11, ρ 12] (γ 0) 0 [ρ 0, ρ 1, ρ 2, ρ 3, ρ 4, ρ 5, ρ 6, ρ 7, ρ 8, ρ 9, ρ 10, ρ 11, ρ 12, ρ 13, ρ 14, ρ 15, ρ 16] (γ 1) := hJ
  have r15 : (0 : Int) ≤ ρ 15 ∧ ρ 15 ≤ 0 := zRnA hr 15
  have r17 : (5 : Int) ≤ ρ 17 ∧ ρ 17 ≤ 7 := zRnA hr 17
  have f1 : (0 : Int) ≤ -ρ 13 + ρ 1 + (-1) := zAllA hf 1
  obtain ⟨w_0, w_1, w_2⟩ : (¬ (ρ 15 ≠ 0)) ∧ (ρ 13 ≠ ρ 1) ∧ (¬ (0 ≤ -ρ 17 + 4)) := ⟨by omega, by omega, by omega⟩
  have m0 : γ 0 73 0 (ρ 0) = ρ 1 := zAllA hm 0
  have m12 : γ 1 15 0 72 = ρ 14 := zAllA hm 12
  have m13 : γ 1 15 0 77 = ρ 15 := zAllA hm 13
  have m15 : γ 0 77 0 (ρ 13 + 8 * ρ 0) = ρ 17 := zAllA hm 15
  have l0 : sn65 [ρ 13 + 8 * ρ 0, ρ 17, ρ 18, ρ 9, ρ 8] (γ 1) 0 1 (γ 2) := hS65 _ _ _ _ _ (zAllA hl 0)
  show jn73 [ρ 0, ρ 1, ρ 2, ρ 3, ρ 4, ρ 5, ρ 6, ρ 7, ρ 8, ρ 9, ρ 10, ρ 11, ρ 12] (γ 0) 0 [ρ 0, ρ 1, ρ 2, ρ 3, ρ 4, ρ 5, ρ 6, ρ 7, ρ 8, ρ 9, ρ 10, ρ 11, ρ 12, ρ 13 + 1, ρ 14, ρ 15, ρ 16] (γ 2)
  have hD : en73 (γ 0) (0, [ρ 0, ρ 13], γ 1) = .inl (0, [ρ 0, ρ 13 + 1], γ 2) := by
    unfold en73
    refine zIP (show (0 : Nat) = 0 by decide) (zLV (γ 1) rfl (zLV (ρ 0) rfl (zLV (ρ 13) rfl (zLE m0 (zLE m12 (zLE m13 (zIN w_0 ?_)))))))
    refine zIP w_1 (zLE m15 (zIN w_2 (zLE (show fn65 [ρ 13 + 8 * ρ 0] (γ 1) = (0, 1, γ 2) from l0.symm) (zLV (γ 2) rfl (zIP zQ1_ ?_)))))
    rfl
  exact zGoo_ato hJ hD
theorem vn73a0_8 {S : Nat → zSpc} (hS62 : zIm S 62 sn62) (hS63 : zIm S 63 sn63) (hS64 : zIm S 64 sn64) (hS65 : zIm S 65 sn65) (hS70 : zIm S 70 sn70) {a : List Int} {g : rHp} : ∀ (ρ : Nat → Int) (γ : Nat → rHp), jn73 a g 0 (zAg (zNA a73_ 0) ρ) (γ 1) → zO 13 S a g q73a0_8 ρ γ → zGl (fun i vs g1 => jn73 a g i vs g1) (sn73 a g) q73a0_8 ρ γ := by
  intro ρ γ hJ h
  obtain ⟨ha, hg, hr, hf, hm, hc, hl⟩ := h
  have ha : a = [ρ 0, ρ 1, ρ 2, ρ 3, ρ 4, ρ 5, ρ 6, ρ 7, ρ 8, ρ 9, ρ 10, ρ 11, ρ 12] := ha
  subst ha
  subst hg
  have hJ : jn73 [ρ 0, ρ 1, ρ 2, ρ 3, ρ 4, ρ 5, ρ 6, ρ 7, ρ 8, ρ 9, ρ 10, ρ 11, ρ 12] (γ 0) 0 [ρ 0, ρ 1, ρ 2, ρ 3, ρ 4, ρ 5, ρ 6, ρ 7, ρ 8, ρ 9, ρ 10, ρ 11, ρ 12, ρ 13, ρ 14, ρ 15, ρ 16] (γ 1) := hJ
  have r15 : (0 : Int) ≤ ρ 15 ∧ ρ 15 ≤ 0 := zRnA hr 15
  have f1 : (0 : Int) ≤ -ρ 13 + ρ 1 := zAllA hf 1
  have f2 : (0 : Int) ≤ ρ 13 + -ρ 1 := zAllA hf 2
  obtain ⟨w_0, w_1⟩ : (¬ (ρ 15 ≠ 0)) ∧ (¬ (ρ 13 ≠ ρ 1)) := ⟨by omega, by omega⟩
  have m0 : γ 0 73 0 (ρ 0) = ρ 1 := zAllA hm 0
  have m12 : γ 1 15 0 72 = ρ 14 := zAllA hm 12
  have m13 : γ 1 15 0 77 = ρ 15 := zAllA hm 13
  have l0 : sn70 [ρ 0, ρ 6, ρ 7, ρ 16, ρ 15] (γ 1) 0 0 (γ 2) := hS70 _ _ _ _ _ (zAllA hl 0)
  show jn73 [ρ 0, ρ 1, ρ 2, ρ 3, ρ 4, ρ 5, ρ 6, ρ 7, ρ 8, ρ 9, ρ 10, ρ 11, ρ 12] (γ 0) 1 [ρ 0, ρ 1, ρ 2, ρ 3, ρ 4, ρ 5, ρ 6, ρ 7, ρ 8, ρ 9, ρ 10, ρ 11, ρ 12, ρ 13 + (-1), ρ 13 + 8 * ρ 0, ρ 14, ρ 18, ρ 17] (γ 2)
  have hD : en73 (γ 0) (0, [ρ 0, ρ 13], γ 1) = .inl (1, [ρ 0, ρ 13 + (-1), ρ 13 + 8 * ρ 0], γ 2) := by
    unfold en73
    refine zIP (show (0 : Nat) = 0 by decide) (zLV (γ 1) rfl (zLV (ρ 0) rfl (zLV (ρ 13) rfl (zLE m0 (zLE m12 (zLE m13 (zIN w_0 ?_)))))))
    refine zIN w_1 (zLE (show fn70 [ρ 0] (γ 1) = (0, 0, γ 2) from l0.symm) (zLV (γ 2) rfl ?_))
    rfl
  exact zGoo_ato hJ hD
theorem vn73a1_0 {S : Nat → zSpc} (hS62 : zIm S 62 sn62) (hS63 : zIm S 63 sn63) (hS64 : zIm S 64 sn64) (hS65 : zIm S 65 sn65) (hS70 : zIm S 70 sn70) {a : List Int} {g : rHp} : ∀ (ρ : Nat → Int) (γ : Nat → rHp), jn73 a g 1 (zAg (zNA a73_ 1) ρ) (γ 1) → zO 13 S a g q73a1_0 ρ γ → zGl (fun i vs g1 => jn73 a g i vs g1) (sn73 a g) q73a1_0 ρ γ := by
  intro ρ γ hJ h
  obtain ⟨ha, hg, hr, hf, hm, hc, hl⟩ := h
  have ha : a = [ρ 0, ρ 1, ρ 2, ρ 3, ρ 4, ρ 5, ρ 6, ρ 7, ρ 8, ρ 9, ρ 10, ρ 11, ρ 12] := ha
  subst ha
  subst hg
  have hJ : jn73 [ρ 0, ρ 1, ρ 2, ρ 3, ρ 4, ρ 5, ρ 6, ρ 7, ρ 8, ρ 9, ρ 10, ρ 11, ρ 12] (γ 0) 1 [ρ 0, ρ 1, ρ 2, ρ 3, ρ 4, ρ 5, ρ 6, ρ 7, ρ 8, ρ 9, ρ 10, ρ 11, ρ 12, ρ 13, ρ 14, ρ 15, ρ 16, ρ 17] (γ 1) := hJ
  have r13 : ((-1) : Int) ≤ ρ 13 ∧ ρ 13 ≤ (-1) := zRnA hr 13
  have w_0 : ρ 13 < 0 := by omega
  have m12 : γ 1 15 0 72 = ρ 15 := zAllA hm 12
  have m13 : γ 1 15 0 77 = ρ 16 := zAllA hm 13
  show sn73 [ρ 0, ρ 1, ρ 2, ρ 3, ρ 4, ρ 5, ρ 6, ρ 7, ρ 8, ρ 9, ρ 10, ρ 11, ρ 12] (γ 0) 0 0 (γ 1)
  have hD : en73 (γ 0) (1, [ρ 0, ρ 13, ρ 14], γ 1) = .inr (0, 0, γ 1) := by
    unfold en73
    refine zIN (show ¬ (1 : Nat) = 0 by decide) (zIP (show (1 : Nat) = 1 by decide) (zLV (γ 1) rfl (zLV (ρ 0) rfl (zLV (ρ 13) rfl (zLE m12 (zLE m13 (zIP w_0 ?_)))))))
    rfl
  exact zGoo_aend hJ hD
theorem vn73a1_1 {S : Nat → zSpc} (hS62 : zIm S 62 sn62) (hS63 : zIm S 63 sn63) (hS64 : zIm S 64 sn64) (hS65 : zIm S 65 sn65) (hS70 : zIm S 70 sn70) {a : List Int} {g : rHp} : ∀ (ρ : Nat → Int) (γ : Nat → rHp), jn73 a g 1 (zAg (zNA a73_ 1) ρ) (γ 1) → zO 13 S a g q73a1_1 ρ γ → zGl (fun i vs g1 => jn73 a g i vs g1) (sn73 a g) q73a1_1 ρ γ := by
  intro ρ γ hJ h
  obtain ⟨ha, hg, hr, hf, hm, hc, hl⟩ := h
  have ha : a = [ρ 0, ρ 1, ρ 2, ρ 3, ρ 4, ρ 5, ρ 6, ρ 7, ρ 8, ρ 9, ρ 10, ρ 11, ρ 12] := ha
  subst ha
  subst hg
  have hJ : jn73 [ρ 0, ρ 1, ρ 2, ρ 3, ρ 4, ρ 5, ρ 6, ρ 7, ρ 8, ρ 9, ρ 10, ρ 11, ρ 12] (γ 0) 1 [ρ 0, ρ 1, ρ 2, ρ 3, ρ 4, ρ 5, ρ 6, ρ 7, ρ 8, ρ 9, ρ 10, ρ 11, ρ 12, ρ 13, ρ 14, ρ 15, ρ 16, ρ 17] (γ 1) := hJ
  have r13 : (0 : Int) ≤ ρ 13 ∧ ρ 13 ≤ 7 := zRnA hr 13
  have r16 : (1 : Int) ≤ ρ 16 ∧ ρ 16 ≤ 3 := zRnA hr 16
  obtain ⟨w_0, w_1⟩ : (¬ (ρ 13 < 0)) ∧ (ρ 16 ≠ 0) := ⟨by omega, by omega⟩
  have m12 : γ 1 15 0 72 = ρ 15 := zAllA hm 12
  have m13 : γ 1 15 0 77 = ρ 16 := zAllA hm 13
  show sn73 [ρ 0, ρ 1, ρ 2, ρ 3, ρ 4, ρ 5, ρ 6, ρ 7, ρ 8, ρ 9, ρ 10, ρ 11, ρ 12] (γ 0) 0 0 (γ 1)
  have hD : en73 (γ 0) (1, [ρ 0, ρ 13, ρ 14], γ 1) = .inr (0, 0, γ 1) := by
    unfold en73
    refine zIN (show ¬ (1 : Nat) = 0 by decide) (zIP (show (1 : Nat) = 1 by decide) (zLV (γ 1) rfl (zLV (ρ 0) rfl (zLV (ρ 13) rfl (zLE m12 (zLE m13 (zIN w_0 ?_)))))))
    refine zIP w_1 ?_
    rfl
  exact zGoo_aend hJ hD
theorem vn73a1_2 {S : Nat → zSpc} (hS62 : zIm S 62 sn62) (hS63 : zIm S 63 sn63) (hS64 : zIm S 64 sn64) (hS65 : zIm S 65 sn65) (hS70 : zIm S 70 sn70) {a : List Int} {g : rHp} : ∀ (ρ : Nat → Int) (γ : Nat → rHp), jn73 a g 1 (zAg (zNA a73_ 1) ρ) (γ 1) → zO 13 S a g q73a1_2 ρ γ → zGl (fun i vs g1 => jn73 a g i vs g1) (sn73 a g) q73a1_2 ρ γ := by
  intro ρ γ hJ h
  obtain ⟨ha, hg, hr, hf, hm, hc, hl⟩ := h
  have ha : a = [ρ 0, ρ 1, ρ 2, ρ 3, ρ 4, ρ 5, ρ 6, ρ 7, ρ 8, ρ 9, ρ 10, ρ 11, ρ 12] := ha
  subst ha
  subst hg
  have hJ : jn73 [ρ 0, ρ 1, ρ 2, ρ 3, ρ 4, ρ 5, ρ 6, ρ 7, ρ 8, ρ 9, ρ 10, ρ 11, ρ 12] (γ 0) 1 [ρ 0, ρ 1, ρ 2, ρ 3, ρ 4, ρ 5, ρ 6, ρ 7, ρ 8, ρ 9, ρ 10, ρ 11, ρ 12, ρ 13, ρ 14, ρ 15, ρ 16, ρ 17] (γ 1) := hJ
  have r13 : (0 : Int) ≤ ρ 13 ∧ ρ 13 ≤ 7 := zRnA hr 13
  have r15 : (0 : Int) ≤ ρ 15 ∧ ρ 15 ≤ 49999 := zRnA hr 15
  have r16 : (0 : Int) ≤ ρ 16 ∧ ρ 16 ≤ 0 := zRnA hr 16
  have r18 : (0 : Int) ≤ ρ 18 ∧ ρ 18 ≤ 0 := zRnA hr 18
  have r21 : (0 : Int) ≤ ρ 21 ∧ ρ 21 ≤ 1999 := zRnA hr 21
  obtain ⟨w_0, w_1, w_2, w_3, w_4, w_5⟩ : (¬ (ρ 13 < 0)) ∧ (¬ (ρ 16 ≠ 0)) ∧ (0 ≤ -ρ 18 + 4) ∧ (ρ 18 = 0) ∧ (ρ 21 ≥ 0) ∧ (ρ 15 + 1 ≤ 50000) := ⟨by omega, by omega, by omega, by omega, by omega, by omega⟩
  have m12 : γ 1 15 0 72 = ρ 15 := zAllA hm 12
  have m13 : γ 1 15 0 77 = ρ 16 := zAllA hm 13
  have m15 : γ 0 77 0 (ρ 13 + 8 * ρ 0) = ρ 18 := zAllA hm 15
  have m16 : γ 1 104 0 (ρ 13) = ρ 19 := zAllA hm 16
  have m17 : γ 0 96 0 (ρ 19) = ρ 20 := zAllA hm 17
  have c3 : γ 3 = rUp (γ 2) 15 0 72 (ρ 15 + 1) := And.right (zChA hc 2)
  have c4 : γ 4 = rUp (γ 3) 104 0 (ρ 13) (ρ 21) := And.right (zChA hc 1)
  have l0 : sn62 [ρ 0, ρ 13, ρ 20, ρ 9, ρ 8, ρ 10, ρ 11] (γ 1) 0 (ρ 21) (γ 2) := hS62 _ _ _ _ _ (zAllA hl 0)
  have l1 : sn63 [ρ 13 + 8 * ρ 0, ρ 21] (γ 4) 0 0 (γ 5) := hS63 _ _ _ _ _ (zAllA hl 1)
  show jn73 [ρ 0, ρ 1, ρ 2, ρ 3, ρ 4, ρ 5, ρ 6, ρ 7, ρ 8, ρ 9, ρ 10, ρ 11, ρ 12] (γ 0) 0 [ρ 0, ρ 1, ρ 2, ρ 3, ρ 4, ρ 5, ρ 6, ρ 7, ρ 8, ρ 9, ρ 10, ρ 11, ρ 12, ρ 13 + 1, ρ 15 + 1, ρ 16, ρ 17] (γ 5)
  have hD : en73 (γ 0) (1, [ρ 0, ρ 13, ρ 14], γ 1) = .inl (0, [ρ 0, ρ 13 + 1], γ 5) := by
    unfold en73
    refine zIN (show ¬ (1 : Nat) = 0 by decide) (zIP (show (1 : Nat) = 1 by decide) (zLV (γ 1) rfl (zLV (ρ 0) rfl (zLV (ρ 13) rfl (zLE m12 (zLE m13 (zIN w_0 ?_)))))))
    refine zIN w_1 (zLE m15 (zIP w_2 (zIP w_3 (zLE m16 (zLE m17 (zLE (show fn62 [ρ 0, ρ 13, ρ 20] (γ 1) = (0, ρ 21, γ 2) from l0.symm) (zLV (γ 2) rfl ?_)))))))
    refine zLV (ρ 21) rfl (zIP w_4 (zLE c3.symm (zIP w_5 (zLE c4.symm (zLE (show fn63 [ρ 13 + 8 * ρ 0, ρ 21] (γ 4) = (0, 0, γ 5) from l1.symm) (zLV (γ 5) rfl ?_))))))
    rfl
  exact zGoo_ato hJ hD
theorem vn73a1_3 {S : Nat → zSpc} (hS62 : zIm S 62 sn62) (hS63 : zIm S 63 sn63) (hS64 : zIm S 64 sn64) (hS65 : zIm S 65 sn65) (hS70 : zIm S 70 sn70) {a : List Int} {g : rHp} : ∀ (ρ : Nat → Int) (γ : Nat → rHp), jn73 a g 1 (zAg (zNA a73_ 1) ρ) (γ 1) → zO 13 S a g q73a1_3 ρ γ → zGl (fun i vs g1 => jn73 a g i vs g1) (sn73 a g) q73a1_3 ρ γ := by
  intro ρ γ hJ h
  obtain ⟨ha, hg, hr, hf, hm, hc, hl⟩ := h
  have ha : a = [ρ 0, ρ 1, ρ 2, ρ 3, ρ 4, ρ 5, ρ 6, ρ 7, ρ 8, ρ 9, ρ 10, ρ 11, ρ 12] := ha
  subst ha
  subst hg
  have hJ : jn73 [ρ 0, ρ 1, ρ 2, ρ 3, ρ 4, ρ 5, ρ 6, ρ 7, ρ 8, ρ 9, ρ 10, ρ 11, ρ 12] (γ 0) 1 [ρ 0, ρ 1, ρ 2, ρ 3, ρ 4, ρ 5, ρ 6, ρ 7, ρ 8, ρ 9, ρ 10, ρ 11, ρ 12, ρ 13, ρ 14, ρ 15, ρ 16, ρ 17] (γ 1) := hJ
  have r13 : (0 : Int) ≤ ρ 13 ∧ ρ 13 ≤ 7 := zRnA hr 13
  have r15 : (50000 : Int) ≤ ρ 15 ∧ ρ 15 ≤ 50000 := zRnA hr 15
  have r16 : (0 : Int) ≤ ρ 16 ∧ ρ 16 ≤ 0 := zRnA hr 16
  have r18 : (0 : Int) ≤ ρ 18 ∧ ρ 18 ≤ 0 := zRnA hr 18
  have r21 : (0 : Int) ≤ ρ 21 ∧ ρ 21 ≤ 1999 := zRnA hr 21
  obtain ⟨w_0, w_1, w_2, w_3, w_4, w_5⟩ : (¬ (ρ 13 < 0)) ∧ (¬ (ρ 16 ≠ 0)) ∧ (0 ≤ -ρ 18 + 4) ∧ (ρ 18 = 0) ∧ (ρ 21 ≥ 0) ∧ (¬ (ρ 15 + 1 ≤ 50000)) := ⟨by omega, by omega, by omega, by omega, by omega, by omega⟩
  have m12 : γ 1 15 0 72 = ρ 15 := zAllA hm 12
  have m13 : γ 1 15 0 77 = ρ 16 := zAllA hm 13
  have m15 : γ 0 77 0 (ρ 13 + 8 * ρ 0) = ρ 18 := zAllA hm 15
  have m16 : γ 1 104 0 (ρ 13) = ρ 19 := zAllA hm 16
  have m17 : γ 0 96 0 (ρ 19) = ρ 20 := zAllA hm 17
  have c3 : γ 3 = rUp (γ 2) 15 0 72 (ρ 15 + 1) := And.right (zChA hc 3)
  have c4 : γ 4 = rUp (γ 3) 15 0 77 2 := And.right (zChA hc 2)
  have c5 : γ 5 = rUp (γ 4) 104 0 (ρ 13) (ρ 21) := And.right (zChA hc 1)
  have l0 : sn62 [ρ 0, ρ 13, ρ 20, ρ 9, ρ 8, ρ 10, ρ 11] (γ 1) 0 (ρ 21) (γ 2) := hS62 _ _ _ _ _ (zAllA hl 0)
  have l1 : sn63 [ρ 13 + 8 * ρ 0, ρ 21] (γ 5) 0 0 (γ 6) := hS63 _ _ _ _ _ (zAllA hl 1)
  show jn73 [ρ 0, ρ 1, ρ 2, ρ 3, ρ 4, ρ 5, ρ 6, ρ 7, ρ 8, ρ 9, ρ 10, ρ 11, ρ 12] (γ 0) 0 [ρ 0, ρ 1, ρ 2, ρ 3, ρ 4, ρ 5, ρ 6, ρ 7, ρ 8, ρ 9, ρ 10, ρ 11, ρ 12, ρ 13 + 1, ρ 15 + 1, 2, ρ 17] (γ 6)
  have hD : en73 (γ 0) (1, [ρ 0, ρ 13, ρ 14], γ 1) = .inl (0, [ρ 0, ρ 13 + 1], γ 6) := by
    unfold en73
    refine zIN (show ¬ (1 : Nat) = 0 by decide) (zIP (show (1 : Nat) = 1 by decide) (zLV (γ 1) rfl (zLV (ρ 0) rfl (zLV (ρ 13) rfl (zLE m12 (zLE m13 (zIN w_0 ?_)))))))
    refine zIN w_1 (zLE m15 (zIP w_2 (zIP w_3 (zLE m16 (zLE m17 (zLE (show fn62 [ρ 0, ρ 13, ρ 20] (γ 1) = (0, ρ 21, γ 2) from l0.symm) (zLV (γ 2) rfl ?_)))))))
    refine zLV (ρ 21) rfl (zIP w_4 (zLE c3.symm (zIN w_5 (zLE c4.symm (zLE c5.symm (zLE (show fn63 [ρ 13 + 8 * ρ 0, ρ 21] (γ 5) = (0, 0, γ 6) from l1.symm) (zLV (γ 6) rfl ?_)))))))
    rfl
  exact zGoo_ato hJ hD
theorem vn73a1_4 {S : Nat → zSpc} (hS62 : zIm S 62 sn62) (hS63 : zIm S 63 sn63) (hS64 : zIm S 64 sn64) (hS65 : zIm S 65 sn65) (hS70 : zIm S 70 sn70) {a : List Int} {g : rHp} : ∀ (ρ : Nat → Int) (γ : Nat → rHp), jn73 a g 1 (zAg (zNA a73_ 1) ρ) (γ 1) → zO 13 S a g q73a1_4 ρ γ → zGl (fun i vs g1 => jn73 a g i vs g1) (sn73 a g) q73a1_4 ρ γ := by
  intro ρ γ hJ h
  obtain ⟨ha, hg, hr, hf, hm, hc, hl⟩ := h
  have ha : a = [ρ 0, ρ 1, ρ 2, ρ 3, ρ 4, ρ 5, ρ 6, ρ 7, ρ 8, ρ 9, ρ 10, ρ 11, ρ 12] := ha
  subst ha
  subst hg
  have hJ : jn73 [ρ 0, ρ 1, ρ 2, ρ 3, ρ 4, ρ 5, ρ 6, ρ 7, ρ 8, ρ 9, ρ 10, ρ 11, ρ 12] (γ 0) 1 [ρ 0, ρ 1, ρ 2, ρ 3, ρ 4, ρ 5, ρ 6, ρ 7, ρ 8, ρ 9, ρ 10, ρ 11, ρ 12, ρ 13, ρ 14, ρ 15, ρ 16, ρ 17] (γ 1) := hJ
  have r13 : (0 : Int) ≤ ρ 13 ∧ ρ 13 ≤ 7 := zRnA hr 13
  have r16 : (0 : Int) ≤ ρ 16 ∧ ρ 16 ≤ 0 := zRnA hr 16
  have r18 : (0 : Int) ≤ ρ 18 ∧ ρ 18 ≤ 0 := zRnA hr 18
  have r21 : ((-1) : Int) ≤ ρ 21 ∧ ρ 21 ≤ (-1) := zRnA hr 21
  obtain ⟨w_0, w_1, w_2, w_3, w_4⟩ : (¬ (ρ 13 < 0)) ∧ (¬ (ρ 16 ≠ 0)) ∧ (0 ≤ -ρ 18 + 4) ∧ (ρ 18 = 0) ∧ (¬ (ρ 21 ≥ 0)) := ⟨by omega, by omega, by omega, by omega, by omega⟩
  have m12 : γ 1 15 0 72 = ρ 15 := zAllA hm 12
  have m13 : γ 1 15 0 77 = ρ 16 := zAllA hm 13
  have m15 : γ 0 77 0 (ρ 13 + 8 * ρ 0) = ρ 18 := zAllA hm 15
  have m16 : γ 1 104 0 (ρ 13) = ρ 19 := zAllA hm 16
  have m17 : γ 0 96 0 (ρ 19) = ρ 20 := zAllA hm 17
  have l0 : sn62 [ρ 0, ρ 13, ρ 20, ρ 9, ρ 8, ρ 10, ρ 11] (γ 1) 0 (ρ 21) (γ 2) := hS62 _ _ _ _ _ (zAllA hl 0)
  show jn73 [ρ 0, ρ 1, ρ 2, ρ 3, ρ 4, ρ 5, ρ 6, ρ 7, ρ 8, ρ 9, ρ 10, ρ 11, ρ 12] (γ 0) 1 [ρ 0, ρ 1, ρ 2, ρ 3, ρ 4, ρ 5, ρ 6, ρ 7, ρ 8, ρ 9, ρ 10, ρ 11, ρ 12, ρ 13 + (-1), ρ 13 + 8 * ρ 0, ρ 15, ρ 16, ρ 17] (γ 2)
  have hD : en73 (γ 0) (1, [ρ 0, ρ 13, ρ 14], γ 1) = .inl (1, [ρ 0, ρ 13 + (-1), ρ 13 + 8 * ρ 0], γ 2) := by
    unfold en73
    refine zIN (show ¬ (1 : Nat) = 0 by decide) (zIP (show (1 : Nat) = 1 by decide) (zLV (γ 1) rfl (zLV (ρ 0) rfl (zLV (ρ 13) rfl (zLE m12 (zLE m13 (zIN w_0 ?_)))))))
    refine zIN w_1 (zLE m15 (zIP w_2 (zIP w_3 (zLE m16 (zLE m17 (zLE (show fn62 [ρ 0, ρ 13, ρ 20] (γ 1) = (0, ρ 21, γ 2) from l0.symm) (zLV (γ 2) rfl ?_)))))))
    refine zLV (ρ 21) rfl (zIN w_4 ?_)
    rfl
  exact zGoo_ato hJ hD
theorem vn73a1_5 {S : Nat → zSpc} (hS62 : zIm S 62 sn62) (hS63 : zIm S 63 sn63) (hS64 : zIm S 64 sn64) (hS65 : zIm S 65 sn65) (hS70 : zIm S 70 sn70) {a : List Int} {g : rHp} : ∀ (ρ : Nat → Int) (γ : Nat → rHp), jn73 a g 1 (zAg (zNA a73_ 1) ρ) (γ 1) → zO 13 S a g q73a1_5 ρ γ → zGl (fun i vs g1 => jn73 a g i vs g1) (sn73 a g) q73a1_5 ρ γ := by
  intro ρ γ hJ h
  obtain ⟨ha, hg, hr, hf, hm, hc, hl⟩ := h
  have ha : a = [ρ 0, ρ 1, ρ 2, ρ 3, ρ 4, ρ 5, ρ 6, ρ 7, ρ 8, ρ 9, ρ 10, ρ 11, ρ 12] := ha
  subst ha
  subst hg
  have hJ : jn73 [ρ 0, ρ 1, ρ 2, ρ 3, ρ 4, ρ 5, ρ 6, ρ 7, ρ 8, ρ 9, ρ 10, ρ 11, ρ 12] (γ 0) 1 [ρ 0, ρ 1, ρ 2, ρ 3, ρ 4, ρ 5, ρ 6, ρ 7, ρ 8, ρ 9, ρ 10, ρ 11, ρ 12, ρ 13, ρ 14, ρ 15, ρ 16, ρ 17] (γ 1) := hJ
  have r13 : (0 : Int) ≤ ρ 13 ∧ ρ 13 ≤ 7 := zRnA hr 13
  have r16 : (0 : Int) ≤ ρ 16 ∧ ρ 16 ≤ 0 := zRnA hr 16
  have r18 : (1 : Int) ≤ ρ 18 ∧ ρ 18 ≤ 4 := zRnA hr 18
  obtain ⟨w_0, w_1, w_2, w_3⟩ : (¬ (ρ 13 < 0)) ∧ (¬ (ρ 16 ≠ 0)) ∧ (0 ≤ -ρ 18 + 4) ∧ (¬ (ρ 18 = 0)) := ⟨by omega, by omega, by omega, by omega⟩
  have m12 : γ 1 15 0 72 = ρ 15 := zAllA hm 12
  have m13 : γ 1 15 0 77 = ρ 16 := zAllA hm 13
  have m15 : γ 0 77 0 (ρ 13 + 8 * ρ 0) = ρ 18 := zAllA hm 15
  show jn73 [ρ 0, ρ 1, ρ 2, ρ 3, ρ 4, ρ 5, ρ 6, ρ 7, ρ 8, ρ 9, ρ 10, ρ 11, ρ 12] (γ 0) 1 [ρ 0, ρ 1, ρ 2, ρ 3, ρ 4, ρ 5, ρ 6, ρ 7, ρ 8, ρ 9, ρ 10, ρ 11, ρ 12, ρ 13 + (-1), ρ 13 + 8 * ρ 0, ρ 15, ρ 16, ρ 17] (γ 1)
  have hD : en73 (γ 0) (1, [ρ 0, ρ 13, ρ 14], γ 1) = .inl (1, [ρ 0, ρ 13 + (-1), ρ 13 + 8 * ρ 0], γ 1) := by
    unfold en73
    refine zIN (show ¬ (1 : Nat) = 0 by decide) (zIP (show (1 : Nat) = 1 by decide) (zLV (γ 1) rfl (zLV (ρ 0) rfl (zLV (ρ 13) rfl (zLE m12 (zLE m13 (zIN w_0 ?_)))))))
    refine zIN w_1 (zLE m15 (zIP w_2 (zIN w_3 ?_)))
    rfl
  exact zGoo_ato hJ hD
theorem vn73a1_6 {S : Nat → zSpc} (hS62 : zIm S 62 sn62) (hS63 : zIm S 63 sn63) (hS64 : zIm S 64 sn64) (hS65 : zIm S 65 sn65) (hS70 : zIm S 70 sn70) {a : List Int} {g : rHp} : ∀ (ρ : Nat → Int) (γ : Nat → rHp), jn73 a g 1 (zAg (zNA a73_ 1) ρ) (γ 1) → zO 13 S a g q73a1_6 ρ γ → zGl (fun i vs g1 => jn73 a g i vs g1) (sn73 a g) q73a1_6 ρ γ := by
  intro ρ γ hJ h
  obtain ⟨ha, hg, hr, hf, hm, hc, hl⟩ := h
  have ha : a = [ρ 0, ρ 1, ρ 2, ρ 3, ρ 4, ρ 5, ρ 6, ρ 7, ρ 8, ρ 9, ρ 10, ρ 11, ρ 12] := ha
  subst ha
  subst hg
  have hJ : jn73 [ρ 0, ρ 1, ρ 2, ρ 3, ρ 4, ρ 5, ρ 6, ρ 7, ρ 8, ρ 9, ρ 10, ρ 11, ρ 12] (γ 0) 1 [ρ 0, ρ 1, ρ 2, ρ 3, ρ 4, ρ 5, ρ 6, ρ 7, ρ 8, ρ 9, ρ 10, ρ 11, ρ 12, ρ 13, ρ 14, ρ 15, ρ 16, ρ 17] (γ 1) := hJ
  have r13 : (0 : Int) ≤ ρ 13 ∧ ρ 13 ≤ 7 := zRnA hr 13
  have r16 : (0 : Int) ≤ ρ 16 ∧ ρ 16 ≤ 0 := zRnA hr 16
  have r18 : (5 : Int) ≤ ρ 18 ∧ ρ 18 ≤ 7 := zRnA hr 18
  obtain ⟨w_0, w_1, w_2⟩ : (¬ (ρ 13 < 0)) ∧ (¬ (ρ 16 ≠ 0)) ∧ (¬ (0 ≤ -ρ 18 + 4)) := ⟨by omega, by omega, by omega⟩
  have m12 : γ 1 15 0 72 = ρ 15 := zAllA hm 12
  have m13 : γ 1 15 0 77 = ρ 16 := zAllA hm 13
  have m15 : γ 0 77 0 (ρ 13 + 8 * ρ 0) = ρ 18 := zAllA hm 15
  show jn73 [ρ 0, ρ 1, ρ 2, ρ 3, ρ 4, ρ 5, ρ 6, ρ 7, ρ 8, ρ 9, ρ 10, ρ 11, ρ 12] (γ 0) 1 [ρ 0, ρ 1, ρ 2, ρ 3, ρ 4, ρ 5, ρ 6, ρ 7, ρ 8, ρ 9, ρ 10, ρ 11, ρ 12, ρ 13 + (-1), ρ 13 + 8 * ρ 0, ρ 15, ρ 16, ρ 17] (γ 1)
  have hD : en73 (γ 0) (1, [ρ 0, ρ 13, ρ 14], γ 1) = .inl (1, [ρ 0, ρ 13 + (-1), ρ 13 + 8 * ρ 0], γ 1) := by
    unfold en73
    refine zIN (show ¬ (1 : Nat) = 0 by decide) (zIP (show (1 : Nat) = 1 by decide) (zLV (γ 1) rfl (zLV (ρ 0) rfl (zLV (ρ 13) rfl (zLE m12 (zLE m13 (zIN w_0 ?_)))))))
    refine zIN w_1 (zLE m15 (zIN w_2 ?_))
    rfl
  exact zGoo_ato hJ hD
theorem yn73 {S : Nat → zSpc} (hS62 : zIm S 62 sn62) (hS63 : zIm S 63 sn63) (hS64 : zIm S 64 sn64) (hS65 : zIm S 65 sn65) (hS70 : zIm S 70 sn70) : ∀ x g o v gz, zSem uW uT w73_.2.2.2.1 w73_.2.2.1.1.length S q73 (fun i => q73a.getD i []) (zNA a73_) x g o v gz → sn73 x g o v gz := by
  intro a g o v gz h
  exact zSem_all (l0 := q73) (las := q73a) (S := S) (J := (fun i vs g1 => jn73 a g i vs g1)) (P := sn73 a g) (fun _ => (show zAll _ [q73_0] from (zAll_c (vn73_0 hS62 hS63 hS64 hS65 hS70) zAll_n))) (fun _ => (show zAllI _ 0 [q73a0, q73a1] from ⟨(show zAll _ [q73a0_0, q73a0_1, q73a0_2, q73a0_3, q73a0_4, q73a0_5, q73a0_6, q73a0_7, q73a0_8] from (zAll_c (vn73a0_0 hS62 hS63 hS64 hS65 hS70) (zAll_c (vn73a0_1 hS62 hS63 hS64 hS65 hS70) (zAll_c (vn73a0_2 hS62 hS63 hS64 hS65 hS70) (zAll_c (vn73a0_3 hS62 hS63 hS64 hS65 hS70) (zAll_c (vn73a0_4 hS62 hS63 hS64 hS65 hS70) (zAll_c (vn73a0_5 hS62 hS63 hS64 hS65 hS70) (zAll_c (vn73a0_6 hS62 hS63 hS64 hS65 hS70) (zAll_c (vn73a0_7 hS62 hS63 hS64 hS65 hS70) (zAll_c (vn73a0_8 hS62 hS63 hS64 hS65 hS70) zAll_n)))))))))), ⟨(show zAll _ [q73a1_0, q73a1_1, q73a1_2, q73a1_3, q73a1_4, q73a1_5, q73a1_6] from (zAll_c (vn73a1_0 hS62 hS63 hS64 hS65 hS70) (zAll_c (vn73a1_1 hS62 hS63 hS64 hS65 hS70) (zAll_c (vn73a1_2 hS62 hS63 hS64 hS65 hS70) (zAll_c (vn73a1_3 hS62 hS63 hS64 hS65 hS70) (zAll_c (vn73a1_4 hS62 hS63 hS64 hS65 hS70) (zAll_c (vn73a1_5 hS62 hS63 hS64 hS65 hS70) (zAll_c (vn73a1_6 hS62 hS63 hS64 hS65 hS70) zAll_n)))))))), trivial⟩⟩)) h
