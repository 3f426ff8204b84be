/-! ===== the runs are the functions ===== -/
theorem vn72_0 {S : Nat → zSpc} (hS62 : ∀ x g o v gz, S 62 x g o v gz → sn62 x g o v gz) (hS63 : ∀ x g o v gz, S 63 x g o v gz → sn63 x g o v gz) (hS64 : ∀ x g o v gz, S 64 x g o v gz → sn64 x g o v gz) (hS65 : ∀ x g o v gz, S 65 x g o v gz → sn65 x g o v gz) (hS68 : ∀ x g o v gz, S 68 x g o v gz → sn68 x g o v gz) {a : List Int} {g : rHp} : ∀ (ρ : Nat → Int) (γ : Nat → rHp), zO 13 S a g q72_0 ρ γ → zGl (fun i vs g1 => jn72 a g i vs g1) (sn72 a g) q72_0 ρ γ := by
  intro ρ γ h
  obtain ⟨ha, hg, hr, hf, hm, hc, hl⟩ := h
  have ha : a = [ρ 0, ρ 1, ρ 2, ρ 3, ρ 4, ρ 5, ρ 6, ρ 7, ρ 8, ρ 9, ρ 10, ρ 11, ρ 12] := ha
  subst ha
  subst hg
  obtain ⟨r0, r1, r2, r3, r4, r5, r6, r7, r8, r9, r10, r11, r12, -⟩ := hr
  have r0 : (0 : Int) ≤ ρ 0 ∧ ρ 0 ≤ 59 := r0
  have r1 : (0 : Int) ≤ ρ 1 ∧ ρ 1 ≤ 8 := r1
  have r2 : (0 : Int) ≤ ρ 2 ∧ ρ 2 ≤ 60 := r2
  have r3 : (0 : Int) ≤ ρ 3 ∧ ρ 3 ≤ 50001 := r3
  have r4 : (0 : Int) ≤ ρ 4 ∧ ρ 4 ≤ 3 := r4
  have r5 : (0 : Int) ≤ ρ 5 ∧ ρ 5 ≤ 50001 := r5
  have r6 : (0 : Int) ≤ ρ 6 ∧ ρ 6 ≤ 20 := r6
  have r7 : (0 : Int) ≤ ρ 7 ∧ ρ 7 ≤ 61 := r7
  have r8 : (0 : Int) ≤ ρ 8 ∧ ρ 8 ≤ 2000 := r8
  have r9 : ((-2147483648) : Int) ≤ ρ 9 ∧ ρ 9 ≤ 2147483647 := r9
  have r10 : (0 : Int) ≤ ρ 10 ∧ ρ 10 ≤ 2000 := r10
  have r11 : (0 : Int) ≤ ρ 11 ∧ ρ 11 ≤ 2000 := r11
  have r12 : (0 : Int) ≤ ρ 12 ∧ ρ 12 ≤ 2000 := r12
  obtain ⟨f0, -⟩ := hf
  have f0 : (0 : Int) ≤ ρ 2 + -ρ 0 + (-1) := f0
  obtain ⟨m0, m1, m2, m3, m4, m5, m6, m7, m8, m9, m10, m11, -⟩ := hm
  have m0 : γ 0 73 0 (ρ 0) = ρ 1 := m0
  have m1 : γ 0 15 0 32 = ρ 2 := m1
  have m2 : γ 0 15 0 72 = ρ 3 := m2
  have m3 : γ 0 15 0 77 = ρ 4 := m3
  have m4 : γ 0 15 0 94 = ρ 5 := m4
  have m5 : γ 0 15 0 13 = ρ 6 := m5
  have m6 : γ 0 15 0 44 = ρ 7 := m6
  have m7 : γ 0 15 0 71 = ρ 8 := m7
  have m8 : γ 0 15 0 76 = ρ 9 := m8
  have m9 : γ 0 15 0 81 = ρ 10 := m9
  have m10 : γ 0 15 0 82 = ρ 11 := m10
  have m11 : γ 0 15 0 83 = ρ 12 := m11
  show jn72 [ρ 0, ρ 1, ρ 2, ρ 3, ρ 4, ρ 5, ρ 6, ρ 7, ρ 8, ρ 9, ρ 10, ρ 11, ρ 12] (γ 0) 0 [ρ 0, ρ 1, ρ 2, ρ 3, ρ 4, ρ 5, ρ 6, ρ 7, ρ 8, ρ 9, ρ 10, ρ 11, ρ 12, 0, ρ 3, ρ 4, ρ 8] (γ 0)
  have hD : dn72 [ρ 0] (γ 0) = .inl (0, [ρ 0, 0], γ 0) := by
    unfold dn72
    refine (zLet_eq (show _ = ρ 0 from rfl)).trans ?_
    rfl
  exact zGoo_to hD
theorem vn72a0_0 {S : Nat → zSpc} (hS62 : ∀ x g o v gz, S 62 x g o v gz → sn62 x g o v gz) (hS63 : ∀ x g o v gz, S 63 x g o v gz → sn63 x g o v gz) (hS64 : ∀ x g o v gz, S 64 x g o v gz → sn64 x g o v gz) (hS65 : ∀ x g o v gz, S 65 x g o v gz → sn65 x g o v gz) (hS68 : ∀ x g o v gz, S 68 x g o v gz → sn68 x g o v gz) {a : List Int} {g : rHp} : ∀ (ρ : Nat → Int) (γ : Nat → rHp), jn72 a g 0 (zAg (zNA a72_ 0) ρ) (γ 1) → zO 13 S a g q72a0_0 ρ γ → zGl (fun i vs g1 => jn72 a g i vs g1) (sn72 a g) q72a0_0 ρ γ := by
  intro ρ γ hJ h
  obtain ⟨ha, hg, hr, hf, hm, hc, hl⟩ := h
  have ha : a = [ρ 0, ρ 1, ρ 2, ρ 3, ρ 4, ρ 5, ρ 6, ρ 7, ρ 8, ρ 9, ρ 10, ρ 11, ρ 12] := ha
  subst ha
  subst hg
  have hJ : jn72 [ρ 0, ρ 1, ρ 2, ρ 3, ρ 4, ρ 5, ρ 6, ρ 7, ρ 8, ρ 9, ρ 10, ρ 11, ρ 12] (γ 0) 0 [ρ 0, ρ 1, ρ 2, ρ 3, ρ 4, ρ 5, ρ 6, ρ 7, ρ 8, ρ 9, ρ 10, ρ 11, ρ 12, ρ 13, ρ 14, ρ 15, ρ 16] (γ 1) := hJ
  obtain ⟨r0, r1, r2, r3, r4, r5, r6, r7, r8, r9, r10, r11, r12, r13, r14, r15, r16, -⟩ := hr
  have r0 : (0 : Int) ≤ ρ 0 ∧ ρ 0 ≤ 59 := r0
  have r1 : (0 : Int) ≤ ρ 1 ∧ ρ 1 ≤ 8 := r1
  have r2 : (1 : Int) ≤ ρ 2 ∧ ρ 2 ≤ 60 := r2
  have r3 : (0 : Int) ≤ ρ 3 ∧ ρ 3 ≤ 50001 := r3
  have r4 : (0 : Int) ≤ ρ 4 ∧ ρ 4 ≤ 3 := r4
  have r5 : (0 : Int) ≤ ρ 5 ∧ ρ 5 ≤ 50001 := r5
  have r6 : (0 : Int) ≤ ρ 6 ∧ ρ 6 ≤ 20 := r6
  have r7 : (0 : Int) ≤ ρ 7 ∧ ρ 7 ≤ 61 := r7
  have r8 : (0 : Int) ≤ ρ 8 ∧ ρ 8 ≤ 2000 := r8
  have r9 : ((-2147483648) : Int) ≤ ρ 9 ∧ ρ 9 ≤ 2147483647 := r9
  have r10 : (0 : Int) ≤ ρ 10 ∧ ρ 10 ≤ 2000 := r10
  have r11 : (0 : Int) ≤ ρ 11 ∧ ρ 11 ≤ 2000 := r11
  have r12 : (0 : Int) ≤ ρ 12 ∧ ρ 12 ≤ 2000 := r12
  have r13 : (0 : Int) ≤ ρ 13 ∧ ρ 13 ≤ 8 := r13
  have r14 : (0 : Int) ≤ ρ 14 ∧ ρ 14 ≤ 50001 := r14
  have r15 : (1 : Int) ≤ ρ 15 ∧ ρ 15 ≤ 3 := r15
  have r16 : (0 : Int) ≤ ρ 16 ∧ ρ 16 ≤ 2000 := r16
  obtain ⟨f0, f1, f2, f3, f4, -⟩ := hf
  have f0 : (0 : Int) ≤ ρ 2 + -ρ 0 + (-1) := f0
  have f1 : (0 : Int) ≤ -ρ 13 + ρ 1 := f1
  have f2 : (0 : Int) ≤ ρ 16 + -ρ 8 := f2
  have f3 : (0 : Int) ≤ ρ 15 + -ρ 4 := f3
  have f4 : (0 : Int) ≤ ρ 14 + -ρ 3 := f4
  obtain ⟨m0, m1, m2, m3, m4, m5, m6, m7, m8, m9, m10, m11, m12, m13, m14, -⟩ := hm
  have m0 : γ 0 73 0 (ρ 0) = ρ 1 := m0
  have m1 : γ 0 15 0 32 = ρ 2 := m1
  have m2 : γ 0 15 0 72 = ρ 3 := m2
  have m3 : γ 0 15 0 77 = ρ 4 := m3
  have m4 : γ 0 15 0 94 = ρ 5 := m4
  have m5 : γ 0 15 0 13 = ρ 6 := m5
  have m6 : γ 0 15 0 44 = ρ 7 := m6
  have m7 : γ 0 15 0 71 = ρ 8 := m7
  have m8 : γ 0 15 0 76 = ρ 9 := m8
  have m9 : γ 0 15 0 81 = ρ 10 := m9
  have m10 : γ 0 15 0 82 = ρ 11 := m10
  have m11 : γ 0 15 0 83 = ρ 12 := m11
  have m12 : γ 1 15 0 72 = ρ 14 := m12
  have m13 : γ 1 15 0 77 = ρ 15 := m13
  have m14 : γ 1 15 0 71 = ρ 16 := m14
  obtain ⟨-, c1⟩ := hc
  have c1 : ∀ (G : Nat) (k j : Int), ¬ rMdP m48_ G j → γ 1 G k j = γ 0 G k j := c1
  show sn72 [ρ 0, ρ 1, ρ 2, ρ 3, ρ 4, ρ 5, ρ 6, ρ 7, ρ 8, ρ 9, ρ 10, ρ 11, ρ 12] (γ 0) 0 0 (γ 1)
  have hD : en72 (γ 0) (0, [ρ 0, ρ 13], γ 1) = .inr (0, 0, γ 1) := by
    unfold en72
    refine (if_pos (show (0 : Nat) = 0 by decide)).trans ?_
    refine (zLet_eq (show _ = γ 1 from rfl)).trans ?_
    refine (zLet_eq (show _ = ρ 0 from rfl)).trans ?_
    refine (zLet_eq (show _ = ρ 13 from rfl)).trans ?_
    refine (zLet_eq m0).trans ?_
    refine (zLet_eq m12).trans ?_
    refine (zLet_eq m13).trans ?_
    refine (if_pos (show ρ 15 ≠ 0 by omega)).trans ?_
    rfl
  exact zGoo_aend hJ hD
theorem vn72a0_1 {S : Nat → zSpc} (hS62 : ∀ x g o v gz, S 62 x g o v gz → sn62 x g o v gz) (hS63 : ∀ x g o v gz, S 63 x g o v gz → sn63 x g o v gz) (hS64 : ∀ x g o v gz, S 64 x g o v gz → sn64 x g o v gz) (hS65 : ∀ x g o v gz, S 65 x g o v gz → sn65 x g o v gz) (hS68 : ∀ x g o v gz, S 68 x g o v gz → sn68 x g o v gz) {a : List Int} {g : rHp} : ∀ (ρ : Nat → Int) (γ : Nat → rHp), jn72 a g 0 (zAg (zNA a72_ 0) ρ) (γ 1) → zO 13 S a g q72a0_1 ρ γ → zGl (fun i vs g1 => jn72 a g i vs g1) (sn72 a g) q72a0_1 ρ γ := by
  intro ρ γ hJ h
  obtain ⟨ha, hg, hr, hf, hm, hc, hl⟩ := h
  have ha : a = [ρ 0, ρ 1, ρ 2, ρ 3, ρ 4, ρ 5, ρ 6, ρ 7, ρ 8, ρ 9, ρ 10, ρ 11, ρ 12] := ha
  subst ha
  subst hg
  have hJ : jn72 [ρ 0, ρ 1, ρ 2, ρ 3, ρ 4, ρ 5, ρ 6, ρ 7, ρ 8, ρ 9, ρ 10, ρ 11, ρ 12] (γ 0) 0 [ρ 0, ρ 1, ρ 2, ρ 3, ρ 4, ρ 5, ρ 6, ρ 7, ρ 8, ρ 9, ρ 10, ρ 11, ρ 12, ρ 13, ρ 14, ρ 15, ρ 16] (γ 1) := hJ
  obtain ⟨r0, r1, r2, r3, r4, r5, r6, r7, r8, r9, r10, r11, r12, r13, r14, r15, r16, r17, r18, r19, r20, -⟩ := hr
  have r0 : (0 : Int) ≤ ρ 0 ∧ ρ 0 ≤ 59 := r0
  have r1 : (0 : Int) ≤ ρ 1 ∧ ρ 1 ≤ 8 := r1
  have r2 : (1 : Int) ≤ ρ 2 ∧ ρ 2 ≤ 60 := r2
  have r3 : (0 : Int) ≤ ρ 3 ∧ ρ 3 ≤ 50001 := r3
  have r4 : (0 : Int) ≤ ρ 4 ∧ ρ 4 ≤ 3 := r4
  have r5 : (0 : Int) ≤ ρ 5 ∧ ρ 5 ≤ 50001 := r5
  have r6 : (0 : Int) ≤ ρ 6 ∧ ρ 6 ≤ 20 := r6
  have r7 : (0 : Int) ≤ ρ 7 ∧ ρ 7 ≤ 61 := r7
  have r8 : (0 : Int) ≤ ρ 8 ∧ ρ 8 ≤ 2000 := r8
  have r9 : ((-2147483648) : Int) ≤ ρ 9 ∧ ρ 9 ≤ 2147483647 := r9
  have r10 : (0 : Int) ≤ ρ 10 ∧ ρ 10 ≤ 2000 := r10
  have r11 : (0 : Int) ≤ ρ 11 ∧ ρ 11 ≤ 2000 := r11
  have r12 : (0 : Int) ≤ ρ 12 ∧ ρ 12 ≤ 2000 := r12
  have r13 : (0 : Int) ≤ ρ 13 ∧ ρ 13 ≤ 8 := r13
  have r14 : (0 : Int) ≤ ρ 14 ∧ ρ 14 ≤ 49999 := r14
  have r15 : (0 : Int) ≤ ρ 15 ∧ ρ 15 ≤ 0 := r15
  have r16 : (0 : Int) ≤ ρ 16 ∧ ρ 16 ≤ 2000 := r16
  have r17 : (0 : Int) ≤ ρ 17 ∧ ρ 17 ≤ 0 := r17
  have r18 : (0 : Int) ≤ ρ 18 ∧ ρ 18 ≤ 19 := r18
  have r19 : ((-1) : Int) ≤ ρ 19 ∧ ρ 19 ≤ 1999 := r19
  have r20 : (0 : Int) ≤ ρ 20 ∧ ρ 20 ≤ 1999 := r20
  obtain ⟨f0, f1, f2, f3, f4, f5, f6, f7, f8, -⟩ := hf
  have f0 : (0 : Int) ≤ ρ 16 + -ρ 10 := f0
  have f1 : (0 : Int) ≤ -ρ 20 + ρ 10 + (-1) := f1
  have f2 : (0 : Int) ≤ -ρ 13 + ρ 1 + (-1) := f2
  have f3 : (0 : Int) ≤ ρ 15 + -ρ 14 + 50000 := f3
  have f4 : (0 : Int) ≤ ρ 2 + -ρ 0 + (-1) := f4
  have f5 : (0 : Int) ≤ -ρ 13 + ρ 1 := f5
  have f6 : (0 : Int) ≤ ρ 16 + -ρ 8 := f6
  have f7 : (0 : Int) ≤ ρ 15 + -ρ 4 := f7
  have f8 : (0 : Int) ≤ ρ 14 + -ρ 3 := f8
  obtain ⟨m0, m1, m2, m3, m4, m5, m6, m7, m8, m9, m10, m11, m12, m13, m14, m15, m16, m17, -⟩ := hm
  have m0 : γ 0 73 0 (ρ 0) = ρ 1 := m0
  have m1 : γ 0 15 0 32 = ρ 2 := m1
  have m2 : γ 0 15 0 72 = ρ 3 := m2
  have m3 : γ 0 15 0 77 = ρ 4 := m3
  have m4 : γ 0 15 0 94 = ρ 5 := m4
  have m5 : γ 0 15 0 13 = ρ 6 := m5
  have m6 : γ 0 15 0 44 = ρ 7 := m6
  have m7 : γ 0 15 0 71 = ρ 8 := m7
  have m8 : γ 0 15 0 76 = ρ 9 := m8
  have m9 : γ 0 15 0 81 = ρ 10 := m9
  have m10 : γ 0 15 0 82 = ρ 11 := m10
  have m11 : γ 0 15 0 83 = ρ 12 := m11
  have m12 : γ 1 15 0 72 = ρ 14 := m12
  have m13 : γ 1 15 0 77 = ρ 15 := m13
  have m14 : γ 1 15 0 71 = ρ 16 := m14
  have m15 : γ 0 77 0 (ρ 13 + 8 * ρ 0) = ρ 17 := m15
  have m16 : γ 0 78 0 (ρ 13 + 8 * ρ 0) = ρ 18 := m16
  have m17 : γ 1 100 0 (ρ 18) = ρ 19 := m17
  obtain ⟨⟨⟨⟨⟨-, c1⟩, c2⟩, c3⟩, c4⟩, c5⟩ := hc
  have c1 : ∀ (G : Nat) (k j : Int), ¬ rMdP m48_ G j → γ 1 G k j = γ 0 G k j := c1
  have c2 : ∀ (G : Nat) (k j : Int), ¬ rMdP m0_ G j → γ 2 G k j = γ 1 G k j := c2
  have c3 : γ 3 = rUp (γ 2) 15 0 72 (ρ 14 + 1) := c3
  have c4 : γ 4 = rUp (γ 3) 104 0 (ρ 13) (ρ 20) := c4
  have c5 : ∀ (G : Nat) (k j : Int), ¬ rMdP m42_ G j → γ 5 G k j = γ 4 G k j := c5
  obtain ⟨l0, l1, -⟩ := hl
  have l0 : sn62 [ρ 0, ρ 13, ρ 19, ρ 10, ρ 16, ρ 11, ρ 12] (γ 1) 0 (ρ 20) (γ 2) := hS62 _ _ _ _ _ l0
  have l1 : sn63 [ρ 13 + 8 * ρ 0, ρ 20] (γ 4) 0 0 (γ 5) := hS63 _ _ _ _ _ l1
  show jn72 [ρ 0, ρ 1, ρ 2, ρ 3, ρ 4, ρ 5, ρ 6, ρ 7, ρ 8, ρ 9, ρ 10, ρ 11, ρ 12] (γ 0) 0 [ρ 0, ρ 1, ρ 2, ρ 3, ρ 4, ρ 5, ρ 6, ρ 7, ρ 8, ρ 9, ρ 10, ρ 11, ρ 12, ρ 13 + 1, ρ 14 + 1, ρ 15, ρ 16] (γ 5)
  have hD : en72 (γ 0) (0, [ρ 0, ρ 13], γ 1) = .inl (0, [ρ 0, ρ 13 + 1], γ 5) := by
    unfold en72
    refine (if_pos (show (0 : Nat) = 0 by decide)).trans ?_
    refine (zLet_eq (show _ = γ 1 from rfl)).trans ?_
    refine (zLet_eq (show _ = ρ 0 from rfl)).trans ?_
    refine (zLet_eq (show _ = ρ 13 from rfl)).trans ?_
    refine (zLet_eq m0).trans ?_
    refine (zLet_eq m12).trans ?_
    refine (zLet_eq m13).trans ?_
    refine (if_neg (show ¬ (ρ 15 ≠ 0) by omega)).trans ?_
    refine (if_pos (show ρ 13 ≠ ρ 1 by omega)).trans ?_
    refine (zLet_eq m15).trans ?_
    refine (if_pos (show 0 ≤ -ρ 17 + 4 by omega)).trans ?_
    refine (if_pos (show ρ 17 = 0 by omega)).trans ?_
    refine (zLet_eq m16).trans ?_
    refine (zLet_eq m17).trans ?_
    refine (zLet_eq (show fn62 [ρ 0, ρ 13, ρ 19] (γ 1) = (0, ρ 20, γ 2) from l0.symm)).trans ?_
    refine (zLet_eq (show _ = γ 2 from rfl)).trans ?_
    refine (zLet_eq (show _ = ρ 20 from rfl)).trans ?_
    refine (if_pos (show ρ 20 ≥ 0 by omega)).trans ?_
    refine (zLet_eq c3.symm).trans ?_
    refine (if_pos (show ρ 14 + 1 ≤ 50000 by omega)).trans ?_
    refine (zLet_eq c4.symm).trans ?_
    refine (zLet_eq (show fn63 [ρ 13 + 8 * ρ 0, ρ 20] (γ 4) = (0, 0, γ 5) from l1.symm)).trans ?_
    refine (zLet_eq (show _ = γ 5 from rfl)).trans ?_
    rfl
  exact zGoo_ato hJ hD
theorem vn72a0_2 {S : Nat → zSpc} (hS62 : ∀ x g o v gz, S 62 x g o v gz → sn62 x g o v gz) (hS63 : ∀ x g o v gz, S 63 x g o v gz → sn63 x g o v gz) (hS64 : ∀ x g o v gz, S 64 x g o v gz → sn64 x g o v gz) (hS65 : ∀ x g o v gz, S 65 x g o v gz → sn65 x g o v gz) (hS68 : ∀ x g o v gz, S 68 x g o v gz → sn68 x g o v gz) {a : List Int} {g : rHp} : ∀ (ρ : Nat → Int) (γ : Nat → rHp), jn72 a g 0 (zAg (zNA a72_ 0) ρ) (γ 1) → zO 13 S a g q72a0_2 ρ γ → zGl (fun i vs g1 => jn72 a g i vs g1) (sn72 a g) q72a0_2 ρ γ := by
  intro ρ γ hJ h
  obtain ⟨ha, hg, hr, hf, hm, hc, hl⟩ := h
  have ha : a = [ρ 0, ρ 1, ρ 2, ρ 3, ρ 4, ρ 5, ρ 6, ρ 7, ρ 8, ρ 9, ρ 10, ρ 11, ρ 12] := ha
  subst ha
  subst hg
  have hJ : jn72 [ρ 0, ρ 1, ρ 2, ρ 3, ρ 4, ρ 5, ρ 6, ρ 7, ρ 8, ρ 9, ρ 10, ρ 11, ρ 12] (γ 0) 0 [ρ 0, ρ 1, ρ 2, ρ 3, ρ 4, ρ 5, ρ 6, ρ 7, ρ 8, ρ 9, ρ 10, ρ 11, ρ 12, ρ 13, ρ 14, ρ 15, ρ 16] (γ 1) := hJ
  obtain ⟨r0, r1, r2, r3, r4, r5, r6, r7, r8, r9, r10, r11, r12, r13, r14, r15, r16, r17, r18, r19, r20, -⟩ := hr
  have r0 : (0 : Int) ≤ ρ 0 ∧ ρ 0 ≤ 59 := r0
  have r1 : (0 : Int) ≤ ρ 1 ∧ ρ 1 ≤ 8 := r1
  have r2 : (1 : Int) ≤ ρ 2 ∧ ρ 2 ≤ 60 := r2
  have r3 : (0 : Int) ≤ ρ 3 ∧ ρ 3 ≤ 50001 := r3
  have r4 : (0 : Int) ≤ ρ 4 ∧ ρ 4 ≤ 3 := r4
  have r5 : (0 : Int) ≤ ρ 5 ∧ ρ 5 ≤ 50001 := r5
  have r6 : (0 : Int) ≤ ρ 6 ∧ ρ 6 ≤ 20 := r6
  have r7 : (0 : Int) ≤ ρ 7 ∧ ρ 7 ≤ 61 := r7
  have r8 : (0 : Int) ≤ ρ 8 ∧ ρ 8 ≤ 2000 := r8
  have r9 : ((-2147483648) : Int) ≤ ρ 9 ∧ ρ 9 ≤ 2147483647 := r9
  have r10 : (0 : Int) ≤ ρ 10 ∧ ρ 10 ≤ 2000 := r10
  have r11 : (0 : Int) ≤ ρ 11 ∧ ρ 11 ≤ 2000 := r11
  have r12 : (0 : Int) ≤ ρ 12 ∧ ρ 12 ≤ 2000 := r12
  have r13 : (0 : Int) ≤ ρ 13 ∧ ρ 13 ≤ 8 := r13
  have r14 : (50000 : Int) ≤ ρ 14 ∧ ρ 14 ≤ 50001 := r14
  have r15 : (0 : Int) ≤ ρ 15 ∧ ρ 15 ≤ 0 := r15
  have r16 : (0 : Int) ≤ ρ 16 ∧ ρ 16 ≤ 2000 := r16
  have r17 : (0 : Int) ≤ ρ 17 ∧ ρ 17 ≤ 0 := r17
  have r18 : (0 : Int) ≤ ρ 18 ∧ ρ 18 ≤ 19 := r18
  have r19 : ((-1) : Int) ≤ ρ 19 ∧ ρ 19 ≤ 1999 := r19
  have r20 : (0 : Int) ≤ ρ 20 ∧ ρ 20 ≤ 1999 := r20
  obtain ⟨f0, f1, f2, f3, f4, f5, f6, f7, f8, -⟩ := hf
  have f0 : (0 : Int) ≤ ρ 16 + -ρ 10 := f0
  have f1 : (0 : Int) ≤ -ρ 20 + ρ 10 + (-1) := f1
  have f2 : (0 : Int) ≤ -ρ 13 + ρ 1 + (-1) := f2
  have f3 : (0 : Int) ≤ ρ 15 + -ρ 14 + 50000 := f3
  have f4 : (0 : Int) ≤ ρ 2 + -ρ 0 + (-1) := f4
  have f5 : (0 : Int) ≤ -ρ 13 + ρ 1 := f5
  have f6 : (0 : Int) ≤ ρ 16 + -ρ 8 := f6
  have f7 : (0 : Int) ≤ ρ 15 + -ρ 4 := f7
  have f8 : (0 : Int) ≤ ρ 14 + -ρ 3 := f8
  obtain ⟨m0, m1, m2, m3, m4, m5, m6, m7, m8, m9, m10, m11, m12, m13, m14, m15, m16, m17, -⟩ := hm
  have m0 : γ 0 73 0 (ρ 0) = ρ 1 := m0
  have m1 : γ 0 15 0 32 = ρ 2 := m1
  have m2 : γ 0 15 0 72 = ρ 3 := m2
  have m3 : γ 0 15 0 77 = ρ 4 := m3
  have m4 : γ 0 15 0 94 = ρ 5 := m4
  have m5 : γ 0 15 0 13 = ρ 6 := m5
  have m6 : γ 0 15 0 44 = ρ 7 := m6
  have m7 : γ 0 15 0 71 = ρ 8 := m7
  have m8 : γ 0 15 0 76 = ρ 9 := m8
  have m9 : γ 0 15 0 81 = ρ 10 := m9
  have m10 : γ 0 15 0 82 = ρ 11 := m10
  have m11 : γ 0 15 0 83 = ρ 12 := m11
  have m12 : γ 1 15 0 72 = ρ 14 := m12
  have m13 : γ 1 15 0 77 = ρ 15 := m13
  have m14 : γ 1 15 0 71 = ρ 16 := m14
  have m15 : γ 0 77 0 (ρ 13 + 8 * ρ 0) = ρ 17 := m15
  have m16 : γ 0 78 0 (ρ 13 + 8 * ρ 0) = ρ 18 := m16
  have m17 : γ 1 100 0 (ρ 18) = ρ 19 := m17
  obtain ⟨⟨⟨⟨⟨⟨-, c1⟩, c2⟩, c3⟩, c4⟩, c5⟩, c6⟩ := hc
  have c1 : ∀ (G : Nat) (k j : Int), ¬ rMdP m48_ G j → γ 1 G k j = γ 0 G k j := c1
  have c2 : ∀ (G : Nat) (k j : Int), ¬ rMdP m0_ G j → γ 2 G k j = γ 1 G k j := c2
  have c3 : γ 3 = rUp (γ 2) 15 0 72 (ρ 14 + 1) := c3
  have c4 : γ 4 = rUp (γ 3) 15 0 77 2 := c4
  have c5 : γ 5 = rUp (γ 4) 104 0 (ρ 13) (ρ 20) := c5
  have c6 : ∀ (G : Nat) (k j : Int), ¬ rMdP m42_ G j → γ 6 G k j = γ 5 G k j := c6
  obtain ⟨l0, l1, -⟩ := hl
  have l0 : sn62 [ρ 0, ρ 13, ρ 19, ρ 10, ρ 16, ρ 11, ρ 12] (γ 1) 0 (ρ 20) (γ 2) := hS62 _ _ _ _ _ l0
  have l1 : sn63 [ρ 13 + 8 * ρ 0, ρ 20] (γ 5) 0 0 (γ 6) := hS63 _ _ _ _ _ l1
  show jn72 [ρ 0, ρ 1, ρ 2, ρ 3, ρ 4, ρ 5, ρ 6, ρ 7, ρ 8, ρ 9, ρ 10, ρ 11, ρ 12] (γ 0) 0 [ρ 0, ρ 1, ρ 2, ρ 3, ρ 4, ρ 5, ρ 6, ρ 7, ρ 8, ρ 9, ρ 10, ρ 11, ρ 12, ρ 13 + 1, ρ 14 + 1, 2, ρ 16] (γ 6)
  have hD : en72 (γ 0) (0, [ρ 0, ρ 13], γ 1) = .inl (0, [ρ 0, ρ 13 + 1], γ 6) := by
    unfold en72
    refine (if_pos (show (0 : Nat) = 0 by decide)).trans ?_
    refine (zLet_eq (show _ = γ 1 from rfl)).trans ?_
    refine (zLet_eq (show _ = ρ 0 from rfl)).trans ?_
    refine (zLet_eq (show _ = ρ 13 from rfl)).trans ?_
    refine (zLet_eq m0).trans ?_
    refine (zLet_eq m12).trans ?_
    refine (zLet_eq m13).trans ?_
    refine (if_neg (show ¬ (ρ 15 ≠ 0) by omega)).trans ?_
    refine (if_pos (show ρ 13 ≠ ρ 1 by omega)).trans ?_
    refine (zLet_eq m15).trans ?_
    refine (if_pos (show 0 ≤ -ρ 17 + 4 by omega)).trans ?_
    refine (if_pos (show ρ 17 = 0 by omega)).trans ?_
    refine (zLet_eq m16).trans ?_
    refine (zLet_eq m17).trans ?_
    refine (zLet_eq (show fn62 [ρ 0, ρ 13, ρ 19] (γ 1) = (0, ρ 20, γ 2) from l0.symm)).trans ?_
    refine (zLet_eq (show _ = γ 2 from rfl)).trans ?_
    refine (zLet_eq (show _ = ρ 20 from rfl)).trans ?_
    refine (if_pos (show ρ 20 ≥ 0 by omega)).trans ?_
    refine (zLet_eq c3.symm).trans ?_
    refine (if_neg (show ¬ (ρ 14 + 1 ≤ 50000) by omega)).trans ?_
    refine (zLet_eq c4.symm).trans ?_
    refine (zLet_eq c5.symm).trans ?_
    refine (zLet_eq (show fn63 [ρ 13 + 8 * ρ 0, ρ 20] (γ 5) = (0, 0, γ 6) from l1.symm)).trans ?_
    refine (zLet_eq (show _ = γ 6 from rfl)).trans ?_
    rfl
  exact zGoo_ato hJ hD
theorem vn72a0_3 {S : Nat → zSpc} (hS62 : ∀ x g o v gz, S 62 x g o v gz → sn62 x g o v gz) (hS63 : ∀ x g o v gz, S 63 x g o v gz → sn63 x g o v gz) (hS64 : ∀ x g o v gz, S 64 x g o v gz → sn64 x g o v gz) (hS65 : ∀ x g o v gz, S 65 x g o v gz → sn65 x g o v gz) (hS68 : ∀ x g o v gz, S 68 x g o v gz → sn68 x g o v gz) {a : List Int} {g : rHp} : ∀ (ρ : Nat → Int) (γ : Nat → rHp), jn72 a g 0 (zAg (zNA a72_ 0) ρ) (γ 1) → zO 13 S a g q72a0_3 ρ γ → zGl (fun i vs g1 => jn72 a g i vs g1) (sn72 a g) q72a0_3 ρ γ := by
  intro ρ γ hJ h
  obtain ⟨ha, hg, hr, hf, hm, hc, hl⟩ := h
  have ha : a = [ρ 0, ρ 1, ρ 2, ρ 3, ρ 4, ρ 5, ρ 6, ρ 7, ρ 8, ρ 9, ρ 10, ρ 11, ρ 12] := ha
  subst ha
  subst hg
  have hJ : jn72 [ρ 0, ρ 1, ρ 2, ρ 3, ρ 4, ρ 5, ρ 6, ρ 7, ρ 8, ρ 9, ρ 10, ρ 11, ρ 12] (γ 0) 0 [ρ 0, ρ 1, ρ 2, ρ 3, ρ 4, ρ 5, ρ 6, ρ 7, ρ 8, ρ 9, ρ 10, ρ 11, ρ 12, ρ 13, ρ 14, ρ 15, ρ 16] (γ 1) := hJ
  obtain ⟨r0, r1, r2, r3, r4, r5, r6, r7, r8, r9, r10, r11, r12, r13, r14, r15, r16, r17, r18, r19, r20, -⟩ := hr
  have r0 : (0 : Int) ≤ ρ 0 ∧ ρ 0 ≤ 59 := r0
  have r1 : (0 : Int) ≤ ρ 1 ∧ ρ 1 ≤ 8 := r1
  have r2 : (1 : Int) ≤ ρ 2 ∧ ρ 2 ≤ 60 := r2
  have r3 : (0 : Int) ≤ ρ 3 ∧ ρ 3 ≤ 50001 := r3
  have r4 : (0 : Int) ≤ ρ 4 ∧ ρ 4 ≤ 3 := r4
  have r5 : (0 : Int) ≤ ρ 5 ∧ ρ 5 ≤ 50001 := r5
  have r6 : (0 : Int) ≤ ρ 6 ∧ ρ 6 ≤ 20 := r6
  have r7 : (0 : Int) ≤ ρ 7 ∧ ρ 7 ≤ 61 := r7
  have r8 : (0 : Int) ≤ ρ 8 ∧ ρ 8 ≤ 2000 := r8
  have r9 : ((-2147483648) : Int) ≤ ρ 9 ∧ ρ 9 ≤ 2147483647 := r9
  have r10 : (0 : Int) ≤ ρ 10 ∧ ρ 10 ≤ 2000 := r10
  have r11 : (0 : Int) ≤ ρ 11 ∧ ρ 11 ≤ 2000 := r11
  have r12 : (0 : Int) ≤ ρ 12 ∧ ρ 12 ≤ 2000 := r12
  have r13 : (0 : Int) ≤ ρ 13 ∧ ρ 13 ≤ 8 := r13
  have r14 : (0 : Int) ≤ ρ 14 ∧ ρ 14 ≤ 50001 := r14
  have r15 : (0 : Int) ≤ ρ 15 ∧ ρ 15 ≤ 0 := r15
  have r16 : (0 : Int) ≤ ρ 16 ∧ ρ 16 ≤ 2000 := r16
  have r17 : (0 : Int) ≤ ρ 17 ∧ ρ 17 ≤ 0 := r17
  have r18 : (0 : Int) ≤ ρ 18 ∧ ρ 18 ≤ 19 := r18
  have r19 : ((-1) : Int) ≤ ρ 19 ∧ ρ 19 ≤ 1999 := r19
  have r20 : ((-1) : Int) ≤ ρ 20 ∧ ρ 20 ≤ (-1) := r20
  obtain ⟨f0, f1, f2, f3, f4, f5, f6, f7, f8, -⟩ := hf
  have f0 : (0 : Int) ≤ ρ 16 + -ρ 10 := f0
  have f1 : (0 : Int) ≤ -ρ 20 + ρ 10 + (-1) := f1
  have f2 : (0 : Int) ≤ -ρ 13 + ρ 1 + (-1) := f2
  have f3 : (0 : Int) ≤ ρ 15 + -ρ 14 + 50000 := f3
  have f4 : (0 : Int) ≤ ρ 2 + -ρ 0 + (-1) := f4
  have f5 : (0 : Int) ≤ -ρ 13 + ρ 1 := f5
  have f6 : (0 : Int) ≤ ρ 16 + -ρ 8 := f6
  have f7 : (0 : Int) ≤ ρ 15 + -ρ 4 := f7
  have f8 : (0 : Int) ≤ ρ 14 + -ρ 3 := f8
  obtain ⟨m0, m1, m2, m3, m4, m5, m6, m7, m8, m9, m10, m11, m12, m13, m14, m15, m16, m17, -⟩ := hm
  have m0 : γ 0 73 0 (ρ 0) = ρ 1 := m0
  have m1 : γ 0 15 0 32 = ρ 2 := m1
  have m2 : γ 0 15 0 72 = ρ 3 := m2
  have m3 : γ 0 15 0 77 = ρ 4 := m3
  have m4 : γ 0 15 0 94 = ρ 5 := m4
  have m5 : γ 0 15 0 13 = ρ 6 := m5
  have m6 : γ 0 15 0 44 = ρ 7 := m6
  have m7 : γ 0 15 0 71 = ρ 8 := m7
  have m8 : γ 0 15 0 76 = ρ 9 := m8
  have m9 : γ 0 15 0 81 = ρ 10 := m9
  have m10 : γ 0 15 0 82 = ρ 11 := m10
  have m11 : γ 0 15 0 83 = ρ 12 := m11
  have m12 : γ 1 15 0 72 = ρ 14 := m12
  have m13 : γ 1 15 0 77 = ρ 15 := m13
  have m14 : γ 1 15 0 71 = ρ 16 := m14
  have m15 : γ 0 77 0 (ρ 13 + 8 * ρ 0) = ρ 17 := m15
  have m16 : γ 0 78 0 (ρ 13 + 8 * ρ 0) = ρ 18 := m16
  have m17 : γ 1 100 0 (ρ 18) = ρ 19 := m17
  obtain ⟨⟨-, c1⟩, c2⟩ := hc
  have c1 : ∀ (G : Nat) (k j : Int), ¬ rMdP m48_ G j → γ 1 G k j = γ 0 G k j := c1
  have c2 : ∀ (G : Nat) (k j : Int), ¬ rMdP m0_ G j → γ 2 G k j = γ 1 G k j := c2
  obtain ⟨l0, -⟩ := hl
  have l0 : sn62 [ρ 0, ρ 13, ρ 19, ρ 10, ρ 16, ρ 11, ρ 12] (γ 1) 0 (ρ 20) (γ 2) := hS62 _ _ _ _ _ l0
  show jn72 [ρ 0, ρ 1, ρ 2, ρ 3, ρ 4, ρ 5, ρ 6, ρ 7, ρ 8, ρ 9, ρ 10, ρ 11, ρ 12] (γ 0) 1 [ρ 0, ρ 1, ρ 2, ρ 3, ρ 4, ρ 5, ρ 6, ρ 7, ρ 8, ρ 9, ρ 10, ρ 11, ρ 12, ρ 13 + (-1), ρ 13 + 8 * ρ 0, ρ 14, ρ 15, ρ 16] (γ 2)
  have hD : en72 (γ 0) (0, [ρ 0, ρ 13], γ 1) = .inl (1, [ρ 0, ρ 13 + (-1), ρ 13 + 8 * ρ 0], γ 2) := by
    unfold en72
    refine (if_pos (show (0 : Nat) = 0 by decide)).trans ?_
    refine (zLet_eq (show _ = γ 1 from rfl)).trans ?_
    refine (zLet_eq (show _ = ρ 0 from rfl)).trans ?_
    refine (zLet_eq (show _ = ρ 13 from rfl)).trans ?_
    refine (zLet_eq m0).trans ?_
    refine (zLet_eq m12).trans ?_
    refine (zLet_eq m13).trans ?_
    refine (if_neg (show ¬ (ρ 15 ≠ 0) by omega)).trans ?_
    refine (if_pos (show ρ 13 ≠ ρ 1 by omega)).trans ?_
    refine (zLet_eq m15).trans ?_
    refine (if_pos (show 0 ≤ -ρ 17 + 4 by omega)).trans ?_
    refine (if_pos (show ρ 17 = 0 by omega)).trans ?_
    refine (zLet_eq m16).trans ?_
    refine (zLet_eq m17).trans ?_
    refine (zLet_eq (show fn62 [ρ 0, ρ 13, ρ 19] (γ 1) = (0, ρ 20, γ 2) from l0.symm)).trans ?_
    refine (zLet_eq (show _ = γ 2 from rfl)).trans ?_
    refine (zLet_eq (show _ = ρ 20 from rfl)).trans ?_
    refine (if_neg (show ¬ (ρ 20 ≥ 0) by omega)).trans ?_
    rfl
  exact zGoo_ato hJ hD
theorem vn72a0_4 {S : Nat → zSpc} (hS62 : ∀ x g o v gz, S 62 x g o v gz → sn62 x g o v gz) (hS63 : ∀ x g o v gz, S 63 x g o v gz → sn63 x g o v gz) (hS64 : ∀ x g o v gz, S 64 x g o v gz → sn64 x g o v gz) (hS65 : ∀ x g o v gz, S 65 x g o v gz → sn65 x g o v gz) (hS68 : ∀ x g o v gz, S 68 x g o v gz → sn68 x g o v gz) {a : List Int} {g : rHp} : ∀ (ρ : Nat → Int) (γ : Nat → rHp), jn72 a g 0 (zAg (zNA a72_ 0) ρ) (γ 1) → zO 13 S a g q72a0_4 ρ γ → zGl (fun i vs g1 => jn72 a g i vs g1) (sn72 a g) q72a0_4 ρ γ := by
  intro ρ γ hJ h
  obtain ⟨ha, hg, hr, hf, hm, hc, hl⟩ := h
  have ha : a = [ρ 0, ρ 1, ρ 2, ρ 3, ρ 4, ρ 5, ρ 6, ρ 7, ρ 8, ρ 9, ρ 10, ρ 11, ρ 12] := ha
  subst ha
  subst hg
  have hJ : jn72 [ρ 0, ρ 1, ρ 2, ρ 3, ρ 4, ρ 5, ρ 6, ρ 7, ρ 8, ρ 9, ρ 10, ρ 11, ρ 12] (γ 0) 0 [ρ 0, ρ 1, ρ 2, ρ 3, ρ 4, ρ 5, ρ 6, ρ 7, ρ 8, ρ 9, ρ 10, ρ 11, ρ 12, ρ 13, ρ 14, ρ 15, ρ 16] (γ 1) := hJ
  obtain ⟨r0, r1, r2, r3, r4, r5, r6, r7, r8, r9, r10, r11, r12, r13, r14, r15, r16, r17, r18, -⟩ := hr
  have r0 : (0 : Int) ≤ ρ 0 ∧ ρ 0 ≤ 59 := r0
  have r1 : (0 : Int) ≤ ρ 1 ∧ ρ 1 ≤ 8 := r1
  have r2 : (1 : Int) ≤ ρ 2 ∧ ρ 2 ≤ 60 := r2
  have r3 : (0 : Int) ≤ ρ 3 ∧ ρ 3 ≤ 50001 := r3
  have r4 : (0 : Int) ≤ ρ 4 ∧ ρ 4 ≤ 3 := r4
  have r5 : (0 : Int) ≤ ρ 5 ∧ ρ 5 ≤ 50001 := r5
  have r6 : (0 : Int) ≤ ρ 6 ∧ ρ 6 ≤ 20 := r6
  have r7 : (0 : Int) ≤ ρ 7 ∧ ρ 7 ≤ 61 := r7
  have r8 : (0 : Int) ≤ ρ 8 ∧ ρ 8 ≤ 2000 := r8
  have r9 : ((-2147483648) : Int) ≤ ρ 9 ∧ ρ 9 ≤ 2147483647 := r9
  have r10 : (0 : Int) ≤ ρ 10 ∧ ρ 10 ≤ 2000 := r10
  have r11 : (0 : Int) ≤ ρ 11 ∧ ρ 11 ≤ 2000 := r11
  have r12 : (0 : Int) ≤ ρ 12 ∧ ρ 12 ≤ 2000 := r12
  have r13 : (0 : Int) ≤ ρ 13 ∧ ρ 13 ≤ 8 := r13
  have r14 : (0 : Int) ≤ ρ 14 ∧ ρ 14 ≤ 50001 := r14
  have r15 : (0 : Int) ≤ ρ 15 ∧ ρ 15 ≤ 0 := r15
  have r16 : (0 : Int) ≤ ρ 16 ∧ ρ 16 ≤ 2000 := r16
  have r17 : (1 : Int) ≤ ρ 17 ∧ ρ 17 ≤ 4 := r17
  have r18 : ((-2147483648) : Int) ≤ ρ 18 ∧ ρ 18 ≤ 1099511640064 := r18
  obtain ⟨f0, f1, f2, f3, f4, f5, f6, f7, -⟩ := hf
  have f0 : (0 : Int) ≤ ρ 16 + -ρ 10 := f0
  have f1 : (0 : Int) ≤ -ρ 13 + ρ 1 + (-1) := f1
  have f2 : (0 : Int) ≤ ρ 15 + -ρ 14 + 50000 := f2
  have f3 : (0 : Int) ≤ ρ 2 + -ρ 0 + (-1) := f3
  have f4 : (0 : Int) ≤ -ρ 13 + ρ 1 := f4
  have f5 : (0 : Int) ≤ ρ 16 + -ρ 8 := f5
  have f6 : (0 : Int) ≤ ρ 15 + -ρ 4 := f6
  have f7 : (0 : Int) ≤ ρ 14 + -ρ 3 := f7
  obtain ⟨m0, m1, m2, m3, m4, m5, m6, m7, m8, m9, m10, m11, m12, m13, m14, m15, m16, -⟩ := hm
  have m0 : γ 0 73 0 (ρ 0) = ρ 1 := m0
  have m1 : γ 0 15 0 32 = ρ 2 := m1
  have m2 : γ 0 15 0 72 = ρ 3 := m2
  have m3 : γ 0 15 0 77 = ρ 4 := m3
  have m4 : γ 0 15 0 94 = ρ 5 := m4
  have m5 : γ 0 15 0 13 = ρ 6 := m5
  have m6 : γ 0 15 0 44 = ρ 7 := m6
  have m7 : γ 0 15 0 71 = ρ 8 := m7
  have m8 : γ 0 15 0 76 = ρ 9 := m8
  have m9 : γ 0 15 0 81 = ρ 10 := m9
  have m10 : γ 0 15 0 82 = ρ 11 := m10
  have m11 : γ 0 15 0 83 = ρ 12 := m11
  have m12 : γ 1 15 0 72 = ρ 14 := m12
  have m13 : γ 1 15 0 77 = ρ 15 := m13
  have m14 : γ 1 15 0 71 = ρ 16 := m14
  have m15 : γ 0 77 0 (ρ 13 + 8 * ρ 0) = ρ 17 := m15
  have m16 : γ 0 81 0 (4 * ρ 13 + 32 * ρ 0) = ρ 18 := m16
  obtain ⟨⟨-, c1⟩, c2⟩ := hc
  have c1 : ∀ (G : Nat) (k j : Int), ¬ rMdP m48_ G j → γ 1 G k j = γ 0 G k j := c1
  have c2 : ∀ (G : Nat) (k j : Int), ¬ rMdP m0_ G j → γ 2 G k j = γ 1 G k j := c2
  obtain ⟨l0, -⟩ := hl
  have l0 : sn64 [ρ 13 + 8 * ρ 0, ρ 17, ρ 18, ρ 10, ρ 16] (γ 1) 0 0 (γ 2) := hS64 _ _ _ _ _ l0
  show jn72 [ρ 0, ρ 1, ρ 2, ρ 3, ρ 4, ρ 5, ρ 6, ρ 7, ρ 8, ρ 9, ρ 10, ρ 11, ρ 12] (γ 0) 1 [ρ 0, ρ 1, ρ 2, ρ 3, ρ 4, ρ 5, ρ 6, ρ 7, ρ 8, ρ 9, ρ 10, ρ 11, ρ 12, ρ 13 + (-1), ρ 13 + 8 * ρ 0, ρ 14, ρ 15, ρ 16] (γ 2)
  have hD : en72 (γ 0) (0, [ρ 0, ρ 13], γ 1) = .inl (1, [ρ 0, ρ 13 + (-1), ρ 13 + 8 * ρ 0], γ 2) := by
    unfold en72
    refine (if_pos (show (0 : Nat) = 0 by decide)).trans ?_
    refine (zLet_eq (show _ = γ 1 from rfl)).trans ?_
    refine (zLet_eq (show _ = ρ 0 from rfl)).trans ?_
    refine (zLet_eq (show _ = ρ 13 from rfl)).trans ?_
    refine (zLet_eq m0).trans ?_
    refine (zLet_eq m12).trans ?_
    refine (zLet_eq m13).trans ?_
    refine (if_neg (show ¬ (ρ 15 ≠ 0) by omega)).trans ?_
    refine (if_pos (show ρ 13 ≠ ρ 1 by omega)).trans ?_
    refine (zLet_eq m15).trans ?_
    refine (if_pos (show 0 ≤ -ρ 17 + 4 by omega)).trans ?_
    refine (if_neg (show ¬ (ρ 17 = 0) by omega)).trans ?_
    refine (zLet_eq (show fn64 [ρ 13 + 8 * ρ 0] (γ 1) = (0, 0, γ 2) from l0.symm)).trans ?_
    refine (zLet_eq (show _ = γ 2 from rfl)).trans ?_
    refine (if_neg (show ¬ ((1 : Int) ≤ 0) by omega)).trans ?_
    rfl
  exact zGoo_ato hJ hD
theorem vn72a0_5 {S : Nat → zSpc} (hS62 : ∀ x g o v gz, S 62 x g o v gz → sn62 x g o v gz) (hS63 : ∀ x g o v gz, S 63 x g o v gz → sn63 x g o v gz) (hS64 : ∀ x g o v gz, S 64 x g o v gz → sn64 x g o v gz) (hS65 : ∀ x g o v gz, S 65 x g o v gz → sn65 x g o v gz) (hS68 : ∀ x g o v gz, S 68 x g o v gz → sn68 x g o v gz) {a : List Int} {g : rHp} : ∀ (ρ : Nat → Int) (γ : Nat → rHp), jn72 a g 0 (zAg (zNA a72_ 0) ρ) (γ 1) → zO 13 S a g q72a0_5 ρ γ → zGl (fun i vs g1 => jn72 a g i vs g1) (sn72 a g) q72a0_5 ρ γ := by
  intro ρ γ hJ h
  obtain ⟨ha, hg, hr, hf, hm, hc, hl⟩ := h
  have ha : a = [ρ 0, ρ 1, ρ 2, ρ 3, ρ 4, ρ 5, ρ 6, ρ 7, ρ 8, ρ 9, ρ 10, ρ 11, ρ 12] := ha
  subst ha
  subst hg
  have hJ : jn72 [ρ 0, ρ 1, ρ 2, ρ 3, ρ 4, ρ 5, ρ 6, ρ 7, ρ 8, ρ 9, ρ 10, ρ 11, ρ 12] (γ 0) 0 [ρ 0, ρ 1, ρ 2, ρ 3, ρ 4, ρ 5, ρ 6, ρ 7, ρ 8, ρ 9, ρ 10, ρ 11, ρ 12, ρ 13, ρ 14, ρ 15, ρ 16] (γ 1) := hJ
  obtain ⟨r0, r1, r2, r3, r4, r5, r6, r7, r8, r9, r10, r11, r12, r13, r14, r15, r16, r17, r18, -⟩ := hr
  have r0 : (0 : Int) ≤ ρ 0 ∧ ρ 0 ≤ 59 := r0
  have r1 : (0 : Int) ≤ ρ 1 ∧ ρ 1 ≤ 8 := r1
  have r2 : (1 : Int) ≤ ρ 2 ∧ ρ 2 ≤ 60 := r2
  have r3 : (0 : Int) ≤ ρ 3 ∧ ρ 3 ≤ 50001 := r3
  have r4 : (0 : Int) ≤ ρ 4 ∧ ρ 4 ≤ 3 := r4
  have r5 : (0 : Int) ≤ ρ 5 ∧ ρ 5 ≤ 50001 := r5
  have r6 : (0 : Int) ≤ ρ 6 ∧ ρ 6 ≤ 20 := r6
  have r7 : (0 : Int) ≤ ρ 7 ∧ ρ 7 ≤ 61 := r7
  have r8 : (0 : Int) ≤ ρ 8 ∧ ρ 8 ≤ 2000 := r8
  have r9 : ((-2147483648) : Int) ≤ ρ 9 ∧ ρ 9 ≤ 2147483647 := r9
  have r10 : (0 : Int) ≤ ρ 10 ∧ ρ 10 ≤ 2000 := r10
  have r11 : (0 : Int) ≤ ρ 11 ∧ ρ 11 ≤ 2000 := r11
  have r12 : (0 : Int) ≤ ρ 12 ∧ ρ 12 ≤ 2000 := r12
  have r13 : (0 : Int) ≤ ρ 13 ∧ ρ 13 ≤ 8 := r13
  have r14 : (0 : Int) ≤ ρ 14 ∧ ρ 14 ≤ 50001 := r14
  have r15 : (0 : Int) ≤ ρ 15 ∧ ρ 15 ≤ 0 := r15
  have r16 : (0 : Int) ≤ ρ 16 ∧ ρ 16 ≤ 2000 := r16
  have r17 : (1 : Int) ≤ ρ 17 ∧ ρ 17 ≤ 4 := r17
  have r18 : ((-2147483648) : Int) ≤ ρ 18 ∧ ρ 18 ≤ 1099511640064 := r18
  obtain ⟨f0, f1, f2, f3, f4, f5, f6, f7, -⟩ := hf
  have f0 : (0 : Int) ≤ ρ 16 + -ρ 10 := f0
  have f1 : (0 : Int) ≤ -ρ 13 + ρ 1 + (-1) := f1
  have f2 : (0 : Int) ≤ ρ 15 + -ρ 14 + 50000 := f2
  have f3 : (0 : Int) ≤ ρ 2 + -ρ 0 + (-1) := f3
  have f4 : (0 : Int) ≤ -ρ 13 + ρ 1 := f4
  have f5 : (0 : Int) ≤ ρ 16 + -ρ 8 := f5
  have f6 : (0 : Int) ≤ ρ 15 + -ρ 4 := f6
  have f7 : (0 : Int) ≤ ρ 14 + -ρ 3 := f7
  obtain ⟨m0, m1, m2, m3, m4, m5, m6, m7, m8, m9, m10, m11, m12, m13, m14, m15, m16, -⟩ := hm
  have m0 : γ 0 73 0 (ρ 0) = ρ 1 := m0
  have m1 : γ 0 15 0 32 = ρ 2 := m1
  have m2 : γ 0 15 0 72 = ρ 3 := m2
  have m3 : γ 0 15 0 77 = ρ 4 := m3
  have m4 : γ 0 15 0 94 = ρ 5 := m4
  have m5 : γ 0 15 0 13 = ρ 6 := m5
  have m6 : γ 0 15 0 44 = ρ 7 := m6
  have m7 : γ 0 15 0 71 = ρ 8 := m7
  have m8 : γ 0 15 0 76 = ρ 9 := m8
  have m9 : γ 0 15 0 81 = ρ 10 := m9
  have m10 : γ 0 15 0 82 = ρ 11 := m10
  have m11 : γ 0 15 0 83 = ρ 12 := m11
  have m12 : γ 1 15 0 72 = ρ 14 := m12
  have m13 : γ 1 15 0 77 = ρ 15 := m13
  have m14 : γ 1 15 0 71 = ρ 16 := m14
  have m15 : γ 0 77 0 (ρ 13 + 8 * ρ 0) = ρ 17 := m15
  have m16 : γ 0 81 0 (4 * ρ 13 + 32 * ρ 0) = ρ 18 := m16
  obtain ⟨⟨-, c1⟩, c2⟩ := hc
  have c1 : ∀ (G : Nat) (k j : Int), ¬ rMdP m48_ G j → γ 1 G k j = γ 0 G k j := c1
  have c2 : ∀ (G : Nat) (k j : Int), ¬ rMdP m0_ G j → γ 2 G k j = γ 1 G k j := c2
  obtain ⟨l0, -⟩ := hl
  have l0 : sn64 [ρ 13 + 8 * ρ 0, ρ 17, ρ 18, ρ 10, ρ 16] (γ 1) 0 1 (γ 2) := hS64 _ _ _ _ _ l0
  show jn72 [ρ 0, ρ 1, ρ 2, ρ 3, ρ 4, ρ 5, ρ 6, ρ 7, ρ 8, ρ 9, ρ 10, ρ 11, ρ 12] (γ 0) 0 [ρ 0, ρ 1, ρ 2, ρ 3, ρ 4, ρ 5, ρ 6, ρ 7, ρ 8, ρ 9, ρ 10, ρ 11, ρ 12, ρ 13 + 1, ρ 14, ρ 15, ρ 16] (γ 2)
  have hD : en72 (γ 0) (0, [ρ 0, ρ 13], γ 1) = .inl (0, [ρ 0, ρ 13 + 1], γ 2) := by
    unfold en72
    refine (if_pos (show (0 : Nat) = 0 by decide)).trans ?_
    refine (zLet_eq (show _ = γ 1 from rfl)).trans ?_
    refine (zLet_eq (show _ = ρ 0 from rfl)).trans ?_
    refine (zLet_eq (show _ = ρ 13 from rfl)).trans ?_
    refine (zLet_eq m0).trans ?_
    refine (zLet_eq m12).trans ?_
    refine (zLet_eq m13).trans ?_
    refine (if_neg (show ¬ (ρ 15 ≠ 0) by omega)).trans ?_
    refine (if_pos (show ρ 13 ≠ ρ 1 by omega)).trans ?_
    refine (zLet_eq m15).trans ?_
    refine (if_pos (show 0 ≤ -ρ 17 + 4 by omega)).trans ?_
    refine (if_neg (show ¬ (ρ 17 = 0) by omega)).trans ?_
    refine (zLet_eq (show fn64 [ρ 13 + 8 * ρ 0] (γ 1) = (0, 1, γ 2) from l0.symm)).trans ?_
    refine (zLet_eq (show _ = γ 2 from rfl)).trans ?_
    refine (if_pos (show (1 : Int) ≤ 1 by omega)).trans ?_
    rfl
  exact zGoo_ato hJ hD
theorem vn72a0_6 {S : Nat → zSpc} (hS62 : ∀ x g o v gz, S 62 x g o v gz → sn62 x g o v gz) (hS63 : ∀ x g o v gz, S 63 x g o v gz → sn63 x g o v gz) (hS64 : ∀ x g o v gz, S 64 x g o v gz → sn64 x g o v gz) (hS65 : ∀ x g o v gz, S 65 x g o v gz → sn65 x g o v gz) (hS68 : ∀ x g o v gz, S 68 x g o v gz → sn68 x g o v gz) {a : List Int} {g : rHp} : ∀ (ρ : Nat → Int) (γ : Nat → rHp), jn72 a g 0 (zAg (zNA a72_ 0) ρ) (γ 1) → zO 13 S a g q72a0_6 ρ γ → zGl (fun i vs g1 => jn72 a g i vs g1) (sn72 a g) q72a0_6 ρ γ := by
  intro ρ γ hJ h
  obtain ⟨ha, hg, hr, hf, hm, hc, hl⟩ := h
  have ha : a = [ρ 0, ρ 1, ρ 2, ρ 3, ρ 4, ρ 5, ρ 6, ρ 7, ρ 8, ρ 9, ρ 10, ρ 11, ρ 12] := ha
  subst ha
  subst hg
  have hJ : jn72 [ρ 0, ρ 1, ρ 2, ρ 3, ρ 4, ρ 5, ρ 6, ρ 7, ρ 8, ρ 9, ρ 10, ρ 11, ρ 12] (γ 0) 0 [ρ 0, ρ 1, ρ 2, ρ 3, ρ 4, ρ 5, ρ 6, ρ 7, ρ 8, ρ 9, ρ 10, ρ 11, ρ 12, ρ 13, ρ 14, ρ 15, ρ 16] (γ 1) := hJ
  obtain ⟨r0, r1, r2, r3, r4, r5, r6, r7, r8, r9, r10, r11, r12, r13, r14, r15, r16, r17, r18, -⟩ := hr
  have r0 : (0 : Int) ≤ ρ 0 ∧ ρ 0 ≤ 59 := r0
  have r1 : (0 : Int) ≤ ρ 1 ∧ ρ 1 ≤ 8 := r1
  have r2 : (1 : Int) ≤ ρ 2 ∧ ρ 2 ≤ 60 := r2
  have r3 : (0 : Int) ≤ ρ 3 ∧ ρ 3 ≤ 50001 := r3
  have r4 : (0 : Int) ≤ ρ 4 ∧ ρ 4 ≤ 3 := r4
  have r5 : (0 : Int) ≤ ρ 5 ∧ ρ 5 ≤ 50001 := r5
  have r6 : (0 : Int) ≤ ρ 6 ∧ ρ 6 ≤ 20 := r6
  have r7 : (0 : Int) ≤ ρ 7 ∧ ρ 7 ≤ 61 := r7
  have r8 : (0 : Int) ≤ ρ 8 ∧ ρ 8 ≤ 2000 := r8
  have r9 : ((-2147483648) : Int) ≤ ρ 9 ∧ ρ 9 ≤ 2147483647 := r9
  have r10 : (0 : Int) ≤ ρ 10 ∧ ρ 10 ≤ 2000 := r10
  have r11 : (0 : Int) ≤ ρ 11 ∧ ρ 11 ≤ 2000 := r11
  have r12 : (0 : Int) ≤ ρ 12 ∧ ρ 12 ≤ 2000 := r12
  have r13 : (0 : Int) ≤ ρ 13 ∧ ρ 13 ≤ 8 := r13
  have r14 : (0 : Int) ≤ ρ 14 ∧ ρ 14 ≤ 50001 := r14
  have r15 : (0 : Int) ≤ ρ 15 ∧ ρ 15 ≤ 0 := r15
  have r16 : (0 : Int) ≤ ρ 16 ∧ ρ 16 ≤ 2000 := r16
  have r17 : (5 : Int) ≤ ρ 17 ∧ ρ 17 ≤ 7 := r17
  have r18 : (0 : Int) ≤ ρ 18 ∧ ρ 18 ≤ 7 := r18
  obtain ⟨f0, f1, f2, f3, f4, f5, f6, f7, -⟩ := hf
  have f0 : (0 : Int) ≤ ρ 16 + -ρ 10 := f0
  have f1 : (0 : Int) ≤ -ρ 13 + ρ 1 + (-1) := f1
  have f2 : (0 : Int) ≤ ρ 15 + -ρ 14 + 50000 := f2
  have f3 : (0 : Int) ≤ ρ 2 + -ρ 0 + (-1) := f3
  have f4 : (0 : Int) ≤ -ρ 13 + ρ 1 := f4
  have f5 : (0 : Int) ≤ ρ 16 + -ρ 8 := f5
  have f6 : (0 : Int) ≤ ρ 15 + -ρ 4 := f6
  have f7 : (0 : Int) ≤ ρ 14 + -ρ 3 := f7
  obtain ⟨m0, m1, m2, m3, m4, m5, m6, m7, m8, m9, m10, m11, m12, m13, m14, m15, m16, -⟩ := hm
  have m0 : γ 0 73 0 (ρ 0) = ρ 1 := m0
  have m1 : γ 0 15 0 32 = ρ 2 := m1
  have m2 : γ 0 15 0 72 = ρ 3 := m2
  have m3 : γ 0 15 0 77 = ρ 4 := m3
  have m4 : γ 0 15 0 94 = ρ 5 := m4
  have m5 : γ 0 15 0 13 = ρ 6 := m5
  have m6 : γ 0 15 0 44 = ρ 7 := m6
  have m7 : γ 0 15 0 71 = ρ 8 := m7
  have m8 : γ 0 15 0 76 = ρ 9 := m8
  have m9 : γ 0 15 0 81 = ρ 10 := m9
  have m10 : γ 0 15 0 82 = ρ 11 := m10
  have m11 : γ 0 15 0 83 = ρ 12 := m11
  have m12 : γ 1 15 0 72 = ρ 14 := m12
  have m13 : γ 1 15 0 77 = ρ 15 := m13
  have m14 : γ 1 15 0 71 = ρ 16 := m14
  have m15 : γ 0 77 0 (ρ 13 + 8 * ρ 0) = ρ 17 := m15
  have m16 : γ 0 81 0 (4 * ρ 13 + 32 * ρ 0) = ρ 18 := m16
  obtain ⟨⟨-, c1⟩, c2⟩ := hc
  have c1 : ∀ (G : Nat) (k j : Int), ¬ rMdP m48_ G j → γ 1 G k j = γ 0 G k j := c1
  have c2 : ∀ (G : Nat) (k j : Int), ¬ rMdP m42_ G j → γ 2 G k j = γ 1 G k j := c2
  obtain ⟨l0, -⟩ := hl
  have l0 : sn65 [ρ 13 + 8 * ρ 0, ρ 17, ρ 18, ρ 10, ρ 16] (γ 1) 0 0 (γ 2) := hS65 _ _ _ _ _ l0
  show jn72 [ρ 0, ρ 1, ρ 2, ρ 3, ρ 4, ρ 5, ρ 6, ρ 7, ρ 8, ρ 9, ρ 10, ρ 11, ρ 12] (γ 0) 1 [ρ 0, ρ 1, ρ 2, ρ 3, ρ 4, ρ 5, ρ 6, ρ 7, ρ 8, ρ 9, ρ 10, ρ 11, ρ 12, ρ 13 + (-1), ρ 13 + 8 * ρ 0, ρ 14, ρ 15, ρ 16] (γ 2)
  have hD : en72 (γ 0) (0, [ρ 0, ρ 13], γ 1) = .inl (1, [ρ 0, ρ 13 + (-1), ρ 13 + 8 * ρ 0], γ 2) := by
    unfold en72
    refine (if_pos (show (0 : Nat) = 0 by decide)).trans ?_
    refine (zLet_eq (show _ = γ 1 from rfl)).trans ?_
    refine (zLet_eq (show _ = ρ 0 from rfl)).trans ?_
    refine (zLet_eq (show _ = ρ 13 from rfl)).trans ?_
    refine (zLet_eq m0).trans ?_
    refine (zLet_eq m12).trans ?_
    refine (zLet_eq m13).trans ?_
    refine (if_neg (show ¬ (ρ 15 ≠ 0) by omega)).trans ?_
    refine (if_pos (show ρ 13 ≠ ρ 1 by omega)).trans ?_
    refine (zLet_eq m15).trans ?_
    refine (if_neg (show ¬ (0 ≤ -ρ 17 + 4) by omega)).trans ?_
    refine (zLet_eq (show fn65 [ρ 13 + 8 * ρ 0] (γ 1) = (0, 0, γ 2) from l0.symm)).trans ?_
    refine (zLet_eq (show _ = γ 2 from rfl)).trans ?_
    refine (if_neg (show ¬ ((1 : Int) ≤ 0) by omega)).trans ?_
    rfl
  exact zGoo_ato hJ hD
theorem vn72a0_7 {S : Nat → zSpc} (hS62 : ∀ x g o v gz, S 62 x g o v gz → sn62 x g o v gz) (hS63 : ∀ x g o v gz, S 63 x g o v gz → sn63 x g o v gz) (hS64 : ∀ x g o v gz, S 64 x g o v gz → sn64 x g o v gz) (hS65 : ∀ x g o v gz, S 65 x g o v gz → sn65 x g o v gz) (hS68 : ∀ x g o v gz, S 68 x g o v gz → sn68 x g o v gz) {a : List Int} {g : rHp} : ∀ (ρ : Nat → Int) (γ : Nat → rHp), jn72 a g 0 (zAg (zNA a72_ 0) ρ) (γ 1) → zO 13 S a g q72a0_7 ρ γ → zGl (fun i vs g1 => jn72 a g i vs g1) (sn72 a g) q72a0_7 ρ γ := by
  intro ρ γ hJ h
  obtain ⟨ha, hg, hr, hf, hm, hc, hl⟩ := h
  have ha : a = [ρ 0, ρ 1, ρ 2, ρ 3, ρ 4, ρ 5, ρ 6, ρ 7, ρ 8, ρ 9, ρ 10, ρ 11, ρ 12] := ha
  subst ha
  subst hg
  have hJ : jn72 [ρ 0, ρ 1, ρ 2, ρ 3, ρ 4, ρ 5, ρ 6, ρ 7, ρ 8, ρ 9, ρ 10, ρ 11, ρ 12] (γ 0) 0 [ρ 0, ρ 1, ρ 2, ρ 3, ρ 4, ρ 5, ρ 6, ρ 7, ρ 8, ρ 9, ρ 10, ρ 11, ρ 12, ρ 13, ρ 14, ρ 15, ρ 16] (γ 1) := hJ
  obtain ⟨r0, r1, r2, r3, r4, r5, r6, r7, r8, r9, r10, r11, r12, r13, r14, r15, r16, r17, r18, -⟩ := hr
  have r0 : (0 : Int) ≤ ρ 0 ∧ ρ 0 ≤ 59 := r0
  have r1 : (0 : Int) ≤ ρ 1 ∧ ρ 1 ≤ 8 := r1
  have r2 : (1 : Int) ≤ ρ 2 ∧ ρ 2 ≤ 60 := r2
  have r3 : (0 : Int) ≤ ρ 3 ∧ ρ 3 ≤ 50001 := r3
  have r4 : (0 : Int) ≤ ρ 4 ∧ ρ 4 ≤ 3 := r4
  have r5 : (0 : Int) ≤ ρ 5 ∧ ρ 5 ≤ 50001 := r5
  have r6 : (0 : Int) ≤ ρ 6 ∧ ρ 6 ≤ 20 := r6
  have r7 : (0 : Int) ≤ ρ 7 ∧ ρ 7 ≤ 61 := r7
  have r8 : (0 : Int) ≤ ρ 8 ∧ ρ 8 ≤ 2000 := r8
  have r9 : ((-2147483648) : Int) ≤ ρ 9 ∧ ρ 9 ≤ 2147483647 := r9
  have r10 : (0 : Int) ≤ ρ 10 ∧ ρ 10 ≤ 2000 := r10
  have r11 : (0 : Int) ≤ ρ 11 ∧ ρ 11 ≤ 2000 := r11
  have r12 : (0 : Int) ≤ ρ 12 ∧ ρ 12 ≤ 2000 := r12
  have r13 : (0 : Int) ≤ ρ 13 ∧ ρ 13 ≤ 8 := r13
  have r14 : (0 : Int) ≤ ρ 14 ∧ ρ 14 ≤ 50001 := r14
  have r15 : (0 : Int) ≤ ρ 15 ∧ ρ 15 ≤ 0 := r15
  have r16 : (0 : Int) ≤ ρ 16 ∧ ρ 16 ≤ 2000 := r16
  have r17 : (5 : Int) ≤ ρ 17 ∧ ρ 17 ≤ 7 := r17
  have r18 : (0 : Int) ≤ ρ 18 ∧ ρ 18 ≤ 7 := r18
  obtain ⟨f0, f1, f2, f3, f4, f5, f6, f7, -⟩ := hf
  have f0 : (0 : Int) ≤ ρ 16 + -ρ 10 := f0
  have f1 : (0 : Int) ≤ -ρ 13 + ρ 1 + (-1) := f1
  have f2 : (0 : Int) ≤ ρ 15 + -ρ 14 + 50000 := f2
  have f3 : (0 : Int) ≤ ρ 2 + -ρ 0 + (-1) := f3
  have f4 : (0 : Int) ≤ -ρ 13 + ρ 1 := f4
  have f5 : (0 : Int) ≤ ρ 16 + -ρ 8 := f5
  have f6 : (0 : Int) ≤ ρ 15 + -ρ 4 := f6
  have f7 : (0 : Int) ≤ ρ 14 + -ρ 3 := f7
  obtain ⟨m0, m1, m2, m3, m4, m5, m6, m7, m8, m9, m10, m11, m12, m13, m14, m15, m16, -⟩ := hm
  have m0 : γ 0 73 0 (ρ 0) = ρ 1 := m0
  have m1 : γ 0 15 0 32 = ρ 2 := m1
  have m2 : γ 0 15 0 72 = ρ 3 := m2
  have m3 : γ 0 15 0 77 = ρ 4 := m3
  have m4 : γ 0 15 0 94 = ρ 5 := m4
  have m5 : γ 0 15 0 13 = ρ 6 := m5
  have m6 : γ 0 15 0 44 = ρ 7 := m6
  have m7 : γ 0 15 0 71 = ρ 8 := m7
  have m8 : γ 0 15 0 76 = ρ 9 := m8
  have m9 : γ 0 15 0 81 = ρ 10 := m9
  have m10 : γ 0 15 0 82 = ρ 11 := m10
  have m11 : γ 0 15 0 83 = ρ 12 := m11
  have m12 : γ 1 15 0 72 = ρ 14 := m12
  have m13 : γ 1 15 0 77 = ρ 15 := m13
  have m14 : γ 1 15 0 71 = ρ 16 := m14
  have m15 : γ 0 77 0 (ρ 13 + 8 * ρ 0) = ρ 17 := m15
  have m16 : γ 0 81 0 (4 * ρ 13 + 32 * ρ 0) = ρ 18 := m16
  obtain ⟨⟨-, c1⟩, c2⟩ := hc
  have c1 : ∀ (G : Nat) (k j : Int), ¬ rMdP m48_ G j → γ 1 G k j = γ 0 G k j := c1
  have c2 : ∀ (G : Nat) (k j : Int), ¬ rMdP m42_ G j → γ 2 G k j = γ 1 G k j := c2
  obtain ⟨l0, -⟩ := hl
  have l0 : sn65 [ρ 13 + 8 * ρ 0, ρ 17, ρ 18, ρ 10, ρ 16] (γ 1) 0 1 (γ 2) := hS65 _ _ _ _ _ l0
  show jn72 [ρ 0, ρ 1, ρ 2, ρ 3, ρ 4, ρ 5, ρ 6, ρ 7, ρ 8, ρ 9, ρ 10, ρ 11, ρ 12] (γ 0) 0 [ρ 0, ρ 1, ρ 2, ρ 3, ρ 4, ρ 5, ρ 6, ρ 7, ρ 8, ρ 9, ρ 10, ρ 11, ρ 12, ρ 13 + 1, ρ 14, ρ 15, ρ 16] (γ 2)
  have hD : en72 (γ 0) (0, [ρ 0, ρ 13], γ 1) = .inl (0, [ρ 0, ρ 13 + 1], γ 2) := by
    unfold en72
    refine (if_pos (show (0 : Nat) = 0 by decide)).trans ?_
    refine (zLet_eq (show _ = γ 1 from rfl)).trans ?_
    refine (zLet_eq (show _ = ρ 0 from rfl)).trans ?_
    refine (zLet_eq (show _ = ρ 13 from rfl)).trans ?_
    refine (zLet_eq m0).trans ?_
    refine (zLet_eq m12).trans ?_
    refine (zLet_eq m13).trans ?_
    refine (if_neg (show ¬ (ρ 15 ≠ 0) by omega)).trans ?_
    refine (if_pos (show ρ 13 ≠ ρ 1 by omega)).trans ?_
    refine (zLet_eq m15).trans ?_
    refine (if_neg (show ¬ (0 ≤ -ρ 17 + 4) by omega)).trans ?_
    refine (zLet_eq (show fn65 [ρ 13 + 8 * ρ 0] (γ 1) = (0, 1, γ 2) from l0.symm)).trans ?_
    refine (zLet_eq (show _ = γ 2 from rfl)).trans ?_
    refine (if_pos (show (1 : Int) ≤ 1 by omega)).trans ?_
    rfl
  exact zGoo_ato hJ hD
theorem vn72a0_8 {S : Nat → zSpc} (hS62 : ∀ x g o v gz, S 62 x g o v gz → sn62 x g o v gz) (hS63 : ∀ x g o v gz, S 63 x g o v gz → sn63 x g o v gz) (hS64 : ∀ x g o v gz, S 64 x g o v gz → sn64 x g o v gz) (hS65 : ∀ x g o v gz, S 65 x g o v gz → sn65 x g o v gz) (hS68 : ∀ x g o v gz, S 68 x g o v gz → sn68 x g o v gz) {a : List Int} {g : rHp} : ∀ (ρ : Nat → Int) (γ : Nat → rHp), jn72 a g 0 (zAg (zNA a72_ 0) ρ) (γ 1) → zO 13 S a g q72a0_8 ρ γ → zGl (fun i vs g1 => jn72 a g i vs g1) (sn72 a g) q72a0_8 ρ γ := by
  intro ρ γ hJ h
  obtain ⟨ha, hg, hr, hf, hm, hc, hl⟩ := h
  have ha : a = [ρ 0, ρ 1, ρ 2, ρ 3, ρ 4, ρ 5, ρ 6, ρ 7, ρ 8, ρ 9, ρ 10, ρ 11, ρ 12] := ha
  subst ha
  subst hg
  have hJ : jn72 [ρ 0, ρ 1, ρ 2, ρ 3, ρ 4, ρ 5, ρ 6, ρ 7, ρ 8, ρ 9, ρ 10, ρ 11, ρ 12] (γ 0) 0 [ρ 0, ρ 1, ρ 2, ρ 3, ρ 4, ρ 5, ρ 6, ρ 7, ρ 8, ρ 9, ρ 10, ρ 11, ρ 12, ρ 13, ρ 14, ρ 15, ρ 16] (γ 1) := hJ
  obtain ⟨r0, r1, r2, r3, r4, r5, r6, r7, r8, r9, r10, r11, r12, r13, r14, r15, r16, r17, r18, r19, -⟩ := hr
  have r0 : (0 : Int) ≤ ρ 0 ∧ ρ 0 ≤ 59 := r0
  have r1 : (0 : Int) ≤ ρ 1 ∧ ρ 1 ≤ 8 := r1
  have r2 : (1 : Int) ≤ ρ 2 ∧ ρ 2 ≤ 60 := r2
  have r3 : (0 : Int) ≤ ρ 3 ∧ ρ 3 ≤ 50001 := r3
  have r4 : (0 : Int) ≤ ρ 4 ∧ ρ 4 ≤ 3 := r4
  have r5 : (0 : Int) ≤ ρ 5 ∧ ρ 5 ≤ 50001 := r5
  have r6 : (0 : Int) ≤ ρ 6 ∧ ρ 6 ≤ 20 := r6
  have r7 : (0 : Int) ≤ ρ 7 ∧ ρ 7 ≤ 61 := r7
  have r8 : (0 : Int) ≤ ρ 8 ∧ ρ 8 ≤ 2000 := r8
  have r9 : ((-2147483648) : Int) ≤ ρ 9 ∧ ρ 9 ≤ 2147483647 := r9
  have r10 : (0 : Int) ≤ ρ 10 ∧ ρ 10 ≤ 2000 := r10
  have r11 : (0 : Int) ≤ ρ 11 ∧ ρ 11 ≤ 2000 := r11
  have r12 : (0 : Int) ≤ ρ 12 ∧ ρ 12 ≤ 2000 := r12
  have r13 : (0 : Int) ≤ ρ 13 ∧ ρ 13 ≤ 8 := r13
  have r14 : (0 : Int) ≤ ρ 14 ∧ ρ 14 ≤ 50001 := r14
  have r15 : (0 : Int) ≤ ρ 15 ∧ ρ 15 ≤ 0 := r15
  have r16 : (0 : Int) ≤ ρ 16 ∧ ρ 16 ≤ 2000 := r16
  have r17 : (0 : Int) ≤ ρ 17 ∧ ρ 17 ≤ 19 := r17
  have r18 : (1 : Int) ≤ ρ 18 ∧ ρ 18 ≤ 2000 := r18
  have r19 : (0 : Int) ≤ ρ 19 ∧ ρ 19 ≤ 3 := r19
  obtain ⟨f0, f1, f2, f3, f4, f5, f6, f7, f8, -⟩ := hf
  have f0 : (0 : Int) ≤ ρ 2 + -ρ 0 + (-1) := f0
  have f1 : (0 : Int) ≤ ρ 18 + -ρ 16 := f1
  have f2 : (0 : Int) ≤ -ρ 17 + ρ 6 + (-1) := f2
  have f3 : (0 : Int) ≤ -ρ 13 + ρ 1 := f3
  have f4 : (0 : Int) ≤ ρ 13 + -ρ 1 := f4
  have f5 : (0 : Int) ≤ ρ 15 + -ρ 14 + 50000 := f5
  have f6 : (0 : Int) ≤ ρ 16 + -ρ 8 := f6
  have f7 : (0 : Int) ≤ ρ 15 + -ρ 4 := f7
  have f8 : (0 : Int) ≤ ρ 14 + -ρ 3 := f8
  obtain ⟨m0, m1, m2, m3, m4, m5, m6, m7, m8, m9, m10, m11, m12, m13, m14, m15, m16, m17, -⟩ := hm
  have m0 : γ 0 73 0 (ρ 0) = ρ 1 := m0
  have m1 : γ 0 15 0 32 = ρ 2 := m1
  have m2 : γ 0 15 0 72 = ρ 3 := m2
  have m3 : γ 0 15 0 77 = ρ 4 := m3
  have m4 : γ 0 15 0 94 = ρ 5 := m4
  have m5 : γ 0 15 0 13 = ρ 6 := m5
  have m6 : γ 0 15 0 44 = ρ 7 := m6
  have m7 : γ 0 15 0 71 = ρ 8 := m7
  have m8 : γ 0 15 0 76 = ρ 9 := m8
  have m9 : γ 0 15 0 81 = ρ 10 := m9
  have m10 : γ 0 15 0 82 = ρ 11 := m10
  have m11 : γ 0 15 0 83 = ρ 12 := m11
  have m12 : γ 1 15 0 72 = ρ 14 := m12
  have m13 : γ 1 15 0 77 = ρ 15 := m13
  have m14 : γ 1 15 0 71 = ρ 16 := m14
  have m15 : γ 0 69 0 (ρ 0) = ρ 17 := m15
  have m16 : γ 2 15 0 71 = ρ 18 := m16
  have m17 : γ 2 15 0 77 = ρ 19 := m17
  obtain ⟨⟨-, c1⟩, c2⟩ := hc
  have c1 : ∀ (G : Nat) (k j : Int), ¬ rMdP m48_ G j → γ 1 G k j = γ 0 G k j := c1
  have c2 : ∀ (G : Nat) (k j : Int), ¬ rMdP m45_ G j → γ 2 G k j = γ 1 G k j := c2
  obtain ⟨l0, -⟩ := hl
  have l0 : sn68 [ρ 0, ρ 2, ρ 6, ρ 17, ρ 7, ρ 16, ρ 9, ρ 15] (γ 1) 0 0 (γ 2) := hS68 _ _ _ _ _ l0
  show jn72 [ρ 0, ρ 1, ρ 2, ρ 3, ρ 4, ρ 5, ρ 6, ρ 7, ρ 8, ρ 9, ρ 10, ρ 11, ρ 12] (γ 0) 1 [ρ 0, ρ 1, ρ 2, ρ 3, ρ 4, ρ 5, ρ 6, ρ 7, ρ 8, ρ 9, ρ 10, ρ 11, ρ 12, ρ 13 + (-1), ρ 13 + 8 * ρ 0, ρ 14, ρ 19, ρ 18] (γ 2)
  have hD : en72 (γ 0) (0, [ρ 0, ρ 13], γ 1) = .inl (1, [ρ 0, ρ 13 + (-1), ρ 13 + 8 * ρ 0], γ 2) := by
    unfold en72
    refine (if_pos (show (0 : Nat) = 0 by decide)).trans ?_
    refine (zLet_eq (show _ = γ 1 from rfl)).trans ?_
    refine (zLet_eq (show _ = ρ 0 from rfl)).trans ?_
    refine (zLet_eq (show _ = ρ 13 from rfl)).trans ?_
    refine (zLet_eq m0).trans ?_
    refine (zLet_eq m12).trans ?_
    refine (zLet_eq m13).trans ?_
    refine (if_neg (show ¬ (ρ 15 ≠ 0) by omega)).trans ?_
    refine (if_neg (show ¬ (ρ 13 ≠ ρ 1) by omega)).trans ?_
    refine (zLet_eq (show fn68 [ρ 0] (γ 1) = (0, 0, γ 2) from l0.symm)).trans ?_
    refine (zLet_eq (show _ = γ 2 from rfl)).trans ?_
    rfl
  exact zGoo_ato hJ hD
theorem vn72a1_0 {S : Nat → zSpc} (hS62 : ∀ x g o v gz, S 62 x g o v gz → sn62 x g o v gz) (hS63 : ∀ x g o v gz, S 63 x g o v gz → sn63 x g o v gz) (hS64 : ∀ x g o v gz, S 64 x g o v gz → sn64 x g o v gz) (hS65 : ∀ x g o v gz, S 65 x g o v gz → sn65 x g o v gz) (hS68 : ∀ x g o v gz, S 68 x g o v gz → sn68 x g o v gz) {a : List Int} {g : rHp} : ∀ (ρ : Nat → Int) (γ : Nat → rHp), jn72 a g 1 (zAg (zNA a72_ 1) ρ) (γ 1) → zO 13 S a g q72a1_0 ρ γ → zGl (fun i vs g1 => jn72 a g i vs g1) (sn72 a g) q72a1_0 ρ γ := by
  intro ρ γ hJ h
  obtain ⟨ha, hg, hr, hf, hm, hc, hl⟩ := h
  have ha : a = [ρ 0, ρ 1, ρ 2, ρ 3, ρ 4, ρ 5, ρ 6, ρ 7, ρ 8, ρ 9, ρ 10, ρ 11, ρ 12] := ha
  subst ha
  subst hg
  have hJ : jn72 [ρ 0, ρ 1, ρ 2, ρ 3, ρ 4, ρ 5, ρ 6, ρ 7, ρ 8, ρ 9, ρ 10, ρ 11, ρ 12] (γ 0) 1 [ρ 0, ρ 1, ρ 2, ρ 3, ρ 4, ρ 5, ρ 6, ρ 7, ρ 8, ρ 9, ρ 10, ρ 11, ρ 12, ρ 13, ρ 14, ρ 15, ρ 16, ρ 17] (γ 1) := hJ
  obtain ⟨r0, r1, r2, r3, r4, r5, r6, r7, r8, r9, r10, r11, r12, r13, r14, r15, r16, r17, -⟩ := hr
  have r0 : (0 : Int) ≤ ρ 0 ∧ ρ 0 ≤ 59 := r0
  have r1 : (0 : Int) ≤ ρ 1 ∧ ρ 1 ≤ 8 := r1
  have r2 : (1 : Int) ≤ ρ 2 ∧ ρ 2 ≤ 60 := r2
  have r3 : (0 : Int) ≤ ρ 3 ∧ ρ 3 ≤ 50001 := r3
  have r4 : (0 : Int) ≤ ρ 4 ∧ ρ 4 ≤ 0 := r4
  have r5 : (0 : Int) ≤ ρ 5 ∧ ρ 5 ≤ 50001 := r5
  have r6 : (0 : Int) ≤ ρ 6 ∧ ρ 6 ≤ 20 := r6
  have r7 : (0 : Int) ≤ ρ 7 ∧ ρ 7 ≤ 61 := r7
  have r8 : (0 : Int) ≤ ρ 8 ∧ ρ 8 ≤ 2000 := r8
  have r9 : ((-2147483648) : Int) ≤ ρ 9 ∧ ρ 9 ≤ 2147483647 := r9
  have r10 : (0 : Int) ≤ ρ 10 ∧ ρ 10 ≤ 2000 := r10
  have r11 : (0 : Int) ≤ ρ 11 ∧ ρ 11 ≤ 2000 := r11
  have r12 : (0 : Int) ≤ ρ 12 ∧ ρ 12 ≤ 2000 := r12
  have r13 : ((-1) : Int) ≤ ρ 13 ∧ ρ 13 ≤ (-1) := r13
  have r14 : (0 : Int) ≤ ρ 14 ∧ ρ 14 ≤ 1999 := r14
  have r15 : (0 : Int) ≤ ρ 15 ∧ ρ 15 ≤ 50000 := r15
  have r16 : (0 : Int) ≤ ρ 16 ∧ ρ 16 ≤ 3 := r16
  have r17 : (0 : Int) ≤ ρ 17 ∧ ρ 17 ≤ 2000 := r17
  obtain ⟨f0, f1, f2, f3, f4, f5, f6, -⟩ := hf
  have f0 : (0 : Int) ≤ ρ 4 + -ρ 3 + 50000 := f0
  have f1 : (0 : Int) ≤ ρ 2 + -ρ 0 + (-1) := f1
  have f2 : (0 : Int) ≤ -ρ 13 + ρ 1 + (-1) := f2
  have f3 : (0 : Int) ≤ ρ 17 + -ρ 8 := f3
  have f4 : (0 : Int) ≤ ρ 15 + -ρ 3 := f4
  have f5 : (0 : Int) ≤ ρ 14 + -ρ 0 := f5
  have f6 : (0 : Int) ≤ ρ 14 + -ρ 13 + (-1) := f6
  obtain ⟨m0, m1, m2, m3, m4, m5, m6, m7, m8, m9, m10, m11, m12, m13, m14, -⟩ := hm
  have m0 : γ 0 73 0 (ρ 0) = ρ 1 := m0
  have m1 : γ 0 15 0 32 = ρ 2 := m1
  have m2 : γ 0 15 0 72 = ρ 3 := m2
  have m3 : γ 0 15 0 77 = ρ 4 := m3
  have m4 : γ 0 15 0 94 = ρ 5 := m4
  have m5 : γ 0 15 0 13 = ρ 6 := m5
  have m6 : γ 0 15 0 44 = ρ 7 := m6
  have m7 : γ 0 15 0 71 = ρ 8 := m7
  have m8 : γ 0 15 0 76 = ρ 9 := m8
  have m9 : γ 0 15 0 81 = ρ 10 := m9
  have m10 : γ 0 15 0 82 = ρ 11 := m10
  have m11 : γ 0 15 0 83 = ρ 12 := m11
  have m12 : γ 1 15 0 72 = ρ 15 := m12
  have m13 : γ 1 15 0 77 = ρ 16 := m13
  have m14 : γ 1 15 0 71 = ρ 17 := m14
  obtain ⟨-, c1⟩ := hc
  have c1 : ∀ (G : Nat) (k j : Int), ¬ rMdP m48_ G j → γ 1 G k j = γ 0 G k j := c1
  show sn72 [ρ 0, ρ 1, ρ 2, ρ 3, ρ 4, ρ 5, ρ 6, ρ 7, ρ 8, ρ 9, ρ 10, ρ 11, ρ 12] (γ 0) 0 0 (γ 1)
  have hD : en72 (γ 0) (1, [ρ 0, ρ 13, ρ 14], γ 1) = .inr (0, 0, γ 1) := by
    unfold en72
    refine (if_neg (show ¬ (1 : Nat) = 0 by decide)).trans ?_
    refine (if_pos (show (1 : Nat) = 1 by decide)).trans ?_
    refine (zLet_eq (show _ = γ 1 from rfl)).trans ?_
    refine (zLet_eq (show _ = ρ 0 from rfl)).trans ?_
    refine (zLet_eq (show _ = ρ 13 from rfl)).trans ?_
    refine (zLet_eq m12).trans ?_
    refine (zLet_eq m13).trans ?_
    refine (if_pos (show ρ 13 < 0 by omega)).trans ?_
    rfl
  exact zGoo_aend hJ hD
theorem vn72a1_1 {S : Nat → zSpc} (hS62 : ∀ x g o v gz, S 62 x g o v gz → sn62 x g o v gz) (hS63 : ∀ x g o v gz, S 63 x g o v gz → sn63 x g o v gz) (hS64 : ∀ x g o v gz, S 64 x g o v gz → sn64 x g o v gz) (hS65 : ∀ x g o v gz, S 65 x g o v gz → sn65 x g o v gz) (hS68 : ∀ x g o v gz, S 68 x g o v gz → sn68 x g o v gz) {a : List Int} {g : rHp} : ∀ (ρ : Nat → Int) (γ : Nat → rHp), jn72 a g 1 (zAg (zNA a72_ 1) ρ) (γ 1) → zO 13 S a g q72a1_1 ρ γ → zGl (fun i vs g1 => jn72 a g i vs g1) (sn72 a g) q72a1_1 ρ γ := by
  intro ρ γ hJ h
  obtain ⟨ha, hg, hr, hf, hm, hc, hl⟩ := h
  have ha : a = [ρ 0, ρ 1, ρ 2, ρ 3, ρ 4, ρ 5, ρ 6, ρ 7, ρ 8, ρ 9, ρ 10, ρ 11, ρ 12] := ha
  subst ha
  subst hg
  have hJ : jn72 [ρ 0, ρ 1, ρ 2, ρ 3, ρ 4, ρ 5, ρ 6, ρ 7, ρ 8, ρ 9, ρ 10, ρ 11, ρ 12] (γ 0) 1 [ρ 0, ρ 1, ρ 2, ρ 3, ρ 4, ρ 5, ρ 6, ρ 7, ρ 8, ρ 9, ρ 10, ρ 11, ρ 12, ρ 13, ρ 14, ρ 15, ρ 16, ρ 17] (γ 1) := hJ
  obtain ⟨r0, r1, r2, r3, r4, r5, r6, r7, r8, r9, r10, r11, r12, r13, r14, r15, r16, r17, -⟩ := hr
  have r0 : (0 : Int) ≤ ρ 0 ∧ ρ 0 ≤ 59 := r0
  have r1 : (0 : Int) ≤ ρ 1 ∧ ρ 1 ≤ 8 := r1
  have r2 : (1 : Int) ≤ ρ 2 ∧ ρ 2 ≤ 60 := r2
  have r3 : (0 : Int) ≤ ρ 3 ∧ ρ 3 ≤ 50001 := r3
  have r4 : (0 : Int) ≤ ρ 4 ∧ ρ 4 ≤ 0 := r4
  have r5 : (0 : Int) ≤ ρ 5 ∧ ρ 5 ≤ 50001 := r5
  have r6 : (0 : Int) ≤ ρ 6 ∧ ρ 6 ≤ 20 := r6
  have r7 : (0 : Int) ≤ ρ 7 ∧ ρ 7 ≤ 61 := r7
  have r8 : (0 : Int) ≤ ρ 8 ∧ ρ 8 ≤ 2000 := r8
  have r9 : ((-2147483648) : Int) ≤ ρ 9 ∧ ρ 9 ≤ 2147483647 := r9
  have r10 : (0 : Int) ≤ ρ 10 ∧ ρ 10 ≤ 2000 := r10
  have r11 : (0 : Int) ≤ ρ 11 ∧ ρ 11 ≤ 2000 := r11
  have r12 : (0 : Int) ≤ ρ 12 ∧ ρ 12 ≤ 2000 := r12
  have r13 : (0 : Int) ≤ ρ 13 ∧ ρ 13 ≤ 7 := r13
  have r14 : (0 : Int) ≤ ρ 14 ∧ ρ 14 ≤ 1999 := r14
  have r15 : (0 : Int) ≤ ρ 15 ∧ ρ 15 ≤ 50000 := r15
  have r16 : (1 : Int) ≤ ρ 16 ∧ ρ 16 ≤ 3 := r16
  have r17 : (0 : Int) ≤ ρ 17 ∧ ρ 17 ≤ 2000 := r17
  obtain ⟨f0, f1, f2, f3, f4, f5, f6, -⟩ := hf
  have f0 : (0 : Int) ≤ ρ 4 + -ρ 3 + 50000 := f0
  have f1 : (0 : Int) ≤ ρ 2 + -ρ 0 + (-1) := f1
  have f2 : (0 : Int) ≤ -ρ 13 + ρ 1 + (-1) := f2
  have f3 : (0 : Int) ≤ ρ 17 + -ρ 8 := f3
  have f4 : (0 : Int) ≤ ρ 15 + -ρ 3 := f4
  have f5 : (0 : Int) ≤ ρ 14 + -ρ 0 := f5
  have f6 : (0 : Int) ≤ ρ 14 + -ρ 13 + (-1) := f6
  obtain ⟨m0, m1, m2, m3, m4, m5, m6, m7, m8, m9, m10, m11, m12, m13, m14, -⟩ := hm
  have m0 : γ 0 73 0 (ρ 0) = ρ 1 := m0
  have m1 : γ 0 15 0 32 = ρ 2 := m1
  have m2 : γ 0 15 0 72 = ρ 3 := m2
  have m3 : γ 0 15 0 77 = ρ 4 := m3
  have m4 : γ 0 15 0 94 = ρ 5 := m4
  have m5 : γ 0 15 0 13 = ρ 6 := m5
  have m6 : γ 0 15 0 44 = ρ 7 := m6
  have m7 : γ 0 15 0 71 = ρ 8 := m7
  have m8 : γ 0 15 0 76 = ρ 9 := m8
  have m9 : γ 0 15 0 81 = ρ 10 := m9
  have m10 : γ 0 15 0 82 = ρ 11 := m10
  have m11 : γ 0 15 0 83 = ρ 12 := m11
  have m12 : γ 1 15 0 72 = ρ 15 := m12
  have m13 : γ 1 15 0 77 = ρ 16 := m13
  have m14 : γ 1 15 0 71 = ρ 17 := m14
  obtain ⟨-, c1⟩ := hc
  have c1 : ∀ (G : Nat) (k j : Int), ¬ rMdP m48_ G j → γ 1 G k j = γ 0 G k j := c1
  show sn72 [ρ 0, ρ 1, ρ 2, ρ 3, ρ 4, ρ 5, ρ 6, ρ 7, ρ 8, ρ 9, ρ 10, ρ 11, ρ 12] (γ 0) 0 0 (γ 1)
  have hD : en72 (γ 0) (1, [ρ 0, ρ 13, ρ 14], γ 1) = .inr (0, 0, γ 1) := by
    unfold en72
    refine (if_neg (show ¬ (1 : Nat) = 0 by decide)).trans ?_
    refine (if_pos (show (1 : Nat) = 1 by decide)).trans ?_
    refine (zLet_eq (show _ = γ 1 from rfl)).trans ?_
    refine (zLet_eq (show _ = ρ 0 from rfl)).trans ?_
    refine (zLet_eq (show _ = ρ 13 from rfl)).trans ?_
    refine (zLet_eq m12).trans ?_
    refine (zLet_eq m13).trans ?_
    refine (if_neg (show ¬ (ρ 13 < 0) by omega)).trans ?_
    refine (if_pos (show ρ 16 ≠ 0 by omega)).trans ?_
    rfl
  exact zGoo_aend hJ hD
theorem vn72a1_2 {S : Nat → zSpc} (hS62 : ∀ x g o v gz, S 62 x g o v gz → sn62 x g o v gz) (hS63 : ∀ x g o v gz, S 63 x g o v gz → sn63 x g o v gz) (hS64 : ∀ x g o v gz, S 64 x g o v gz → sn64 x g o v gz) (hS65 : ∀ x g o v gz, S 65 x g o v gz → sn65 x g o v gz) (hS68 : ∀ x g o v gz, S 68 x g o v gz → sn68 x g o v gz) {a : List Int} {g : rHp} : ∀ (ρ : Nat → Int) (γ : Nat → rHp), jn72 a g 1 (zAg (zNA a72_ 1) ρ) (γ 1) → zO 13 S a g q72a1_2 ρ γ → zGl (fun i vs g1 => jn72 a g i vs g1) (sn72 a g) q72a1_2 ρ γ := by
  intro ρ γ hJ h
  obtain ⟨ha, hg, hr, hf, hm, hc, hl⟩ := h
  have ha : a = [ρ 0, ρ 1, ρ 2, ρ 3, ρ 4, ρ 5, ρ 6, ρ 7, ρ 8, ρ 9, ρ 10, ρ 11, ρ 12] := ha
  subst ha
  subst hg
  have hJ : jn72 [ρ 0, ρ 1, ρ 2, ρ 3, ρ 4, ρ 5, ρ 6, ρ 7, ρ 8, ρ 9, ρ 10, ρ 11, ρ 12] (γ 0) 1 [ρ 0, ρ 1, ρ 2, ρ 3, ρ 4, ρ 5, ρ 6, ρ 7, ρ 8, ρ 9, ρ 10, ρ 11, ρ 12, ρ 13, ρ 14, ρ 15, ρ 16, ρ 17] (γ 1) := hJ
  obtain ⟨r0, r1, r2, r3, r4, r5, r6, r7, r8, r9, r10, r11, r12, r13, r14, r15, r16, r17, r18, r19, r20, r21, -⟩ := hr
  have r0 : (0 : Int) ≤ ρ 0 ∧ ρ 0 ≤ 59 := r0
  have r1 : (0 : Int) ≤ ρ 1 ∧ ρ 1 ≤ 8 := r1
  have r2 : (1 : Int) ≤ ρ 2 ∧ ρ 2 ≤ 60 := r2
  have r3 : (0 : Int) ≤ ρ 3 ∧ ρ 3 ≤ 50001 := r3
  have r4 : (0 : Int) ≤ ρ 4 ∧ ρ 4 ≤ 0 := r4
  have r5 : (0 : Int) ≤ ρ 5 ∧ ρ 5 ≤ 50001 := r5
  have r6 : (0 : Int) ≤ ρ 6 ∧ ρ 6 ≤ 20 := r6
  have r7 : (0 : Int) ≤ ρ 7 ∧ ρ 7 ≤ 61 := r7
  have r8 : (0 : Int) ≤ ρ 8 ∧ ρ 8 ≤ 2000 := r8
  have r9 : ((-2147483648) : Int) ≤ ρ 9 ∧ ρ 9 ≤ 2147483647 := r9
  have r10 : (0 : Int) ≤ ρ 10 ∧ ρ 10 ≤ 2000 := r10
  have r11 : (0 : Int) ≤ ρ 11 ∧ ρ 11 ≤ 2000 := r11
  have r12 : (0 : Int) ≤ ρ 12 ∧ ρ 12 ≤ 2000 := r12
  have r13 : (0 : Int) ≤ ρ 13 ∧ ρ 13 ≤ 7 := r13
  have r14 : (0 : Int) ≤ ρ 14 ∧ ρ 14 ≤ 1999 := r14
  have r15 : (0 : Int) ≤ ρ 15 ∧ ρ 15 ≤ 49999 := r15
  have r16 : (0 : Int) ≤ ρ 16 ∧ ρ 16 ≤ 0 := r16
  have r17 : (0 : Int) ≤ ρ 17 ∧ ρ 17 ≤ 2000 := r17
  have r18 : (0 : Int) ≤ ρ 18 ∧ ρ 18 ≤ 0 := r18
  have r19 : (0 : Int) ≤ ρ 19 ∧ ρ 19 ≤ 1999 := r19
  have r20 : ((-1) : Int) ≤ ρ 20 ∧ ρ 20 ≤ 1999 := r20
  have r21 : (0 : Int) ≤ ρ 21 ∧ ρ 21 ≤ 1999 := r21
  obtain ⟨f0, f1, f2, f3, f4, f5, f6, f7, f8, -⟩ := hf
  have f0 : (0 : Int) ≤ ρ 17 + -ρ 10 := f0
  have f1 : (0 : Int) ≤ -ρ 21 + ρ 10 + (-1) := f1
  have f2 : (0 : Int) ≤ -ρ 13 + ρ 1 + (-1) := f2
  have f3 : (0 : Int) ≤ ρ 4 + -ρ 3 + 50000 := f3
  have f4 : (0 : Int) ≤ ρ 2 + -ρ 0 + (-1) := f4
  have f5 : (0 : Int) ≤ ρ 17 + -ρ 8 := f5
  have f6 : (0 : Int) ≤ ρ 15 + -ρ 3 := f6
  have f7 : (0 : Int) ≤ ρ 14 + -ρ 0 := f7
  have f8 : (0 : Int) ≤ ρ 14 + -ρ 13 + (-1) := f8
  obtain ⟨m0, m1, m2, m3, m4, m5, m6, m7, m8, m9, m10, m11, m12, m13, m14, m15, m16, m17, -⟩ := hm
  have m0 : γ 0 73 0 (ρ 0) = ρ 1 := m0
  have m1 : γ 0 15 0 32 = ρ 2 := m1
  have m2 : γ 0 15 0 72 = ρ 3 := m2
  have m3 : γ 0 15 0 77 = ρ 4 := m3
  have m4 : γ 0 15 0 94 = ρ 5 := m4
  have m5 : γ 0 15 0 13 = ρ 6 := m5
  have m6 : γ 0 15 0 44 = ρ 7 := m6
  have m7 : γ 0 15 0 71 = ρ 8 := m7
  have m8 : γ 0 15 0 76 = ρ 9 := m8
  have m9 : γ 0 15 0 81 = ρ 10 := m9
  have m10 : γ 0 15 0 82 = ρ 11 := m10
  have m11 : γ 0 15 0 83 = ρ 12 := m11
  have m12 : γ 1 15 0 72 = ρ 15 := m12
  have m13 : γ 1 15 0 77 = ρ 16 := m13
  have m14 : γ 1 15 0 71 = ρ 17 := m14
  have m15 : γ 0 77 0 (ρ 13 + 8 * ρ 0) = ρ 18 := m15
  have m16 : γ 1 104 0 (ρ 13) = ρ 19 := m16
  have m17 : γ 1 96 0 (ρ 19) = ρ 20 := m17
  obtain ⟨⟨⟨⟨⟨-, c1⟩, c2⟩, c3⟩, c4⟩, c5⟩ := hc
  have c1 : ∀ (G : Nat) (k j : Int), ¬ rMdP m48_ G j → γ 1 G k j = γ 0 G k j := c1
  have c2 : ∀ (G : Nat) (k j : Int), ¬ rMdP m0_ G j → γ 2 G k j = γ 1 G k j := c2
  have c3 : γ 3 = rUp (γ 2) 15 0 72 (ρ 15 + 1) := c3
  have c4 : γ 4 = rUp (γ 3) 104 0 (ρ 13) (ρ 21) := c4
  have c5 : ∀ (G : Nat) (k j : Int), ¬ rMdP m42_ G j → γ 5 G k j = γ 4 G k j := c5
  obtain ⟨l0, l1, -⟩ := hl
  have l0 : sn62 [ρ 0, ρ 13, ρ 20, ρ 10, ρ 17, ρ 11, ρ 12] (γ 1) 0 (ρ 21) (γ 2) := hS62 _ _ _ _ _ l0
  have l1 : sn63 [ρ 13 + 8 * ρ 0, ρ 21] (γ 4) 0 0 (γ 5) := hS63 _ _ _ _ _ l1
  show jn72 [ρ 0, ρ 1, ρ 2, ρ 3, ρ 4, ρ 5, ρ 6, ρ 7, ρ 8, ρ 9, ρ 10, ρ 11, ρ 12] (γ 0) 0 [ρ 0, ρ 1, ρ 2, ρ 3, ρ 4, ρ 5, ρ 6, ρ 7, ρ 8, ρ 9, ρ 10, ρ 11, ρ 12, ρ 13 + 1, ρ 15 + 1, ρ 16, ρ 17] (γ 5)
  have hD : en72 (γ 0) (1, [ρ 0, ρ 13, ρ 14], γ 1) = .inl (0, [ρ 0, ρ 13 + 1], γ 5) := by
    unfold en72
    refine (if_neg (show ¬ (1 : Nat) = 0 by decide)).trans ?_
    refine (if_pos (show (1 : Nat) = 1 by decide)).trans ?_
    refine (zLet_eq (show _ = γ 1 from rfl)).trans ?_
    refine (zLet_eq (show _ = ρ 0 from rfl)).trans ?_
    refine (zLet_eq (show _ = ρ 13 from rfl)).trans ?_
    refine (zLet_eq m12).trans ?_
    refine (zLet_eq m13).trans ?_
    refine (if_neg (show ¬ (ρ 13 < 0) by omega)).trans ?_
    refine (if_neg (show ¬ (ρ 16 ≠ 0) by omega)).trans ?_
    refine (zLet_eq m15).trans ?_
    refine (if_pos (show 0 ≤ -ρ 18 + 4 by omega)).trans ?_
    refine (if_pos (show ρ 18 = 0 by omega)).trans ?_
    refine (zLet_eq m16).trans ?_
    refine (zLet_eq m17).trans ?_
    refine (zLet_eq (show fn62 [ρ 0, ρ 13, ρ 20] (γ 1) = (0, ρ 21, γ 2) from l0.symm)).trans ?_
    refine (zLet_eq (show _ = γ 2 from rfl)).trans ?_
    refine (zLet_eq (show _ = ρ 21 from rfl)).trans ?_
    refine (if_pos (show ρ 21 ≥ 0 by omega)).trans ?_
    refine (zLet_eq c3.symm).trans ?_
    refine (if_pos (show ρ 15 + 1 ≤ 50000 by omega)).trans ?_
    refine (zLet_eq c4.symm).trans ?_
    refine (zLet_eq (show fn63 [ρ 13 + 8 * ρ 0, ρ 21] (γ 4) = (0, 0, γ 5) from l1.symm)).trans ?_
    refine (zLet_eq (show _ = γ 5 from rfl)).trans ?_
    rfl
  exact zGoo_ato hJ hD
theorem vn72a1_3 {S : Nat → zSpc} (hS62 : ∀ x g o v gz, S 62 x g o v gz → sn62 x g o v gz) (hS63 : ∀ x g o v gz, S 63 x g o v gz → sn63 x g o v gz) (hS64 : ∀ x g o v gz, S 64 x g o v gz → sn64 x g o v gz) (hS65 : ∀ x g o v gz, S 65 x g o v gz → sn65 x g o v gz) (hS68 : ∀ x g o v gz, S 68 x g o v gz → sn68 x g o v gz) {a : List Int} {g : rHp} : ∀ (ρ : Nat → Int) (γ : Nat → rHp), jn72 a g 1 (zAg (zNA a72_ 1) ρ) (γ 1) → zO 13 S a g q72a1_3 ρ γ → zGl (fun i vs g1 => jn72 a g i vs g1) (sn72 a g) q72a1_3 ρ γ := by
  intro ρ γ hJ h
  obtain ⟨ha, hg, hr, hf, hm, hc, hl⟩ := h
  have ha : a = [ρ 0, ρ 1, ρ 2, ρ 3, ρ 4, ρ 5, ρ 6, ρ 7, ρ 8, ρ 9, ρ 10, ρ 11, ρ 12] := ha
  subst ha
  subst hg
  have hJ : jn72 [ρ 0, ρ 1, ρ 2, ρ 3, ρ 4, ρ 5, ρ 6, ρ 7, ρ 8, ρ 9, ρ 10, ρ 11, ρ 12] (γ 0) 1 [ρ 0, ρ 1, ρ 2, ρ 3, ρ 4, ρ 5, ρ 6, ρ 7, ρ 8, ρ 9, ρ 10, ρ 11, ρ 12, ρ 13, ρ 14, ρ 15, ρ 16, ρ 17] (γ 1) := hJ
  obtain ⟨r0, r1, r2, r3, r4, r5, r6, r7, r8, r9, r10, r11, r12, r13, r14, r15, r16, r17, r18, r19, r20, r21, -⟩ := hr
  have r0 : (0 : Int) ≤ ρ 0 ∧ ρ 0 ≤ 59 := r0
  have r1 : (0 : Int) ≤ ρ 1 ∧ ρ 1 ≤ 8 := r1
  have r2 : (1 : Int) ≤ ρ 2 ∧ ρ 2 ≤ 60 := r2
  have r3 : (0 : Int) ≤ ρ 3 ∧ ρ 3 ≤ 50001 := r3
  have r4 : (0 : Int) ≤ ρ 4 ∧ ρ 4 ≤ 0 := r4
  have r5 : (0 : Int) ≤ ρ 5 ∧ ρ 5 ≤ 50001 := r5
  have r6 : (0 : Int) ≤ ρ 6 ∧ ρ 6 ≤ 20 := r6
  have r7 : (0 : Int) ≤ ρ 7 ∧ ρ 7 ≤ 61 := r7
  have r8 : (0 : Int) ≤ ρ 8 ∧ ρ 8 ≤ 2000 := r8
  have r9 : ((-2147483648) : Int) ≤ ρ 9 ∧ ρ 9 ≤ 2147483647 := r9
  have r10 : (0 : Int) ≤ ρ 10 ∧ ρ 10 ≤ 2000 := r10
  have r11 : (0 : Int) ≤ ρ 11 ∧ ρ 11 ≤ 2000 := r11
  have r12 : (0 : Int) ≤ ρ 12 ∧ ρ 12 ≤ 2000 := r12
  have r13 : (0 : Int) ≤ ρ 13 ∧ ρ 13 ≤ 7 := r13
  have r14 : (0 : Int) ≤ ρ 14 ∧ ρ 14 ≤ 1999 := r14
  have r15 : (50000 : Int) ≤ ρ 15 ∧ ρ 15 ≤ 50000 := r15
  have r16 : (0 : Int) ≤ ρ 16 ∧ ρ 16 ≤ 0 := r16
  have r17 : (0 : Int) ≤ ρ 17 ∧ ρ 17 ≤ 2000 := r17
  have r18 : (0 : Int) ≤ ρ 18 ∧ ρ 18 ≤ 0 := r18
  have r19 : (0 : Int) ≤ ρ 19 ∧ ρ 19 ≤ 1999 := r19
  have r20 : ((-1) : Int) ≤ ρ 20 ∧ ρ 20 ≤ 1999 := r20
  have r21 : (0 : Int) ≤ ρ 21 ∧ ρ 21 ≤ 1999 := r21
  obtain ⟨f0, f1, f2, f3, f4, f5, f6, f7, f8, -⟩ := hf
  have f0 : (0 : Int) ≤ ρ 17 + -ρ 10 := f0
  have f1 : (0 : Int) ≤ -ρ 21 + ρ 10 + (-1) := f1
  have f2 : (0 : Int) ≤ -ρ 13 + ρ 1 + (-1) := f2
  have f3 : (0 : Int) ≤ ρ 4 + -ρ 3 + 50000 := f3
  have f4 : (0 : Int) ≤ ρ 2 + -ρ 0 + (-1) := f4
  have f5 : (0 : Int) ≤ ρ 17 + -ρ 8 := f5
  have f6 : (0 : Int) ≤ ρ 15 + -ρ 3 := f6
  have f7 : (0 : Int) ≤ ρ 14 + -ρ 0 := f7
  have f8 : (0 : Int) ≤ ρ 14 + -ρ 13 + (-1) := f8
  obtain ⟨m0, m1, m2, m3, m4, m5, m6, m7, m8, m9, m10, m11, m12, m13, m14, m15, m16, m17, -⟩ := hm
  have m0 : γ 0 73 0 (ρ 0) = ρ 1 := m0
  have m1 : γ 0 15 0 32 = ρ 2 := m1
  have m2 : γ 0 15 0 72 = ρ 3 := m2
  have m3 : γ 0 15 0 77 = ρ 4 := m3
  have m4 : γ 0 15 0 94 = ρ 5 := m4
  have m5 : γ 0 15 0 13 = ρ 6 := m5
  have m6 : γ 0 15 0 44 = ρ 7 := m6
  have m7 : γ 0 15 0 71 = ρ 8 := m7
  have m8 : γ 0 15 0 76 = ρ 9 := m8
  have m9 : γ 0 15 0 81 = ρ 10 := m9
  have m10 : γ 0 15 0 82 = ρ 11 := m10
  have m11 : γ 0 15 0 83 = ρ 12 := m11
  have m12 : γ 1 15 0 72 = ρ 15 := m12
  have m13 : γ 1 15 0 77 = ρ 16 := m13
  have m14 : γ 1 15 0 71 = ρ 17 := m14
  have m15 : γ 0 77 0 (ρ 13 + 8 * ρ 0) = ρ 18 := m15
  have m16 : γ 1 104 0 (ρ 13) = ρ 19 := m16
  have m17 : γ 1 96 0 (ρ 19) = ρ 20 := m17
  obtain ⟨⟨⟨⟨⟨⟨-, c1⟩, c2⟩, c3⟩, c4⟩, c5⟩, c6⟩ := hc
  have c1 : ∀ (G : Nat) (k j : Int), ¬ rMdP m48_ G j → γ 1 G k j = γ 0 G k j := c1
  have c2 : ∀ (G : Nat) (k j : Int), ¬ rMdP m0_ G j → γ 2 G k j = γ 1 G k j := c2
  have c3 : γ 3 = rUp (γ 2) 15 0 72 (ρ 15 + 1) := c3
  have c4 : γ 4 = rUp (γ 3) 15 0 77 2 := c4
  have c5 : γ 5 = rUp (γ 4) 104 0 (ρ 13) (ρ 21) := c5
  have c6 : ∀ (G : Nat) (k j : Int), ¬ rMdP m42_ G j → γ 6 G k j = γ 5 G k j := c6
  obtain ⟨l0, l1, -⟩ := hl
  have l0 : sn62 [ρ 0, ρ 13, ρ 20, ρ 10, ρ 17, ρ 11, ρ 12] (γ 1) 0 (ρ 21) (γ 2) := hS62 _ _ _ _ _ l0
  have l1 : sn63 [ρ 13 + 8 * ρ 0, ρ 21] (γ 5) 0 0 (γ 6) := hS63 _ _ _ _ _ l1
  show jn72 [ρ 0, ρ 1, ρ 2, ρ 3, ρ 4, ρ 5, ρ 6, ρ 7, ρ 8, ρ 9, ρ 10, ρ 11, ρ 12] (γ 0) 0 [ρ 0, ρ 1, ρ 2, ρ 3, ρ 4, ρ 5, ρ 6, ρ 7, ρ 8, ρ 9, ρ 10, ρ 11, ρ 12, ρ 13 + 1, ρ 15 + 1, 2, ρ 17] (γ 6)
  have hD : en72 (γ 0) (1, [ρ 0, ρ 13, ρ 14], γ 1) = .inl (0, [ρ 0, ρ 13 + 1], γ 6) := by
    unfold en72
    refine (if_neg (show ¬ (1 : Nat) = 0 by decide)).trans ?_
    refine (if_pos (show (1 : Nat) = 1 by decide)).trans ?_
    refine (zLet_eq (show _ = γ 1 from rfl)).trans ?_
    refine (zLet_eq (show _ = ρ 0 from rfl)).trans ?_
    refine (zLet_eq (show _ = ρ 13 from rfl)).trans ?_
    refine (zLet_eq m12).trans ?_
    refine (zLet_eq m13).trans ?_
    refine (if_neg (show ¬ (ρ 13 < 0) by omega)).trans ?_
    refine (if_neg (show ¬ (ρ 16 ≠ 0) by omega)).trans ?_
    refine (zLet_eq m15).trans ?_
    refine (if_pos (show 0 ≤ -ρ 18 + 4 by omega)).trans ?_
    refine (if_pos (show ρ 18 = 0 by omega)).trans ?_
    refine (zLet_eq m16).trans ?_
    refine (zLet_eq m17).trans ?_
    refine (zLet_eq (show fn62 [ρ 0, ρ 13, ρ 20] (γ 1) = (0, ρ 21, γ 2) from l0.symm)).trans ?_
    refine (zLet_eq (show _ = γ 2 from rfl)).trans ?_
    refine (zLet_eq (show _ = ρ 21 from rfl)).trans ?_
    refine (if_pos (show ρ 21 ≥ 0 by omega)).trans ?_
    refine (zLet_eq c3.symm).trans ?_
    refine (if_neg (show ¬ (ρ 15 + 1 ≤ 50000) by omega)).trans ?_
    refine (zLet_eq c4.symm).trans ?_
    refine (zLet_eq c5.symm).trans ?_
    refine (zLet_eq (show fn63 [ρ 13 + 8 * ρ 0, ρ 21] (γ 5) = (0, 0, γ 6) from l1.symm)).trans ?_
    refine (zLet_eq (show _ = γ 6 from rfl)).trans ?_
    rfl
  exact zGoo_ato hJ hD
theorem vn72a1_4 {S : Nat → zSpc} (hS62 : ∀ x g o v gz, S 62 x g o v gz → sn62 x g o v gz) (hS63 : ∀ x g o v gz, S 63 x g o v gz → sn63 x g o v gz) (hS64 : ∀ x g o v gz, S 64 x g o v gz → sn64 x g o v gz) (hS65 : ∀ x g o v gz, S 65 x g o v gz → sn65 x g o v gz) (hS68 : ∀ x g o v gz, S 68 x g o v gz → sn68 x g o v gz) {a : List Int} {g : rHp} : ∀ (ρ : Nat → Int) (γ : Nat → rHp), jn72 a g 1 (zAg (zNA a72_ 1) ρ) (γ 1) → zO 13 S a g q72a1_4 ρ γ → zGl (fun i vs g1 => jn72 a g i vs g1) (sn72 a g) q72a1_4 ρ γ := by
  intro ρ γ hJ h
  obtain ⟨ha, hg, hr, hf, hm, hc, hl⟩ := h
  have ha : a = [ρ 0, ρ 1, ρ 2, ρ 3, ρ 4, ρ 5, ρ 6, ρ 7, ρ 8, ρ 9, ρ 10, ρ 11, ρ 12] := ha
  subst ha
  subst hg
  have hJ : jn72 [ρ 0, ρ 1, ρ 2, ρ 3, ρ 4, ρ 5, ρ 6, ρ 7, ρ 8, ρ 9, ρ 10, ρ 11, ρ 12] (γ 0) 1 [ρ 0, ρ 1, ρ 2, ρ 3, ρ 4, ρ 5, ρ 6, ρ 7, ρ 8, ρ 9, ρ 10, ρ 11, ρ 12, ρ 13, ρ 14, ρ 15, ρ 16, ρ 17] (γ 1) := hJ
  obtain ⟨r0, r1, r2, r3, r4, r5, r6, r7, r8, r9, r10, r11, r12, r13, r14, r15, r16, r17, r18, r19, r20, r21, -⟩ := hr
  have r0 : (0 : Int) ≤ ρ 0 ∧ ρ 0 ≤ 59 := r0
  have r1 : (0 : Int) ≤ ρ 1 ∧ ρ 1 ≤ 8 := r1
  have r2 : (1 : Int) ≤ ρ 2 ∧ ρ 2 ≤ 60 := r2
  have r3 : (0 : Int) ≤ ρ 3 ∧ ρ 3 ≤ 50001 := r3
  have r4 : (0 : Int) ≤ ρ 4 ∧ ρ 4 ≤ 0 := r4
  have r5 : (0 : Int) ≤ ρ 5 ∧ ρ 5 ≤ 50001 := r5
  have r6 : (0 : Int) ≤ ρ 6 ∧ ρ 6 ≤ 20 := r6
  have r7 : (0 : Int) ≤ ρ 7 ∧ ρ 7 ≤ 61 := r7
  have r8 : (0 : Int) ≤ ρ 8 ∧ ρ 8 ≤ 2000 := r8
  have r9 : ((-2147483648) : Int) ≤ ρ 9 ∧ ρ 9 ≤ 2147483647 := r9
  have r10 : (0 : Int) ≤ ρ 10 ∧ ρ 10 ≤ 2000 := r10
  have r11 : (0 : Int) ≤ ρ 11 ∧ ρ 11 ≤ 2000 := r11
  have r12 : (0 : Int) ≤ ρ 12 ∧ ρ 12 ≤ 2000 := r12
  have r13 : (0 : Int) ≤ ρ 13 ∧ ρ 13 ≤ 7 := r13
  have r14 : (0 : Int) ≤ ρ 14 ∧ ρ 14 ≤ 1999 := r14
  have r15 : (0 : Int) ≤ ρ 15 ∧ ρ 15 ≤ 50000 := r15
  have r16 : (0 : Int) ≤ ρ 16 ∧ ρ 16 ≤ 0 := r16
  have r17 : (0 : Int) ≤ ρ 17 ∧ ρ 17 ≤ 2000 := r17
  have r18 : (0 : Int) ≤ ρ 18 ∧ ρ 18 ≤ 0 := r18
  have r19 : (0 : Int) ≤ ρ 19 ∧ ρ 19 ≤ 1999 := r19
  have r20 : ((-1) : Int) ≤ ρ 20 ∧ ρ 20 ≤ 1999 := r20
  have r21 : ((-1) : Int) ≤ ρ 21 ∧ ρ 21 ≤ (-1) := r21
  obtain ⟨f0, f1, f2, f3, f4, f5, f6, f7, f8, -⟩ := hf
  have f0 : (0 : Int) ≤ ρ 17 + -ρ 10 := f0
  have f1 : (0 : Int) ≤ -ρ 21 + ρ 10 + (-1) := f1
  have f2 : (0 : Int) ≤ -ρ 13 + ρ 1 + (-1) := f2
  have f3 : (0 : Int) ≤ ρ 4 + -ρ 3 + 50000 := f3
  have f4 : (0 : Int) ≤ ρ 2 + -ρ 0 + (-1) := f4
  have f5 : (0 : Int) ≤ ρ 17 + -ρ 8 := f5
  have f6 : (0 : Int) ≤ ρ 15 + -ρ 3 := f6
  have f7 : (0 : Int) ≤ ρ 14 + -ρ 0 := f7
  have f8 : (0 : Int) ≤ ρ 14 + -ρ 13 + (-1) := f8
  obtain ⟨m0, m1, m2, m3, m4, m5, m6, m7, m8, m9, m10, m11, m12, m13, m14, m15, m16, m17, -⟩ := hm
  have m0 : γ 0 73 0 (ρ 0) = ρ 1 := m0
  have m1 : γ 0 15 0 32 = ρ 2 := m1
  have m2 : γ 0 15 0 72 = ρ 3 := m2
  have m3 : γ 0 15 0 77 = ρ 4 := m3
  have m4 : γ 0 15 0 94 = ρ 5 := m4
  have m5 : γ 0 15 0 13 = ρ 6 := m5
  have m6 : γ 0 15 0 44 = ρ 7 := m6
  have m7 : γ 0 15 0 71 = ρ 8 := m7
  have m8 : γ 0 15 0 76 = ρ 9 := m8
  have m9 : γ 0 15 0 81 = ρ 10 := m9
  have m10 : γ 0 15 0 82 = ρ 11 := m10
  have m11 : γ 0 15 0 83 = ρ 12 := m11
  have m12 : γ 1 15 0 72 = ρ 15 := m12
  have m13 : γ 1 15 0 77 = ρ 16 := m13
  have m14 : γ 1 15 0 71 = ρ 17 := m14
  have m15 : γ 0 77 0 (ρ 13 + 8 * ρ 0) = ρ 18 := m15
  have m16 : γ 1 104 0 (ρ 13) = ρ 19 := m16
  have m17 : γ 1 96 0 (ρ 19) = ρ 20 := m17
  obtain ⟨⟨-, c1⟩, c2⟩ := hc
  have c1 : ∀ (G : Nat) (k j : Int), ¬ rMdP m48_ G j → γ 1 G k j = γ 0 G k j := c1
  have c2 : ∀ (G : Nat) (k j : Int), ¬ rMdP m0_ G j → γ 2 G k j = γ 1 G k j := c2
  obtain ⟨l0, -⟩ := hl
  have l0 : sn62 [ρ 0, ρ 13, ρ 20, ρ 10, ρ 17, ρ 11, ρ 12] (γ 1) 0 (ρ 21) (γ 2) := hS62 _ _ _ _ _ l0
  show jn72 [ρ 0, ρ 1, ρ 2, ρ 3, ρ 4, ρ 5, ρ 6, ρ 7, ρ 8, ρ 9, ρ 10, ρ 11, ρ 12] (γ 0) 1 [ρ 0, ρ 1, ρ 2, ρ 3, ρ 4, ρ 5, ρ 6, ρ 7, ρ 8, ρ 9, ρ 10, ρ 11, ρ 12, ρ 13 + (-1), ρ 13 + 8 * ρ 0, ρ 15, ρ 16, ρ 17] (γ 2)
  have hD : en72 (γ 0) (1, [ρ 0, ρ 13, ρ 14], γ 1) = .inl (1, [ρ 0, ρ 13 + (-1), ρ 13 + 8 * ρ 0], γ 2) := by
    unfold en72
    refine (if_neg (show ¬ (1 : Nat) = 0 by decide)).trans ?_
    refine (if_pos (show (1 : Nat) = 1 by decide)).trans ?_
    refine (zLet_eq (show _ = γ 1 from rfl)).trans ?_
    refine (zLet_eq (show _ = ρ 0 from rfl)).trans ?_
    refine (zLet_eq (show _ = ρ 13 from rfl)).trans ?_
    refine (zLet_eq m12).trans ?_
    refine (zLet_eq m13).trans ?_
    refine (if_neg (show ¬ (ρ 13 < 0) by omega)).trans ?_
    refine (if_neg (show ¬ (ρ 16 ≠ 0) by omega)).trans ?_
    refine (zLet_eq m15).trans ?_
    refine (if_pos (show 0 ≤ -ρ 18 + 4 by omega)).trans ?_
    refine (if_pos (show ρ 18 = 0 by omega)).trans ?_
    refine (zLet_eq m16).trans ?_
    refine (zLet_eq m17).trans ?_
    refine (zLet_eq (show fn62 [ρ 0, ρ 13, ρ 20] (γ 1) = (0, ρ 21, γ 2) from l0.symm)).trans ?_
    refine (zLet_eq (show _ = γ 2 from rfl)).trans ?_
    refine (zLet_eq (show _ = ρ 21 from rfl)).trans ?_
    refine (if_neg (show ¬ (ρ 21 ≥ 0) by omega)).trans ?_
    rfl
  exact zGoo_ato hJ hD
theorem vn72a1_5 {S : Nat → zSpc} (hS62 : ∀ x g o v gz, S 62 x g o v gz → sn62 x g o v gz) (hS63 : ∀ x g o v gz, S 63 x g o v gz → sn63 x g o v gz) (hS64 : ∀ x g o v gz, S 64 x g o v gz → sn64 x g o v gz) (hS65 : ∀ x g o v gz, S 65 x g o v gz → sn65 x g o v gz) (hS68 : ∀ x g o v gz, S 68 x g o v gz → sn68 x g o v gz) {a : List Int} {g : rHp} : ∀ (ρ : Nat → Int) (γ : Nat → rHp), jn72 a g 1 (zAg (zNA a72_ 1) ρ) (γ 1) → zO 13 S a g q72a1_5 ρ γ → zGl (fun i vs g1 => jn72 a g i vs g1) (sn72 a g) q72a1_5 ρ γ := by
  intro ρ γ hJ h
  obtain ⟨ha, hg, hr, hf, hm, hc, hl⟩ := h
  have ha : a = [ρ 0, ρ 1, ρ 2, ρ 3, ρ 4, ρ 5, ρ 6, ρ 7, ρ 8, ρ 9, ρ 10, ρ 11, ρ 12] := ha
  subst ha
  subst hg
  have hJ : jn72 [ρ 0, ρ 1, ρ 2, ρ 3, ρ 4, ρ 5, ρ 6, ρ 7, ρ 8, ρ 9, ρ 10, ρ 11, ρ 12] (γ 0) 1 [ρ 0, ρ 1, ρ 2, ρ 3, ρ 4, ρ 5, ρ 6, ρ 7, ρ 8, ρ 9, ρ 10, ρ 11, ρ 12, ρ 13, ρ 14, ρ 15, ρ 16, ρ 17] (γ 1) := hJ
  obtain ⟨r0, r1, r2, r3, r4, r5, r6, r7, r8, r9, r10, r11, r12, r13, r14, r15, r16, r17, r18, -⟩ := hr
  have r0 : (0 : Int) ≤ ρ 0 ∧ ρ 0 ≤ 59 := r0
  have r1 : (0 : Int) ≤ ρ 1 ∧ ρ 1 ≤ 8 := r1
  have r2 : (1 : Int) ≤ ρ 2 ∧ ρ 2 ≤ 60 := r2
  have r3 : (0 : Int) ≤ ρ 3 ∧ ρ 3 ≤ 50001 := r3
  have r4 : (0 : Int) ≤ ρ 4 ∧ ρ 4 ≤ 0 := r4
  have r5 : (0 : Int) ≤ ρ 5 ∧ ρ 5 ≤ 50001 := r5
  have r6 : (0 : Int) ≤ ρ 6 ∧ ρ 6 ≤ 20 := r6
  have r7 : (0 : Int) ≤ ρ 7 ∧ ρ 7 ≤ 61 := r7
  have r8 : (0 : Int) ≤ ρ 8 ∧ ρ 8 ≤ 2000 := r8
  have r9 : ((-2147483648) : Int) ≤ ρ 9 ∧ ρ 9 ≤ 2147483647 := r9
  have r10 : (0 : Int) ≤ ρ 10 ∧ ρ 10 ≤ 2000 := r10
  have r11 : (0 : Int) ≤ ρ 11 ∧ ρ 11 ≤ 2000 := r11
  have r12 : (0 : Int) ≤ ρ 12 ∧ ρ 12 ≤ 2000 := r12
  have r13 : (0 : Int) ≤ ρ 13 ∧ ρ 13 ≤ 7 := r13
  have r14 : (0 : Int) ≤ ρ 14 ∧ ρ 14 ≤ 1999 := r14
  have r15 : (0 : Int) ≤ ρ 15 ∧ ρ 15 ≤ 50000 := r15
  have r16 : (0 : Int) ≤ ρ 16 ∧ ρ 16 ≤ 0 := r16
  have r17 : (0 : Int) ≤ ρ 17 ∧ ρ 17 ≤ 2000 := r17
  have r18 : (1 : Int) ≤ ρ 18 ∧ ρ 18 ≤ 4 := r18
  obtain ⟨f0, f1, f2, f3, f4, f5, f6, -⟩ := hf
  have f0 : (0 : Int) ≤ -ρ 13 + ρ 1 + (-1) := f0
  have f1 : (0 : Int) ≤ ρ 4 + -ρ 3 + 50000 := f1
  have f2 : (0 : Int) ≤ ρ 2 + -ρ 0 + (-1) := f2
  have f3 : (0 : Int) ≤ ρ 17 + -ρ 8 := f3
  have f4 : (0 : Int) ≤ ρ 15 + -ρ 3 := f4
  have f5 : (0 : Int) ≤ ρ 14 + -ρ 0 := f5
  have f6 : (0 : Int) ≤ ρ 14 + -ρ 13 + (-1) := f6
  obtain ⟨m0, m1, m2, m3, m4, m5, m6, m7, m8, m9, m10, m11, m12, m13, m14, m15, -⟩ := hm
  have m0 : γ 0 73 0 (ρ 0) = ρ 1 := m0
  have m1 : γ 0 15 0 32 = ρ 2 := m1
  have m2 : γ 0 15 0 72 = ρ 3 := m2
  have m3 : γ 0 15 0 77 = ρ 4 := m3
  have m4 : γ 0 15 0 94 = ρ 5 := m4
  have m5 : γ 0 15 0 13 = ρ 6 := m5
  have m6 : γ 0 15 0 44 = ρ 7 := m6
  have m7 : γ 0 15 0 71 = ρ 8 := m7
  have m8 : γ 0 15 0 76 = ρ 9 := m8
  have m9 : γ 0 15 0 81 = ρ 10 := m9
  have m10 : γ 0 15 0 82 = ρ 11 := m10
  have m11 : γ 0 15 0 83 = ρ 12 := m11
  have m12 : γ 1 15 0 72 = ρ 15 := m12
  have m13 : γ 1 15 0 77 = ρ 16 := m13
  have m14 : γ 1 15 0 71 = ρ 17 := m14
  have m15 : γ 0 77 0 (ρ 13 + 8 * ρ 0) = ρ 18 := m15
  obtain ⟨-, c1⟩ := hc
  have c1 : ∀ (G : Nat) (k j : Int), ¬ rMdP m48_ G j → γ 1 G k j = γ 0 G k j := c1
  show jn72 [ρ 0, ρ 1, ρ 2, ρ 3, ρ 4, ρ 5, ρ 6, ρ 7, ρ 8, ρ 9, ρ 10, ρ 11, ρ 12] (γ 0) 1 [ρ 0, ρ 1, ρ 2, ρ 3, ρ 4, ρ 5, ρ 6, ρ 7, ρ 8, ρ 9, ρ 10, ρ 11, ρ 12, ρ 13 + (-1), ρ 13 + 8 * ρ 0, ρ 15, ρ 16, ρ 17] (γ 1)
  have hD : en72 (γ 0) (1, [ρ 0, ρ 13, ρ 14], γ 1) = .inl (1, [ρ 0, ρ 13 + (-1), ρ 13 + 8 * ρ 0], γ 1) := by
    unfold en72
    refine (if_neg (show ¬ (1 : Nat) = 0 by decide)).trans ?_
    refine (if_pos (show (1 : Nat) = 1 by decide)).trans ?_
    refine (zLet_eq (show _ = γ 1 from rfl)).trans ?_
    refine (zLet_eq (show _ = ρ 0 from rfl)).trans ?_
    refine (zLet_eq (show _ = ρ 13 from rfl)).trans ?_
    refine (zLet_eq m12).trans ?_
    refine (zLet_eq m13).trans ?_
    refine (if_neg (show ¬ (ρ 13 < 0) by omega)).trans ?_
    refine (if_neg (show ¬ (ρ 16 ≠ 0) by omega)).trans ?_
    refine (zLet_eq m15).trans ?_
    refine (if_pos (show 0 ≤ -ρ 18 + 4 by omega)).trans ?_
    refine (if_neg (show ¬ (ρ 18 = 0) by omega)).trans ?_
    rfl
  exact zGoo_ato hJ hD
theorem vn72a1_6 {S : Nat → zSpc} (hS62 : ∀ x g o v gz, S 62 x g o v gz → sn62 x g o v gz) (hS63 : ∀ x g o v gz, S 63 x g o v gz → sn63 x g o v gz) (hS64 : ∀ x g o v gz, S 64 x g o v gz → sn64 x g o v gz) (hS65 : ∀ x g o v gz, S 65 x g o v gz → sn65 x g o v gz) (hS68 : ∀ x g o v gz, S 68 x g o v gz → sn68 x g o v gz) {a : List Int} {g : rHp} : ∀ (ρ : Nat → Int) (γ : Nat → rHp), jn72 a g 1 (zAg (zNA a72_ 1) ρ) (γ 1) → zO 13 S a g q72a1_6 ρ γ → zGl (fun i vs g1 => jn72 a g i vs g1) (sn72 a g) q72a1_6 ρ γ := by
  intro ρ γ hJ h
  obtain ⟨ha, hg, hr, hf, hm, hc, hl⟩ := h
  have ha : a = [ρ 0, ρ 1, ρ 2, ρ 3, ρ 4, ρ 5, ρ 6, ρ 7, ρ 8, ρ 9, ρ 10, ρ 11, ρ 12] := ha
  subst ha
  subst hg
  have hJ : jn72 [ρ 0, ρ 1, ρ 2, ρ 3, ρ 4, ρ 5, ρ 6, ρ 7, ρ 8, ρ 9, ρ 10, ρ 11, ρ 12] (γ 0) 1 [ρ 0, ρ 1, ρ 2, ρ 3, ρ 4, ρ 5, ρ 6, ρ 7, ρ 8, ρ 9, ρ 10, ρ 11, ρ 12, ρ 13, ρ 14, ρ 15, ρ 16, ρ 17] (γ 1) := hJ
  obtain ⟨r0, r1, r2, r3, r4, r5, r6, r7, r8, r9, r10, r11, r12, r13, r14, r15, r16, r17, r18, -⟩ := hr
  have r0 : (0 : Int) ≤ ρ 0 ∧ ρ 0 ≤ 59 := r0
  have r1 : (0 : Int) ≤ ρ 1 ∧ ρ 1 ≤ 8 := r1
  have r2 : (1 : Int) ≤ ρ 2 ∧ ρ 2 ≤ 60 := r2
  have r3 : (0 : Int) ≤ ρ 3 ∧ ρ 3 ≤ 50001 := r3
  have r4 : (0 : Int) ≤ ρ 4 ∧ ρ 4 ≤ 0 := r4
  have r5 : (0 : Int) ≤ ρ 5 ∧ ρ 5 ≤ 50001 := r5
  have r6 : (0 : Int) ≤ ρ 6 ∧ ρ 6 ≤ 20 := r6
  have r7 : (0 : Int) ≤ ρ 7 ∧ ρ 7 ≤ 61 := r7
  have r8 : (0 : Int) ≤ ρ 8 ∧ ρ 8 ≤ 2000 := r8
  have r9 : ((-2147483648) : Int) ≤ ρ 9 ∧ ρ 9 ≤ 2147483647 := r9
  have r10 : (0 : Int) ≤ ρ 10 ∧ ρ 10 ≤ 2000 := r10
  have r11 : (0 : Int) ≤ ρ 11 ∧ ρ 11 ≤ 2000 := r11
  have r12 : (0 : Int) ≤ ρ 12 ∧ ρ 12 ≤ 2000 := r12
  have r13 : (0 : Int) ≤ ρ 13 ∧ ρ 13 ≤ 7 := r13
  have r14 : (0 : Int) ≤ ρ 14 ∧ ρ 14 ≤ 1999 := r14
  have r15 : (0 : Int) ≤ ρ 15 ∧ ρ 15 ≤ 50000 := r15
  have r16 : (0 : Int) ≤ ρ 16 ∧ ρ 16 ≤ 0 := r16
  have r17 : (0 : Int) ≤ ρ 17 ∧ ρ 17 ≤ 2000 := r17
  have r18 : (5 : Int) ≤ ρ 18 ∧ ρ 18 ≤ 7 := r18
  obtain ⟨f0, f1, f2, f3, f4, f5, f6, -⟩ := hf
  have f0 : (0 : Int) ≤ -ρ 13 + ρ 1 + (-1) := f0
  have f1 : (0 : Int) ≤ ρ 4 + -ρ 3 + 50000 := f1
  have f2 : (0 : Int) ≤ ρ 2 + -ρ 0 + (-1) := f2
  have f3 : (0 : Int) ≤ ρ 17 + -ρ 8 := f3
  have f4 : (0 : Int) ≤ ρ 15 + -ρ 3 := f4
  have f5 : (0 : Int) ≤ ρ 14 + -ρ 0 := f5
  have f6 : (0 : Int) ≤ ρ 14 + -ρ 13 + (-1) := f6
  obtain ⟨m0, m1, m2, m3, m4, m5, m6, m7, m8, m9, m10, m11, m12, m13, m14, m15, -⟩ := hm
  have m0 : γ 0 73 0 (ρ 0) = ρ 1 := m0
  have m1 : γ 0 15 0 32 = ρ 2 := m1
  have m2 : γ 0 15 0 72 = ρ 3 := m2
  have m3 : γ 0 15 0 77 = ρ 4 := m3
  have m4 : γ 0 15 0 94 = ρ 5 := m4
  have m5 : γ 0 15 0 13 = ρ 6 := m5
  have m6 : γ 0 15 0 44 = ρ 7 := m6
  have m7 : γ 0 15 0 71 = ρ 8 := m7
  have m8 : γ 0 15 0 76 = ρ 9 := m8
  have m9 : γ 0 15 0 81 = ρ 10 := m9
  have m10 : γ 0 15 0 82 = ρ 11 := m10
  have m11 : γ 0 15 0 83 = ρ 12 := m11
  have m12 : γ 1 15 0 72 = ρ 15 := m12
  have m13 : γ 1 15 0 77 = ρ 16 := m13
  have m14 : γ 1 15 0 71 = ρ 17 := m14
  have m15 : γ 0 77 0 (ρ 13 + 8 * ρ 0) = ρ 18 := m15
  obtain ⟨-, c1⟩ := hc
  have c1 : ∀ (G : Nat) (k j : Int), ¬ rMdP m48_ G j → γ 1 G k j = γ 0 G k j := c1
  show jn72 [ρ 0, ρ 1, ρ 2, ρ 3, ρ 4, ρ 5, ρ 6, ρ 7, ρ 8, ρ 9, ρ 10, ρ 11, ρ 12] (γ 0) 1 [ρ 0, ρ 1, ρ 2, ρ 3, ρ 4, ρ 5, ρ 6, ρ 7, ρ 8, ρ 9, ρ 10, ρ 11, ρ 12, ρ 13 + (-1), ρ 13 + 8 * ρ 0, ρ 15, ρ 16, ρ 17] (γ 1)
  have hD : en72 (γ 0) (1, [ρ 0, ρ 13, ρ 14], γ 1) = .inl (1, [ρ 0, ρ 13 + (-1), ρ 13 + 8 * ρ 0], γ 1) := by
    unfold en72
    refine (if_neg (show ¬ (1 : Nat) = 0 by decide)).trans ?_
    refine (if_pos (show (1 : Nat) = 1 by decide)).trans ?_
    refine (zLet_eq (show _ = γ 1 from rfl)).trans ?_
    refine (zLet_eq (show _ = ρ 0 from rfl)).trans ?_
    refine (zLet_eq (show _ = ρ 13 from rfl)).trans ?_
    refine (zLet_eq m12).trans ?_
    refine (zLet_eq m13).trans ?_
    refine (if_neg (show ¬ (ρ 13 < 0) by omega)).trans ?_
    refine (if_neg (show ¬ (ρ 16 ≠ 0) by omega)).trans ?_
    refine (zLet_eq m15).trans ?_
    refine (if_neg (show ¬ (0 ≤ -ρ 18 + 4) by omega)).trans ?_
    rfl
  exact zGoo_ato hJ hD
theorem yn72 {S : Nat → zSpc} (hS62 : ∀ x g o v gz, S 62 x g o v gz → sn62 x g o v gz) (hS63 : ∀ x g o v gz, S 63 x g o v gz → sn63 x g o v gz) (hS64 : ∀ x g o v gz, S 64 x g o v gz → sn64 x g o v gz) (hS65 : ∀ x g o v gz, S 65 x g o v gz → sn65 x g o v gz) (hS68 : ∀ x g o v gz, S 68 x g o v gz → sn68 x g o v gz) : ∀ x g o v gz, zSem uW uT w72_.2.2.2.1 w72_.2.2.1.1.length S q72 (fun i => q72a.getD i []) (zNA a72_) x g o v gz → sn72 x g o v gz := by
  intro a g o v gz h
  exact zSem_all (l0 := q72) (las := q72a) (S := S) (J := (fun i vs g1 => jn72 a g i vs g1)) (P := sn72 a g) (fun _ => (show zAll _ [q72_0] from (zAll_c (vn72_0 hS62 hS63 hS64 hS65 hS68) zAll_n))) (fun _ => (show zAllI _ 0 [q72a0, q72a1] from ⟨(show zAll _ [q72a0_0, q72a0_1, q72a0_2, q72a0_3, q72a0_4, q72a0_5, q72a0_6, q72a0_7, q72a0_8] from (zAll_c (vn72a0_0 hS62 hS63 hS64 hS65 hS68) (zAll_c (vn72a0_1 hS62 hS63 hS64 hS65 hS68) (zAll_c (vn72a0_2 hS62 hS63 hS64 hS65 hS68) (zAll_c (vn72a0_3 hS62 hS63 hS64 hS65 hS68) (zAll_c (vn72a0_4 hS62 hS63 hS64 hS65 hS68) (zAll_c (vn72a0_5 hS62 hS63 hS64 hS65 hS68) (zAll_c (vn72a0_6 hS62 hS63 hS64 hS65 hS68) (zAll_c (vn72a0_7 hS62 hS63 hS64 hS65 hS68) (zAll_c (vn72a0_8 hS62 hS63 hS64 hS65 hS68) zAll_n)))))))))), ⟨(show zAll _ [q72a1_0, q72a1_1, q72a1_2, q72a1_3, q72a1_4, q72a1_5, q72a1_6] from (zAll_c (vn72a1_0 hS62 hS63 hS64 hS65 hS68) (zAll_c (vn72a1_1 hS62 hS63 hS64 hS65 hS68) (zAll_c (vn72a1_2 hS62 hS63 hS64 hS65 hS68) (zAll_c (vn72a1_3 hS62 hS63 hS64 hS65 hS68) (zAll_c (vn72a1_4 hS62 hS63 hS64 hS65 hS68) (zAll_c (vn72a1_5 hS62 hS63 hS64 hS65 hS68) (zAll_c (vn72a1_6 hS62 hS63 hS64 hS65 hS68) zAll_n)))))))), trivial⟩⟩)) h
theorem vn73_0 {S : Nat → zSpc} (hS62 : ∀ x g o v gz, S 62 x g o v gz → sn62 x g o v gz) (hS63 : ∀ x g o v gz, S 63 x g o v gz → sn63 x g o v gz) (hS64 : ∀ x g o v gz, S 64 x g o v gz → sn64 x g o v gz) (hS65 : ∀ x g o v gz, S 65 x g o v gz → sn65 x g o v gz) (hS70 : ∀ x g o v gz, S 70 x g o v gz → sn70 x g o v gz) {a : List Int} {g : rHp} : ∀ (ρ : Nat → Int) (γ : Nat → rHp), zO 13 S a g q73_0 ρ γ → zGl (fun i vs g1 => jn73 a g i vs g1) (sn73 a g) q73_0 ρ γ := by
  intro ρ γ h
  obtain ⟨ha, hg, hr, hf, hm, hc, hl⟩ := h
  have ha : a = [ρ 0, ρ 1, ρ 2, ρ 3, ρ 4, ρ 5, ρ 6, ρ 7, ρ 8, ρ 9, ρ 10, ρ 11, ρ 12] := ha
  subst ha
  subst hg
  obtain ⟨r0, r1, r2, r3, r4, r5, r6, r7, r8, r9, r10, r11, r12, -⟩ := hr
  have r0 : (0 : Int) ≤ ρ 0 ∧ ρ 0 ≤ 59 := r0
  have r1 : (0 : Int) ≤ ρ 1 ∧ ρ 1 ≤ 8 := r1
  have r2 : (0 : Int) ≤ ρ 2 ∧ ρ 2 ≤ 60 := r2
  have r3 : (0 : Int) ≤ ρ 3 ∧ ρ 3 ≤ 50001 := r3
  have r4 : (0 : Int) ≤ ρ 4 ∧ ρ 4 ≤ 3 := r4
  have r5 : (0 : Int) ≤ ρ 5 ∧ ρ 5 ≤ 50001 := r5
  have r6 : (1 : Int) ≤ ρ 6 ∧ ρ 6 ≤ 4 := r6
  have r7 : (0 : Int) ≤ ρ 7 ∧ ρ 7 ≤ 61 := r7
  have r8 : (0 : Int) ≤ ρ 8 ∧ ρ 8 ≤ 2000 := r8
  have r9 : (0 : Int) ≤ ρ 9 ∧ ρ 9 ≤ 2000 := r9
  have r10 : (0 : Int) ≤ ρ 10 ∧ ρ 10 ≤ 2000 := r10
  have r11 : (0 : Int) ≤ ρ 11 ∧ ρ 11 ≤ 2000 := r11
  have r12 : (0 : Int) ≤ ρ 12 ∧ ρ 12 ≤ 2000 := r12
  obtain ⟨f0, -⟩ := hf
  have f0 : (0 : Int) ≤ ρ 2 + -ρ 0 + (-1) := f0
  obtain ⟨m0, m1, m2, m3, m4, m5, m6, m7, m8, m9, m10, m11, -⟩ := hm
  have m0 : γ 0 73 0 (ρ 0) = ρ 1 := m0
  have m1 : γ 0 15 0 32 = ρ 2 := m1
  have m2 : γ 0 15 0 72 = ρ 3 := m2
  have m3 : γ 0 15 0 77 = ρ 4 := m3
  have m4 : γ 0 15 0 94 = ρ 5 := m4
  have m5 : γ 0 71 0 (ρ 0) = ρ 6 := m5
  have m6 : γ 0 15 0 44 = ρ 7 := m6
  have m7 : γ 0 15 0 71 = ρ 8 := m7
  have m8 : γ 0 15 0 81 = ρ 9 := m8
  have m9 : γ 0 15 0 82 = ρ 10 := m9
  have m10 : γ 0 15 0 83 = ρ 11 := m10
  have m11 : γ 0 15 0 90 = ρ 12 := m11
  show jn73 [ρ 0, ρ 1, ρ 2, ρ 3, ρ 4, ρ 5, ρ 6, ρ 7, ρ 8, ρ 9, ρ 10, ρ 11, ρ 12] (γ 0) 0 [ρ 0, ρ 1, ρ 2, ρ 3, ρ 4, ρ 5, ρ 6, ρ 7, ρ 8, ρ 9, ρ 10, ρ 11, ρ 12, 0, ρ 3, ρ 4, ρ 12] (γ 0)
  have hD : dn73 [ρ 0] (γ 0) = .inl (0, [ρ 0, 0], γ 0) := by
    unfold dn73
    refine (zLet_eq (show _ = ρ 0 from rfl)).trans ?_
    rfl
  exact zGoo_to hD
theorem vn73a0_0 {S : Nat → zSpc} (hS62 : ∀ x g o v gz, S 62 x g o v gz → sn62 x g o v gz) (hS63 : ∀ x g o v gz, S 63 x g o v gz → sn63 x g o v gz) (hS64 : ∀ x g o v gz, S 64 x g o v gz → sn64 x g o v gz) (hS65 : ∀ x g o v gz, S 65 x g o v gz → sn65 x g o v gz) (hS70 : ∀ x g o v gz, S 70 x g o v gz → sn70 x g o v gz) {a : List Int} {g : rHp} : ∀ (ρ : Nat → Int) (γ : Nat → rHp), jn73 a g 0 (zAg (zNA a73_ 0) ρ) (γ 1) → zO 13 S a g q73a0_0 ρ γ → zGl (fun i vs g1 => jn73 a g i vs g1) (sn73 a g) q73a0_0 ρ γ := by
  intro ρ γ hJ h
  obtain ⟨ha, hg, hr, hf, hm, hc, hl⟩ := h
  have ha : a = [ρ 0, ρ 1, ρ 2, ρ 3, ρ 4, ρ 5, ρ 6, ρ 7, ρ 8, ρ 9, ρ 10, ρ 11, ρ 12] := ha
  subst ha
  subst hg
  have hJ : jn73 [ρ 0, ρ 1, ρ 2, ρ 3, ρ 4, ρ 5, ρ 6, ρ 7, ρ 8, ρ 9, ρ 10, ρ 11, ρ 12] (γ 0) 0 [ρ 0, ρ 1, ρ 2, ρ 3, ρ 4, ρ 5, ρ 6, ρ 7, ρ 8, ρ 9, ρ 10, ρ 11, ρ 12, ρ 13, ρ 14, ρ 15, ρ 16] (γ 1) := hJ
  obtain ⟨r0, r1, r2, r3, r4, r5, r6, r7, r8, r9, r10, r11, r12, r13, r14, r15, r16, -⟩ := hr
  have r0 : (0 : Int) ≤ ρ 0 ∧ ρ 0 ≤ 59 := r0
  have r1 : (0 : Int) ≤ ρ 1 ∧ ρ 1 ≤ 8 := r1
  have r2 : (1 : Int) ≤ ρ 2 ∧ ρ 2 ≤ 60 := r2
  have r3 : (0 : Int) ≤ ρ 3 ∧ ρ 3 ≤ 50001 := r3
  have r4 : (0 : Int) ≤ ρ 4 ∧ ρ 4 ≤ 3 := r4
  have r5 : (0 : Int) ≤ ρ 5 ∧ ρ 5 ≤ 50001 := r5
  have r6 : (1 : Int) ≤ ρ 6 ∧ ρ 6 ≤ 4 := r6
  have r7 : (0 : Int) ≤ ρ 7 ∧ ρ 7 ≤ 61 := r7
  have r8 : (0 : Int) ≤ ρ 8 ∧ ρ 8 ≤ 2000 := r8
  have r9 : (0 : Int) ≤ ρ 9 ∧ ρ 9 ≤ 2000 := r9
  have r10 : (0 : Int) ≤ ρ 10 ∧ ρ 10 ≤ 2000 := r10
  have r11 : (0 : Int) ≤ ρ 11 ∧ ρ 11 ≤ 2000 := r11
  have r12 : (0 : Int) ≤ ρ 12 ∧ ρ 12 ≤ 2000 := r12
  have r13 : (0 : Int) ≤ ρ 13 ∧ ρ 13 ≤ 8 := r13
  have r14 : (0 : Int) ≤ ρ 14 ∧ ρ 14 ≤ 50001 := r14
  have r15 : (1 : Int) ≤ ρ 15 ∧ ρ 15 ≤ 3 := r15
  have r16 : (0 : Int) ≤ ρ 16 ∧ ρ 16 ≤ 2000 := r16
  obtain ⟨f0, f1, f2, f3, f4, -⟩ := hf
  have f0 : (0 : Int) ≤ ρ 2 + -ρ 0 + (-1) := f0
  have f1 : (0 : Int) ≤ -ρ 13 + ρ 1 := f1
  have f2 : (0 : Int) ≤ ρ 16 + -ρ 12 := f2
  have f3 : (0 : Int) ≤ ρ 15 + -ρ 4 := f3
  have f4 : (0 : Int) ≤ ρ 14 + -ρ 3 := f4
  obtain ⟨m0, m1, m2, m3, m4, m5, m6, m7, m8, m9, m10, m11, m12, m13, m14, -⟩ := hm
  have m0 : γ 0 73 0 (ρ 0) = ρ 1 := m0
  have m1 : γ 0 15 0 32 = ρ 2 := m1
  have m2 : γ 0 15 0 72 = ρ 3 := m2
  have m3 : γ 0 15 0 77 = ρ 4 := m3
  have m4 : γ 0 15 0 94 = ρ 5 := m4
  have m5 : γ 0 71 0 (ρ 0) = ρ 6 := m5
  have m6 : γ 0 15 0 44 = ρ 7 := m6
  have m7 : γ 0 15 0 71 = ρ 8 := m7
  have m8 : γ 0 15 0 81 = ρ 9 := m8
  have m9 : γ 0 15 0 82 = ρ 10 := m9
  have m10 : γ 0 15 0 83 = ρ 11 := m10
  have m11 : γ 0 15 0 90 = ρ 12 := m11
  have m12 : γ 1 15 0 72 = ρ 14 := m12
  have m13 : γ 1 15 0 77 = ρ 15 := m13
  have m14 : γ 1 15 0 90 = ρ 16 := m14
  obtain ⟨-, c1⟩ := hc
  have c1 : ∀ (G : Nat) (k j : Int), ¬ rMdP m49_ G j → γ 1 G k j = γ 0 G k j := c1
  show sn73 [ρ 0, ρ 1, ρ 2, ρ 3, ρ 4, ρ 5, ρ 6, ρ 7, ρ 8, ρ 9, ρ 10, ρ 11, ρ 12] (γ 0) 0 0 (γ 1)
  have hD : en73 (γ 0) (0, [ρ 0, ρ 13], γ 1) = .inr (0, 0, γ 1) := by
    unfold en73
    refine (if_pos (show (0 : Nat) = 0 by decide)).trans ?_
    refine (zLet_eq (show _ = γ 1 from rfl)).trans ?_
    refine (zLet_eq (show _ = ρ 0 from rfl)).trans ?_
    refine (zLet_eq (show _ = ρ 13 from rfl)).trans ?_
    refine (zLet_eq m0).trans ?_
    refine (zLet_eq m12).trans ?_
    refine (zLet_eq m13).trans ?_
    refine (if_pos (show ρ 15 ≠ 0 by omega)).trans ?_
    rfl
  exact zGoo_aend hJ hD
theorem vn73a0_1 {S : Nat → zSpc} (hS62 : ∀ x g o v gz, S 62 x g o v gz → sn62 x g o v gz) (hS63 : ∀ x g o v gz, S 63 x g o v gz → sn63 x g o v gz) (hS64 : ∀ x g o v gz, S 64 x g o v gz → sn64 x g o v gz) (hS65 : ∀ x g o v gz, S 65 x g o v gz → sn65 x g o v gz) (hS70 : ∀ x g o v gz, S 70 x g o v gz → sn70 x g o v gz) {a : List Int} {g : rHp} : ∀ (ρ : Nat → Int) (γ : Nat → rHp), jn73 a g 0 (zAg (zNA a73_ 0) ρ) (γ 1) → zO 13 S a g q73a0_1 ρ γ → zGl (fun i vs g1 => jn73 a g i vs g1) (sn73 a g) q73a0_1 ρ γ := by
  intro ρ γ hJ h
  obtain ⟨ha, hg, hr, hf, hm, hc, hl⟩ := h
  have ha : a = [ρ 0, ρ 1, ρ 2, ρ 3, ρ 4, ρ 5, ρ 6, ρ 7, ρ 8, ρ 9, ρ 10, ρ 11, ρ 12] := ha
  subst ha
  subst hg
  have hJ : jn73 [ρ 0, ρ 1, ρ 2, ρ 3, ρ 4, ρ 5, ρ 6, ρ 7, ρ 8, ρ 9, ρ 10, ρ 11, ρ 12] (γ 0) 0 [ρ 0, ρ 1, ρ 2, ρ 3, ρ 4, ρ 5, ρ 6, ρ 7, ρ 8, ρ 9, ρ 10, ρ 11, ρ 12, ρ 13, ρ 14, ρ 15, ρ 16] (γ 1) := hJ
  obtain ⟨r0, r1, r2, r3, r4, r5, r6, r7, r8, r9, r10, r11, r12, r13, r14, r15, r16, r17, r18, r19, r20, -⟩ := hr
  have r0 : (0 : Int) ≤ ρ 0 ∧ ρ 0 ≤ 59 := r0
  have r1 : (0 : Int) ≤ ρ 1 ∧ ρ 1 ≤ 8 := r1
  have r2 : (1 : Int) ≤ ρ 2 ∧ ρ 2 ≤ 60 := r2
  have r3 : (0 : Int) ≤ ρ 3 ∧ ρ 3 ≤ 50001 := r3
  have r4 : (0 : Int) ≤ ρ 4 ∧ ρ 4 ≤ 3 := r4
  have r5 : (0 : Int) ≤ ρ 5 ∧ ρ 5 ≤ 50001 := r5
  have r6 : (1 : Int) ≤ ρ 6 ∧ ρ 6 ≤ 4 := r6
  have r7 : (0 : Int) ≤ ρ 7 ∧ ρ 7 ≤ 61 := r7
  have r8 : (0 : Int) ≤ ρ 8 ∧ ρ 8 ≤ 2000 := r8
  have r9 : (0 : Int) ≤ ρ 9 ∧ ρ 9 ≤ 2000 := r9
  have r10 : (0 : Int) ≤ ρ 10 ∧ ρ 10 ≤ 2000 := r10
  have r11 : (0 : Int) ≤ ρ 11 ∧ ρ 11 ≤ 2000 := r11
  have r12 : (0 : Int) ≤ ρ 12 ∧ ρ 12 ≤ 2000 := r12
  have r13 : (0 : Int) ≤ ρ 13 ∧ ρ 13 ≤ 8 := r13
  have r14 : (0 : Int) ≤ ρ 14 ∧ ρ 14 ≤ 49999 := r14
  have r15 : (0 : Int) ≤ ρ 15 ∧ ρ 15 ≤ 0 := r15
  have r16 : (0 : Int) ≤ ρ 16 ∧ ρ 16 ≤ 2000 := r16
  have r17 : (0 : Int) ≤ ρ 17 ∧ ρ 17 ≤ 0 := r17
  have r18 : (0 : Int) ≤ ρ 18 ∧ ρ 18 ≤ 19 := r18
  have r19 : ((-1) : Int) ≤ ρ 19 ∧ ρ 19 ≤ 1999 := r19
  have r20 : (0 : Int) ≤ ρ 20 ∧ ρ 20 ≤ 1999 := r20
  obtain ⟨f0, f1, f2, f3, f4, f5, f6, f7, f8, -⟩ := hf
  have f0 : (0 : Int) ≤ -ρ 9 + ρ 8 := f0
  have f1 : (0 : Int) ≤ -ρ 20 + ρ 9 + (-1) := f1
  have f2 : (0 : Int) ≤ -ρ 13 + ρ 1 + (-1) := f2
  have f3 : (0 : Int) ≤ ρ 15 + -ρ 14 + 50000 := f3
  have f4 : (0 : Int) ≤ ρ 2 + -ρ 0 + (-1) := f4
  have f5 : (0 : Int) ≤ -ρ 13 + ρ 1 := f5
  have f6 : (0 : Int) ≤ ρ 16 + -ρ 12 := f6
  have f7 : (0 : Int) ≤ ρ 15 + -ρ 4 := f7
  have f8 : (0 : Int) ≤ ρ 14 + -ρ 3 := f8
  obtain ⟨m0, m1, m2, m3, m4, m5, m6, m7, m8, m9, m10, m11, m12, m13, m14, m15, m16, m17, -⟩ := hm
  have m0 : γ 0 73 0 (ρ 0) = ρ 1 := m0
  have m1 : γ 0 15 0 32 = ρ 2 := m1
  have m2 : γ 0 15 0 72 = ρ 3 := m2
  have m3 : γ 0 15 0 77 = ρ 4 := m3
  have m4 : γ 0 15 0 94 = ρ 5 := m4
  have m5 : γ 0 71 0 (ρ 0) = ρ 6 := m5
  have m6 : γ 0 15 0 44 = ρ 7 := m6
  have m7 : γ 0 15 0 71 = ρ 8 := m7
  have m8 : γ 0 15 0 81 = ρ 9 := m8
  have m9 : γ 0 15 0 82 = ρ 10 := m9
  have m10 : γ 0 15 0 83 = ρ 11 := m10
  have m11 : γ 0 15 0 90 = ρ 12 := m11
  have m12 : γ 1 15 0 72 = ρ 14 := m12
  have m13 : γ 1 15 0 77 = ρ 15 := m13
  have m14 : γ 1 15 0 90 = ρ 16 := m14
  have m15 : γ 0 77 0 (ρ 13 + 8 * ρ 0) = ρ 17 := m15
  have m16 : γ 0 78 0 (ρ 13 + 8 * ρ 0) = ρ 18 := m16
  have m17 : γ 0 100 0 (ρ 18) = ρ 19 := m17
  obtain ⟨⟨⟨⟨⟨-, c1⟩, c2⟩, c3⟩, c4⟩, c5⟩ := hc
  have c1 : ∀ (G : Nat) (k j : Int), ¬ rMdP m49_ G j → γ 1 G k j = γ 0 G k j := c1
  have c2 : ∀ (G : Nat) (k j : Int), ¬ rMdP m0_ G j → γ 2 G k j = γ 1 G k j := c2
  have c3 : γ 3 = rUp (γ 2) 15 0 72 (ρ 14 + 1) := c3
  have c4 : γ 4 = rUp (γ 3) 104 0 (ρ 13) (ρ 20) := c4
  have c5 : ∀ (G : Nat) (k j : Int), ¬ rMdP m42_ G j → γ 5 G k j = γ 4 G k j := c5
  obtain ⟨l0, l1, -⟩ := hl
  have l0 : sn62 [ρ 0, ρ 13, ρ 19, ρ 9, ρ 8, ρ 10, ρ 11] (γ 1) 0 (ρ 20) (γ 2) := hS62 _ _ _ _ _ l0
  have l1 : sn63 [ρ 13 + 8 * ρ 0, ρ 20] (γ 4) 0 0 (γ 5) := hS63 _ _ _ _ _ l1
  show jn73 [ρ 0, ρ 1, ρ 2, ρ 3, ρ 4, ρ 5, ρ 6, ρ 7, ρ 8, ρ 9, ρ 10, ρ 11, ρ 12] (γ 0) 0 [ρ 0, ρ 1, ρ 2, ρ 3, ρ 4, ρ 5, ρ 6, ρ 7, ρ 8, ρ 9, ρ 10, ρ 11, ρ 12, ρ 13 + 1, ρ 14 + 1, ρ 15, ρ 16] (γ 5)
  have hD : en73 (γ 0) (0, [ρ 0, ρ 13], γ 1) = .inl (0, [ρ 0, ρ 13 + 1], γ 5) := by
    unfold en73
    refine (if_pos (show (0 : Nat) = 0 by decide)).trans ?_
    refine (zLet_eq (show _ = γ 1 from rfl)).trans ?_
    refine (zLet_eq (show _ = ρ 0 from rfl)).trans ?_
    refine (zLet_eq (show _ = ρ 13 from rfl)).trans ?_
    refine (zLet_eq m0).trans ?_
    refine (zLet_eq m12).trans ?_
    refine (zLet_eq m13).trans ?_
    refine (if_neg (show ¬ (ρ 15 ≠ 0) by omega)).trans ?_
    refine (if_pos (show ρ 13 ≠ ρ 1 by omega)).trans ?_
    refine (zLet_eq m15).trans ?_
    refine (if_pos (show 0 ≤ -ρ 17 + 4 by omega)).trans ?_
    refine (if_pos (show ρ 17 = 0 by omega)).trans ?_
    refine (zLet_eq m16).trans ?_
    refine (zLet_eq m17).trans ?_
    refine (zLet_eq (show fn62 [ρ 0, ρ 13, ρ 19] (γ 1) = (0, ρ 20, γ 2) from l0.symm)).trans ?_
    refine (zLet_eq (show _ = γ 2 from rfl)).trans ?_
    refine (zLet_eq (show _ = ρ 20 from rfl)).trans ?_
    refine (if_pos (show ρ 20 ≥ 0 by omega)).trans ?_
    refine (zLet_eq c3.symm).trans ?_
    refine (if_pos (show ρ 14 + 1 ≤ 50000 by omega)).trans ?_
    refine (zLet_eq c4.symm).trans ?_
    refine (zLet_eq (show fn63 [ρ 13 + 8 * ρ 0, ρ 20] (γ 4) = (0, 0, γ 5) from l1.symm)).trans ?_
    refine (zLet_eq (show _ = γ 5 from rfl)).trans ?_
    rfl
  exact zGoo_ato hJ hD
theorem vn73a0_2 {S : Nat → zSpc} (hS62 : ∀ x g o v gz, S 62 x g o v gz → sn62 x g o v gz) (hS63 : ∀ x g o v gz, S 63 x g o v gz → sn63 x g o v gz) (hS64 : ∀ x g o v gz, S 64 x g o v gz → sn64 x g o v gz) (hS65 : ∀ x g o v gz, S 65 x g o v gz → sn65 x g o v gz) (hS70 : ∀ x g o v gz, S 70 x g o v gz → sn70 x g o v gz) {a : List Int} {g : rHp} : ∀ (ρ : Nat → Int) (γ : Nat → rHp), jn73 a g 0 (zAg (zNA a73_ 0) ρ) (γ 1) → zO 13 S a g q73a0_2 ρ γ → zGl (fun i vs g1 => jn73 a g i vs g1) (sn73 a g) q73a0_2 ρ γ := by
  intro ρ γ hJ h
  obtain ⟨ha, hg, hr, hf, hm, hc, hl⟩ := h
  have ha : a = [ρ 0, ρ 1, ρ 2, ρ 3, ρ 4, ρ 5, ρ 6, ρ 7, ρ 8, ρ 9, ρ 10, ρ 11, ρ 12] := ha
  subst ha
  subst hg
  have hJ : jn73 [ρ 0, ρ 1, ρ 2, ρ 3, ρ 4, ρ 5, ρ 6, ρ 7, ρ 8, ρ 9, ρ 10, ρ 11, ρ 12] (γ 0) 0 [ρ 0, ρ 1, ρ 2, ρ 3, ρ 4, ρ 5, ρ 6, ρ 7, ρ 8, ρ 9, ρ 10, ρ 11, ρ 12, ρ 13, ρ 14, ρ 15, ρ 16] (γ 1) := hJ
  obtain ⟨r0, r1, r2, r3, r4, r5, r6, r7, r8, r9, r10, r11, r12, r13, r14, r15, r16, r17, r18, r19, r20, -⟩ := hr
  have r0 : (0 : Int) ≤ ρ 0 ∧ ρ 0 ≤ 59 := r0
  have r1 : (0 : Int) ≤ ρ 1 ∧ ρ 1 ≤ 8 := r1
  have r2 : (1 : Int) ≤ ρ 2 ∧ ρ 2 ≤ 60 := r2
  have r3 : (0 : Int) ≤ ρ 3 ∧ ρ 3 ≤ 50001 := r3
  have r4 : (0 : Int) ≤ ρ 4 ∧ ρ 4 ≤ 3 := r4
  have r5 : (0 : Int) ≤ ρ 5 ∧ ρ 5 ≤ 50001 := r5
  have r6 : (1 : Int) ≤ ρ 6 ∧ ρ 6 ≤ 4 := r6
  have r7 : (0 : Int) ≤ ρ 7 ∧ ρ 7 ≤ 61 := r7
  have r8 : (0 : Int) ≤ ρ 8 ∧ ρ 8 ≤ 2000 := r8
  have r9 : (0 : Int) ≤ ρ 9 ∧ ρ 9 ≤ 2000 := r9
  have r10 : (0 : Int) ≤ ρ 10 ∧ ρ 10 ≤ 2000 := r10
  have r11 : (0 : Int) ≤ ρ 11 ∧ ρ 11 ≤ 2000 := r11
  have r12 : (0 : Int) ≤ ρ 12 ∧ ρ 12 ≤ 2000 := r12
  have r13 : (0 : Int) ≤ ρ 13 ∧ ρ 13 ≤ 8 := r13
  have r14 : (50000 : Int) ≤ ρ 14 ∧ ρ 14 ≤ 50001 := r14
  have r15 : (0 : Int) ≤ ρ 15 ∧ ρ 15 ≤ 0 := r15
  have r16 : (0 : Int) ≤ ρ 16 ∧ ρ 16 ≤ 2000 := r16
  have r17 : (0 : Int) ≤ ρ 17 ∧ ρ 17 ≤ 0 := r17
  have r18 : (0 : Int) ≤ ρ 18 ∧ ρ 18 ≤ 19 := r18
  have r19 : ((-1) : Int) ≤ ρ 19 ∧ ρ 19 ≤ 1999 := r19
  have r20 : (0 : Int) ≤ ρ 20 ∧ ρ 20 ≤ 1999 := r20
  obtain ⟨f0, f1, f2, f3, f4, f5, f6, f7, f8, -⟩ := hf
  have f0 : (0 : Int) ≤ -ρ 9 + ρ 8 := f0
  have f1 : (0 : Int) ≤ -ρ 20 + ρ 9 + (-1) := f1
  have f2 : (0 : Int) ≤ -ρ 13 + ρ 1 + (-1) := f2
  have f3 : (0 : Int) ≤ ρ 15 + -ρ 14 + 50000 := f3
  have f4 : (0 : Int) ≤ ρ 2 + -ρ 0 + (-1) := f4
  have f5 : (0 : Int) ≤ -ρ 13 + ρ 1 := f5
  have f6 : (0 : Int) ≤ ρ 16 + -ρ 12 := f6
  have f7 : (0 : Int) ≤ ρ 15 + -ρ 4 := f7
  have f8 : (0 : Int) ≤ ρ 14 + -ρ 3 := f8
  obtain ⟨m0, m1, m2, m3, m4, m5, m6, m7, m8, m9, m10, m11, m12, m13, m14, m15, m16, m17, -⟩ := hm
  have m0 : γ 0 73 0 (ρ 0) = ρ 1 := m0
  have m1 : γ 0 15 0 32 = ρ 2 := m1
  have m2 : γ 0 15 0 72 = ρ 3 := m2
  have m3 : γ 0 15 0 77 = ρ 4 := m3
  have m4 : γ 0 15 0 94 = ρ 5 := m4
  have m5 : γ 0 71 0 (ρ 0) = ρ 6 := m5
  have m6 : γ 0 15 0 44 = ρ 7 := m6
  have m7 : γ 0 15 0 71 = ρ 8 := m7
  have m8 : γ 0 15 0 81 = ρ 9 := m8
  have m9 : γ 0 15 0 82 = ρ 10 := m9
  have m10 : γ 0 15 0 83 = ρ 11 := m10
  have m11 : γ 0 15 0 90 = ρ 12 := m11
  have m12 : γ 1 15 0 72 = ρ 14 := m12
  have m13 : γ 1 15 0 77 = ρ 15 := m13
  have m14 : γ 1 15 0 90 = ρ 16 := m14
  have m15 : γ 0 77 0 (ρ 13 + 8 * ρ 0) = ρ 17 := m15
  have m16 : γ 0 78 0 (ρ 13 + 8 * ρ 0) = ρ 18 := m16
  have m17 : γ 0 100 0 (ρ 18) = ρ 19 := m17
  obtain ⟨⟨⟨⟨⟨⟨-, c1⟩, c2⟩, c3⟩, c4⟩, c5⟩, c6⟩ := hc
  have c1 : ∀ (G : Nat) (k j : Int), ¬ rMdP m49_ G j → γ 1 G k j = γ 0 G k j := c1
  have c2 : ∀ (G : Nat) (k j : Int), ¬ rMdP m0_ G j → γ 2 G k j = γ 1 G k j := c2
  have c3 : γ 3 = rUp (γ 2) 15 0 72 (ρ 14 + 1) := c3
  have c4 : γ 4 = rUp (γ 3) 15 0 77 2 := c4
  have c5 : γ 5 = rUp (γ 4) 104 0 (ρ 13) (ρ 20) := c5
  have c6 : ∀ (G : Nat) (k j : Int), ¬ rMdP m42_ G j → γ 6 G k j = γ 5 G k j := c6
  obtain ⟨l0, l1, -⟩ := hl
  have l0 : sn62 [ρ 0, ρ 13, ρ 19, ρ 9, ρ 8, ρ 10, ρ 11] (γ 1) 0 (ρ 20) (γ 2) := hS62 _ _ _ _ _ l0
  have l1 : sn63 [ρ 13 + 8 * ρ 0, ρ 20] (γ 5) 0 0 (γ 6) := hS63 _ _ _ _ _ l1
  show jn73 [ρ 0, ρ 1, ρ 2, ρ 3, ρ 4, ρ 5, ρ 6, ρ 7, ρ 8, ρ 9, ρ 10, ρ 11, ρ 12] (γ 0) 0 [ρ 0, ρ 1, ρ 2, ρ 3, ρ 4, ρ 5, ρ 6, ρ 7, ρ 8, ρ 9, ρ 10, ρ 11, ρ 12, ρ 13 + 1, ρ 14 + 1, 2, ρ 16] (γ 6)
  have hD : en73 (γ 0) (0, [ρ 0, ρ 13], γ 1) = .inl (0, [ρ 0, ρ 13 + 1], γ 6) := by
    unfold en73
    refine (if_pos (show (0 : Nat) = 0 by decide)).trans ?_
    refine (zLet_eq (show _ = γ 1 from rfl)).trans ?_
    refine (zLet_eq (show _ = ρ 0 from rfl)).trans ?_
    refine (zLet_eq (show _ = ρ 13 from rfl)).trans ?_
    refine (zLet_eq m0).trans ?_
    refine (zLet_eq m12).trans ?_
    refine (zLet_eq m13).trans ?_
    refine (if_neg (show ¬ (ρ 15 ≠ 0) by omega)).trans ?_
    refine (if_pos (show ρ 13 ≠ ρ 1 by omega)).trans ?_
    refine (zLet_eq m15).trans ?_
    refine (if_pos (show 0 ≤ -ρ 17 + 4 by omega)).trans ?_
    refine (if_pos (show ρ 17 = 0 by omega)).trans ?_
    refine (zLet_eq m16).trans ?_
    refine (zLet_eq m17).trans ?_
    refine (zLet_eq (show fn62 [ρ 0, ρ 13, ρ 19] (γ 1) = (0, ρ 20, γ 2) from l0.symm)).trans ?_
    refine (zLet_eq (show _ = γ 2 from rfl)).trans ?_
    refine (zLet_eq (show _ = ρ 20 from rfl)).trans ?_
    refine (if_pos (show ρ 20 ≥ 0 by omega)).trans ?_
    refine (zLet_eq c3.symm).trans ?_
    refine (if_neg (show ¬ (ρ 14 + 1 ≤ 50000) by omega)).trans ?_
    refine (zLet_eq c4.symm).trans ?_
    refine (zLet_eq c5.symm).trans ?_
    refine (zLet_eq (show fn63 [ρ 13 + 8 * ρ 0, ρ 20] (γ 5) = (0, 0, γ 6) from l1.symm)).trans ?_
    refine (zLet_eq (show _ = γ 6 from rfl)).trans ?_
    rfl
  exact zGoo_ato hJ hD
theorem vn73a0_3 {S : Nat → zSpc} (hS62 : ∀ x g o v gz, S 62 x g o v gz → sn62 x g o v gz) (hS63 : ∀ x g o v gz, S 63 x g o v gz → sn63 x g o v gz) (hS64 : ∀ x g o v gz, S 64 x g o v gz → sn64 x g o v gz) (hS65 : ∀ x g o v gz, S 65 x g o v gz → sn65 x g o v gz) (hS70 : ∀ x g o v gz, S 70 x g o v gz → sn70 x g o v gz) {a : List Int} {g : rHp} : ∀ (ρ : Nat → Int) (γ : Nat → rHp), jn73 a g 0 (zAg (zNA a73_ 0) ρ) (γ 1) → zO 13 S a g q73a0_3 ρ γ → zGl (fun i vs g1 => jn73 a g i vs g1) (sn73 a g) q73a0_3 ρ γ := by
  intro ρ γ hJ h
  obtain ⟨ha, hg, hr, hf, hm, hc, hl⟩ := h
  have ha : a = [ρ 0, ρ 1, ρ 2, ρ 3, ρ 4, ρ 5, ρ 6, ρ 7, ρ 8, ρ 9, ρ 10, ρ 11, ρ 12] := ha
  subst ha
  subst hg
  have hJ : jn73 [ρ 0, ρ 1, ρ 2, ρ 3, ρ 4, ρ 5, ρ 6, ρ 7, ρ 8, ρ 9, ρ 10, ρ 11, ρ 12] (γ 0) 0 [ρ 0, ρ 1, ρ 2, ρ 3, ρ 4, ρ 5, ρ 6, ρ 7, ρ 8, ρ 9, ρ 10, ρ 11, ρ 12, ρ 13, ρ 14, ρ 15, ρ 16] (γ 1) := hJ
  obtain ⟨r0, r1, r2, r3, r4, r5, r6, r7, r8, r9, r10, r11, r12, r13, r14, r15, r16, r17, r18, r19, r20, -⟩ := hr
  have r0 : (0 : Int) ≤ ρ 0 ∧ ρ 0 ≤ 59 := r0
  have r1 : (0 : Int) ≤ ρ 1 ∧ ρ 1 ≤ 8 := r1
  have r2 : (1 : Int) ≤ ρ 2 ∧ ρ 2 ≤ 60 := r2
  have r3 : (0 : Int) ≤ ρ 3 ∧ ρ 3 ≤ 50001 := r3
  have r4 : (0 : Int) ≤ ρ 4 ∧ ρ 4 ≤ 3 := r4
  have r5 : (0 : Int) ≤ ρ 5 ∧ ρ 5 ≤ 50001 := r5
  have r6 : (1 : Int) ≤ ρ 6 ∧ ρ 6 ≤ 4 := r6
  have r7 : (0 : Int) ≤ ρ 7 ∧ ρ 7 ≤ 61 := r7
  have r8 : (0 : Int) ≤ ρ 8 ∧ ρ 8 ≤ 2000 := r8
  have r9 : (0 : Int) ≤ ρ 9 ∧ ρ 9 ≤ 2000 := r9
  have r10 : (0 : Int) ≤ ρ 10 ∧ ρ 10 ≤ 2000 := r10
  have r11 : (0 : Int) ≤ ρ 11 ∧ ρ 11 ≤ 2000 := r11
  have r12 : (0 : Int) ≤ ρ 12 ∧ ρ 12 ≤ 2000 := r12
  have r13 : (0 : Int) ≤ ρ 13 ∧ ρ 13 ≤ 8 := r13
  have r14 : (0 : Int) ≤ ρ 14 ∧ ρ 14 ≤ 50001 := r14
  have r15 : (0 : Int) ≤ ρ 15 ∧ ρ 15 ≤ 0 := r15
  have r16 : (0 : Int) ≤ ρ 16 ∧ ρ 16 ≤ 2000 := r16
  have r17 : (0 : Int) ≤ ρ 17 ∧ ρ 17 ≤ 0 := r17
  have r18 : (0 : Int) ≤ ρ 18 ∧ ρ 18 ≤ 19 := r18
  have r19 : ((-1) : Int) ≤ ρ 19 ∧ ρ 19 ≤ 1999 := r19
  have r20 : ((-1) : Int) ≤ ρ 20 ∧ ρ 20 ≤ (-1) := r20
  obtain ⟨f0, f1, f2, f3, f4, f5, f6, f7, f8, -⟩ := hf
  have f0 : (0 : Int) ≤ -ρ 9 + ρ 8 := f0
  have f1 : (0 : Int) ≤ -ρ 20 + ρ 9 + (-1) := f1
  have f2 : (0 : Int) ≤ -ρ 13 + ρ 1 + (-1) := f2
  have f3 : (0 : Int) ≤ ρ 15 + -ρ 14 + 50000 := f3
  have f4 : (0 : Int) ≤ ρ 2 + -ρ 0 + (-1) := f4
  have f5 : (0 : Int) ≤ -ρ 13 + ρ 1 := f5
  have f6 : (0 : Int) ≤ ρ 16 + -ρ 12 := f6
  have f7 : (0 : Int) ≤ ρ 15 + -ρ 4 := f7
  have f8 : (0 : Int) ≤ ρ 14 + -ρ 3 := f8
  obtain ⟨m0, m1, m2, m3, m4, m5, m6, m7, m8, m9, m10, m11, m12, m13, m14, m15, m16, m17, -⟩ := hm
  have m0 : γ 0 73 0 (ρ 0) = ρ 1 := m0
  have m1 : γ 0 15 0 32 = ρ 2 := m1
  have m2 : γ 0 15 0 72 = ρ 3 := m2
  have m3 : γ 0 15 0 77 = ρ 4 := m3
  have m4 : γ 0 15 0 94 = ρ 5 := m4
  have m5 : γ 0 71 0 (ρ 0) = ρ 6 := m5
  have m6 : γ 0 15 0 44 = ρ 7 := m6
  have m7 : γ 0 15 0 71 = ρ 8 := m7
  have m8 : γ 0 15 0 81 = ρ 9 := m8
  have m9 : γ 0 15 0 82 = ρ 10 := m9
  have m10 : γ 0 15 0 83 = ρ 11 := m10
  have m11 : γ 0 15 0 90 = ρ 12 := m11
  have m12 : γ 1 15 0 72 = ρ 14 := m12
  have m13 : γ 1 15 0 77 = ρ 15 := m13
  have m14 : γ 1 15 0 90 = ρ 16 := m14
  have m15 : γ 0 77 0 (ρ 13 + 8 * ρ 0) = ρ 17 := m15
  have m16 : γ 0 78 0 (ρ 13 + 8 * ρ 0) = ρ 18 := m16
  have m17 : γ 0 100 0 (ρ 18) = ρ 19 := m17
  obtain ⟨⟨-, c1⟩, c2⟩ := hc
  have c1 : ∀ (G : Nat) (k j : Int), ¬ rMdP m49_ G j → γ 1 G k j = γ 0 G k j := c1
  have c2 : ∀ (G : Nat) (k j : Int), ¬ rMdP m0_ G j → γ 2 G k j = γ 1 G k j := c2
  obtain ⟨l0, -⟩ := hl
  have l0 : sn62 [ρ 0, ρ 13, ρ 19, ρ 9, ρ 8, ρ 10, ρ 11] (γ 1) 0 (ρ 20) (γ 2) := hS62 _ _ _ _ _ l0
  show jn73 [ρ 0, ρ 1, ρ 2, ρ 3, ρ 4, ρ 5, ρ 6, ρ 7, ρ 8, ρ 9, ρ 10, ρ 11, ρ 12] (γ 0) 1 [ρ 0, ρ 1, ρ 2, ρ 3, ρ 4, ρ 5, ρ 6, ρ 7, ρ 8, ρ 9, ρ 10, ρ 11, ρ 12, ρ 13 + (-1), ρ 13 + 8 * ρ 0, ρ 14, ρ 15, ρ 16] (γ 2)
  have hD : en73 (γ 0) (0, [ρ 0, ρ 13], γ 1) = .inl (1, [ρ 0, ρ 13 + (-1), ρ 13 + 8 * ρ 0], γ 2) := by
    unfold en73
    refine (if_pos (show (0 : Nat) = 0 by decide)).trans ?_
    refine (zLet_eq (show _ = γ 1 from rfl)).trans ?_
    refine (zLet_eq (show _ = ρ 0 from rfl)).trans ?_
    refine (zLet_eq (show _ = ρ 13 from rfl)).trans ?_
    refine (zLet_eq m0).trans ?_
    refine (zLet_eq m12).trans ?_
    refine (zLet_eq m13).trans ?_
    refine (if_neg (show ¬ (ρ 15 ≠ 0) by omega)).trans ?_
    refine (if_pos (show ρ 13 ≠ ρ 1 by omega)).trans ?_
    refine (zLet_eq m15).trans ?_
    refine (if_pos (show 0 ≤ -ρ 17 + 4 by omega)).trans ?_
    refine (if_pos (show ρ 17 = 0 by omega)).trans ?_
    refine (zLet_eq m16).trans ?_
    refine (zLet_eq m17).trans ?_
    refine (zLet_eq (show fn62 [ρ 0, ρ 13, ρ 19] (γ 1) = (0, ρ 20, γ 2) from l0.symm)).trans ?_
    refine (zLet_eq (show _ = γ 2 from rfl)).trans ?_
    refine (zLet_eq (show _ = ρ 20 from rfl)).trans ?_
    refine (if_neg (show ¬ (ρ 20 ≥ 0) by omega)).trans ?_
    rfl
  exact zGoo_ato hJ hD
theorem vn73a0_4 {S : Nat → zSpc} (hS62 : ∀ x g o v gz, S 62 x g o v gz → sn62 x g o v gz) (hS63 : ∀ x g o v gz, S 63 x g o v gz → sn63 x g o v gz) (hS64 : ∀ x g o v gz, S 64 x g o v gz → sn64 x g o v gz) (hS65 : ∀ x g o v gz, S 65 x g o v gz → sn65 x g o v gz) (hS70 : ∀ x g o v gz, S 70 x g o v gz → sn70 x g o v gz) {a : List Int} {g : rHp} : ∀ (ρ : Nat → Int) (γ : Nat → rHp), jn73 a g 0 (zAg (zNA a73_ 0) ρ) (γ 1) → zO 13 S a g q73a0_4 ρ γ → zGl (fun i vs g1 => jn73 a g i vs g1) (sn73 a g) q73a0_4 ρ γ := by
  intro ρ γ hJ h
  obtain ⟨ha, hg, hr, hf, hm, hc, hl⟩ := h
  have ha : a = [ρ 0, ρ 1, ρ 2, ρ 3, ρ 4, ρ 5, ρ 6, ρ 7, ρ 8, ρ 9, ρ 10, ρ 11, ρ 12] := ha
  subst ha
  subst hg
  have hJ : jn73 [ρ 0, ρ 1, ρ 2, ρ 3, ρ 4, ρ 5, ρ 6, ρ 7, ρ 8, ρ 9, ρ 10, ρ 11, ρ 12] (γ 0) 0 [ρ 0, ρ 1, ρ 2, ρ 3, ρ 4, ρ 5, ρ 6, ρ 7, ρ 8, ρ 9, ρ 10, ρ 11, ρ 12, ρ 13, ρ 14, ρ 15, ρ 16] (γ 1) := hJ
  obtain ⟨r0, r1, r2, r3, r4, r5, r6, r7, r8, r9, r10, r11, r12, r13, r14, r15, r16, r17, r18, -⟩ := hr
  have r0 : (0 : Int) ≤ ρ 0 ∧ ρ 0 ≤ 59 := r0
  have r1 : (0 : Int) ≤ ρ 1 ∧ ρ 1 ≤ 8 := r1
  have r2 : (1 : Int) ≤ ρ 2 ∧ ρ 2 ≤ 60 := r2
  have r3 : (0 : Int) ≤ ρ 3 ∧ ρ 3 ≤ 50001 := r3
  have r4 : (0 : Int) ≤ ρ 4 ∧ ρ 4 ≤ 3 := r4
  have r5 : (0 : Int) ≤ ρ 5 ∧ ρ 5 ≤ 50001 := r5
  have r6 : (1 : Int) ≤ ρ 6 ∧ ρ 6 ≤ 4 := r6
  have r7 : (0 : Int) ≤ ρ 7 ∧ ρ 7 ≤ 61 := r7
  have r8 : (0 : Int) ≤ ρ 8 ∧ ρ 8 ≤ 2000 := r8
  have r9 : (0 : Int) ≤ ρ 9 ∧ ρ 9 ≤ 2000 := r9
  have r10 : (0 : Int) ≤ ρ 10 ∧ ρ 10 ≤ 2000 := r10
  have r11 : (0 : Int) ≤ ρ 11 ∧ ρ 11 ≤ 2000 := r11
  have r12 : (0 : Int) ≤ ρ 12 ∧ ρ 12 ≤ 2000 := r12
  have r13 : (0 : Int) ≤ ρ 13 ∧ ρ 13 ≤ 8 := r13
  have r14 : (0 : Int) ≤ ρ 14 ∧ ρ 14 ≤ 50001 := r14
  have r15 : (0 : Int) ≤ ρ 15 ∧ ρ 15 ≤ 0 := r15
  have r16 : (0 : Int) ≤ ρ 16 ∧ ρ 16 ≤ 2000 := r16
  have r17 : (1 : Int) ≤ ρ 17 ∧ ρ 17 ≤ 4 := r17
  have r18 : ((-2147483648) : Int) ≤ ρ 18 ∧ ρ 18 ≤ 1099511640064 := r18
  obtain ⟨f0, f1, f2, f3, f4, f5, f6, f7, -⟩ := hf
  have f0 : (0 : Int) ≤ -ρ 9 + ρ 8 := f0
  have f1 : (0 : Int) ≤ -ρ 13 + ρ 1 + (-1) := f1
  have f2 : (0 : Int) ≤ ρ 15 + -ρ 14 + 50000 := f2
  have f3 : (0 : Int) ≤ ρ 2 + -ρ 0 + (-1) := f3
  have f4 : (0 : Int) ≤ -ρ 13 + ρ 1 := f4
  have f5 : (0 : Int) ≤ ρ 16 + -ρ 12 := f5
  have f6 : (0 : Int) ≤ ρ 15 + -ρ 4 := f6
  have f7 : (0 : Int) ≤ ρ 14 + -ρ 3 := f7
  obtain ⟨m0, m1, m2, m3, m4, m5, m6, m7, m8, m9, m10, m11, m12, m13, m14, m15, m16, -⟩ := hm
  have m0 : γ 0 73 0 (ρ 0) = ρ 1 := m0
  have m1 : γ 0 15 0 32 = ρ 2 := m1
  have m2 : γ 0 15 0 72 = ρ 3 := m2
  have m3 : γ 0 15 0 77 = ρ 4 := m3
  have m4 : γ 0 15 0 94 = ρ 5 := m4
  have m5 : γ 0 71 0 (ρ 0) = ρ 6 := m5
  have m6 : γ 0 15 0 44 = ρ 7 := m6
  have m7 : γ 0 15 0 71 = ρ 8 := m7
  have m8 : γ 0 15 0 81 = ρ 9 := m8
  have m9 : γ 0 15 0 82 = ρ 10 := m9
  have m10 : γ 0 15 0 83 = ρ 11 := m10
  have m11 : γ 0 15 0 90 = ρ 12 := m11
  have m12 : γ 1 15 0 72 = ρ 14 := m12
  have m13 : γ 1 15 0 77 = ρ 15 := m13
  have m14 : γ 1 15 0 90 = ρ 16 := m14
  have m15 : γ 0 77 0 (ρ 13 + 8 * ρ 0) = ρ 17 := m15
  have m16 : γ 0 81 0 (4 * ρ 13 + 32 * ρ 0) = ρ 18 := m16
  obtain ⟨⟨-, c1⟩, c2⟩ := hc
  have c1 : ∀ (G : Nat) (k j : Int), ¬ rMdP m49_ G j → γ 1 G k j = γ 0 G k j := c1
  have c2 : ∀ (G : Nat) (k j : Int), ¬ rMdP m0_ G j → γ 2 G k j = γ 1 G k j := c2
  obtain ⟨l0, -⟩ := hl
  have l0 : sn64 [ρ 13 + 8 * ρ 0, ρ 17, ρ 18, ρ 9, ρ 8] (γ 1) 0 0 (γ 2) := hS64 _ _ _ _ _ l0
  show jn73 [ρ 0, ρ 1, ρ 2, ρ 3, ρ 4, ρ 5, ρ 6, ρ 7, ρ 8, ρ 9, ρ 10, ρ 11, ρ 12] (γ 0) 1 [ρ 0, ρ 1, ρ 2, ρ 3, ρ 4, ρ 5, ρ 6, ρ 7, ρ 8, ρ 9, ρ 10, ρ 11, ρ 12, ρ 13 + (-1), ρ 13 + 8 * ρ 0, ρ 14, ρ 15, ρ 16] (γ 2)
  have hD : en73 (γ 0) (0, [ρ 0, ρ 13], γ 1) = .inl (1, [ρ 0, ρ 13 + (-1), ρ 13 + 8 * ρ 0], γ 2) := by
    unfold en73
    refine (if_pos (show (0 : Nat) = 0 by decide)).trans ?_
    refine (zLet_eq (show _ = γ 1 from rfl)).trans ?_
    refine (zLet_eq (show _ = ρ 0 from rfl)).trans ?_
    refine (zLet_eq (show _ = ρ 13 from rfl)).trans ?_
    refine (zLet_eq m0).trans ?_
    refine (zLet_eq m12).trans ?_
    refine (zLet_eq m13).trans ?_
    refine (if_neg (show ¬ (ρ 15 ≠ 0) by omega)).trans ?_
    refine (if_pos (show ρ 13 ≠ ρ 1 by omega)).trans ?_
    refine (zLet_eq m15).trans ?_
    refine (if_pos (show 0 ≤ -ρ 17 + 4 by omega)).trans ?_
    refine (if_neg (show ¬ (ρ 17 = 0) by omega)).trans ?_
    refine (zLet_eq (show fn64 [ρ 13 + 8 * ρ 0] (γ 1) = (0, 0, γ 2) from l0.symm)).trans ?_
    refine (zLet_eq (show _ = γ 2 from rfl)).trans ?_
    refine (if_neg (show ¬ ((1 : Int) ≤ 0) by omega)).trans ?_
    rfl
  exact zGoo_ato hJ hD
theorem vn73a0_5 {S : Nat → zSpc} (hS62 : ∀ x g o v gz, S 62 x g o v gz → sn62 x g o v gz) (hS63 : ∀ x g o v gz, S 63 x g o v gz → sn63 x g o v gz) (hS64 : ∀ x g o v gz, S 64 x g o v gz → sn64 x g o v gz) (hS65 : ∀ x g o v gz, S 65 x g o v gz → sn65 x g o v gz) (hS70 : ∀ x g o v gz, S 70 x g o v gz → sn70 x g o v gz) {a : List Int} {g : rHp} : ∀ (ρ : Nat → Int) (γ : Nat → rHp), jn73 a g 0 (zAg (zNA a73_ 0) ρ) (γ 1) → zO 13 S a g q73a0_5 ρ γ → zGl (fun i vs g1 => jn73 a g i vs g1) (sn73 a g) q73a0_5 ρ γ := by
  intro ρ γ hJ h
  obtain ⟨ha, hg, hr, hf, hm, hc, hl⟩ := h
  have ha : a = [ρ 0, ρ 1, ρ 2, ρ 3, ρ 4, ρ 5, ρ 6, ρ 7, ρ 8, ρ 9, ρ 10, ρ 11, ρ 12] := ha
  subst ha
  subst hg
  have hJ : jn73 [ρ 0, ρ 1, ρ 2, ρ 3, ρ 4, ρ 5, ρ 6, ρ 7, ρ 8, ρ 9, ρ 10, ρ 11, ρ 12] (γ 0) 0 [ρ 0, ρ 1, ρ 2, ρ 3, ρ 4, ρ 5, ρ 6, ρ 7, ρ 8, ρ 9, ρ 10, ρ 11, ρ 12, ρ 13, ρ 14, ρ 15, ρ 16] (γ 1) := hJ
  obtain ⟨r0, r1, r2, r3, r4, r5, r6, r7, r8, r9, r10, r11, r12, r13, r14, r15, r16, r17, r18, -⟩ := hr
  have r0 : (0 : Int) ≤ ρ 0 ∧ ρ 0 ≤ 59 := r0
  have r1 : (0 : Int) ≤ ρ 1 ∧ ρ 1 ≤ 8 := r1
  have r2 : (1 : Int) ≤ ρ 2 ∧ ρ 2 ≤ 60 := r2
  have r3 : (0 : Int) ≤ ρ 3 ∧ ρ 3 ≤ 50001 := r3
  have r4 : (0 : Int) ≤ ρ 4 ∧ ρ 4 ≤ 3 := r4
  have r5 : (0 : Int) ≤ ρ 5 ∧ ρ 5 ≤ 50001 := r5
  have r6 : (1 : Int) ≤ ρ 6 ∧ ρ 6 ≤ 4 := r6
  have r7 : (0 : Int) ≤ ρ 7 ∧ ρ 7 ≤ 61 := r7
  have r8 : (0 : Int) ≤ ρ 8 ∧ ρ 8 ≤ 2000 := r8
  have r9 : (0 : Int) ≤ ρ 9 ∧ ρ 9 ≤ 2000 := r9
  have r10 : (0 : Int) ≤ ρ 10 ∧ ρ 10 ≤ 2000 := r10
  have r11 : (0 : Int) ≤ ρ 11 ∧ ρ 11 ≤ 2000 := r11
  have r12 : (0 : Int) ≤ ρ 12 ∧ ρ 12 ≤ 2000 := r12
  have r13 : (0 : Int) ≤ ρ 13 ∧ ρ 13 ≤ 8 := r13
  have r14 : (0 : Int) ≤ ρ 14 ∧ ρ 14 ≤ 50001 := r14
  have r15 : (0 : Int) ≤ ρ 15 ∧ ρ 15 ≤ 0 := r15
  have r16 : (0 : Int) ≤ ρ 16 ∧ ρ 16 ≤ 2000 := r16
  have r17 : (1 : Int) ≤ ρ 17 ∧ ρ 17 ≤ 4 := r17
  have r18 : ((-2147483648) : Int) ≤ ρ 18 ∧ ρ 18 ≤ 1099511640064 := r18
  obtain ⟨f0, f1, f2, f3, f4, f5, f6, f7, -⟩ := hf
  have f0 : (0 : Int) ≤ -ρ 9 + ρ 8 := f0
  have f1 : (0 : Int) ≤ -ρ 13 + ρ 1 + (-1) := f1
  have f2 : (0 : Int) ≤ ρ 15 + -ρ 14 + 50000 := f2
  have f3 : (0 : Int) ≤ ρ 2 + -ρ 0 + (-1) := f3
  have f4 : (0 : Int) ≤ -ρ 13 + ρ 1 := f4
  have f5 : (0 : Int) ≤ ρ 16 + -ρ 12 := f5
  have f6 : (0 : Int) ≤ ρ 15 + -ρ 4 := f6
  have f7 : (0 : Int) ≤ ρ 14 + -ρ 3 := f7
  obtain ⟨m0, m1, m2, m3, m4, m5, m6, m7, m8, m9, m10, m11, m12, m13, m14, m15, m16, -⟩ := hm
  have m0 : γ 0 73 0 (ρ 0) = ρ 1 := m0
  have m1 : γ 0 15 0 32 = ρ 2 := m1
  have m2 : γ 0 15 0 72 = ρ 3 := m2
  have m3 : γ 0 15 0 77 = ρ 4 := m3
  have m4 : γ 0 15 0 94 = ρ 5 := m4
  have m5 : γ 0 71 0 (ρ 0) = ρ 6 := m5
  have m6 : γ 0 15 0 44 = ρ 7 := m6
  have m7 : γ 0 15 0 71 = ρ 8 := m7
  have m8 : γ 0 15 0 81 = ρ 9 := m8
  have m9 : γ 0 15 0 82 = ρ 10 := m9
  have m10 : γ 0 15 0 83 = ρ 11 := m10
  have m11 : γ 0 15 0 90 = ρ 12 := m11
  have m12 : γ 1 15 0 72 = ρ 14 := m12
  have m13 : γ 1 15 0 77 = ρ 15 := m13
  have m14 : γ 1 15 0 90 = ρ 16 := m14
  have m15 : γ 0 77 0 (ρ 13 + 8 * ρ 0) = ρ 17 := m15
  have m16 : γ 0 81 0 (4 * ρ 13 + 32 * ρ 0) = ρ 18 := m16
  obtain ⟨⟨-, c1⟩, c2⟩ := hc
  have c1 : ∀ (G : Nat) (k j : Int), ¬ rMdP m49_ G j → γ 1 G k j = γ 0 G k j := c1
  have c2 : ∀ (G : Nat) (k j : Int), ¬ rMdP m0_ G j → γ 2 G k j = γ 1 G k j := c2
  obtain ⟨l0, -⟩ := hl
  have l0 : sn64 [ρ 13 + 8 * ρ 0, ρ 17, ρ 18, ρ 9, ρ 8] (γ 1) 0 1 (γ 2) := hS64 _ _ _ _ _ l0
  show jn73 [ρ 0, ρ 1, ρ 2, ρ 3, ρ 4, ρ 5, ρ 6, ρ 7, ρ 8, ρ 9, ρ 10, ρ 11, ρ 12] (γ 0) 0 [ρ 0, ρ 1, ρ 2, ρ 3, ρ 4, ρ 5, ρ 6, ρ 7, ρ 8, ρ 9, ρ 10, ρ 11, ρ 12, ρ 13 + 1, ρ 14, ρ 15, ρ 16] (γ 2)
  have hD : en73 (γ 0) (0, [ρ 0, ρ 13], γ 1) = .inl (0, [ρ 0, ρ 13 + 1], γ 2) := by
    unfold en73
    refine (if_pos (show (0 : Nat) = 0 by decide)).trans ?_
    refine (zLet_eq (show _ = γ 1 from rfl)).trans ?_
    refine (zLet_eq (show _ = ρ 0 from rfl)).trans ?_
    refine (zLet_eq (show _ = ρ 13 from rfl)).trans ?_
    refine (zLet_eq m0).trans ?_
    refine (zLet_eq m12).trans ?_
    refine (zLet_eq m13).trans ?_
    refine (if_neg (show ¬ (ρ 15 ≠ 0) by omega)).trans ?_
    refine (if_pos (show ρ 13 ≠ ρ 1 by omega)).trans ?_
    refine (zLet_eq m15).trans ?_
    refine (if_pos (show 0 ≤ -ρ 17 + 4 by omega)).trans ?_
    refine (if_neg (show ¬ (ρ 17 = 0) by omega)).trans ?_
    refine (zLet_eq (show fn64 [ρ 13 + 8 * ρ 0] (γ 1) = (0, 1, γ 2) from l0.symm)).trans ?_
    refine (zLet_eq (show _ = γ 2 from rfl)).trans ?_
    refine (if_pos (show (1 : Int) ≤ 1 by omega)).trans ?_
    rfl
  exact zGoo_ato hJ hD
theorem vn73a0_6 {S : Nat → zSpc} (hS62 : ∀ x g o v gz, S 62 x g o v gz → sn62 x g o v gz) (hS63 : ∀ x g o v gz, S 63 x g o v gz → sn63 x g o v gz) (hS64 : ∀ x g o v gz, S 64 x g o v gz → sn64 x g o v gz) (hS65 : ∀ x g o v gz, S 65 x g o v gz → sn65 x g o v gz) (hS70 : ∀ x g o v gz, S 70 x g o v gz → sn70 x g o v gz) {a : List Int} {g : rHp} : ∀ (ρ : Nat → Int) (γ : Nat → rHp), jn73 a g 0 (zAg (zNA a73_ 0) ρ) (γ 1) → zO 13 S a g q73a0_6 ρ γ → zGl (fun i vs g1 => jn73 a g i vs g1) (sn73 a g) q73a0_6 ρ γ := by
  intro ρ γ hJ h
  obtain ⟨ha, hg, hr, hf, hm, hc, hl⟩ := h
  have ha : a = [ρ 0, ρ 1, ρ 2, ρ 3, ρ 4, ρ 5, ρ 6, ρ 7, ρ 8, ρ 9, ρ 10, ρ 11, ρ 12] := ha
  subst ha
  subst hg
  have hJ : jn73 [ρ 0, ρ 1, ρ 2, ρ 3, ρ 4, ρ 5, ρ 6, ρ 7, ρ 8, ρ 9, ρ 10, ρ 11, ρ 12] (γ 0) 0 [ρ 0, ρ 1, ρ 2, ρ 3, ρ 4, ρ 5, ρ 6, ρ 7, ρ 8, ρ 9, ρ 10, ρ 11, ρ 12, ρ 13, ρ 14, ρ 15, ρ 16] (γ 1) := hJ
  obtain ⟨r0, r1, r2, r3, r4, r5, r6, r7, r8, r9, r10, r11, r12, r13, r14, r15, r16, r17, r18, -⟩ := hr
  have r0 : (0 : Int) ≤ ρ 0 ∧ ρ 0 ≤ 59 := r0
  have r1 : (0 : Int) ≤ ρ 1 ∧ ρ 1 ≤ 8 := r1
  have r2 : (1 : Int) ≤ ρ 2 ∧ ρ 2 ≤ 60 := r2
  have r3 : (0 : Int) ≤ ρ 3 ∧ ρ 3 ≤ 50001 := r3
  have r4 : (0 : Int) ≤ ρ 4 ∧ ρ 4 ≤ 3 := r4
  have r5 : (0 : Int) ≤ ρ 5 ∧ ρ 5 ≤ 50001 := r5
  have r6 : (1 : Int) ≤ ρ 6 ∧ ρ 6 ≤ 4 := r6
  have r7 : (0 : Int) ≤ ρ 7 ∧ ρ 7 ≤ 61 := r7
  have r8 : (0 : Int) ≤ ρ 8 ∧ ρ 8 ≤ 2000 := r8
  have r9 : (0 : Int) ≤ ρ 9 ∧ ρ 9 ≤ 2000 := r9
  have r10 : (0 : Int) ≤ ρ 10 ∧ ρ 10 ≤ 2000 := r10
  have r11 : (0 : Int) ≤ ρ 11 ∧ ρ 11 ≤ 2000 := r11
  have r12 : (0 : Int) ≤ ρ 12 ∧ ρ 12 ≤ 2000 := r12
  have r13 : (0 : Int) ≤ ρ 13 ∧ ρ 13 ≤ 8 := r13
  have r14 : (0 : Int) ≤ ρ 14 ∧ ρ 14 ≤ 50001 := r14
  have r15 : (0 : Int) ≤ ρ 15 ∧ ρ 15 ≤ 0 := r15
  have r16 : (0 : Int) ≤ ρ 16 ∧ ρ 16 ≤ 2000 := r16
  have r17 : (5 : Int) ≤ ρ 17 ∧ ρ 17 ≤ 7 := r17
  have r18 : (0 : Int) ≤ ρ 18 ∧ ρ 18 ≤ 7 := r18
  obtain ⟨f0, f1, f2, f3, f4, f5, f6, f7, -⟩ := hf
  have f0 : (0 : Int) ≤ -ρ 9 + ρ 8 := f0
  have f1 : (0 : Int) ≤ -ρ 13 + ρ 1 + (-1) := f1
  have f2 : (0 : Int) ≤ ρ 15 + -ρ 14 + 50000 := f2
  have f3 : (0 : Int) ≤ ρ 2 + -ρ 0 + (-1) := f3
  have f4 : (0 : Int) ≤ -ρ 13 + ρ 1 := f4
  have f5 : (0 : Int) ≤ ρ 16 + -ρ 12 := f5
  have f6 : (0 : Int) ≤ ρ 15 + -ρ 4 := f6
  have f7 : (0 : Int) ≤ ρ 14 + -ρ 3 := f7
  obtain ⟨m0, m1, m2, m3, m4, m5, m6, m7, m8, m9, m10, m11, m12, m13, m14, m15, m16, -⟩ := hm
  have m0 : γ 0 73 0 (ρ 0) = ρ 1 := m0
  have m1 : γ 0 15 0 32 = ρ 2 := m1
  have m2 : γ 0 15 0 72 = ρ 3 := m2
  have m3 : γ 0 15 0 77 = ρ 4 := m3
  have m4 : γ 0 15 0 94 = ρ 5 := m4
  have m5 : γ 0 71 0 (ρ 0) = ρ 6 := m5
  have m6 : γ 0 15 0 44 = ρ 7 := m6
  have m7 : γ 0 15 0 71 = ρ 8 := m7
  have m8 : γ 0 15 0 81 = ρ 9 := m8
  have m9 : γ 0 15 0 82 = ρ 10 := m9
  have m10 : γ 0 15 0 83 = ρ 11 := m10
  have m11 : γ 0 15 0 90 = ρ 12 := m11
  have m12 : γ 1 15 0 72 = ρ 14 := m12
  have m13 : γ 1 15 0 77 = ρ 15 := m13
  have m14 : γ 1 15 0 90 = ρ 16 := m14
  have m15 : γ 0 77 0 (ρ 13 + 8 * ρ 0) = ρ 17 := m15
  have m16 : γ 0 81 0 (4 * ρ 13 + 32 * ρ 0) = ρ 18 := m16
  obtain ⟨⟨-, c1⟩, c2⟩ := hc
  have c1 : ∀ (G : Nat) (k j : Int), ¬ rMdP m49_ G j → γ 1 G k j = γ 0 G k j := c1
  have c2 : ∀ (G : Nat) (k j : Int), ¬ rMdP m42_ G j → γ 2 G k j = γ 1 G k j := c2
  obtain ⟨l0, -⟩ := hl
  have l0 : sn65 [ρ 13 + 8 * ρ 0, ρ 17, ρ 18, ρ 9, ρ 8] (γ 1) 0 0 (γ 2) := hS65 _ _ _ _ _ l0
  show jn73 [ρ 0, ρ 1, ρ 2, ρ 3, ρ 4, ρ 5, ρ 6, ρ 7, ρ 8, ρ 9, ρ 10, ρ 11, ρ 12] (γ 0) 1 [ρ 0, ρ 1, ρ 2, ρ 3, ρ 4, ρ 5, ρ 6, ρ 7, ρ 8, ρ 9, ρ 10, ρ 11, ρ 12, ρ 13 + (-1), ρ 13 + 8 * ρ 0, ρ 14, ρ 15, ρ 16] (γ 2)
  have hD : en73 (γ 0) (0, [ρ 0, ρ 13], γ 1) = .inl (1, [ρ 0, ρ 13 + (-1), ρ 13 + 8 * ρ 0], γ 2) := by
    unfold en73
    refine (if_pos (show (0 : Nat) = 0 by decide)).trans ?_
    refine (zLet_eq (show _ = γ 1 from rfl)).trans ?_
    refine (zLet_eq (show _ = ρ 0 from rfl)).trans ?_
    refine (zLet_eq (show _ = ρ 13 from rfl)).trans ?_
    refine (zLet_eq m0).trans ?_
    refine (zLet_eq m12).trans ?_
    refine (zLet_eq m13).trans ?_
    refine (if_neg (show ¬ (ρ 15 ≠ 0) by omega)).trans ?_
    refine (if_pos (show ρ 13 ≠ ρ 1 by omega)).trans ?_
    refine (zLet_eq m15).trans ?_
    refine (if_neg (show ¬ (0 ≤ -ρ 17 + 4) by omega)).trans ?_
    refine (zLet_eq (show fn65 [ρ 13 + 8 * ρ 0] (γ 1) = (0, 0, γ 2) from l0.symm)).trans ?_
    refine (zLet_eq (show _ = γ 2 from rfl)).trans ?_
    refine (if_neg (show ¬ ((1 : Int) ≤ 0) by omega)).trans ?_
    rfl
  exact zGoo_ato hJ hD
theorem vn73a0_7 {S : Nat → zSpc} (hS62 : ∀ x g o v gz, S 62 x g o v gz → sn62 x g o v gz) (hS63 : ∀ x g o v gz, S 63 x g o v gz → sn63 x g o v gz) (hS64 : ∀ x g o v gz, S 64 x g o v gz → sn64 x g o v gz) (hS65 : ∀ x g o v gz, S 65 x g o v gz → sn65 x g o v gz) (hS70 : ∀ x g o v gz, S 70 x g o v gz → sn70 x g o v gz) {a : List Int} {g : rHp} : ∀ (ρ : Nat → Int) (γ : Nat → rHp), jn73 a g 0 (zAg (zNA a73_ 0) ρ) (γ 1) → zO 13 S a g q73a0_7 ρ γ → zGl (fun i vs g1 => jn73 a g i vs g1) (sn73 a g) q73a0_7 ρ γ := by
  intro ρ γ hJ h
  obtain ⟨ha, hg, hr, hf, hm, hc, hl⟩ := h
  have ha : a = [ρ 0, ρ 1, ρ 2, ρ 3, ρ 4, ρ 5, ρ 6, ρ 7, ρ 8, ρ 9, ρ 10, ρ 11, ρ 12] := ha
  subst ha
  subst hg
  have hJ : jn73 [ρ 0, ρ 1, ρ 2, ρ 3, ρ 4, ρ 5, ρ 6, ρ 7, ρ 8, ρ 9, ρ 10, ρ 11, ρ 12] (γ 0) 0 [ρ 0, ρ 1, ρ 2, ρ 3, ρ 4, ρ 5, ρ 6, ρ 7, ρ 8, ρ 9, ρ 10, ρ 11, ρ 12, ρ 13, ρ 14, ρ 15, ρ 16] (γ 1) := hJ
  obtain ⟨r0, r1, r2, r3, r4, r5, r6, r7, r8, r9, r10, r11, r12, r13, r14, r15, r16, r17, r18, -⟩ := hr
  have r0 : (0 : Int) ≤ ρ 0 ∧ ρ 0 ≤ 59 := r0
  have r1 : (0 : Int) ≤ ρ 1 ∧ ρ 1 ≤ 8 := r1
  have r2 : (1 : Int) ≤ ρ 2 ∧ ρ 2 ≤ 60 := r2
  have r3 : (0 : Int) ≤ ρ 3 ∧ ρ 3 ≤ 50001 := r3
  have r4 : (0 : Int) ≤ ρ 4 ∧ ρ 4 ≤ 3 := r4
  have r5 : (0 : Int) ≤ ρ 5 ∧ ρ 5 ≤ 50001 := r5
  have r6 : (1 : Int) ≤ ρ 6 ∧ ρ 6 ≤ 4 := r6
  have r7 : (0 : Int) ≤ ρ 7 ∧ ρ 7 ≤ 61 := r7
  have r8 : (0 : Int) ≤ ρ 8 ∧ ρ 8 ≤ 2000 := r8
  have r9 : (0 : Int) ≤ ρ 9 ∧ ρ 9 ≤ 2000 := r9
  have r10 : (0 : Int) ≤ ρ 10 ∧ ρ 10 ≤ 2000 := r10
  have r11 : (0 : Int) ≤ ρ 11 ∧ ρ 11 ≤ 2000 := r11
  have r12 : (0 : Int) ≤ ρ 12 ∧ ρ 12 ≤ 2000 := r12
  have r13 : (0 : Int) ≤ ρ 13 ∧ ρ 13 ≤ 8 := r13
  have r14 : (0 : Int) ≤ ρ 14 ∧ ρ 14 ≤ 50001 := r14
  have r15 : (0 : Int) ≤ ρ 15 ∧ ρ 15 ≤ 0 := r15
  have r16 : (0 : Int) ≤ ρ 16 ∧ ρ 16 ≤ 2000 := r16
  have r17 : (5 : Int) ≤ ρ 17 ∧ ρ 17 ≤ 7 := r17
  have r18 : (0 : Int) ≤ ρ 18 ∧ ρ 18 ≤ 7 := r18
  obtain ⟨f0, f1, f2, f3, f4, f5, f6, f7, -⟩ := hf
  have f0 : (0 : Int) ≤ -ρ 9 + ρ 8 := f0
  have f1 : (0 : Int) ≤ -ρ 13 + ρ 1 + (-1) := f1
  have f2 : (0 : Int) ≤ ρ 15 + -ρ 14 + 50000 := f2
  have f3 : (0 : Int) ≤ ρ 2 + -ρ 0 + (-1) := f3
  have f4 : (0 : Int) ≤ -ρ 13 + ρ 1 := f4
  have f5 : (0 : Int) ≤ ρ 16 + -ρ 12 := f5
  have f6 : (0 : Int) ≤ ρ 15 + -ρ 4 := f6
  have f7 : (0 : Int) ≤ ρ 14 + -ρ 3 := f7
  obtain ⟨m0, m1, m2, m3, m4, m5, m6, m7, m8, m9, m10, m11, m12, m13, m14, m15, m16, -⟩ := hm
  have m0 : γ 0 73 0 (ρ 0) = ρ 1 := m0
  have m1 : γ 0 15 0 32 = ρ 2 := m1
  have m2 : γ 0 15 0 72 = ρ 3 := m2
  have m3 : γ 0 15 0 77 = ρ 4 := m3
  have m4 : γ 0 15 0 94 = ρ 5 := m4
  have m5 : γ 0 71 0 (ρ 0) = ρ 6 := m5
  have m6 : γ 0 15 0 44 = ρ 7 := m6
  have m7 : γ 0 15 0 71 = ρ 8 := m7
  have m8 : γ 0 15 0 81 = ρ 9 := m8
  have m9 : γ 0 15 0 82 = ρ 10 := m9
  have m10 : γ 0 15 0 83 = ρ 11 := m10
  have m11 : γ 0 15 0 90 = ρ 12 := m11
  have m12 : γ 1 15 0 72 = ρ 14 := m12
  have m13 : γ 1 15 0 77 = ρ 15 := m13
  have m14 : γ 1 15 0 90 = ρ 16 := m14
  have m15 : γ 0 77 0 (ρ 13 + 8 * ρ 0) = ρ 17 := m15
  have m16 : γ 0 81 0 (4 * ρ 13 + 32 * ρ 0) = ρ 18 := m16
  obtain ⟨⟨-, c1⟩, c2⟩ := hc
  have c1 : ∀ (G : Nat) (k j : Int), ¬ rMdP m49_ G j → γ 1 G k j = γ 0 G k j := c1
  have c2 : ∀ (G : Nat) (k j : Int), ¬ rMdP m42_ G j → γ 2 G k j = γ 1 G k j := c2
  obtain ⟨l0, -⟩ := hl
  have l0 : sn65 [ρ 13 + 8 * ρ 0, ρ 17, ρ 18, ρ 9, ρ 8] (γ 1) 0 1 (γ 2) := hS65 _ _ _ _ _ l0
  show jn73 [ρ 0, ρ 1, ρ 2, ρ 3, ρ 4, ρ 5, ρ 6, ρ 7, ρ 8, ρ 9, ρ 10, ρ 11, ρ 12] (γ 0) 0 [ρ 0, ρ 1, ρ 2, ρ 3, ρ 4, ρ 5, ρ 6, ρ 7, ρ 8, ρ 9, ρ 10, ρ 11, ρ 12, ρ 13 + 1, ρ 14, ρ 15, ρ 16] (γ 2)
  have hD : en73 (γ 0) (0, [ρ 0, ρ 13], γ 1) = .inl (0, [ρ 0, ρ 13 + 1], γ 2) := by
    unfold en73
    refine (if_pos (show (0 : Nat) = 0 by decide)).trans ?_
    refine (zLet_eq (show _ = γ 1 from rfl)).trans ?_
    refine (zLet_eq (show _ = ρ 0 from rfl)).trans ?_
    refine (zLet_eq (show _ = ρ 13 from rfl)).trans ?_
    refine (zLet_eq m0).trans ?_
    refine (zLet_eq m12).trans ?_
    refine (zLet_eq m13).trans ?_
    refine (if_neg (show ¬ (ρ 15 ≠ 0) by omega)).trans ?_
    refine (if_pos (show ρ 13 ≠ ρ 1 by omega)).trans ?_
    refine (zLet_eq m15).trans ?_
    refine (if_neg (show ¬ (0 ≤ -ρ 17 + 4) by omega)).trans ?_
    refine (zLet_eq (show fn65 [ρ 13 + 8 * ρ 0] (γ 1) = (0, 1, γ 2) from l0.symm)).trans ?_
    refine (zLet_eq (show _ = γ 2 from rfl)).trans ?_
    refine (if_pos (show (1 : Int) ≤ 1 by omega)).trans ?_
    rfl
  exact zGoo_ato hJ hD
theorem vn73a0_8 {S : Nat → zSpc} (hS62 : ∀ x g o v gz, S 62 x g o v gz → sn62 x g o v gz) (hS63 : ∀ x g o v gz, S 63 x g o v gz → sn63 x g o v gz) (hS64 : ∀ x g o v gz, S 64 x g o v gz → sn64 x g o v gz) (hS65 : ∀ x g o v gz, S 65 x g o v gz → sn65 x g o v gz) (hS70 : ∀ x g o v gz, S 70 x g o v gz → sn70 x g o v gz) {a : List Int} {g : rHp} : ∀ (ρ : Nat → Int) (γ : Nat → rHp), jn73 a g 0 (zAg (zNA a73_ 0) ρ) (γ 1) → zO 13 S a g q73a0_8 ρ γ → zGl (fun i vs g1 => jn73 a g i vs g1) (sn73 a g) q73a0_8 ρ γ := by
  intro ρ γ hJ h
  obtain ⟨ha, hg, hr, hf, hm, hc, hl⟩ := h
  have ha : a = [ρ 0, ρ 1, ρ 2, ρ 3, ρ 4, ρ 5, ρ 6, ρ 7, ρ 8, ρ 9, ρ 10, ρ 11, ρ 12] := ha
  subst ha
  subst hg
  have hJ : jn73 [ρ 0, ρ 1, ρ 2, ρ 3, ρ 4, ρ 5, ρ 6, ρ 7, ρ 8, ρ 9, ρ 10, ρ 11, ρ 12] (γ 0) 0 [ρ 0, ρ 1, ρ 2, ρ 3, ρ 4, ρ 5, ρ 6, ρ 7, ρ 8, ρ 9, ρ 10, ρ 11, ρ 12, ρ 13, ρ 14, ρ 15, ρ 16] (γ 1) := hJ
  obtain ⟨r0, r1, r2, r3, r4, r5, r6, r7, r8, r9, r10, r11, r12, r13, r14, r15, r16, r17, r18, -⟩ := hr
  have r0 : (0 : Int) ≤ ρ 0 ∧ ρ 0 ≤ 59 := r0
  have r1 : (0 : Int) ≤ ρ 1 ∧ ρ 1 ≤ 8 := r1
  have r2 : (1 : Int) ≤ ρ 2 ∧ ρ 2 ≤ 60 := r2
  have r3 : (0 : Int) ≤ ρ 3 ∧ ρ 3 ≤ 50001 := r3
  have r4 : (0 : Int) ≤ ρ 4 ∧ ρ 4 ≤ 3 := r4
  have r5 : (0 : Int) ≤ ρ 5 ∧ ρ 5 ≤ 50001 := r5
  have r6 : (1 : Int) ≤ ρ 6 ∧ ρ 6 ≤ 4 := r6
  have r7 : (0 : Int) ≤ ρ 7 ∧ ρ 7 ≤ 61 := r7
  have r8 : (0 : Int) ≤ ρ 8 ∧ ρ 8 ≤ 2000 := r8
  have r9 : (0 : Int) ≤ ρ 9 ∧ ρ 9 ≤ 2000 := r9
  have r10 : (0 : Int) ≤ ρ 10 ∧ ρ 10 ≤ 2000 := r10
  have r11 : (0 : Int) ≤ ρ 11 ∧ ρ 11 ≤ 2000 := r11
  have r12 : (0 : Int) ≤ ρ 12 ∧ ρ 12 ≤ 2000 := r12
  have r13 : (0 : Int) ≤ ρ 13 ∧ ρ 13 ≤ 8 := r13
  have r14 : (0 : Int) ≤ ρ 14 ∧ ρ 14 ≤ 50001 := r14
  have r15 : (0 : Int) ≤ ρ 15 ∧ ρ 15 ≤ 0 := r15
  have r16 : (0 : Int) ≤ ρ 16 ∧ ρ 16 ≤ 2000 := r16
  have r17 : (1 : Int) ≤ ρ 17 ∧ ρ 17 ≤ 2000 := r17
  have r18 : (0 : Int) ≤ ρ 18 ∧ ρ 18 ≤ 3 := r18
  obtain ⟨f0, f1, f2, f3, f4, f5, f6, f7, -⟩ := hf
  have f0 : (0 : Int) ≤ ρ 17 + -ρ 16 := f0
  have f1 : (0 : Int) ≤ -ρ 13 + ρ 1 := f1
  have f2 : (0 : Int) ≤ ρ 13 + -ρ 1 := f2
  have f3 : (0 : Int) ≤ ρ 15 + -ρ 14 + 50000 := f3
  have f4 : (0 : Int) ≤ ρ 2 + -ρ 0 + (-1) := f4
  have f5 : (0 : Int) ≤ ρ 16 + -ρ 12 := f5
  have f6 : (0 : Int) ≤ ρ 15 + -ρ 4 := f6
  have f7 : (0 : Int) ≤ ρ 14 + -ρ 3 := f7
  obtain ⟨m0, m1, m2, m3, m4, m5, m6, m7, m8, m9, m10, m11, m12, m13, m14, m15, m16, -⟩ := hm
  have m0 : γ 0 73 0 (ρ 0) = ρ 1 := m0
  have m1 : γ 0 15 0 32 = ρ 2 := m1
  have m2 : γ 0 15 0 72 = ρ 3 := m2
  have m3 : γ 0 15 0 77 = ρ 4 := m3
  have m4 : γ 0 15 0 94 = ρ 5 := m4
  have m5 : γ 0 71 0 (ρ 0) = ρ 6 := m5
  have m6 : γ 0 15 0 44 = ρ 7 := m6
  have m7 : γ 0 15 0 71 = ρ 8 := m7
  have m8 : γ 0 15 0 81 = ρ 9 := m8
  have m9 : γ 0 15 0 82 = ρ 10 := m9
  have m10 : γ 0 15 0 83 = ρ 11 := m10
  have m11 : γ 0 15 0 90 = ρ 12 := m11
  have m12 : γ 1 15 0 72 = ρ 14 := m12
  have m13 : γ 1 15 0 77 = ρ 15 := m13
  have m14 : γ 1 15 0 90 = ρ 16 := m14
  have m15 : γ 2 15 0 90 = ρ 17 := m15
  have m16 : γ 2 15 0 77 = ρ 18 := m16
  obtain ⟨⟨-, c1⟩, c2⟩ := hc
  have c1 : ∀ (G : Nat) (k j : Int), ¬ rMdP m49_ G j → γ 1 G k j = γ 0 G k j := c1
  have c2 : ∀ (G : Nat) (k j : Int), ¬ rMdP m46_ G j → γ 2 G k j = γ 1 G k j := c2
  obtain ⟨l0, -⟩ := hl
  have l0 : sn70 [ρ 0, ρ 6, ρ 7, ρ 16, ρ 15] (γ 1) 0 0 (γ 2) := hS70 _ _ _ _ _ l0
  show jn73 [ρ 0, ρ 1, ρ 2, ρ 3, ρ 4, ρ 5, ρ 6, ρ 7, ρ 8, ρ 9, ρ 10, ρ 11, ρ 12] (γ 0) 1 [ρ 0, ρ 1, ρ 2, ρ 3, ρ 4, ρ 5, ρ 6, ρ 7, ρ 8, ρ 9, ρ 10, ρ 11, ρ 12, ρ 13 + (-1), ρ 13 + 8 * ρ 0, ρ 14, ρ 18, ρ 17] (γ 2)
  have hD : en73 (γ 0) (0, [ρ 0, ρ 13], γ 1) = .inl (1, [ρ 0, ρ 13 + (-1), ρ 13 + 8 * ρ 0], γ 2) := by
    unfold en73
    refine (if_pos (show (0 : Nat) = 0 by decide)).trans ?_
    refine (zLet_eq (show _ = γ 1 from rfl)).trans ?_
    refine (zLet_eq (show _ = ρ 0 from rfl)).trans ?_
    refine (zLet_eq (show _ = ρ 13 from rfl)).trans ?_
    refine (zLet_eq m0).trans ?_
    refine (zLet_eq m12).trans ?_
    refine (zLet_eq m13).trans ?_
    refine (if_neg (show ¬ (ρ 15 ≠ 0) by omega)).trans ?_
    refine (if_neg (show ¬ (ρ 13 ≠ ρ 1) by omega)).trans ?_
    refine (zLet_eq (show fn70 [ρ 0] (γ 1) = (0, 0, γ 2) from l0.symm)).trans ?_
    refine (zLet_eq (show _ = γ 2 from rfl)).trans ?_
    rfl
  exact zGoo_ato hJ hD
theorem vn73a1_0 {S : Nat → zSpc} (hS62 : ∀ x g o v gz, S 62 x g o v gz → sn62 x g o v gz) (hS63 : ∀ x g o v gz, S 63 x g o v gz → sn63 x g o v gz) (hS64 : ∀ x g o v gz, S 64 x g o v gz → sn64 x g o v gz) (hS65 : ∀ x g o v gz, S 65 x g o v gz → sn65 x g o v gz) (hS70 : ∀ x g o v gz, S 70 x g o v gz → sn70 x g o v gz) {a : List Int} {g : rHp} : ∀ (ρ : Nat → Int) (γ : Nat → rHp), jn73 a g 1 (zAg (zNA a73_ 1) ρ) (γ 1) → zO 13 S a g q73a1_0 ρ γ → zGl (fun i vs g1 => jn73 a g i vs g1) (sn73 a g) q73a1_0 ρ γ := by
  intro ρ γ hJ h
  obtain ⟨ha, hg, hr, hf, hm, hc, hl⟩ := h
  have ha : a = [ρ 0, ρ 1, ρ 2, ρ 3, ρ 4, ρ 5, ρ 6, ρ 7, ρ 8, ρ 9, ρ 10, ρ 11, ρ 12] := ha
  subst ha
  subst hg
  have hJ : jn73 [ρ 0, ρ 1, ρ 2, ρ 3, ρ 4, ρ 5, ρ 6, ρ 7, ρ 8, ρ 9, ρ 10, ρ 11, ρ 12] (γ 0) 1 [ρ 0, ρ 1, ρ 2, ρ 3, ρ 4, ρ 5, ρ 6, ρ 7, ρ 8, ρ 9, ρ 10, ρ 11, ρ 12, ρ 13, ρ 14, ρ 15, ρ 16, ρ 17] (γ 1) := hJ
  obtain ⟨r0, r1, r2, r3, r4, r5, r6, r7, r8, r9, r10, r11, r12, r13, r14, r15, r16, r17, -⟩ := hr
  have r0 : (0 : Int) ≤ ρ 0 ∧ ρ 0 ≤ 59 := r0
  have r1 : (0 : Int) ≤ ρ 1 ∧ ρ 1 ≤ 8 := r1
  have r2 : (1 : Int) ≤ ρ 2 ∧ ρ 2 ≤ 60 := r2
  have r3 : (0 : Int) ≤ ρ 3 ∧ ρ 3 ≤ 50001 := r3
  have r4 : (0 : Int) ≤ ρ 4 ∧ ρ 4 ≤ 0 := r4
  have r5 : (0 : Int) ≤ ρ 5 ∧ ρ 5 ≤ 50001 := r5
  have r6 : (1 : Int) ≤ ρ 6 ∧ ρ 6 ≤ 4 := r6
  have r7 : (0 : Int) ≤ ρ 7 ∧ ρ 7 ≤ 61 := r7
  have r8 : (0 : Int) ≤ ρ 8 ∧ ρ 8 ≤ 2000 := r8
  have r9 : (0 : Int) ≤ ρ 9 ∧ ρ 9 ≤ 2000 := r9
  have r10 : (0 : Int) ≤ ρ 10 ∧ ρ 10 ≤ 2000 := r10
  have r11 : (0 : Int) ≤ ρ 11 ∧ ρ 11 ≤ 2000 := r11
  have r12 : (0 : Int) ≤ ρ 12 ∧ ρ 12 ≤ 2000 := r12
  have r13 : ((-1) : Int) ≤ ρ 13 ∧ ρ 13 ≤ (-1) := r13
  have r14 : (0 : Int) ≤ ρ 14 ∧ ρ 14 ≤ 1999 := r14
  have r15 : (0 : Int) ≤ ρ 15 ∧ ρ 15 ≤ 50000 := r15
  have r16 : (0 : Int) ≤ ρ 16 ∧ ρ 16 ≤ 3 := r16
  have r17 : (0 : Int) ≤ ρ 17 ∧ ρ 17 ≤ 2000 := r17
  obtain ⟨f0, f1, f2, f3, f4, f5, f6, -⟩ := hf
  have f0 : (0 : Int) ≤ ρ 4 + -ρ 3 + 50000 := f0
  have f1 : (0 : Int) ≤ ρ 2 + -ρ 0 + (-1) := f1
  have f2 : (0 : Int) ≤ -ρ 13 + ρ 1 + (-1) := f2
  have f3 : (0 : Int) ≤ ρ 17 + -ρ 12 := f3
  have f4 : (0 : Int) ≤ ρ 15 + -ρ 3 := f4
  have f5 : (0 : Int) ≤ ρ 14 + -ρ 0 := f5
  have f6 : (0 : Int) ≤ ρ 14 + -ρ 13 + (-1) := f6
  obtain ⟨m0, m1, m2, m3, m4, m5, m6, m7, m8, m9, m10, m11, m12, m13, m14, -⟩ := hm
  have m0 : γ 0 73 0 (ρ 0) = ρ 1 := m0
  have m1 : γ 0 15 0 32 = ρ 2 := m1
  have m2 : γ 0 15 0 72 = ρ 3 := m2
  have m3 : γ 0 15 0 77 = ρ 4 := m3
  have m4 : γ 0 15 0 94 = ρ 5 := m4
  have m5 : γ 0 71 0 (ρ 0) = ρ 6 := m5
  have m6 : γ 0 15 0 44 = ρ 7 := m6
  have m7 : γ 0 15 0 71 = ρ 8 := m7
  have m8 : γ 0 15 0 81 = ρ 9 := m8
  have m9 : γ 0 15 0 82 = ρ 10 := m9
  have m10 : γ 0 15 0 83 = ρ 11 := m10
  have m11 : γ 0 15 0 90 = ρ 12 := m11
  have m12 : γ 1 15 0 72 = ρ 15 := m12
  have m13 : γ 1 15 0 77 = ρ 16 := m13
  have m14 : γ 1 15 0 90 = ρ 17 := m14
  obtain ⟨-, c1⟩ := hc
  have c1 : ∀ (G : Nat) (k j : Int), ¬ rMdP m49_ G j → γ 1 G k j = γ 0 G k j := c1
  show sn73 [ρ 0, ρ 1, ρ 2, ρ 3, ρ 4, ρ 5, ρ 6, ρ 7, ρ 8, ρ 9, ρ 10, ρ 11, ρ 12] (γ 0) 0 0 (γ 1)
  have hD : en73 (γ 0) (1, [ρ 0, ρ 13, ρ 14], γ 1) = .inr (0, 0, γ 1) := by
    unfold en73
    refine (if_neg (show ¬ (1 : Nat) = 0 by decide)).trans ?_
    refine (if_pos (show (1 : Nat) = 1 by decide)).trans ?_
    refine (zLet_eq (show _ = γ 1 from rfl)).trans ?_
    refine (zLet_eq (show _ = ρ 0 from rfl)).trans ?_
    refine (zLet_eq (show _ = ρ 13 from rfl)).trans ?_
    refine (zLet_eq m12).trans ?_
    refine (zLet_eq m13).trans ?_
    refine (if_pos (show ρ 13 < 0 by omega)).trans ?_
    rfl
  exact zGoo_aend hJ hD
theorem vn73a1_1 {S : Nat → zSpc} (hS62 : ∀ x g o v gz, S 62 x g o v gz → sn62 x g o v gz) (hS63 : ∀ x g o v gz, S 63 x g o v gz → sn63 x g o v gz) (hS64 : ∀ x g o v gz, S 64 x g o v gz → sn64 x g o v gz) (hS65 : ∀ x g o v gz, S 65 x g o v gz → sn65 x g o v gz) (hS70 : ∀ x g o v gz, S 70 x g o v gz → sn70 x g o v gz) {a : List Int} {g : rHp} : ∀ (ρ : Nat → Int) (γ : Nat → rHp), jn73 a g 1 (zAg (zNA a73_ 1) ρ) (γ 1) → zO 13 S a g q73a1_1 ρ γ → zGl (fun i vs g1 => jn73 a g i vs g1) (sn73 a g) q73a1_1 ρ γ := by
  intro ρ γ hJ h
  obtain ⟨ha, hg, hr, hf, hm, hc, hl⟩ := h
  have ha : a = [ρ 0, ρ 1, ρ 2, ρ 3, ρ 4, ρ 5, ρ 6, ρ 7, ρ 8, ρ 9, ρ 10, ρ 11, ρ 12] := ha
  subst ha
  subst hg
  have hJ : jn73 [ρ 0, ρ 1, ρ 2, ρ 3, ρ 4, ρ 5, ρ 6, ρ 7, ρ 8, ρ 9, ρ 10, ρ 11, ρ 12] (γ 0) 1 [ρ 0, ρ 1, ρ 2, ρ 3, ρ 4, ρ 5, ρ 6, ρ 7, ρ 8, ρ 9, ρ 10, ρ 11, ρ 12, ρ 13, ρ 14, ρ 15, ρ 16, ρ 17] (γ 1) := hJ
  obtain ⟨r0, r1, r2, r3, r4, r5, r6, r7, r8, r9, r10, r11, r12, r13, r14, r15, r16, r17, -⟩ := hr
  have r0 : (0 : Int) ≤ ρ 0 ∧ ρ 0 ≤ 59 := r0
  have r1 : (0 : Int) ≤ ρ 1 ∧ ρ 1 ≤ 8 := r1
  have r2 : (1 : Int) ≤ ρ 2 ∧ ρ 2 ≤ 60 := r2
  have r3 : (0 : Int) ≤ ρ 3 ∧ ρ 3 ≤ 50001 := r3
  have r4 : (0 : Int) ≤ ρ 4 ∧ ρ 4 ≤ 0 := r4
  have r5 : (0 : Int) ≤ ρ 5 ∧ ρ 5 ≤ 50001 := r5
  have r6 : (1 : Int) ≤ ρ 6 ∧ ρ 6 ≤ 4 := r6
  have r7 : (0 : Int) ≤ ρ 7 ∧ ρ 7 ≤ 61 := r7
  have r8 : (0 : Int) ≤ ρ 8 ∧ ρ 8 ≤ 2000 := r8
  have r9 : (0 : Int) ≤ ρ 9 ∧ ρ 9 ≤ 2000 := r9
  have r10 : (0 : Int) ≤ ρ 10 ∧ ρ 10 ≤ 2000 := r10
  have r11 : (0 : Int) ≤ ρ 11 ∧ ρ 11 ≤ 2000 := r11
  have r12 : (0 : Int) ≤ ρ 12 ∧ ρ 12 ≤ 2000 := r12
  have r13 : (0 : Int) ≤ ρ 13 ∧ ρ 13 ≤ 7 := r13
  have r14 : (0 : Int) ≤ ρ 14 ∧ ρ 14 ≤ 1999 := r14
  have r15 : (0 : Int) ≤ ρ 15 ∧ ρ 15 ≤ 50000 := r15
  have r16 : (1 : Int) ≤ ρ 16 ∧ ρ 16 ≤ 3 := r16
  have r17 : (0 : Int) ≤ ρ 17 ∧ ρ 17 ≤ 2000 := r17
  obtain ⟨f0, f1, f2, f3, f4, f5, f6, -⟩ := hf
  have f0 : (0 : Int) ≤ ρ 4 + -ρ 3 + 50000 := f0
  have f1 : (0 : Int) ≤ ρ 2 + -ρ 0 + (-1) := f1
  have f2 : (0 : Int) ≤ -ρ 13 + ρ 1 + (-1) := f2
  have f3 : (0 : Int) ≤ ρ 17 + -ρ 12 := f3
  have f4 : (0 : Int) ≤ ρ 15 + -ρ 3 := f4
  have f5 : (0 : Int) ≤ ρ 14 + -ρ 0 := f5
  have f6 : (0 : Int) ≤ ρ 14 + -ρ 13 + (-1) := f6
  obtain ⟨m0, m1, m2, m3, m4, m5, m6, m7, m8, m9, m10, m11, m12, m13, m14, -⟩ := hm
  have m0 : γ 0 73 0 (ρ 0) = ρ 1 := m0
  have m1 : γ 0 15 0 32 = ρ 2 := m1
  have m2 : γ 0 15 0 72 = ρ 3 := m2
  have m3 : γ 0 15 0 77 = ρ 4 := m3
  have m4 : γ 0 15 0 94 = ρ 5 := m4
  have m5 : γ 0 71 0 (ρ 0) = ρ 6 := m5
  have m6 : γ 0 15 0 44 = ρ 7 := m6
  have m7 : γ 0 15 0 71 = ρ 8 := m7
  have m8 : γ 0 15 0 81 = ρ 9 := m8
  have m9 : γ 0 15 0 82 = ρ 10 := m9
  have m10 : γ 0 15 0 83 = ρ 11 := m10
  have m11 : γ 0 15 0 90 = ρ 12 := m11
  have m12 : γ 1 15 0 72 = ρ 15 := m12
  have m13 : γ 1 15 0 77 = ρ 16 := m13
  have m14 : γ 1 15 0 90 = ρ 17 := m14
  obtain ⟨-, c1⟩ := hc
  have c1 : ∀ (G : Nat) (k j : Int), ¬ rMdP m49_ G j → γ 1 G k j = γ 0 G k j := c1
  show sn73 [ρ 0, ρ 1, ρ 2, ρ 3, ρ 4, ρ 5, ρ 6, ρ 7, ρ 8, ρ 9, ρ 10, ρ 11, ρ 12] (γ 0) 0 0 (γ 1)
  have hD : en73 (γ 0) (1, [ρ 0, ρ 13, ρ 14], γ 1) = .inr (0, 0, γ 1) := by
    unfold en73
    refine (if_neg (show ¬ (1 : Nat) = 0 by decide)).trans ?_
    refine (if_pos (show (1 : Nat) = 1 by decide)).trans ?_
    refine (zLet_eq (show _ = γ 1 from rfl)).trans ?_
    refine (zLet_eq (show _ = ρ 0 from rfl)).trans ?_
    refine (zLet_eq (show _ = ρ 13 from rfl)).trans ?_
    refine (zLet_eq m12).trans ?_
    refine (zLet_eq m13).trans ?_
    refine (if_neg (show ¬ (ρ 13 < 0) by omega)).trans ?_
    refine (if_pos (show ρ 16 ≠ 0 by omega)).trans ?_
    rfl
  exact zGoo_aend hJ hD
theorem vn73a1_2 {S : Nat → zSpc} (hS62 : ∀ x g o v gz, S 62 x g o v gz → sn62 x g o v gz) (hS63 : ∀ x g o v gz, S 63 x g o v gz → sn63 x g o v gz) (hS64 : ∀ x g o v gz, S 64 x g o v gz → sn64 x g o v gz) (hS65 : ∀ x g o v gz, S 65 x g o v gz → sn65 x g o v gz) (hS70 : ∀ x g o v gz, S 70 x g o v gz → sn70 x g o v gz) {a : List Int} {g : rHp} : ∀ (ρ : Nat → Int) (γ : Nat → rHp), jn73 a g 1 (zAg (zNA a73_ 1) ρ) (γ 1) → zO 13 S a g q73a1_2 ρ γ → zGl (fun i vs g1 => jn73 a g i vs g1) (sn73 a g) q73a1_2 ρ γ := by
  intro ρ γ hJ h
  obtain ⟨ha, hg, hr, hf, hm, hc, hl⟩ := h
  have ha : a = [ρ 0, ρ 1, ρ 2, ρ 3, ρ 4, ρ 5, ρ 6, ρ 7, ρ 8, ρ 9, ρ 10, ρ 11, ρ 12] := ha
  subst ha
  subst hg
  have hJ : jn73 [ρ 0, ρ 1, ρ 2, ρ 3, ρ 4, ρ 5, ρ 6, ρ 7, ρ 8, ρ 9, ρ 10, ρ 11, ρ 12] (γ 0) 1 [ρ 0, ρ 1, ρ 2, ρ 3, ρ 4, ρ 5, ρ 6, ρ 7, ρ 8, ρ 9, ρ 10, ρ 11, ρ 12, ρ 13, ρ 14, ρ 15, ρ 16, ρ 17] (γ 1) := hJ
  obtain ⟨r0, r1, r2, r3, r4, r5, r6, r7, r8, r9, r10, r11, r12, r13, r14, r15, r16, r17, r18, r19, r20, r21, -⟩ := hr
  have r0 : (0 : Int) ≤ ρ 0 ∧ ρ 0 ≤ 59 := r0
  have r1 : (0 : Int) ≤ ρ 1 ∧ ρ 1 ≤ 8 := r1
  have r2 : (1 : Int) ≤ ρ 2 ∧ ρ 2 ≤ 60 := r2
  have r3 : (0 : Int) ≤ ρ 3 ∧ ρ 3 ≤ 50001 := r3
  have r4 : (0 : Int) ≤ ρ 4 ∧ ρ 4 ≤ 0 := r4
  have r5 : (0 : Int) ≤ ρ 5 ∧ ρ 5 ≤ 50001 := r5
  have r6 : (1 : Int) ≤ ρ 6 ∧ ρ 6 ≤ 4 := r6
  have r7 : (0 : Int) ≤ ρ 7 ∧ ρ 7 ≤ 61 := r7
  have r8 : (0 : Int) ≤ ρ 8 ∧ ρ 8 ≤ 2000 := r8
  have r9 : (0 : Int) ≤ ρ 9 ∧ ρ 9 ≤ 2000 := r9
  have r10 : (0 : Int) ≤ ρ 10 ∧ ρ 10 ≤ 2000 := r10
  have r11 : (0 : Int) ≤ ρ 11 ∧ ρ 11 ≤ 2000 := r11
  have r12 : (0 : Int) ≤ ρ 12 ∧ ρ 12 ≤ 2000 := r12
  have r13 : (0 : Int) ≤ ρ 13 ∧ ρ 13 ≤ 7 := r13
  have r14 : (0 : Int) ≤ ρ 14 ∧ ρ 14 ≤ 1999 := r14
  have r15 : (0 : Int) ≤ ρ 15 ∧ ρ 15 ≤ 49999 := r15
  have r16 : (0 : Int) ≤ ρ 16 ∧ ρ 16 ≤ 0 := r16
  have r17 : (0 : Int) ≤ ρ 17 ∧ ρ 17 ≤ 2000 := r17
  have r18 : (0 : Int) ≤ ρ 18 ∧ ρ 18 ≤ 0 := r18
  have r19 : (0 : Int) ≤ ρ 19 ∧ ρ 19 ≤ 1999 := r19
  have r20 : ((-1) : Int) ≤ ρ 20 ∧ ρ 20 ≤ 1999 := r20
  have r21 : (0 : Int) ≤ ρ 21 ∧ ρ 21 ≤ 1999 := r21
  obtain ⟨f0, f1, f2, f3, f4, f5, f6, f7, f8, -⟩ := hf
  have f0 : (0 : Int) ≤ -ρ 9 + ρ 8 := f0
  have f1 : (0 : Int) ≤ -ρ 21 + ρ 9 + (-1) := f1
  have f2 : (0 : Int) ≤ -ρ 13 + ρ 1 + (-1) := f2
  have f3 : (0 : Int) ≤ ρ 4 + -ρ 3 + 50000 := f3
  have f4 : (0 : Int) ≤ ρ 2 + -ρ 0 + (-1) := f4
  have f5 : (0 : Int) ≤ ρ 17 + -ρ 12 := f5
  have f6 : (0 : Int) ≤ ρ 15 + -ρ 3 := f6
  have f7 : (0 : Int) ≤ ρ 14 + -ρ 0 := f7
  have f8 : (0 : Int) ≤ ρ 14 + -ρ 13 + (-1) := f8
  obtain ⟨m0, m1, m2, m3, m4, m5, m6, m7, m8, m9, m10, m11, m12, m13, m14, m15, m16, m17, -⟩ := hm
  have m0 : γ 0 73 0 (ρ 0) = ρ 1 := m0
  have m1 : γ 0 15 0 32 = ρ 2 := m1
  have m2 : γ 0 15 0 72 = ρ 3 := m2
  have m3 : γ 0 15 0 77 = ρ 4 := m3
  have m4 : γ 0 15 0 94 = ρ 5 := m4
  have m5 : γ 0 71 0 (ρ 0) = ρ 6 := m5
  have m6 : γ 0 15 0 44 = ρ 7 := m6
  have m7 : γ 0 15 0 71 = ρ 8 := m7
  have m8 : γ 0 15 0 81 = ρ 9 := m8
  have m9 : γ 0 15 0 82 = ρ 10 := m9
  have m10 : γ 0 15 0 83 = ρ 11 := m10
  have m11 : γ 0 15 0 90 = ρ 12 := m11
  have m12 : γ 1 15 0 72 = ρ 15 := m12
  have m13 : γ 1 15 0 77 = ρ 16 := m13
  have m14 : γ 1 15 0 90 = ρ 17 := m14
  have m15 : γ 0 77 0 (ρ 13 + 8 * ρ 0) = ρ 18 := m15
  have m16 : γ 1 104 0 (ρ 13) = ρ 19 := m16
  have m17 : γ 0 96 0 (ρ 19) = ρ 20 := m17
  obtain ⟨⟨⟨⟨⟨-, c1⟩, c2⟩, c3⟩, c4⟩, c5⟩ := hc
  have c1 : ∀ (G : Nat) (k j : Int), ¬ rMdP m49_ G j → γ 1 G k j = γ 0 G k j := c1
  have c2 : ∀ (G : Nat) (k j : Int), ¬ rMdP m0_ G j → γ 2 G k j = γ 1 G k j := c2
  have c3 : γ 3 = rUp (γ 2) 15 0 72 (ρ 15 + 1) := c3
  have c4 : γ 4 = rUp (γ 3) 104 0 (ρ 13) (ρ 21) := c4
  have c5 : ∀ (G : Nat) (k j : Int), ¬ rMdP m42_ G j → γ 5 G k j = γ 4 G k j := c5
  obtain ⟨l0, l1, -⟩ := hl
  have l0 : sn62 [ρ 0, ρ 13, ρ 20, ρ 9, ρ 8, ρ 10, ρ 11] (γ 1) 0 (ρ 21) (γ 2) := hS62 _ _ _ _ _ l0
  have l1 : sn63 [ρ 13 + 8 * ρ 0, ρ 21] (γ 4) 0 0 (γ 5) := hS63 _ _ _ _ _ l1
  show jn73 [ρ 0, ρ 1, ρ 2, ρ 3, ρ 4, ρ 5, ρ 6, ρ 7, ρ 8, ρ 9, ρ 10, ρ 11, ρ 12] (γ 0) 0 [ρ 0, ρ 1, ρ 2, ρ 3, ρ 4, ρ 5, ρ 6, ρ 7, ρ 8, ρ 9, ρ 10, ρ 11, ρ 12, ρ 13 + 1, ρ 15 + 1, ρ 16, ρ 17] (γ 5)
  have hD : en73 (γ 0) (1, [ρ 0, ρ 13, ρ 14], γ 1) = .inl (0, [ρ 0, ρ 13 + 1], γ 5) := by
    unfold en73
    refine (if_neg (show ¬ (1 : Nat) = 0 by decide)).trans ?_
    refine (if_pos (show (1 : Nat) = 1 by decide)).trans ?_
    refine (zLet_eq (show _ = γ 1 from rfl)).trans ?_
    refine (zLet_eq (show _ = ρ 0 from rfl)).trans ?_
    refine (zLet_eq (show _ = ρ 13 from rfl)).trans ?_
    refine (zLet_eq m12).trans ?_
    refine (zLet_eq m13).trans ?_
    refine (if_neg (show ¬ (ρ 13 < 0) by omega)).trans ?_
    refine (if_neg (show ¬ (ρ 16 ≠ 0) by omega)).trans ?_
    refine (zLet_eq m15).trans ?_
    refine (if_pos (show 0 ≤ -ρ 18 + 4 by omega)).trans ?_
    refine (if_pos (show ρ 18 = 0 by omega)).trans ?_
    refine (zLet_eq m16).trans ?_
    refine (zLet_eq m17).trans ?_
    refine (zLet_eq (show fn62 [ρ 0, ρ 13, ρ 20] (γ 1) = (0, ρ 21, γ 2) from l0.symm)).trans ?_
    refine (zLet_eq (show _ = γ 2 from rfl)).trans ?_
    refine (zLet_eq (show _ = ρ 21 from rfl)).trans ?_
    refine (if_pos (show ρ 21 ≥ 0 by omega)).trans ?_
    refine (zLet_eq c3.symm).trans ?_
    refine (if_pos (show ρ 15 + 1 ≤ 50000 by omega)).trans ?_
    refine (zLet_eq c4.symm).trans ?_
    refine (zLet_eq (show fn63 [ρ 13 + 8 * ρ 0, ρ 21] (γ 4) = (0, 0, γ 5) from l1.symm)).trans ?_
    refine (zLet_eq (show _ = γ 5 from rfl)).trans ?_
    rfl
  exact zGoo_ato hJ hD
theorem vn73a1_3 {S : Nat → zSpc} (hS62 : ∀ x g o v gz, S 62 x g o v gz → sn62 x g o v gz) (hS63 : ∀ x g o v gz, S 63 x g o v gz → sn63 x g o v gz) (hS64 : ∀ x g o v gz, S 64 x g o v gz → sn64 x g o v gz) (hS65 : ∀ x g o v gz, S 65 x g o v gz → sn65 x g o v gz) (hS70 : ∀ x g o v gz, S 70 x g o v gz → sn70 x g o v gz) {a : List Int} {g : rHp} : ∀ (ρ : Nat → Int) (γ : Nat → rHp), jn73 a g 1 (zAg (zNA a73_ 1) ρ) (γ 1) → zO 13 S a g q73a1_3 ρ γ → zGl (fun i vs g1 => jn73 a g i vs g1) (sn73 a g) q73a1_3 ρ γ := by
  intro ρ γ hJ h
  obtain ⟨ha, hg, hr, hf, hm, hc, hl⟩ := h
  have ha : a = [ρ 0, ρ 1, ρ 2, ρ 3, ρ 4, ρ 5, ρ 6, ρ 7, ρ 8, ρ 9, ρ 10, ρ 11, ρ 12] := ha
  subst ha
  subst hg
  have hJ : jn73 [ρ 0, ρ 1, ρ 2, ρ 3, ρ 4, ρ 5, ρ 6, ρ 7, ρ 8, ρ 9, ρ 10, ρ 11, ρ 12] (γ 0) 1 [ρ 0, ρ 1, ρ 2, ρ 3, ρ 4, ρ 5, ρ 6, ρ 7, ρ 8, ρ 9, ρ 10, ρ 11, ρ 12, ρ 13, ρ 14, ρ 15, ρ 16, ρ 17] (γ 1) := hJ
  obtain ⟨r0, r1, r2, r3, r4, r5, r6, r7, r8, r9, r10, r11, r12, r13, r14, r15, r16, r17, r18, r19, r20, r21, -⟩ := hr
  have r0 : (0 : Int) ≤ ρ 0 ∧ ρ 0 ≤ 59 := r0
  have r1 : (0 : Int) ≤ ρ 1 ∧ ρ 1 ≤ 8 := r1
  have r2 : (1 : Int) ≤ ρ 2 ∧ ρ 2 ≤ 60 := r2
  have r3 : (0 : Int) ≤ ρ 3 ∧ ρ 3 ≤ 50001 := r3
  have r4 : (0 : Int) ≤ ρ 4 ∧ ρ 4 ≤ 0 := r4
  have r5 : (0 : Int) ≤ ρ 5 ∧ ρ 5 ≤ 50001 := r5
  have r6 : (1 : Int) ≤ ρ 6 ∧ ρ 6 ≤ 4 := r6
  have r7 : (0 : Int) ≤ ρ 7 ∧ ρ 7 ≤ 61 := r7
  have r8 : (0 : Int) ≤ ρ 8 ∧ ρ 8 ≤ 2000 := r8
  have r9 : (0 : Int) ≤ ρ 9 ∧ ρ 9 ≤ 2000 := r9
  have r10 : (0 : Int) ≤ ρ 10 ∧ ρ 10 ≤ 2000 := r10
  have r11 : (0 : Int) ≤ ρ 11 ∧ ρ 11 ≤ 2000 := r11
  have r12 : (0 : Int) ≤ ρ 12 ∧ ρ 12 ≤ 2000 := r12
  have r13 : (0 : Int) ≤ ρ 13 ∧ ρ 13 ≤ 7 := r13
  have r14 : (0 : Int) ≤ ρ 14 ∧ ρ 14 ≤ 1999 := r14
  have r15 : (50000 : Int) ≤ ρ 15 ∧ ρ 15 ≤ 50000 := r15
  have r16 : (0 : Int) ≤ ρ 16 ∧ ρ 16 ≤ 0 := r16
  have r17 : (0 : Int) ≤ ρ 17 ∧ ρ 17 ≤ 2000 := r17
  have r18 : (0 : Int) ≤ ρ 18 ∧ ρ 18 ≤ 0 := r18
  have r19 : (0 : Int) ≤ ρ 19 ∧ ρ 19 ≤ 1999 := r19
  have r20 : ((-1) : Int) ≤ ρ 20 ∧ ρ 20 ≤ 1999 := r20
  have r21 : (0 : Int) ≤ ρ 21 ∧ ρ 21 ≤ 1999 := r21
  obtain ⟨f0, f1, f2, f3, f4, f5, f6, f7, f8, -⟩ := hf
  have f0 : (0 : Int) ≤ -ρ 9 + ρ 8 := f0
  have f1 : (0 : Int) ≤ -ρ 21 + ρ 9 + (-1) := f1
  have f2 : (0 : Int) ≤ -ρ 13 + ρ 1 + (-1) := f2
  have f3 : (0 : Int) ≤ ρ 4 + -ρ 3 + 50000 := f3
  have f4 : (0 : Int) ≤ ρ 2 + -ρ 0 + (-1) := f4
  have f5 : (0 : Int) ≤ ρ 17 + -ρ 12 := f5
  have f6 : (0 : Int) ≤ ρ 15 + -ρ 3 := f6
  have f7 : (0 : Int) ≤ ρ 14 + -ρ 0 := f7
  have f8 : (0 : Int) ≤ ρ 14 + -ρ 13 + (-1) := f8
  obtain ⟨m0, m1, m2, m3, m4, m5, m6, m7, m8, m9, m10, m11, m12, m13, m14, m15, m16, m17, -⟩ := hm
  have m0 : γ 0 73 0 (ρ 0) = ρ 1 := m0
  have m1 : γ 0 15 0 32 = ρ 2 := m1
  have m2 : γ 0 15 0 72 = ρ 3 := m2
  have m3 : γ 0 15 0 77 = ρ 4 := m3
  have m4 : γ 0 15 0 94 = ρ 5 := m4
  have m5 : γ 0 71 0 (ρ 0) = ρ 6 := m5
  have m6 : γ 0 15 0 44 = ρ 7 := m6
  have m7 : γ 0 15 0 71 = ρ 8 := m7
  have m8 : γ 0 15 0 81 = ρ 9 := m8
  have m9 : γ 0 15 0 82 = ρ 10 := m9
  have m10 : γ 0 15 0 83 = ρ 11 := m10
  have m11 : γ 0 15 0 90 = ρ 12 := m11
  have m12 : γ 1 15 0 72 = ρ 15 := m12
  have m13 : γ 1 15 0 77 = ρ 16 := m13
  have m14 : γ 1 15 0 90 = ρ 17 := m14
  have m15 : γ 0 77 0 (ρ 13 + 8 * ρ 0) = ρ 18 := m15
  have m16 : γ 1 104 0 (ρ 13) = ρ 19 := m16
  have m17 : γ 0 96 0 (ρ 19) = ρ 20 := m17
  obtain ⟨⟨⟨⟨⟨⟨-, c1⟩, c2⟩, c3⟩, c4⟩, c5⟩, c6⟩ := hc
  have c1 : ∀ (G : Nat) (k j : Int), ¬ rMdP m49_ G j → γ 1 G k j = γ 0 G k j := c1
  have c2 : ∀ (G : Nat) (k j : Int), ¬ rMdP m0_ G j → γ 2 G k j = γ 1 G k j := c2
  have c3 : γ 3 = rUp (γ 2) 15 0 72 (ρ 15 + 1) := c3
  have c4 : γ 4 = rUp (γ 3) 15 0 77 2 := c4
  have c5 : γ 5 = rUp (γ 4) 104 0 (ρ 13) (ρ 21) := c5
  have c6 : ∀ (G : Nat) (k j : Int), ¬ rMdP m42_ G j → γ 6 G k j = γ 5 G k j := c6
  obtain ⟨l0, l1, -⟩ := hl
  have l0 : sn62 [ρ 0, ρ 13, ρ 20, ρ 9, ρ 8, ρ 10, ρ 11] (γ 1) 0 (ρ 21) (γ 2) := hS62 _ _ _ _ _ l0
  have l1 : sn63 [ρ 13 + 8 * ρ 0, ρ 21] (γ 5) 0 0 (γ 6) := hS63 _ _ _ _ _ l1
  show jn73 [ρ 0, ρ 1, ρ 2, ρ 3, ρ 4, ρ 5, ρ 6, ρ 7, ρ 8, ρ 9, ρ 10, ρ 11, ρ 12] (γ 0) 0 [ρ 0, ρ 1, ρ 2, ρ 3, ρ 4, ρ 5, ρ 6, ρ 7, ρ 8, ρ 9, ρ 10, ρ 11, ρ 12, ρ 13 + 1, ρ 15 + 1, 2, ρ 17] (γ 6)
  have hD : en73 (γ 0) (1, [ρ 0, ρ 13, ρ 14], γ 1) = .inl (0, [ρ 0, ρ 13 + 1], γ 6) := by
    unfold en73
    refine (if_neg (show ¬ (1 : Nat) = 0 by decide)).trans ?_
    refine (if_pos (show (1 : Nat) = 1 by decide)).trans ?_
    refine (zLet_eq (show _ = γ 1 from rfl)).trans ?_
    refine (zLet_eq (show _ = ρ 0 from rfl)).trans ?_
    refine (zLet_eq (show _ = ρ 13 from rfl)).trans ?_
    refine (zLet_eq m12).trans ?_
    refine (zLet_eq m13).trans ?_
    refine (if_neg (show ¬ (ρ 13 < 0) by omega)).trans ?_
    refine (if_neg (show ¬ (ρ 16 ≠ 0) by omega)).trans ?_
    refine (zLet_eq m15).trans ?_
    refine (if_pos (show 0 ≤ -ρ 18 + 4 by omega)).trans ?_
    refine (if_pos (show ρ 18 = 0 by omega)).trans ?_
    refine (zLet_eq m16).trans ?_
    refine (zLet_eq m17).trans ?_
    refine (zLet_eq (show fn62 [ρ 0, ρ 13, ρ 20] (γ 1) = (0, ρ 21, γ 2) from l0.symm)).trans ?_
    refine (zLet_eq (show _ = γ 2 from rfl)).trans ?_
    refine (zLet_eq (show _ = ρ 21 from rfl)).trans ?_
    refine (if_pos (show ρ 21 ≥ 0 by omega)).trans ?_
    refine (zLet_eq c3.symm).trans ?_
    refine (if_neg (show ¬ (ρ 15 + 1 ≤ 50000) by omega)).trans ?_
    refine (zLet_eq c4.symm).trans ?_
    refine (zLet_eq c5.symm).trans ?_
    refine (zLet_eq (show fn63 [ρ 13 + 8 * ρ 0, ρ 21] (γ 5) = (0, 0, γ 6) from l1.symm)).trans ?_
    refine (zLet_eq (show _ = γ 6 from rfl)).trans ?_
    rfl
  exact zGoo_ato hJ hD
theorem vn73a1_4 {S : Nat → zSpc} (hS62 : ∀ x g o v gz, S 62 x g o v gz → sn62 x g o v gz) (hS63 : ∀ x g o v gz, S 63 x g o v gz → sn63 x g o v gz) (hS64 : ∀ x g o v gz, S 64 x g o v gz → sn64 x g o v gz) (hS65 : ∀ x g o v gz, S 65 x g o v gz → sn65 x g o v gz) (hS70 : ∀ x g o v gz, S 70 x g o v gz → sn70 x g o v gz) {a : List Int} {g : rHp} : ∀ (ρ : Nat → Int) (γ : Nat → rHp), jn73 a g 1 (zAg (zNA a73_ 1) ρ) (γ 1) → zO 13 S a g q73a1_4 ρ γ → zGl (fun i vs g1 => jn73 a g i vs g1) (sn73 a g) q73a1_4 ρ γ := by
  intro ρ γ hJ h
  obtain ⟨ha, hg, hr, hf, hm, hc, hl⟩ := h
  have ha : a = [ρ 0, ρ 1, ρ 2, ρ 3, ρ 4, ρ 5, ρ 6, ρ 7, ρ 8, ρ 9, ρ 10, ρ 11, ρ 12] := ha
  subst ha
  subst hg
  have hJ : jn73 [ρ 0, ρ 1, ρ 2, ρ 3, ρ 4, ρ 5, ρ 6, ρ 7, ρ 8, ρ 9, ρ 10, ρ 11, ρ 12] (γ 0) 1 [ρ 0, ρ 1, ρ 2, ρ 3, ρ 4, ρ 5, ρ 6, ρ 7, ρ 8, ρ 9, ρ 10, ρ 11, ρ 12, ρ 13, ρ 14, ρ 15, ρ 16, ρ 17] (γ 1) := hJ
  obtain ⟨r0, r1, r2, r3, r4, r5, r6, r7, r8, r9, r10, r11, r12, r13, r14, r15, r16, r17, r18, r19, r20, r21, -⟩ := hr
  have r0 : (0 : Int) ≤ ρ 0 ∧ ρ 0 ≤ 59 := r0
  have r1 : (0 : Int) ≤ ρ 1 ∧ ρ 1 ≤ 8 := r1
  have r2 : (1 : Int) ≤ ρ 2 ∧ ρ 2 ≤ 60 := r2
  have r3 : (0 : Int) ≤ ρ 3 ∧ ρ 3 ≤ 50001 := r3
  have r4 : (0 : Int) ≤ ρ 4 ∧ ρ 4 ≤ 0 := r4
  have r5 : (0 : Int) ≤ ρ 5 ∧ ρ 5 ≤ 50001 := r5
  have r6 : (1 : Int) ≤ ρ 6 ∧ ρ 6 ≤ 4 := r6
  have r7 : (0 : Int) ≤ ρ 7 ∧ ρ 7 ≤ 61 := r7
  have r8 : (0 : Int) ≤ ρ 8 ∧ ρ 8 ≤ 2000 := r8
  have r9 : (0 : Int) ≤ ρ 9 ∧ ρ 9 ≤ 2000 := r9
  have r10 : (0 : Int) ≤ ρ 10 ∧ ρ 10 ≤ 2000 := r10
  have r11 : (0 : Int) ≤ ρ 11 ∧ ρ 11 ≤ 2000 := r11
  have r12 : (0 : Int) ≤ ρ 12 ∧ ρ 12 ≤ 2000 := r12
  have r13 : (0 : Int) ≤ ρ 13 ∧ ρ 13 ≤ 7 := r13
  have r14 : (0 : Int) ≤ ρ 14 ∧ ρ 14 ≤ 1999 := r14
  have r15 : (0 : Int) ≤ ρ 15 ∧ ρ 15 ≤ 50000 := r15
  have r16 : (0 : Int) ≤ ρ 16 ∧ ρ 16 ≤ 0 := r16
  have r17 : (0 : Int) ≤ ρ 17 ∧ ρ 17 ≤ 2000 := r17
  have r18 : (0 : Int) ≤ ρ 18 ∧ ρ 18 ≤ 0 := r18
  have r19 : (0 : Int) ≤ ρ 19 ∧ ρ 19 ≤ 1999 := r19
  have r20 : ((-1) : Int) ≤ ρ 20 ∧ ρ 20 ≤ 1999 := r20
  have r21 : ((-1) : Int) ≤ ρ 21 ∧ ρ 21 ≤ (-1) := r21
  obtain ⟨f0, f1, f2, f3, f4, f5, f6, f7, f8, -⟩ := hf
  have f0 : (0 : Int) ≤ -ρ 9 + ρ 8 := f0
  have f1 : (0 : Int) ≤ -ρ 21 + ρ 9 + (-1) := f1
  have f2 : (0 : Int) ≤ -ρ 13 + ρ 1 + (-1) := f2
  have f3 : (0 : Int) ≤ ρ 4 + -ρ 3 + 50000 := f3
  have f4 : (0 : Int) ≤ ρ 2 + -ρ 0 + (-1) := f4
  have f5 : (0 : Int) ≤ ρ 17 + -ρ 12 := f5
  have f6 : (0 : Int) ≤ ρ 15 + -ρ 3 := f6
  have f7 : (0 : Int) ≤ ρ 14 + -ρ 0 := f7
  have f8 : (0 : Int) ≤ ρ 14 + -ρ 13 + (-1) := f8
  obtain ⟨m0, m1, m2, m3, m4, m5, m6, m7, m8, m9, m10, m11, m12, m13, m14, m15, m16, m17, -⟩ := hm
  have m0 : γ 0 73 0 (ρ 0) = ρ 1 := m0
  have m1 : γ 0 15 0 32 = ρ 2 := m1
  have m2 : γ 0 15 0 72 = ρ 3 := m2
  have m3 : γ 0 15 0 77 = ρ 4 := m3
  have m4 : γ 0 15 0 94 = ρ 5 := m4
  have m5 : γ 0 71 0 (ρ 0) = ρ 6 := m5
  have m6 : γ 0 15 0 44 = ρ 7 := m6
  have m7 : γ 0 15 0 71 = ρ 8 := m7
  have m8 : γ 0 15 0 81 = ρ 9 := m8
  have m9 : γ 0 15 0 82 = ρ 10 := m9
  have m10 : γ 0 15 0 83 = ρ 11 := m10
  have m11 : γ 0 15 0 90 = ρ 12 := m11
  have m12 : γ 1 15 0 72 = ρ 15 := m12
  have m13 : γ 1 15 0 77 = ρ 16 := m13
  have m14 : γ 1 15 0 90 = ρ 17 := m14
  have m15 : γ 0 77 0 (ρ 13 + 8 * ρ 0) = ρ 18 := m15
  have m16 : γ 1 104 0 (ρ 13) = ρ 19 := m16
  have m17 : γ 0 96 0 (ρ 19) = ρ 20 := m17
  obtain ⟨⟨-, c1⟩, c2⟩ := hc
  have c1 : ∀ (G : Nat) (k j : Int), ¬ rMdP m49_ G j → γ 1 G k j = γ 0 G k j := c1
  have c2 : ∀ (G : Nat) (k j : Int), ¬ rMdP m0_ G j → γ 2 G k j = γ 1 G k j := c2
  obtain ⟨l0, -⟩ := hl
  have l0 : sn62 [ρ 0, ρ 13, ρ 20, ρ 9, ρ 8, ρ 10, ρ 11] (γ 1) 0 (ρ 21) (γ 2) := hS62 _ _ _ _ _ l0
  show jn73 [ρ 0, ρ 1, ρ 2, ρ 3, ρ 4, ρ 5, ρ 6, ρ 7, ρ 8, ρ 9, ρ 10, ρ 11, ρ 12] (γ 0) 1 [ρ 0, ρ 1, ρ 2, ρ 3, ρ 4, ρ 5, ρ 6, ρ 7, ρ 8, ρ 9, ρ 10, ρ 11, ρ 12, ρ 13 + (-1), ρ 13 + 8 * ρ 0, ρ 15, ρ 16, ρ 17] (γ 2)
  have hD : en73 (γ 0) (1, [ρ 0, ρ 13, ρ 14], γ 1) = .inl (1, [ρ 0, ρ 13 + (-1), ρ 13 + 8 * ρ 0], γ 2) := by
    unfold en73
    refine (if_neg (show ¬ (1 : Nat) = 0 by decide)).trans ?_
    refine (if_pos (show (1 : Nat) = 1 by decide)).trans ?_
    refine (zLet_eq (show _ = γ 1 from rfl)).trans ?_
    refine (zLet_eq (show _ = ρ 0 from rfl)).trans ?_
    refine (zLet_eq (show _ = ρ 13 from rfl)).trans ?_
    refine (zLet_eq m12).trans ?_
    refine (zLet_eq m13).trans ?_
    refine (if_neg (show ¬ (ρ 13 < 0) by omega)).trans ?_
    refine (if_neg (show ¬ (ρ 16 ≠ 0) by omega)).trans ?_
    refine (zLet_eq m15).trans ?_
    refine (if_pos (show 0 ≤ -ρ 18 + 4 by omega)).trans ?_
    refine (if_pos (show ρ 18 = 0 by omega)).trans ?_
    refine (zLet_eq m16).trans ?_
    refine (zLet_eq m17).trans ?_
    refine (zLet_eq (show fn62 [ρ 0, ρ 13, ρ 20] (γ 1) = (0, ρ 21, γ 2) from l0.symm)).trans ?_
    refine (zLet_eq (show _ = γ 2 from rfl)).trans ?_
    refine (zLet_eq (show _ = ρ 21 from rfl)).trans ?_
    refine (if_neg (show ¬ (ρ 21 ≥ 0) by omega)).trans ?_
    rfl
  exact zGoo_ato hJ hD
theorem vn73a1_5 {S : Nat → zSpc} (hS62 : ∀ x g o v gz, S 62 x g o v gz → sn62 x g o v gz) (hS63 : ∀ x g o v gz, S 63 x g o v gz → sn63 x g o v gz) (hS64 : ∀ x g o v gz, S 64 x g o v gz → sn64 x g o v gz) (hS65 : ∀ x g o v gz, S 65 x g o v gz → sn65 x g o v gz) (hS70 : ∀ x g o v gz, S 70 x g o v gz → sn70 x g o v gz) {a : List Int} {g : rHp} : ∀ (ρ : Nat → Int) (γ : Nat → rHp), jn73 a g 1 (zAg (zNA a73_ 1) ρ) (γ 1) → zO 13 S a g q73a1_5 ρ γ → zGl (fun i vs g1 => jn73 a g i vs g1) (sn73 a g) q73a1_5 ρ γ := by
  intro ρ γ hJ h
  obtain ⟨ha, hg, hr, hf, hm, hc, hl⟩ := h
  have ha : a = [ρ 0, ρ 1, ρ 2, ρ 3, ρ 4, ρ 5, ρ 6, ρ 7, ρ 8, ρ 9, ρ 10, ρ 11, ρ 12] := ha
  subst ha
  subst hg
  have hJ : jn73 [ρ 0, ρ 1, ρ 2, ρ 3, ρ 4, ρ 5, ρ 6, ρ 7, ρ 8, ρ 9, ρ 10, ρ 11, ρ 12] (γ 0) 1 [ρ 0, ρ 1, ρ 2, ρ 3, ρ 4, ρ 5, ρ 6, ρ 7, ρ 8, ρ 9, ρ 10, ρ 11, ρ 12, ρ 13, ρ 14, ρ 15, ρ 16, ρ 17] (γ 1) := hJ
  obtain ⟨r0, r1, r2, r3, r4, r5, r6, r7, r8, r9, r10, r11, r12, r13, r14, r15, r16, r17, r18, -⟩ := hr
  have r0 : (0 : Int) ≤ ρ 0 ∧ ρ 0 ≤ 59 := r0
  have r1 : (0 : Int) ≤ ρ 1 ∧ ρ 1 ≤ 8 := r1
  have r2 : (1 : Int) ≤ ρ 2 ∧ ρ 2 ≤ 60 := r2
  have r3 : (0 : Int) ≤ ρ 3 ∧ ρ 3 ≤ 50001 := r3
  have r4 : (0 : Int) ≤ ρ 4 ∧ ρ 4 ≤ 0 := r4
  have r5 : (0 : Int) ≤ ρ 5 ∧ ρ 5 ≤ 50001 := r5
  have r6 : (1 : Int) ≤ ρ 6 ∧ ρ 6 ≤ 4 := r6
  have r7 : (0 : Int) ≤ ρ 7 ∧ ρ 7 ≤ 61 := r7
  have r8 : (0 : Int) ≤ ρ 8 ∧ ρ 8 ≤ 2000 := r8
  have r9 : (0 : Int) ≤ ρ 9 ∧ ρ 9 ≤ 2000 := r9
  have r10 : (0 : Int) ≤ ρ 10 ∧ ρ 10 ≤ 2000 := r10
  have r11 : (0 : Int) ≤ ρ 11 ∧ ρ 11 ≤ 2000 := r11
  have r12 : (0 : Int) ≤ ρ 12 ∧ ρ 12 ≤ 2000 := r12
  have r13 : (0 : Int) ≤ ρ 13 ∧ ρ 13 ≤ 7 := r13
  have r14 : (0 : Int) ≤ ρ 14 ∧ ρ 14 ≤ 1999 := r14
  have r15 : (0 : Int) ≤ ρ 15 ∧ ρ 15 ≤ 50000 := r15
  have r16 : (0 : Int) ≤ ρ 16 ∧ ρ 16 ≤ 0 := r16
  have r17 : (0 : Int) ≤ ρ 17 ∧ ρ 17 ≤ 2000 := r17
  have r18 : (1 : Int) ≤ ρ 18 ∧ ρ 18 ≤ 4 := r18
  obtain ⟨f0, f1, f2, f3, f4, f5, f6, -⟩ := hf
  have f0 : (0 : Int) ≤ -ρ 13 + ρ 1 + (-1) := f0
  have f1 : (0 : Int) ≤ ρ 4 + -ρ 3 + 50000 := f1
  have f2 : (0 : Int) ≤ ρ 2 + -ρ 0 + (-1) := f2
  have f3 : (0 : Int) ≤ ρ 17 + -ρ 12 := f3
  have f4 : (0 : Int) ≤ ρ 15 + -ρ 3 := f4
  have f5 : (0 : Int) ≤ ρ 14 + -ρ 0 := f5
  have f6 : (0 : Int) ≤ ρ 14 + -ρ 13 + (-1) := f6
  obtain ⟨m0, m1, m2, m3, m4, m5, m6, m7, m8, m9, m10, m11, m12, m13, m14, m15, -⟩ := hm
  have m0 : γ 0 73 0 (ρ 0) = ρ 1 := m0
  have m1 : γ 0 15 0 32 = ρ 2 := m1
  have m2 : γ 0 15 0 72 = ρ 3 := m2
  have m3 : γ 0 15 0 77 = ρ 4 := m3
  have m4 : γ 0 15 0 94 = ρ 5 := m4
  have m5 : γ 0 71 0 (ρ 0) = ρ 6 := m5
  have m6 : γ 0 15 0 44 = ρ 7 := m6
  have m7 : γ 0 15 0 71 = ρ 8 := m7
  have m8 : γ 0 15 0 81 = ρ 9 := m8
  have m9 : γ 0 15 0 82 = ρ 10 := m9
  have m10 : γ 0 15 0 83 = ρ 11 := m10
  have m11 : γ 0 15 0 90 = ρ 12 := m11
  have m12 : γ 1 15 0 72 = ρ 15 := m12
  have m13 : γ 1 15 0 77 = ρ 16 := m13
  have m14 : γ 1 15 0 90 = ρ 17 := m14
  have m15 : γ 0 77 0 (ρ 13 + 8 * ρ 0) = ρ 18 := m15
  obtain ⟨-, c1⟩ := hc
  have c1 : ∀ (G : Nat) (k j : Int), ¬ rMdP m49_ G j → γ 1 G k j = γ 0 G k j := c1
  show jn73 [ρ 0, ρ 1, ρ 2, ρ 3, ρ 4, ρ 5, ρ 6, ρ 7, ρ 8, ρ 9, ρ 10, ρ 11, ρ 12] (γ 0) 1 [ρ 0, ρ 1, ρ 2, ρ 3, ρ 4, ρ 5, ρ 6, ρ 7, ρ 8, ρ 9, ρ 10, ρ 11, ρ 12, ρ 13 + (-1), ρ 13 + 8 * ρ 0, ρ 15, ρ 16, ρ 17] (γ 1)
  have hD : en73 (γ 0) (1, [ρ 0, ρ 13, ρ 14], γ 1) = .inl (1, [ρ 0, ρ 13 + (-1), ρ 13 + 8 * ρ 0], γ 1) := by
    unfold en73
    refine (if_neg (show ¬ (1 : Nat) = 0 by decide)).trans ?_
    refine (if_pos (show (1 : Nat) = 1 by decide)).trans ?_
    refine (zLet_eq (show _ = γ 1 from rfl)).trans ?_
    refine (zLet_eq (show _ = ρ 0 from rfl)).trans ?_
    refine (zLet_eq (show _ = ρ 13 from rfl)).trans ?_
    refine (zLet_eq m12).trans ?_
    refine (zLet_eq m13).trans ?_
    refine (if_neg (show ¬ (ρ 13 < 0) by omega)).trans ?_
    refine (if_neg (show ¬ (ρ 16 ≠ 0) by omega)).trans ?_
    refine (zLet_eq m15).trans ?_
    refine (if_pos (show 0 ≤ -ρ 18 + 4 by omega)).trans ?_
    refine (if_neg (show ¬ (ρ 18 = 0) by omega)).trans ?_
    rfl
  exact zGoo_ato hJ hD
theorem vn73a1_6 {S : Nat → zSpc} (hS62 : ∀ x g o v gz, S 62 x g o v gz → sn62 x g o v gz) (hS63 : ∀ x g o v gz, S 63 x g o v gz → sn63 x g o v gz) (hS64 : ∀ x g o v gz, S 64 x g o v gz → sn64 x g o v gz) (hS65 : ∀ x g o v gz, S 65 x g o v gz → sn65 x g o v gz) (hS70 : ∀ x g o v gz, S 70 x g o v gz → sn70 x g o v gz) {a : List Int} {g : rHp} : ∀ (ρ : Nat → Int) (γ : Nat → rHp), jn73 a g 1 (zAg (zNA a73_ 1) ρ) (γ 1) → zO 13 S a g q73a1_6 ρ γ → zGl (fun i vs g1 => jn73 a g i vs g1) (sn73 a g) q73a1_6 ρ γ := by
  intro ρ γ hJ h
  obtain ⟨ha, hg, hr, hf, hm, hc, hl⟩ := h
  have ha : a = [ρ 0, ρ 1, ρ 2, ρ 3, ρ 4, ρ 5, ρ 6, ρ 7, ρ 8, ρ 9, ρ 10, ρ 11, ρ 12] := ha
  subst ha
  subst hg
  have hJ : jn73 [ρ 0, ρ 1, ρ 2, ρ 3, ρ 4, ρ 5, ρ 6, ρ 7, ρ 8, ρ 9, ρ 10, ρ 11, ρ 12] (γ 0) 1 [ρ 0, ρ 1, ρ 2, ρ 3, ρ 4, ρ 5, ρ 6, ρ 7, ρ 8, ρ 9, ρ 10, ρ 11, ρ 12, ρ 13, ρ 14, ρ 15, ρ 16, ρ 17] (γ 1) := hJ
  obtain ⟨r0, r1, r2, r3, r4, r5, r6, r7, r8, r9, r10, r11, r12, r13, r14, r15, r16, r17, r18, -⟩ := hr
  have r0 : (0 : Int) ≤ ρ 0 ∧ ρ 0 ≤ 59 := r0
  have r1 : (0 : Int) ≤ ρ 1 ∧ ρ 1 ≤ 8 := r1
  have r2 : (1 : Int) ≤ ρ 2 ∧ ρ 2 ≤ 60 := r2
  have r3 : (0 : Int) ≤ ρ 3 ∧ ρ 3 ≤ 50001 := r3
  have r4 : (0 : Int) ≤ ρ 4 ∧ ρ 4 ≤ 0 := r4
  have r5 : (0 : Int) ≤ ρ 5 ∧ ρ 5 ≤ 50001 := r5
  have r6 : (1 : Int) ≤ ρ 6 ∧ ρ 6 ≤ 4 := r6
  have r7 : (0 : Int) ≤ ρ 7 ∧ ρ 7 ≤ 61 := r7
  have r8 : (0 : Int) ≤ ρ 8 ∧ ρ 8 ≤ 2000 := r8
  have r9 : (0 : Int) ≤ ρ 9 ∧ ρ 9 ≤ 2000 := r9
  have r10 : (0 : Int) ≤ ρ 10 ∧ ρ 10 ≤ 2000 := r10
  have r11 : (0 : Int) ≤ ρ 11 ∧ ρ 11 ≤ 2000 := r11
  have r12 : (0 : Int) ≤ ρ 12 ∧ ρ 12 ≤ 2000 := r12
  have r13 : (0 : Int) ≤ ρ 13 ∧ ρ 13 ≤ 7 := r13
  have r14 : (0 : Int) ≤ ρ 14 ∧ ρ 14 ≤ 1999 := r14
  have r15 : (0 : Int) ≤ ρ 15 ∧ ρ 15 ≤ 50000 := r15
  have r16 : (0 : Int) ≤ ρ 16 ∧ ρ 16 ≤ 0 := r16
  have r17 : (0 : Int) ≤ ρ 17 ∧ ρ 17 ≤ 2000 := r17
  have r18 : (5 : Int) ≤ ρ 18 ∧ ρ 18 ≤ 7 := r18
  obtain ⟨f0, f1, f2, f3, f4, f5, f6, -⟩ := hf
  have f0 : (0 : Int) ≤ -ρ 13 + ρ 1 + (-1) := f0
  have f1 : (0 : Int) ≤ ρ 4 + -ρ 3 + 50000 := f1
  have f2 : (0 : Int) ≤ ρ 2 + -ρ 0 + (-1) := f2
  have f3 : (0 : Int) ≤ ρ 17 + -ρ 12 := f3
  have f4 : (0 : Int) ≤ ρ 15 + -ρ 3 := f4
  have f5 : (0 : Int) ≤ ρ 14 + -ρ 0 := f5
  have f6 : (0 : Int) ≤ ρ 14 + -ρ 13 + (-1) := f6
  obtain ⟨m0, m1, m2, m3, m4, m5, m6, m7, m8, m9, m10, m11, m12, m13, m14, m15, -⟩ := hm
  have m0 : γ 0 73 0 (ρ 0) = ρ 1 := m0
  have m1 : γ 0 15 0 32 = ρ 2 := m1
  have m2 : γ 0 15 0 72 = ρ 3 := m2
  have m3 : γ 0 15 0 77 = ρ 4 := m3
  have m4 : γ 0 15 0 94 = ρ 5 := m4
  have m5 : γ 0 71 0 (ρ 0) = ρ 6 := m5
  have m6 : γ 0 15 0 44 = ρ 7 := m6
  have m7 : γ 0 15 0 71 = ρ 8 := m7
  have m8 : γ 0 15 0 81 = ρ 9 := m8
  have m9 : γ 0 15 0 82 = ρ 10 := m9
  have m10 : γ 0 15 0 83 = ρ 11 := m10
  have m11 : γ 0 15 0 90 = ρ 12 := m11
  have m12 : γ 1 15 0 72 = ρ 15 := m12
  have m13 : γ 1 15 0 77 = ρ 16 := m13
  have m14 : γ 1 15 0 90 = ρ 17 := m14
  have m15 : γ 0 77 0 (ρ 13 + 8 * ρ 0) = ρ 18 := m15
  obtain ⟨-, c1⟩ := hc
  have c1 : ∀ (G : Nat) (k j : Int), ¬ rMdP m49_ G j → γ 1 G k j = γ 0 G k j := c1
  show jn73 [ρ 0, ρ 1, ρ 2, ρ 3, ρ 4, ρ 5, ρ 6, ρ 7, ρ 8, ρ 9, ρ 10, ρ 11, ρ 12] (γ 0) 1 [ρ 0, ρ 1, ρ 2, ρ 3, ρ 4, ρ 5, ρ 6, ρ 7, ρ 8, ρ 9, ρ 10, ρ 11, ρ 12, ρ 13 + (-1), ρ 13 + 8 * ρ 0, ρ 15, ρ 16, ρ 17] (γ 1)
  have hD : en73 (γ 0) (1, [ρ 0, ρ 13, ρ 14], γ 1) = .inl (1, [ρ 0, ρ 13 + (-1), ρ 13 + 8 * ρ 0], γ 1) := by
    unfold en73
    refine (if_neg (show ¬ (1 : Nat) = 0 by decide)).trans ?_
    refine (if_pos (show (1 : Nat) = 1 by decide)).trans ?_
    refine (zLet_eq (show _ = γ 1 from rfl)).trans ?_
    refine (zLet_eq (show _ = ρ 0 from rfl)).trans ?_
    refine (zLet_eq (show _ = ρ 13 from rfl)).trans ?_
    refine (zLet_eq m12).trans ?_
    refine (zLet_eq m13).trans ?_
    refine (if_neg (show ¬ (ρ 13 < 0) by omega)).trans ?_
    refine (if_neg (show ¬ (ρ 16 ≠ 0) by omega)).trans ?_
    refine (zLet_eq m15).trans ?_
    refine (if_neg (show ¬ (0 ≤ -ρ 18 + 4) by omega)).trans ?_
    rfl
  exact zGoo_ato hJ hD
theorem yn73 {S : Nat → zSpc} (hS62 : ∀ x g o v gz, S 62 x g o v gz → sn62 x g o v gz) (hS63 : ∀ x g o v gz, S 63 x g o v gz → sn63 x g o v gz) (hS64 : ∀ x g o v gz, S 64 x g o v gz → sn64 x g o v gz) (hS65 : ∀ x g o v gz, S 65 x g o v gz → sn65 x g o v gz) (hS70 : ∀ x g o v gz, S 70 x g o v gz → sn70 x g o v gz) : ∀ x g o v gz, zSem uW uT w73_.2.2.2.1 w73_.2.2.1.1.length S q73 (fun i => q73a.getD i []) (zNA a73_) x g o v gz → sn73 x g o v gz := by
  intro a g o v gz h
  exact zSem_all (l0 := q73) (las := q73a) (S := S) (J := (fun i vs g1 => jn73 a g i vs g1)) (P := sn73 a g) (fun _ => (show zAll _ [q73_0] from (zAll_c (vn73_0 hS62 hS63 hS64 hS65 hS70) zAll_n))) (fun _ => (show zAllI _ 0 [q73a0, q73a1] from ⟨(show zAll _ [q73a0_0, q73a0_1, q73a0_2, q73a0_3, q73a0_4, q73a0_5, q73a0_6, q73a0_7, q73a0_8] from (zAll_c (vn73a0_0 hS62 hS63 hS64 hS65 hS70) (zAll_c (vn73a0_1 hS62 hS63 hS64 hS65 hS70) (zAll_c (vn73a0_2 hS62 hS63 hS64 hS65 hS70) (zAll_c (vn73a0_3 hS62 hS63 hS64 hS65 hS70) (zAll_c (vn73a0_4 hS62 hS63 hS64 hS65 hS70) (zAll_c (vn73a0_5 hS62 hS63 hS64 hS65 hS70) (zAll_c (vn73a0_6 hS62 hS63 hS64 hS65 hS70) (zAll_c (vn73a0_7 hS62 hS63 hS64 hS65 hS70) (zAll_c (vn73a0_8 hS62 hS63 hS64 hS65 hS70) zAll_n)))))))))), ⟨(show zAll _ [q73a1_0, q73a1_1, q73a1_2, q73a1_3, q73a1_4, q73a1_5, q73a1_6] from (zAll_c (vn73a1_0 hS62 hS63 hS64 hS65 hS70) (zAll_c (vn73a1_1 hS62 hS63 hS64 hS65 hS70) (zAll_c (vn73a1_2 hS62 hS63 hS64 hS65 hS70) (zAll_c (vn73a1_3 hS62 hS63 hS64 hS65 hS70) (zAll_c (vn73a1_4 hS62 hS63 hS64 hS65 hS70) (zAll_c (vn73a1_5 hS62 hS63 hS64 hS65 hS70) (zAll_c (vn73a1_6 hS62 hS63 hS64 hS65 hS70) zAll_n)))))))), trivial⟩⟩)) h
