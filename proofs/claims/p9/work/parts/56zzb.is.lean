/-! ===== the runs are the functions ===== -/
set_option maxRecDepth 100000 in
theorem vn88_0 {S : Nat → zSpc} (hS87 : ∀ x g o v gz, S 87 x g o v gz → sn87 x g o v gz) {a : List Int} {g : rHp} : ∀ (ρ : Nat → Int) (γ : Nat → rHp), zO 2 S a g q88_0 ρ γ → zGl (fun _ _ _ => True) (sn88 a g) q88_0 ρ γ := by
  intro ρ γ h
  obtain ⟨ha, hg, hr, hf, hm, hc, hl⟩ := h
  have ha : a = [ρ 0, ρ 1] := ha
  subst ha
  subst hg
  obtain ⟨r0, -, r2, -⟩ := hr
  have r0 : (0 : Int) ≤ ρ 0 ∧ ρ 0 ≤ 549755813887 := r0
  have r2 : (0 : Int) ≤ ρ 2 ∧ ρ 2 ≤ 9 := r2
  obtain ⟨f0, f1, f2, f3, -⟩ := hf
  have f0 : (0 : Int) ≤ ρ 3 + -ρ 0 := f0
  have f1 : (0 : Int) ≤ -ρ 3 + ρ 0 := f1
  have f2 : (0 : Int) ≤ ρ 2 + -ρ 0 := f2
  have f3 : (0 : Int) ≤ -ρ 2 + ρ 0 := f3
  obtain ⟨w_0, w_1, w_2, w_3⟩ : (ρ 0 ≥ 0) ∧ ((ρ 0) / 1 = ρ 2) ∧ (ρ 2 ≤ 9) ∧ ((ρ 0) / 1 = ρ 3) := ⟨by omega, by omega, by omega, by omega⟩
  obtain ⟨l0, l1, l2, l3, -⟩ := hl
  have l0 : zOpP (.lrem) (γ 0) (γ 1) [ρ 3, 10] (ρ 4) := l0
  have l1 : zOpP (.ladd) (γ 0) (γ 1) [48, ρ 4] (ρ 5) := l1
  have l2 : zOpP (.l2i) (γ 0) (γ 1) [ρ 5] (ρ 6) := l2
  have l3 : sn87 [ρ 6, ρ 1] (γ 0) 0 0 (γ 1) := hS87 _ _ _ _ _ l3
  show sn88 [ρ 0, ρ 1] (γ 0) 0 0 (γ 1)
  refine Eq.symm ?_
  show fn88 [ρ 0] (γ 0) = _
  unfold fn88
  refine (zLet_eq (show _ = ρ 0 from rfl)).trans ?_
  refine (if_pos w_0).trans ?_
  refine (zLet_eq w_1).trans ?_
  refine (if_pos w_2).trans ?_
  refine (zLet_eq w_3).trans ?_
  refine (zLet_eq (zF2_ok l0)).trans ?_
  refine (zLet_eq (zF2_ok l1)).trans ?_
  refine (zLet_eq (zF1_ok l2)).trans ?_
  refine (zLet_eq (show fn87 [ρ 6] (γ 0) = (0, 0, γ 1) from l3.symm)).trans ?_
  refine (zLet_eq (show _ = γ 1 from rfl)).trans ?_
  rfl
set_option maxRecDepth 100000 in
theorem vn88_1 {S : Nat → zSpc} (hS87 : ∀ x g o v gz, S 87 x g o v gz → sn87 x g o v gz) {a : List Int} {g : rHp} : ∀ (ρ : Nat → Int) (γ : Nat → rHp), zO 2 S a g q88_1 ρ γ → zGl (fun _ _ _ => True) (sn88 a g) q88_1 ρ γ := by
  intro ρ γ h
  obtain ⟨ha, hg, hr, hf, hm, hc, hl⟩ := h
  have ha : a = [ρ 0, ρ 1] := ha
  subst ha
  subst hg
  obtain ⟨r0, -, r2, r3, -⟩ := hr
  have r0 : (0 : Int) ≤ ρ 0 ∧ ρ 0 ≤ 549755813887 := r0
  have r2 : (10 : Int) ≤ ρ 2 ∧ ρ 2 ≤ 549755813887 := r2
  have r3 : (0 : Int) ≤ ρ 3 ∧ ρ 3 ≤ 9 := r3
  obtain ⟨f0, f1, -, f3, f4, -, f6, f7, f8, f9, -⟩ := hf
  have f0 : (0 : Int) ≤ ρ 8 + -ρ 0 := f0
  have f1 : (0 : Int) ≤ -ρ 8 + ρ 0 := f1
  have f3 : (0 : Int) ≤ 10 * ρ 4 + -ρ 0 + 9 := f3
  have f4 : (0 : Int) ≤ (-10) * ρ 4 + ρ 0 := f4
  have f6 : (0 : Int) ≤ 10 * ρ 3 + -ρ 0 + 9 := f6
  have f7 : (0 : Int) ≤ (-10) * ρ 3 + ρ 0 := f7
  have f8 : (0 : Int) ≤ ρ 2 + -ρ 0 := f8
  have f9 : (0 : Int) ≤ -ρ 2 + ρ 0 := f9
  obtain ⟨w_0, w_1, w_2, w_3, w_4, w_5, w_6⟩ : (ρ 0 ≥ 0) ∧ ((ρ 0) / 1 = ρ 2) ∧ (¬ (ρ 2 ≤ 9)) ∧ ((ρ 0) / 10 = ρ 3) ∧ (ρ 3 ≤ 9) ∧ ((ρ 0) / 10 = ρ 4) ∧ ((ρ 0) / 1 = ρ 8) := ⟨by omega, by omega, by omega, by omega, by omega, by omega, by omega⟩
  obtain ⟨l0, l1, l2, l3, l4, l5, l6, l7, -⟩ := hl
  have l0 : zOpP (.lrem) (γ 0) (γ 1) [ρ 4, 10] (ρ 5) := l0
  have l1 : zOpP (.ladd) (γ 0) (γ 1) [48, ρ 5] (ρ 6) := l1
  have l2 : zOpP (.l2i) (γ 0) (γ 1) [ρ 6] (ρ 7) := l2
  have l3 : sn87 [ρ 7, ρ 1] (γ 0) 0 0 (γ 1) := hS87 _ _ _ _ _ l3
  have l4 : zOpP (.lrem) (γ 0) (γ 1) [ρ 8, 10] (ρ 9) := l4
  have l5 : zOpP (.ladd) (γ 0) (γ 1) [48, ρ 9] (ρ 10) := l5
  have l6 : zOpP (.l2i) (γ 0) (γ 1) [ρ 10] (ρ 11) := l6
  have l7 : sn87 [ρ 11, ρ 1 + 1] (γ 1) 0 0 (γ 2) := hS87 _ _ _ _ _ l7
  show sn88 [ρ 0, ρ 1] (γ 0) 0 0 (γ 2)
  refine Eq.symm ?_
  show fn88 [ρ 0] (γ 0) = _
  unfold fn88
  refine (zLet_eq (show _ = ρ 0 from rfl)).trans ?_
  refine (if_pos w_0).trans ?_
  refine (zLet_eq w_1).trans ?_
  refine (if_neg w_2).trans ?_
  refine (zLet_eq w_3).trans ?_
  refine (if_pos w_4).trans ?_
  refine (zLet_eq w_5).trans ?_
  refine (zLet_eq (zF2_ok l0)).trans ?_
  refine (zLet_eq (zF2_ok l1)).trans ?_
  refine (zLet_eq (zF1_ok l2)).trans ?_
  refine (zLet_eq (show fn87 [ρ 7] (γ 0) = (0, 0, γ 1) from l3.symm)).trans ?_
  refine (zLet_eq (show _ = γ 1 from rfl)).trans ?_
  refine (zLet_eq w_6).trans ?_
  refine (zLet_eq (zF2_ok l4)).trans ?_
  refine (zLet_eq (zF2_ok l5)).trans ?_
  refine (zLet_eq (zF1_ok l6)).trans ?_
  refine (zLet_eq (show fn87 [ρ 11] (γ 1) = (0, 0, γ 2) from l7.symm)).trans ?_
  refine (zLet_eq (show _ = γ 2 from rfl)).trans ?_
  rfl
set_option maxRecDepth 100000 in
theorem vn88_2 {S : Nat → zSpc} (hS87 : ∀ x g o v gz, S 87 x g o v gz → sn87 x g o v gz) {a : List Int} {g : rHp} : ∀ (ρ : Nat → Int) (γ : Nat → rHp), zO 2 S a g q88_2 ρ γ → zGl (fun _ _ _ => True) (sn88 a g) q88_2 ρ γ := by
  intro ρ γ h
  obtain ⟨ha, hg, hr, hf, hm, hc, hl⟩ := h
  have ha : a = [ρ 0, ρ 1] := ha
  subst ha
  subst hg
  obtain ⟨r0, -, r2, r3, r4, -⟩ := hr
  have r0 : (0 : Int) ≤ ρ 0 ∧ ρ 0 ≤ 549755813887 := r0
  have r2 : (10 : Int) ≤ ρ 2 ∧ ρ 2 ≤ 549755813887 := r2
  have r3 : (10 : Int) ≤ ρ 3 ∧ ρ 3 ≤ 54975581388 := r3
  have r4 : (0 : Int) ≤ ρ 4 ∧ ρ 4 ≤ 9 := r4
  obtain ⟨f0, f1, -, f3, f4, -, f6, f7, -, f9, f10, -, f12, f13, f14, f15, -⟩ := hf
  have f0 : (0 : Int) ≤ ρ 13 + -ρ 0 := f0
  have f1 : (0 : Int) ≤ -ρ 13 + ρ 0 := f1
  have f3 : (0 : Int) ≤ 10 * ρ 9 + -ρ 0 + 9 := f3
  have f4 : (0 : Int) ≤ (-10) * ρ 9 + ρ 0 := f4
  have f6 : (0 : Int) ≤ 100 * ρ 5 + -ρ 0 + 99 := f6
  have f7 : (0 : Int) ≤ (-100) * ρ 5 + ρ 0 := f7
  have f9 : (0 : Int) ≤ 100 * ρ 4 + -ρ 0 + 99 := f9
  have f10 : (0 : Int) ≤ (-100) * ρ 4 + ρ 0 := f10
  have f12 : (0 : Int) ≤ 10 * ρ 3 + -ρ 0 + 9 := f12
  have f13 : (0 : Int) ≤ (-10) * ρ 3 + ρ 0 := f13
  have f14 : (0 : Int) ≤ ρ 2 + -ρ 0 := f14
  have f15 : (0 : Int) ≤ -ρ 2 + ρ 0 := f15
  obtain ⟨w_0, w_1, w_2, w_3, w_4, w_5, w_6, w_7, w_8, w_9⟩ : (ρ 0 ≥ 0) ∧ ((ρ 0) / 1 = ρ 2) ∧ (¬ (ρ 2 ≤ 9)) ∧ ((ρ 0) / 10 = ρ 3) ∧ (¬ (ρ 3 ≤ 9)) ∧ ((ρ 0) / 100 = ρ 4) ∧ (ρ 4 ≤ 9) ∧ ((ρ 0) / 100 = ρ 5) ∧ ((ρ 0) / 10 = ρ 9) ∧ ((ρ 0) / 1 = ρ 13) := ⟨by clear r2 r3 r4 f0 f1 f3 f4 f6 f7 f9 f10 f12 f13 f14 f15; omega, by clear r0 r2 r3 r4 f0 f1 f3 f4 f6 f7 f9 f10 f12 f13; omega, by clear r0 r3 r4 f0 f1 f3 f4 f6 f7 f9 f10 f12 f13 f14 f15; omega, by clear r0 r2 r3 r4 f0 f1 f3 f4 f6 f7 f9 f10 f14 f15; omega, by clear r0 r2 r4 f0 f1 f3 f4 f6 f7 f9 f10 f12 f13 f14 f15; omega, by clear r0 r2 r3 r4 f0 f1 f3 f4 f6 f7 f12 f13 f14 f15; omega, by clear r0 r2 r3 f0 f1 f3 f4 f6 f7 f9 f10 f12 f13 f14 f15; omega, by clear r0 r2 r3 r4 f0 f1 f3 f4 f9 f10 f12 f13 f14 f15; omega, by clear r0 r2 r3 r4 f0 f1 f6 f7 f9 f10 f12 f13 f14 f15; omega, by clear r0 r2 r3 r4 f3 f4 f6 f7 f9 f10 f12 f13 f14 f15; omega⟩
  obtain ⟨l0, l1, l2, l3, l4, l5, l6, l7, l8, l9, l10, l11, -⟩ := hl
  have l0 : zOpP (.lrem) (γ 0) (γ 1) [ρ 5, 10] (ρ 6) := l0
  have l1 : zOpP (.ladd) (γ 0) (γ 1) [48, ρ 6] (ρ 7) := l1
  have l2 : zOpP (.l2i) (γ 0) (γ 1) [ρ 7] (ρ 8) := l2
  have l3 : sn87 [ρ 8, ρ 1] (γ 0) 0 0 (γ 1) := hS87 _ _ _ _ _ l3
  have l4 : zOpP (.lrem) (γ 0) (γ 1) [ρ 9, 10] (ρ 10) := l4
  have l5 : zOpP (.ladd) (γ 0) (γ 1) [48, ρ 10] (ρ 11) := l5
  have l6 : zOpP (.l2i) (γ 0) (γ 1) [ρ 11] (ρ 12) := l6
  have l7 : sn87 [ρ 12, ρ 1 + 1] (γ 1) 0 0 (γ 2) := hS87 _ _ _ _ _ l7
  have l8 : zOpP (.lrem) (γ 0) (γ 1) [ρ 13, 10] (ρ 14) := l8
  have l9 : zOpP (.ladd) (γ 0) (γ 1) [48, ρ 14] (ρ 15) := l9
  have l10 : zOpP (.l2i) (γ 0) (γ 1) [ρ 15] (ρ 16) := l10
  have l11 : sn87 [ρ 16, ρ 1 + 2] (γ 2) 0 0 (γ 3) := hS87 _ _ _ _ _ l11
  show sn88 [ρ 0, ρ 1] (γ 0) 0 0 (γ 3)
  refine Eq.symm ?_
  show fn88 [ρ 0] (γ 0) = _
  unfold fn88
  refine (zLet_eq (show _ = ρ 0 from rfl)).trans ?_
  refine (if_pos w_0).trans ?_
  refine (zLet_eq w_1).trans ?_
  refine (if_neg w_2).trans ?_
  refine (zLet_eq w_3).trans ?_
  refine (if_neg w_4).trans ?_
  refine (zLet_eq w_5).trans ?_
  refine (if_pos w_6).trans ?_
  refine (zLet_eq w_7).trans ?_
  refine (zLet_eq (zF2_ok l0)).trans ?_
  refine (zLet_eq (zF2_ok l1)).trans ?_
  refine (zLet_eq (zF1_ok l2)).trans ?_
  refine (zLet_eq (show fn87 [ρ 8] (γ 0) = (0, 0, γ 1) from l3.symm)).trans ?_
  refine (zLet_eq (show _ = γ 1 from rfl)).trans ?_
  refine (zLet_eq w_8).trans ?_
  refine (zLet_eq (zF2_ok l4)).trans ?_
  refine (zLet_eq (zF2_ok l5)).trans ?_
  refine (zLet_eq (zF1_ok l6)).trans ?_
  refine (zLet_eq (show fn87 [ρ 12] (γ 1) = (0, 0, γ 2) from l7.symm)).trans ?_
  refine (zLet_eq (show _ = γ 2 from rfl)).trans ?_
  refine (zLet_eq w_9).trans ?_
  refine (zLet_eq (zF2_ok l8)).trans ?_
  refine (zLet_eq (zF2_ok l9)).trans ?_
  refine (zLet_eq (zF1_ok l10)).trans ?_
  refine (zLet_eq (show fn87 [ρ 16] (γ 2) = (0, 0, γ 3) from l11.symm)).trans ?_
  refine (zLet_eq (show _ = γ 3 from rfl)).trans ?_
  rfl
set_option maxRecDepth 100000 in
theorem vn88_3 {S : Nat → zSpc} (hS87 : ∀ x g o v gz, S 87 x g o v gz → sn87 x g o v gz) {a : List Int} {g : rHp} : ∀ (ρ : Nat → Int) (γ : Nat → rHp), zO 2 S a g q88_3 ρ γ → zGl (fun _ _ _ => True) (sn88 a g) q88_3 ρ γ := by
  intro ρ γ h
  obtain ⟨ha, hg, hr, hf, hm, hc, hl⟩ := h
  have ha : a = [ρ 0, ρ 1] := ha
  subst ha
  subst hg
  obtain ⟨r0, -, r2, r3, r4, r5, -⟩ := hr
  have r0 : (0 : Int) ≤ ρ 0 ∧ ρ 0 ≤ 549755813887 := r0
  have r2 : (10 : Int) ≤ ρ 2 ∧ ρ 2 ≤ 549755813887 := r2
  have r3 : (10 : Int) ≤ ρ 3 ∧ ρ 3 ≤ 54975581388 := r3
  have r4 : (10 : Int) ≤ ρ 4 ∧ ρ 4 ≤ 5497558138 := r4
  have r5 : (0 : Int) ≤ ρ 5 ∧ ρ 5 ≤ 9 := r5
  obtain ⟨f0, f1, -, f3, f4, -, f6, f7, -, f9, f10, -, f12, f13, -, f15, f16, -, f18, f19, f20, f21, -⟩ := hf
  have f0 : (0 : Int) ≤ ρ 18 + -ρ 0 := f0
  have f1 : (0 : Int) ≤ -ρ 18 + ρ 0 := f1
  have f3 : (0 : Int) ≤ 10 * ρ 14 + -ρ 0 + 9 := f3
  have f4 : (0 : Int) ≤ (-10) * ρ 14 + ρ 0 := f4
  have f6 : (0 : Int) ≤ 100 * ρ 10 + -ρ 0 + 99 := f6
  have f7 : (0 : Int) ≤ (-100) * ρ 10 + ρ 0 := f7
  have f9 : (0 : Int) ≤ 1000 * ρ 6 + -ρ 0 + 999 := f9
  have f10 : (0 : Int) ≤ (-1000) * ρ 6 + ρ 0 := f10
  have f12 : (0 : Int) ≤ 1000 * ρ 5 + -ρ 0 + 999 := f12
  have f13 : (0 : Int) ≤ (-1000) * ρ 5 + ρ 0 := f13
  have f15 : (0 : Int) ≤ 100 * ρ 4 + -ρ 0 + 99 := f15
  have f16 : (0 : Int) ≤ (-100) * ρ 4 + ρ 0 := f16
  have f18 : (0 : Int) ≤ 10 * ρ 3 + -ρ 0 + 9 := f18
  have f19 : (0 : Int) ≤ (-10) * ρ 3 + ρ 0 := f19
  have f20 : (0 : Int) ≤ ρ 2 + -ρ 0 := f20
  have f21 : (0 : Int) ≤ -ρ 2 + ρ 0 := f21
  obtain ⟨w_0, w_1, w_2, w_3, w_4, w_5, w_6, w_7, w_8, w_9, w_10, w_11, w_12⟩ : (ρ 0 ≥ 0) ∧ ((ρ 0) / 1 = ρ 2) ∧ (¬ (ρ 2 ≤ 9)) ∧ ((ρ 0) / 10 = ρ 3) ∧ (¬ (ρ 3 ≤ 9)) ∧ ((ρ 0) / 100 = ρ 4) ∧ (¬ (ρ 4 ≤ 9)) ∧ ((ρ 0) / 1000 = ρ 5) ∧ (ρ 5 ≤ 9) ∧ ((ρ 0) / 1000 = ρ 6) ∧ ((ρ 0) / 100 = ρ 10) ∧ ((ρ 0) / 10 = ρ 14) ∧ ((ρ 0) / 1 = ρ 18) := ⟨by clear r2 r3 r4 r5 f0 f1 f3 f4 f6 f7 f9 f10 f12 f13 f15 f16 f18 f19 f20 f21; omega, by clear r0 r2 r3 r4 r5 f0 f1 f3 f4 f6 f7 f9 f10 f12 f13 f15 f16 f18 f19; omega, by clear r0 r3 r4 r5 f0 f1 f3 f4 f6 f7 f9 f10 f12 f13 f15 f16 f18 f19 f20 f21; omega, by clear r0 r2 r3 r4 r5 f0 f1 f3 f4 f6 f7 f9 f10 f12 f13 f15 f16 f20 f21; omega, by clear r0 r2 r4 r5 f0 f1 f3 f4 f6 f7 f9 f10 f12 f13 f15 f16 f18 f19 f20 f21; omega, by clear r0 r2 r3 r4 r5 f0 f1 f3 f4 f6 f7 f9 f10 f12 f13 f18 f19 f20 f21; omega, by clear r0 r2 r3 r5 f0 f1 f3 f4 f6 f7 f9 f10 f12 f13 f15 f16 f18 f19 f20 f21; omega, by clear r0 r2 r3 r4 r5 f0 f1 f3 f4 f6 f7 f9 f10 f15 f16 f18 f19 f20 f21; omega, by clear r0 r2 r3 r4 f0 f1 f3 f4 f6 f7 f9 f10 f12 f13 f15 f16 f18 f19 f20 f21; omega, by clear r0 r2 r3 r4 r5 f0 f1 f3 f4 f6 f7 f12 f13 f15 f16 f18 f19 f20 f21; omega, by clear r0 r2 r3 r4 r5 f0 f1 f3 f4 f9 f10 f12 f13 f15 f16 f18 f19 f20 f21; omega, by clear r0 r2 r3 r4 r5 f0 f1 f6 f7 f9 f10 f12 f13 f15 f16 f18 f19 f20 f21; omega, by clear r0 r2 r3 r4 r5 f3 f4 f6 f7 f9 f10 f12 f13 f15 f16 f18 f19 f20 f21; omega⟩
  obtain ⟨l0, l1, l2, l3, l4, l5, l6, l7, l8, l9, l10, l11, l12, l13, l14, l15, -⟩ := hl
  have l0 : zOpP (.lrem) (γ 0) (γ 1) [ρ 6, 10] (ρ 7) := l0
  have l1 : zOpP (.ladd) (γ 0) (γ 1) [48, ρ 7] (ρ 8) := l1
  have l2 : zOpP (.l2i) (γ 0) (γ 1) [ρ 8] (ρ 9) := l2
  have l3 : sn87 [ρ 9, ρ 1] (γ 0) 0 0 (γ 1) := hS87 _ _ _ _ _ l3
  have l4 : zOpP (.lrem) (γ 0) (γ 1) [ρ 10, 10] (ρ 11) := l4
  have l5 : zOpP (.ladd) (γ 0) (γ 1) [48, ρ 11] (ρ 12) := l5
  have l6 : zOpP (.l2i) (γ 0) (γ 1) [ρ 12] (ρ 13) := l6
  have l7 : sn87 [ρ 13, ρ 1 + 1] (γ 1) 0 0 (γ 2) := hS87 _ _ _ _ _ l7
  have l8 : zOpP (.lrem) (γ 0) (γ 1) [ρ 14, 10] (ρ 15) := l8
  have l9 : zOpP (.ladd) (γ 0) (γ 1) [48, ρ 15] (ρ 16) := l9
  have l10 : zOpP (.l2i) (γ 0) (γ 1) [ρ 16] (ρ 17) := l10
  have l11 : sn87 [ρ 17, ρ 1 + 2] (γ 2) 0 0 (γ 3) := hS87 _ _ _ _ _ l11
  have l12 : zOpP (.lrem) (γ 0) (γ 1) [ρ 18, 10] (ρ 19) := l12
  have l13 : zOpP (.ladd) (γ 0) (γ 1) [48, ρ 19] (ρ 20) := l13
  have l14 : zOpP (.l2i) (γ 0) (γ 1) [ρ 20] (ρ 21) := l14
  have l15 : sn87 [ρ 21, ρ 1 + 3] (γ 3) 0 0 (γ 4) := hS87 _ _ _ _ _ l15
  show sn88 [ρ 0, ρ 1] (γ 0) 0 0 (γ 4)
  refine Eq.symm ?_
  show fn88 [ρ 0] (γ 0) = _
  unfold fn88
  refine (zLet_eq (show _ = ρ 0 from rfl)).trans ?_
  refine (if_pos w_0).trans ?_
  refine (zLet_eq w_1).trans ?_
  refine (if_neg w_2).trans ?_
  refine (zLet_eq w_3).trans ?_
  refine (if_neg w_4).trans ?_
  refine (zLet_eq w_5).trans ?_
  refine (if_neg w_6).trans ?_
  refine (zLet_eq w_7).trans ?_
  refine (if_pos w_8).trans ?_
  refine (zLet_eq w_9).trans ?_
  refine (zLet_eq (zF2_ok l0)).trans ?_
  refine (zLet_eq (zF2_ok l1)).trans ?_
  refine (zLet_eq (zF1_ok l2)).trans ?_
  refine (zLet_eq (show fn87 [ρ 9] (γ 0) = (0, 0, γ 1) from l3.symm)).trans ?_
  refine (zLet_eq (show _ = γ 1 from rfl)).trans ?_
  refine (zLet_eq w_10).trans ?_
  refine (zLet_eq (zF2_ok l4)).trans ?_
  refine (zLet_eq (zF2_ok l5)).trans ?_
  refine (zLet_eq (zF1_ok l6)).trans ?_
  refine (zLet_eq (show fn87 [ρ 13] (γ 1) = (0, 0, γ 2) from l7.symm)).trans ?_
  refine (zLet_eq (show _ = γ 2 from rfl)).trans ?_
  refine (zLet_eq w_11).trans ?_
  refine (zLet_eq (zF2_ok l8)).trans ?_
  refine (zLet_eq (zF2_ok l9)).trans ?_
  refine (zLet_eq (zF1_ok l10)).trans ?_
  refine (zLet_eq (show fn87 [ρ 17] (γ 2) = (0, 0, γ 3) from l11.symm)).trans ?_
  refine (zLet_eq (show _ = γ 3 from rfl)).trans ?_
  refine (zLet_eq w_12).trans ?_
  refine (zLet_eq (zF2_ok l12)).trans ?_
  refine (zLet_eq (zF2_ok l13)).trans ?_
  refine (zLet_eq (zF1_ok l14)).trans ?_
  refine (zLet_eq (show fn87 [ρ 21] (γ 3) = (0, 0, γ 4) from l15.symm)).trans ?_
  refine (zLet_eq (show _ = γ 4 from rfl)).trans ?_
  rfl
set_option maxRecDepth 100000 in
theorem vn88_4 {S : Nat → zSpc} (hS87 : ∀ x g o v gz, S 87 x g o v gz → sn87 x g o v gz) {a : List Int} {g : rHp} : ∀ (ρ : Nat → Int) (γ : Nat → rHp), zO 2 S a g q88_4 ρ γ → zGl (fun _ _ _ => True) (sn88 a g) q88_4 ρ γ := by
  intro ρ γ h
  obtain ⟨ha, hg, hr, hf, hm, hc, hl⟩ := h
  have ha : a = [ρ 0, ρ 1] := ha
  subst ha
  subst hg
  obtain ⟨r0, -, r2, r3, r4, r5, r6, -⟩ := hr
  have r0 : (0 : Int) ≤ ρ 0 ∧ ρ 0 ≤ 549755813887 := r0
  have r2 : (10 : Int) ≤ ρ 2 ∧ ρ 2 ≤ 549755813887 := r2
  have r3 : (10 : Int) ≤ ρ 3 ∧ ρ 3 ≤ 54975581388 := r3
  have r4 : (10 : Int) ≤ ρ 4 ∧ ρ 4 ≤ 5497558138 := r4
  have r5 : (10 : Int) ≤ ρ 5 ∧ ρ 5 ≤ 549755813 := r5
  have r6 : (0 : Int) ≤ ρ 6 ∧ ρ 6 ≤ 9 := r6
  obtain ⟨f0, f1, -, f3, f4, -, f6, f7, -, f9, f10, -, f12, f13, -, f15, f16, -, f18, f19, -, f21, f22, -, f24, f25, f26, f27, -⟩ := hf
  have f0 : (0 : Int) ≤ ρ 23 + -ρ 0 := f0
  have f1 : (0 : Int) ≤ -ρ 23 + ρ 0 := f1
  have f3 : (0 : Int) ≤ 10 * ρ 19 + -ρ 0 + 9 := f3
  have f4 : (0 : Int) ≤ (-10) * ρ 19 + ρ 0 := f4
  have f6 : (0 : Int) ≤ 100 * ρ 15 + -ρ 0 + 99 := f6
  have f7 : (0 : Int) ≤ (-100) * ρ 15 + ρ 0 := f7
  have f9 : (0 : Int) ≤ 1000 * ρ 11 + -ρ 0 + 999 := f9
  have f10 : (0 : Int) ≤ (-1000) * ρ 11 + ρ 0 := f10
  have f12 : (0 : Int) ≤ 10000 * ρ 7 + -ρ 0 + 9999 := f12
  have f13 : (0 : Int) ≤ (-10000) * ρ 7 + ρ 0 := f13
  have f15 : (0 : Int) ≤ 10000 * ρ 6 + -ρ 0 + 9999 := f15
  have f16 : (0 : Int) ≤ (-10000) * ρ 6 + ρ 0 := f16
  have f18 : (0 : Int) ≤ 1000 * ρ 5 + -ρ 0 + 999 := f18
  have f19 : (0 : Int) ≤ (-1000) * ρ 5 + ρ 0 := f19
  have f21 : (0 : Int) ≤ 100 * ρ 4 + -ρ 0 + 99 := f21
  have f22 : (0 : Int) ≤ (-100) * ρ 4 + ρ 0 := f22
  have f24 : (0 : Int) ≤ 10 * ρ 3 + -ρ 0 + 9 := f24
  have f25 : (0 : Int) ≤ (-10) * ρ 3 + ρ 0 := f25
  have f26 : (0 : Int) ≤ ρ 2 + -ρ 0 := f26
  have f27 : (0 : Int) ≤ -ρ 2 + ρ 0 := f27
  obtain ⟨w_0, w_1, w_2, w_3, w_4, w_5, w_6, w_7, w_8, w_9, w_10, w_11, w_12, w_13, w_14, w_15⟩ : (ρ 0 ≥ 0) ∧ ((ρ 0) / 1 = ρ 2) ∧ (¬ (ρ 2 ≤ 9)) ∧ ((ρ 0) / 10 = ρ 3) ∧ (¬ (ρ 3 ≤ 9)) ∧ ((ρ 0) / 100 = ρ 4) ∧ (¬ (ρ 4 ≤ 9)) ∧ ((ρ 0) / 1000 = ρ 5) ∧ (¬ (ρ 5 ≤ 9)) ∧ ((ρ 0) / 10000 = ρ 6) ∧ (ρ 6 ≤ 9) ∧ ((ρ 0) / 10000 = ρ 7) ∧ ((ρ 0) / 1000 = ρ 11) ∧ ((ρ 0) / 100 = ρ 15) ∧ ((ρ 0) / 10 = ρ 19) ∧ ((ρ 0) / 1 = ρ 23) := ⟨by clear r2 r3 r4 r5 r6 f0 f1 f3 f4 f6 f7 f9 f10 f12 f13 f15 f16 f18 f19 f21 f22 f24 f25 f26 f27; omega, by clear r0 r2 r3 r4 r5 r6 f0 f1 f3 f4 f6 f7 f9 f10 f12 f13 f15 f16 f18 f19 f21 f22 f24 f25; omega, by clear r0 r3 r4 r5 r6 f0 f1 f3 f4 f6 f7 f9 f10 f12 f13 f15 f16 f18 f19 f21 f22 f24 f25 f26 f27; omega, by clear r0 r2 r3 r4 r5 r6 f0 f1 f3 f4 f6 f7 f9 f10 f12 f13 f15 f16 f18 f19 f21 f22 f26 f27; omega, by clear r0 r2 r4 r5 r6 f0 f1 f3 f4 f6 f7 f9 f10 f12 f13 f15 f16 f18 f19 f21 f22 f24 f25 f26 f27; omega, by clear r0 r2 r3 r4 r5 r6 f0 f1 f3 f4 f6 f7 f9 f10 f12 f13 f15 f16 f18 f19 f24 f25 f26 f27; omega, by clear r0 r2 r3 r5 r6 f0 f1 f3 f4 f6 f7 f9 f10 f12 f13 f15 f16 f18 f19 f21 f22 f24 f25 f26 f27; omega, by clear r0 r2 r3 r4 r5 r6 f0 f1 f3 f4 f6 f7 f9 f10 f12 f13 f15 f16 f21 f22 f24 f25 f26 f27; omega, by clear r0 r2 r3 r4 r6 f0 f1 f3 f4 f6 f7 f9 f10 f12 f13 f15 f16 f18 f19 f21 f22 f24 f25 f26 f27; omega, by clear r0 r2 r3 r4 r5 r6 f0 f1 f3 f4 f6 f7 f9 f10 f12 f13 f18 f19 f21 f22 f24 f25 f26 f27; omega, by clear r0 r2 r3 r4 r5 f0 f1 f3 f4 f6 f7 f9 f10 f12 f13 f15 f16 f18 f19 f21 f22 f24 f25 f26 f27; omega, by clear r0 r2 r3 r4 r5 r6 f0 f1 f3 f4 f6 f7 f9 f10 f15 f16 f18 f19 f21 f22 f24 f25 f26 f27; omega, by clear r0 r2 r3 r4 r5 r6 f0 f1 f3 f4 f6 f7 f12 f13 f15 f16 f18 f19 f21 f22 f24 f25 f26 f27; omega, by clear r0 r2 r3 r4 r5 r6 f0 f1 f3 f4 f9 f10 f12 f13 f15 f16 f18 f19 f21 f22 f24 f25 f26 f27; omega, by clear r0 r2 r3 r4 r5 r6 f0 f1 f6 f7 f9 f10 f12 f13 f15 f16 f18 f19 f21 f22 f24 f25 f26 f27; omega, by clear r0 r2 r3 r4 r5 r6 f3 f4 f6 f7 f9 f10 f12 f13 f15 f16 f18 f19 f21 f22 f24 f25 f26 f27; omega⟩
  obtain ⟨l0, l1, l2, l3, l4, l5, l6, l7, l8, l9, l10, l11, l12, l13, l14, l15, l16, l17, l18, l19, -⟩ := hl
  have l0 : zOpP (.lrem) (γ 0) (γ 1) [ρ 7, 10] (ρ 8) := l0
  have l1 : zOpP (.ladd) (γ 0) (γ 1) [48, ρ 8] (ρ 9) := l1
  have l2 : zOpP (.l2i) (γ 0) (γ 1) [ρ 9] (ρ 10) := l2
  have l3 : sn87 [ρ 10, ρ 1] (γ 0) 0 0 (γ 1) := hS87 _ _ _ _ _ l3
  have l4 : zOpP (.lrem) (γ 0) (γ 1) [ρ 11, 10] (ρ 12) := l4
  have l5 : zOpP (.ladd) (γ 0) (γ 1) [48, ρ 12] (ρ 13) := l5
  have l6 : zOpP (.l2i) (γ 0) (γ 1) [ρ 13] (ρ 14) := l6
  have l7 : sn87 [ρ 14, ρ 1 + 1] (γ 1) 0 0 (γ 2) := hS87 _ _ _ _ _ l7
  have l8 : zOpP (.lrem) (γ 0) (γ 1) [ρ 15, 10] (ρ 16) := l8
  have l9 : zOpP (.ladd) (γ 0) (γ 1) [48, ρ 16] (ρ 17) := l9
  have l10 : zOpP (.l2i) (γ 0) (γ 1) [ρ 17] (ρ 18) := l10
  have l11 : sn87 [ρ 18, ρ 1 + 2] (γ 2) 0 0 (γ 3) := hS87 _ _ _ _ _ l11
  have l12 : zOpP (.lrem) (γ 0) (γ 1) [ρ 19, 10] (ρ 20) := l12
  have l13 : zOpP (.ladd) (γ 0) (γ 1) [48, ρ 20] (ρ 21) := l13
  have l14 : zOpP (.l2i) (γ 0) (γ 1) [ρ 21] (ρ 22) := l14
  have l15 : sn87 [ρ 22, ρ 1 + 3] (γ 3) 0 0 (γ 4) := hS87 _ _ _ _ _ l15
  have l16 : zOpP (.lrem) (γ 0) (γ 1) [ρ 23, 10] (ρ 24) := l16
  have l17 : zOpP (.ladd) (γ 0) (γ 1) [48, ρ 24] (ρ 25) := l17
  have l18 : zOpP (.l2i) (γ 0) (γ 1) [ρ 25] (ρ 26) := l18
  have l19 : sn87 [ρ 26, ρ 1 + 4] (γ 4) 0 0 (γ 5) := hS87 _ _ _ _ _ l19
  show sn88 [ρ 0, ρ 1] (γ 0) 0 0 (γ 5)
  refine Eq.symm ?_
  show fn88 [ρ 0] (γ 0) = _
  unfold fn88
  refine (zLet_eq (show _ = ρ 0 from rfl)).trans ?_
  refine (if_pos w_0).trans ?_
  refine (zLet_eq w_1).trans ?_
  refine (if_neg w_2).trans ?_
  refine (zLet_eq w_3).trans ?_
  refine (if_neg w_4).trans ?_
  refine (zLet_eq w_5).trans ?_
  refine (if_neg w_6).trans ?_
  refine (zLet_eq w_7).trans ?_
  refine (if_neg w_8).trans ?_
  refine (zLet_eq w_9).trans ?_
  refine (if_pos w_10).trans ?_
  refine (zLet_eq w_11).trans ?_
  refine (zLet_eq (zF2_ok l0)).trans ?_
  refine (zLet_eq (zF2_ok l1)).trans ?_
  refine (zLet_eq (zF1_ok l2)).trans ?_
  refine (zLet_eq (show fn87 [ρ 10] (γ 0) = (0, 0, γ 1) from l3.symm)).trans ?_
  refine (zLet_eq (show _ = γ 1 from rfl)).trans ?_
  refine (zLet_eq w_12).trans ?_
  refine (zLet_eq (zF2_ok l4)).trans ?_
  refine (zLet_eq (zF2_ok l5)).trans ?_
  refine (zLet_eq (zF1_ok l6)).trans ?_
  refine (zLet_eq (show fn87 [ρ 14] (γ 1) = (0, 0, γ 2) from l7.symm)).trans ?_
  refine (zLet_eq (show _ = γ 2 from rfl)).trans ?_
  refine (zLet_eq w_13).trans ?_
  refine (zLet_eq (zF2_ok l8)).trans ?_
  refine (zLet_eq (zF2_ok l9)).trans ?_
  refine (zLet_eq (zF1_ok l10)).trans ?_
  refine (zLet_eq (show fn87 [ρ 18] (γ 2) = (0, 0, γ 3) from l11.symm)).trans ?_
  refine (zLet_eq (show _ = γ 3 from rfl)).trans ?_
  refine (zLet_eq w_14).trans ?_
  refine (zLet_eq (zF2_ok l12)).trans ?_
  refine (zLet_eq (zF2_ok l13)).trans ?_
  refine (zLet_eq (zF1_ok l14)).trans ?_
  refine (zLet_eq (show fn87 [ρ 22] (γ 3) = (0, 0, γ 4) from l15.symm)).trans ?_
  refine (zLet_eq (show _ = γ 4 from rfl)).trans ?_
  refine (zLet_eq w_15).trans ?_
  refine (zLet_eq (zF2_ok l16)).trans ?_
  refine (zLet_eq (zF2_ok l17)).trans ?_
  refine (zLet_eq (zF1_ok l18)).trans ?_
  refine (zLet_eq (show fn87 [ρ 26] (γ 4) = (0, 0, γ 5) from l19.symm)).trans ?_
  refine (zLet_eq (show _ = γ 5 from rfl)).trans ?_
  rfl
set_option maxRecDepth 100000 in
theorem vn88_5 {S : Nat → zSpc} (hS87 : ∀ x g o v gz, S 87 x g o v gz → sn87 x g o v gz) {a : List Int} {g : rHp} : ∀ (ρ : Nat → Int) (γ : Nat → rHp), zO 2 S a g q88_5 ρ γ → zGl (fun _ _ _ => True) (sn88 a g) q88_5 ρ γ := by
  intro ρ γ h
  obtain ⟨ha, hg, hr, hf, hm, hc, hl⟩ := h
  have ha : a = [ρ 0, ρ 1] := ha
  subst ha
  subst hg
  obtain ⟨r0, -, r2, r3, r4, r5, r6, r7, -⟩ := hr
  have r0 : (0 : Int) ≤ ρ 0 ∧ ρ 0 ≤ 549755813887 := r0
  have r2 : (10 : Int) ≤ ρ 2 ∧ ρ 2 ≤ 549755813887 := r2
  have r3 : (10 : Int) ≤ ρ 3 ∧ ρ 3 ≤ 54975581388 := r3
  have r4 : (10 : Int) ≤ ρ 4 ∧ ρ 4 ≤ 5497558138 := r4
  have r5 : (10 : Int) ≤ ρ 5 ∧ ρ 5 ≤ 549755813 := r5
  have r6 : (10 : Int) ≤ ρ 6 ∧ ρ 6 ≤ 54975581 := r6
  have r7 : (0 : Int) ≤ ρ 7 ∧ ρ 7 ≤ 9 := r7
  obtain ⟨f0, f1, -, f3, f4, -, f6, f7, -, f9, f10, -, f12, f13, -, f15, f16, -, f18, f19, -, f21, f22, -, f24, f25, -, f27, f28, -, f30, f31, f32, f33, -⟩ := hf
  have f0 : (0 : Int) ≤ ρ 28 + -ρ 0 := f0
  have f1 : (0 : Int) ≤ -ρ 28 + ρ 0 := f1
  have f3 : (0 : Int) ≤ 10 * ρ 24 + -ρ 0 + 9 := f3
  have f4 : (0 : Int) ≤ (-10) * ρ 24 + ρ 0 := f4
  have f6 : (0 : Int) ≤ 100 * ρ 20 + -ρ 0 + 99 := f6
  have f7 : (0 : Int) ≤ (-100) * ρ 20 + ρ 0 := f7
  have f9 : (0 : Int) ≤ 1000 * ρ 16 + -ρ 0 + 999 := f9
  have f10 : (0 : Int) ≤ (-1000) * ρ 16 + ρ 0 := f10
  have f12 : (0 : Int) ≤ 10000 * ρ 12 + -ρ 0 + 9999 := f12
  have f13 : (0 : Int) ≤ (-10000) * ρ 12 + ρ 0 := f13
  have f15 : (0 : Int) ≤ 100000 * ρ 8 + -ρ 0 + 99999 := f15
  have f16 : (0 : Int) ≤ (-100000) * ρ 8 + ρ 0 := f16
  have f18 : (0 : Int) ≤ 100000 * ρ 7 + -ρ 0 + 99999 := f18
  have f19 : (0 : Int) ≤ (-100000) * ρ 7 + ρ 0 := f19
  have f21 : (0 : Int) ≤ 10000 * ρ 6 + -ρ 0 + 9999 := f21
  have f22 : (0 : Int) ≤ (-10000) * ρ 6 + ρ 0 := f22
  have f24 : (0 : Int) ≤ 1000 * ρ 5 + -ρ 0 + 999 := f24
  have f25 : (0 : Int) ≤ (-1000) * ρ 5 + ρ 0 := f25
  have f27 : (0 : Int) ≤ 100 * ρ 4 + -ρ 0 + 99 := f27
  have f28 : (0 : Int) ≤ (-100) * ρ 4 + ρ 0 := f28
  have f30 : (0 : Int) ≤ 10 * ρ 3 + -ρ 0 + 9 := f30
  have f31 : (0 : Int) ≤ (-10) * ρ 3 + ρ 0 := f31
  have f32 : (0 : Int) ≤ ρ 2 + -ρ 0 := f32
  have f33 : (0 : Int) ≤ -ρ 2 + ρ 0 := f33
  obtain ⟨w_0, w_1, w_2, w_3, w_4, w_5, w_6, w_7, w_8, w_9, w_10, w_11, w_12, w_13, w_14, w_15, w_16, w_17, w_18⟩ : (ρ 0 ≥ 0) ∧ ((ρ 0) / 1 = ρ 2) ∧ (¬ (ρ 2 ≤ 9)) ∧ ((ρ 0) / 10 = ρ 3) ∧ (¬ (ρ 3 ≤ 9)) ∧ ((ρ 0) / 100 = ρ 4) ∧ (¬ (ρ 4 ≤ 9)) ∧ ((ρ 0) / 1000 = ρ 5) ∧ (¬ (ρ 5 ≤ 9)) ∧ ((ρ 0) / 10000 = ρ 6) ∧ (¬ (ρ 6 ≤ 9)) ∧ ((ρ 0) / 100000 = ρ 7) ∧ (ρ 7 ≤ 9) ∧ ((ρ 0) / 100000 = ρ 8) ∧ ((ρ 0) / 10000 = ρ 12) ∧ ((ρ 0) / 1000 = ρ 16) ∧ ((ρ 0) / 100 = ρ 20) ∧ ((ρ 0) / 10 = ρ 24) ∧ ((ρ 0) / 1 = ρ 28) := ⟨by clear r2 r3 r4 r5 r6 r7 f0 f1 f3 f4 f6 f7 f9 f10 f12 f13 f15 f16 f18 f19 f21 f22 f24 f25 f27 f28 f30 f31 f32 f33; omega, by clear r0 r2 r3 r4 r5 r6 r7 f0 f1 f3 f4 f6 f7 f9 f10 f12 f13 f15 f16 f18 f19 f21 f22 f24 f25 f27 f28 f30 f31; omega, by clear r0 r3 r4 r5 r6 r7 f0 f1 f3 f4 f6 f7 f9 f10 f12 f13 f15 f16 f18 f19 f21 f22 f24 f25 f27 f28 f30 f31 f32 f33; omega, by clear r0 r2 r3 r4 r5 r6 r7 f0 f1 f3 f4 f6 f7 f9 f10 f12 f13 f15 f16 f18 f19 f21 f22 f24 f25 f27 f28 f32 f33; omega, by clear r0 r2 r4 r5 r6 r7 f0 f1 f3 f4 f6 f7 f9 f10 f12 f13 f15 f16 f18 f19 f21 f22 f24 f25 f27 f28 f30 f31 f32 f33; omega, by clear r0 r2 r3 r4 r5 r6 r7 f0 f1 f3 f4 f6 f7 f9 f10 f12 f13 f15 f16 f18 f19 f21 f22 f24 f25 f30 f31 f32 f33; omega, by clear r0 r2 r3 r5 r6 r7 f0 f1 f3 f4 f6 f7 f9 f10 f12 f13 f15 f16 f18 f19 f21 f22 f24 f25 f27 f28 f30 f31 f32 f33; omega, by clear r0 r2 r3 r4 r5 r6 r7 f0 f1 f3 f4 f6 f7 f9 f10 f12 f13 f15 f16 f18 f19 f21 f22 f27 f28 f30 f31 f32 f33; omega, by clear r0 r2 r3 r4 r6 r7 f0 f1 f3 f4 f6 f7 f9 f10 f12 f13 f15 f16 f18 f19 f21 f22 f24 f25 f27 f28 f30 f31 f32 f33; omega, by clear r0 r2 r3 r4 r5 r6 r7 f0 f1 f3 f4 f6 f7 f9 f10 f12 f13 f15 f16 f18 f19 f24 f25 f27 f28 f30 f31 f32 f33; omega, by clear r0 r2 r3 r4 r5 r7 f0 f1 f3 f4 f6 f7 f9 f10 f12 f13 f15 f16 f18 f19 f21 f22 f24 f25 f27 f28 f30 f31 f32 f33; omega, by clear r0 r2 r3 r4 r5 r6 r7 f0 f1 f3 f4 f6 f7 f9 f10 f12 f13 f15 f16 f21 f22 f24 f25 f27 f28 f30 f31 f32 f33; omega, by clear r0 r2 r3 r4 r5 r6 f0 f1 f3 f4 f6 f7 f9 f10 f12 f13 f15 f16 f18 f19 f21 f22 f24 f25 f27 f28 f30 f31 f32 f33; omega, by clear r0 r2 r3 r4 r5 r6 r7 f0 f1 f3 f4 f6 f7 f9 f10 f12 f13 f18 f19 f21 f22 f24 f25 f27 f28 f30 f31 f32 f33; omega, by clear r0 r2 r3 r4 r5 r6 r7 f0 f1 f3 f4 f6 f7 f9 f10 f15 f16 f18 f19 f21 f22 f24 f25 f27 f28 f30 f31 f32 f33; omega, by clear r0 r2 r3 r4 r5 r6 r7 f0 f1 f3 f4 f6 f7 f12 f13 f15 f16 f18 f19 f21 f22 f24 f25 f27 f28 f30 f31 f32 f33; omega, by clear r0 r2 r3 r4 r5 r6 r7 f0 f1 f3 f4 f9 f10 f12 f13 f15 f16 f18 f19 f21 f22 f24 f25 f27 f28 f30 f31 f32 f33; omega, by clear r0 r2 r3 r4 r5 r6 r7 f0 f1 f6 f7 f9 f10 f12 f13 f15 f16 f18 f19 f21 f22 f24 f25 f27 f28 f30 f31 f32 f33; omega, by clear r0 r2 r3 r4 r5 r6 r7 f3 f4 f6 f7 f9 f10 f12 f13 f15 f16 f18 f19 f21 f22 f24 f25 f27 f28 f30 f31 f32 f33; omega⟩
  obtain ⟨l0, l1, l2, l3, l4, l5, l6, l7, l8, l9, l10, l11, l12, l13, l14, l15, l16, l17, l18, l19, l20, l21, l22, l23, -⟩ := hl
  have l0 : zOpP (.lrem) (γ 0) (γ 1) [ρ 8, 10] (ρ 9) := l0
  have l1 : zOpP (.ladd) (γ 0) (γ 1) [48, ρ 9] (ρ 10) := l1
  have l2 : zOpP (.l2i) (γ 0) (γ 1) [ρ 10] (ρ 11) := l2
  have l3 : sn87 [ρ 11, ρ 1] (γ 0) 0 0 (γ 1) := hS87 _ _ _ _ _ l3
  have l4 : zOpP (.lrem) (γ 0) (γ 1) [ρ 12, 10] (ρ 13) := l4
  have l5 : zOpP (.ladd) (γ 0) (γ 1) [48, ρ 13] (ρ 14) := l5
  have l6 : zOpP (.l2i) (γ 0) (γ 1) [ρ 14] (ρ 15) := l6
  have l7 : sn87 [ρ 15, ρ 1 + 1] (γ 1) 0 0 (γ 2) := hS87 _ _ _ _ _ l7
  have l8 : zOpP (.lrem) (γ 0) (γ 1) [ρ 16, 10] (ρ 17) := l8
  have l9 : zOpP (.ladd) (γ 0) (γ 1) [48, ρ 17] (ρ 18) := l9
  have l10 : zOpP (.l2i) (γ 0) (γ 1) [ρ 18] (ρ 19) := l10
  have l11 : sn87 [ρ 19, ρ 1 + 2] (γ 2) 0 0 (γ 3) := hS87 _ _ _ _ _ l11
  have l12 : zOpP (.lrem) (γ 0) (γ 1) [ρ 20, 10] (ρ 21) := l12
  have l13 : zOpP (.ladd) (γ 0) (γ 1) [48, ρ 21] (ρ 22) := l13
  have l14 : zOpP (.l2i) (γ 0) (γ 1) [ρ 22] (ρ 23) := l14
  have l15 : sn87 [ρ 23, ρ 1 + 3] (γ 3) 0 0 (γ 4) := hS87 _ _ _ _ _ l15
  have l16 : zOpP (.lrem) (γ 0) (γ 1) [ρ 24, 10] (ρ 25) := l16
  have l17 : zOpP (.ladd) (γ 0) (γ 1) [48, ρ 25] (ρ 26) := l17
  have l18 : zOpP (.l2i) (γ 0) (γ 1) [ρ 26] (ρ 27) := l18
  have l19 : sn87 [ρ 27, ρ 1 + 4] (γ 4) 0 0 (γ 5) := hS87 _ _ _ _ _ l19
  have l20 : zOpP (.lrem) (γ 0) (γ 1) [ρ 28, 10] (ρ 29) := l20
  have l21 : zOpP (.ladd) (γ 0) (γ 1) [48, ρ 29] (ρ 30) := l21
  have l22 : zOpP (.l2i) (γ 0) (γ 1) [ρ 30] (ρ 31) := l22
  have l23 : sn87 [ρ 31, ρ 1 + 5] (γ 5) 0 0 (γ 6) := hS87 _ _ _ _ _ l23
  show sn88 [ρ 0, ρ 1] (γ 0) 0 0 (γ 6)
  refine Eq.symm ?_
  show fn88 [ρ 0] (γ 0) = _
  unfold fn88
  refine (zLet_eq (show _ = ρ 0 from rfl)).trans ?_
  refine (if_pos w_0).trans ?_
  refine (zLet_eq w_1).trans ?_
  refine (if_neg w_2).trans ?_
  refine (zLet_eq w_3).trans ?_
  refine (if_neg w_4).trans ?_
  refine (zLet_eq w_5).trans ?_
  refine (if_neg w_6).trans ?_
  refine (zLet_eq w_7).trans ?_
  refine (if_neg w_8).trans ?_
  refine (zLet_eq w_9).trans ?_
  refine (if_neg w_10).trans ?_
  refine (zLet_eq w_11).trans ?_
  refine (if_pos w_12).trans ?_
  refine (zLet_eq w_13).trans ?_
  refine (zLet_eq (zF2_ok l0)).trans ?_
  refine (zLet_eq (zF2_ok l1)).trans ?_
  refine (zLet_eq (zF1_ok l2)).trans ?_
  refine (zLet_eq (show fn87 [ρ 11] (γ 0) = (0, 0, γ 1) from l3.symm)).trans ?_
  refine (zLet_eq (show _ = γ 1 from rfl)).trans ?_
  refine (zLet_eq w_14).trans ?_
  refine (zLet_eq (zF2_ok l4)).trans ?_
  refine (zLet_eq (zF2_ok l5)).trans ?_
  refine (zLet_eq (zF1_ok l6)).trans ?_
  refine (zLet_eq (show fn87 [ρ 15] (γ 1) = (0, 0, γ 2) from l7.symm)).trans ?_
  refine (zLet_eq (show _ = γ 2 from rfl)).trans ?_
  refine (zLet_eq w_15).trans ?_
  refine (zLet_eq (zF2_ok l8)).trans ?_
  refine (zLet_eq (zF2_ok l9)).trans ?_
  refine (zLet_eq (zF1_ok l10)).trans ?_
  refine (zLet_eq (show fn87 [ρ 19] (γ 2) = (0, 0, γ 3) from l11.symm)).trans ?_
  refine (zLet_eq (show _ = γ 3 from rfl)).trans ?_
  refine (zLet_eq w_16).trans ?_
  refine (zLet_eq (zF2_ok l12)).trans ?_
  refine (zLet_eq (zF2_ok l13)).trans ?_
  refine (zLet_eq (zF1_ok l14)).trans ?_
  refine (zLet_eq (show fn87 [ρ 23] (γ 3) = (0, 0, γ 4) from l15.symm)).trans ?_
  refine (zLet_eq (show _ = γ 4 from rfl)).trans ?_
  refine (zLet_eq w_17).trans ?_
  refine (zLet_eq (zF2_ok l16)).trans ?_
  refine (zLet_eq (zF2_ok l17)).trans ?_
  refine (zLet_eq (zF1_ok l18)).trans ?_
  refine (zLet_eq (show fn87 [ρ 27] (γ 4) = (0, 0, γ 5) from l19.symm)).trans ?_
  refine (zLet_eq (show _ = γ 5 from rfl)).trans ?_
  refine (zLet_eq w_18).trans ?_
  refine (zLet_eq (zF2_ok l20)).trans ?_
  refine (zLet_eq (zF2_ok l21)).trans ?_
  refine (zLet_eq (zF1_ok l22)).trans ?_
  refine (zLet_eq (show fn87 [ρ 31] (γ 5) = (0, 0, γ 6) from l23.symm)).trans ?_
  refine (zLet_eq (show _ = γ 6 from rfl)).trans ?_
  rfl
set_option maxRecDepth 100000 in
theorem vn88_6 {S : Nat → zSpc} (hS87 : ∀ x g o v gz, S 87 x g o v gz → sn87 x g o v gz) {a : List Int} {g : rHp} : ∀ (ρ : Nat → Int) (γ : Nat → rHp), zO 2 S a g q88_6 ρ γ → zGl (fun _ _ _ => True) (sn88 a g) q88_6 ρ γ := by
  intro ρ γ h
  obtain ⟨ha, hg, hr, hf, hm, hc, hl⟩ := h
  have ha : a = [ρ 0, ρ 1] := ha
  subst ha
  subst hg
  obtain ⟨r0, -, r2, r3, r4, r5, r6, r7, r8, -⟩ := hr
  have r0 : (0 : Int) ≤ ρ 0 ∧ ρ 0 ≤ 549755813887 := r0
  have r2 : (10 : Int) ≤ ρ 2 ∧ ρ 2 ≤ 549755813887 := r2
  have r3 : (10 : Int) ≤ ρ 3 ∧ ρ 3 ≤ 54975581388 := r3
  have r4 : (10 : Int) ≤ ρ 4 ∧ ρ 4 ≤ 5497558138 := r4
  have r5 : (10 : Int) ≤ ρ 5 ∧ ρ 5 ≤ 549755813 := r5
  have r6 : (10 : Int) ≤ ρ 6 ∧ ρ 6 ≤ 54975581 := r6
  have r7 : (10 : Int) ≤ ρ 7 ∧ ρ 7 ≤ 5497558 := r7
  have r8 : (0 : Int) ≤ ρ 8 ∧ ρ 8 ≤ 9 := r8
  obtain ⟨f0, f1, -, f3, f4, -, f6, f7, -, f9, f10, -, f12, f13, -, f15, f16, -, f18, f19, -, f21, f22, -, f24, f25, -, f27, f28, -, f30, f31, -, f33, f34, -, f36, f37, f38, f39, -⟩ := hf
  have f0 : (0 : Int) ≤ ρ 33 + -ρ 0 := f0
  have f1 : (0 : Int) ≤ -ρ 33 + ρ 0 := f1
  have f3 : (0 : Int) ≤ 10 * ρ 29 + -ρ 0 + 9 := f3
  have f4 : (0 : Int) ≤ (-10) * ρ 29 + ρ 0 := f4
  have f6 : (0 : Int) ≤ 100 * ρ 25 + -ρ 0 + 99 := f6
  have f7 : (0 : Int) ≤ (-100) * ρ 25 + ρ 0 := f7
  have f9 : (0 : Int) ≤ 1000 * ρ 21 + -ρ 0 + 999 := f9
  have f10 : (0 : Int) ≤ (-1000) * ρ 21 + ρ 0 := f10
  have f12 : (0 : Int) ≤ 10000 * ρ 17 + -ρ 0 + 9999 := f12
  have f13 : (0 : Int) ≤ (-10000) * ρ 17 + ρ 0 := f13
  have f15 : (0 : Int) ≤ 100000 * ρ 13 + -ρ 0 + 99999 := f15
  have f16 : (0 : Int) ≤ (-100000) * ρ 13 + ρ 0 := f16
  have f18 : (0 : Int) ≤ 1000000 * ρ 9 + -ρ 0 + 999999 := f18
  have f19 : (0 : Int) ≤ (-1000000) * ρ 9 + ρ 0 := f19
  have f21 : (0 : Int) ≤ 1000000 * ρ 8 + -ρ 0 + 999999 := f21
  have f22 : (0 : Int) ≤ (-1000000) * ρ 8 + ρ 0 := f22
  have f24 : (0 : Int) ≤ 100000 * ρ 7 + -ρ 0 + 99999 := f24
  have f25 : (0 : Int) ≤ (-100000) * ρ 7 + ρ 0 := f25
  have f27 : (0 : Int) ≤ 10000 * ρ 6 + -ρ 0 + 9999 := f27
  have f28 : (0 : Int) ≤ (-10000) * ρ 6 + ρ 0 := f28
  have f30 : (0 : Int) ≤ 1000 * ρ 5 + -ρ 0 + 999 := f30
  have f31 : (0 : Int) ≤ (-1000) * ρ 5 + ρ 0 := f31
  have f33 : (0 : Int) ≤ 100 * ρ 4 + -ρ 0 + 99 := f33
  have f34 : (0 : Int) ≤ (-100) * ρ 4 + ρ 0 := f34
  have f36 : (0 : Int) ≤ 10 * ρ 3 + -ρ 0 + 9 := f36
  have f37 : (0 : Int) ≤ (-10) * ρ 3 + ρ 0 := f37
  have f38 : (0 : Int) ≤ ρ 2 + -ρ 0 := f38
  have f39 : (0 : Int) ≤ -ρ 2 + ρ 0 := f39
  obtain ⟨w_0, w_1, w_2, w_3, w_4, w_5, w_6, w_7, w_8, w_9, w_10, w_11, w_12, w_13, w_14, w_15, w_16, w_17, w_18, w_19, w_20, w_21⟩ : (ρ 0 ≥ 0) ∧ ((ρ 0) / 1 = ρ 2) ∧ (¬ (ρ 2 ≤ 9)) ∧ ((ρ 0) / 10 = ρ 3) ∧ (¬ (ρ 3 ≤ 9)) ∧ ((ρ 0) / 100 = ρ 4) ∧ (¬ (ρ 4 ≤ 9)) ∧ ((ρ 0) / 1000 = ρ 5) ∧ (¬ (ρ 5 ≤ 9)) ∧ ((ρ 0) / 10000 = ρ 6) ∧ (¬ (ρ 6 ≤ 9)) ∧ ((ρ 0) / 100000 = ρ 7) ∧ (¬ (ρ 7 ≤ 9)) ∧ ((ρ 0) / 1000000 = ρ 8) ∧ (ρ 8 ≤ 9) ∧ ((ρ 0) / 1000000 = ρ 9) ∧ ((ρ 0) / 100000 = ρ 13) ∧ ((ρ 0) / 10000 = ρ 17) ∧ ((ρ 0) / 1000 = ρ 21) ∧ ((ρ 0) / 100 = ρ 25) ∧ ((ρ 0) / 10 = ρ 29) ∧ ((ρ 0) / 1 = ρ 33) := ⟨by clear r2 r3 r4 r5 r6 r7 r8 f0 f1 f3 f4 f6 f7 f9 f10 f12 f13 f15 f16 f18 f19 f21 f22 f24 f25 f27 f28 f30 f31 f33 f34 f36 f37 f38 f39; omega, by clear r0 r2 r3 r4 r5 r6 r7 r8 f0 f1 f3 f4 f6 f7 f9 f10 f12 f13 f15 f16 f18 f19 f21 f22 f24 f25 f27 f28 f30 f31 f33 f34 f36 f37; omega, by clear r0 r3 r4 r5 r6 r7 r8 f0 f1 f3 f4 f6 f7 f9 f10 f12 f13 f15 f16 f18 f19 f21 f22 f24 f25 f27 f28 f30 f31 f33 f34 f36 f37 f38 f39; omega, by clear r0 r2 r3 r4 r5 r6 r7 r8 f0 f1 f3 f4 f6 f7 f9 f10 f12 f13 f15 f16 f18 f19 f21 f22 f24 f25 f27 f28 f30 f31 f33 f34 f38 f39; omega, by clear r0 r2 r4 r5 r6 r7 r8 f0 f1 f3 f4 f6 f7 f9 f10 f12 f13 f15 f16 f18 f19 f21 f22 f24 f25 f27 f28 f30 f31 f33 f34 f36 f37 f38 f39; omega, by clear r0 r2 r3 r4 r5 r6 r7 r8 f0 f1 f3 f4 f6 f7 f9 f10 f12 f13 f15 f16 f18 f19 f21 f22 f24 f25 f27 f28 f30 f31 f36 f37 f38 f39; omega, by clear r0 r2 r3 r5 r6 r7 r8 f0 f1 f3 f4 f6 f7 f9 f10 f12 f13 f15 f16 f18 f19 f21 f22 f24 f25 f27 f28 f30 f31 f33 f34 f36 f37 f38 f39; omega, by clear r0 r2 r3 r4 r5 r6 r7 r8 f0 f1 f3 f4 f6 f7 f9 f10 f12 f13 f15 f16 f18 f19 f21 f22 f24 f25 f27 f28 f33 f34 f36 f37 f38 f39; omega, by clear r0 r2 r3 r4 r6 r7 r8 f0 f1 f3 f4 f6 f7 f9 f10 f12 f13 f15 f16 f18 f19 f21 f22 f24 f25 f27 f28 f30 f31 f33 f34 f36 f37 f38 f39; omega, by clear r0 r2 r3 r4 r5 r6 r7 r8 f0 f1 f3 f4 f6 f7 f9 f10 f12 f13 f15 f16 f18 f19 f21 f22 f24 f25 f30 f31 f33 f34 f36 f37 f38 f39; omega, by clear r0 r2 r3 r4 r5 r7 r8 f0 f1 f3 f4 f6 f7 f9 f10 f12 f13 f15 f16 f18 f19 f21 f22 f24 f25 f27 f28 f30 f31 f33 f34 f36 f37 f38 f39; omega, by clear r0 r2 r3 r4 r5 r6 r7 r8 f0 f1 f3 f4 f6 f7 f9 f10 f12 f13 f15 f16 f18 f19 f21 f22 f27 f28 f30 f31 f33 f34 f36 f37 f38 f39; omega, by clear r0 r2 r3 r4 r5 r6 r8 f0 f1 f3 f4 f6 f7 f9 f10 f12 f13 f15 f16 f18 f19 f21 f22 f24 f25 f27 f28 f30 f31 f33 f34 f36 f37 f38 f39; omega, by clear r0 r2 r3 r4 r5 r6 r7 r8 f0 f1 f3 f4 f6 f7 f9 f10 f12 f13 f15 f16 f18 f19 f24 f25 f27 f28 f30 f31 f33 f34 f36 f37 f38 f39; omega, by clear r0 r2 r3 r4 r5 r6 r7 f0 f1 f3 f4 f6 f7 f9 f10 f12 f13 f15 f16 f18 f19 f21 f22 f24 f25 f27 f28 f30 f31 f33 f34 f36 f37 f38 f39; omega, by clear r0 r2 r3 r4 r5 r6 r7 r8 f0 f1 f3 f4 f6 f7 f9 f10 f12 f13 f15 f16 f21 f22 f24 f25 f27 f28 f30 f31 f33 f34 f36 f37 f38 f39; omega, by clear r0 r2 r3 r4 r5 r6 r7 r8 f0 f1 f3 f4 f6 f7 f9 f10 f12 f13 f18 f19 f21 f22 f24 f25 f27 f28 f30 f31 f33 f34 f36 f37 f38 f39; omega, by clear r0 r2 r3 r4 r5 r6 r7 r8 f0 f1 f3 f4 f6 f7 f9 f10 f15 f16 f18 f19 f21 f22 f24 f25 f27 f28 f30 f31 f33 f34 f36 f37 f38 f39; omega, by clear r0 r2 r3 r4 r5 r6 r7 r8 f0 f1 f3 f4 f6 f7 f12 f13 f15 f16 f18 f19 f21 f22 f24 f25 f27 f28 f30 f31 f33 f34 f36 f37 f38 f39; omega, by clear r0 r2 r3 r4 r5 r6 r7 r8 f0 f1 f3 f4 f9 f10 f12 f13 f15 f16 f18 f19 f21 f22 f24 f25 f27 f28 f30 f31 f33 f34 f36 f37 f38 f39; omega, by clear r0 r2 r3 r4 r5 r6 r7 r8 f0 f1 f6 f7 f9 f10 f12 f13 f15 f16 f18 f19 f21 f22 f24 f25 f27 f28 f30 f31 f33 f34 f36 f37 f38 f39; omega, by clear r0 r2 r3 r4 r5 r6 r7 r8 f3 f4 f6 f7 f9 f10 f12 f13 f15 f16 f18 f19 f21 f22 f24 f25 f27 f28 f30 f31 f33 f34 f36 f37 f38 f39; omega⟩
  obtain ⟨l0, l1, l2, l3, l4, l5, l6, l7, l8, l9, l10, l11, l12, l13, l14, l15, l16, l17, l18, l19, l20, l21, l22, l23, l24, l25, l26, l27, -⟩ := hl
  have l0 : zOpP (.lrem) (γ 0) (γ 1) [ρ 9, 10] (ρ 10) := l0
  have l1 : zOpP (.ladd) (γ 0) (γ 1) [48, ρ 10] (ρ 11) := l1
  have l2 : zOpP (.l2i) (γ 0) (γ 1) [ρ 11] (ρ 12) := l2
  have l3 : sn87 [ρ 12, ρ 1] (γ 0) 0 0 (γ 1) := hS87 _ _ _ _ _ l3
  have l4 : zOpP (.lrem) (γ 0) (γ 1) [ρ 13, 10] (ρ 14) := l4
  have l5 : zOpP (.ladd) (γ 0) (γ 1) [48, ρ 14] (ρ 15) := l5
  have l6 : zOpP (.l2i) (γ 0) (γ 1) [ρ 15] (ρ 16) := l6
  have l7 : sn87 [ρ 16, ρ 1 + 1] (γ 1) 0 0 (γ 2) := hS87 _ _ _ _ _ l7
  have l8 : zOpP (.lrem) (γ 0) (γ 1) [ρ 17, 10] (ρ 18) := l8
  have l9 : zOpP (.ladd) (γ 0) (γ 1) [48, ρ 18] (ρ 19) := l9
  have l10 : zOpP (.l2i) (γ 0) (γ 1) [ρ 19] (ρ 20) := l10
  have l11 : sn87 [ρ 20, ρ 1 + 2] (γ 2) 0 0 (γ 3) := hS87 _ _ _ _ _ l11
  have l12 : zOpP (.lrem) (γ 0) (γ 1) [ρ 21, 10] (ρ 22) := l12
  have l13 : zOpP (.ladd) (γ 0) (γ 1) [48, ρ 22] (ρ 23) := l13
  have l14 : zOpP (.l2i) (γ 0) (γ 1) [ρ 23] (ρ 24) := l14
  have l15 : sn87 [ρ 24, ρ 1 + 3] (γ 3) 0 0 (γ 4) := hS87 _ _ _ _ _ l15
  have l16 : zOpP (.lrem) (γ 0) (γ 1) [ρ 25, 10] (ρ 26) := l16
  have l17 : zOpP (.ladd) (γ 0) (γ 1) [48, ρ 26] (ρ 27) := l17
  have l18 : zOpP (.l2i) (γ 0) (γ 1) [ρ 27] (ρ 28) := l18
  have l19 : sn87 [ρ 28, ρ 1 + 4] (γ 4) 0 0 (γ 5) := hS87 _ _ _ _ _ l19
  have l20 : zOpP (.lrem) (γ 0) (γ 1) [ρ 29, 10] (ρ 30) := l20
  have l21 : zOpP (.ladd) (γ 0) (γ 1) [48, ρ 30] (ρ 31) := l21
  have l22 : zOpP (.l2i) (γ 0) (γ 1) [ρ 31] (ρ 32) := l22
  have l23 : sn87 [ρ 32, ρ 1 + 5] (γ 5) 0 0 (γ 6) := hS87 _ _ _ _ _ l23
  have l24 : zOpP (.lrem) (γ 0) (γ 1) [ρ 33, 10] (ρ 34) := l24
  have l25 : zOpP (.ladd) (γ 0) (γ 1) [48, ρ 34] (ρ 35) := l25
  have l26 : zOpP (.l2i) (γ 0) (γ 1) [ρ 35] (ρ 36) := l26
  have l27 : sn87 [ρ 36, ρ 1 + 6] (γ 6) 0 0 (γ 7) := hS87 _ _ _ _ _ l27
  show sn88 [ρ 0, ρ 1] (γ 0) 0 0 (γ 7)
  refine Eq.symm ?_
  show fn88 [ρ 0] (γ 0) = _
  unfold fn88
  refine (zLet_eq (show _ = ρ 0 from rfl)).trans ?_
  refine (if_pos w_0).trans ?_
  refine (zLet_eq w_1).trans ?_
  refine (if_neg w_2).trans ?_
  refine (zLet_eq w_3).trans ?_
  refine (if_neg w_4).trans ?_
  refine (zLet_eq w_5).trans ?_
  refine (if_neg w_6).trans ?_
  refine (zLet_eq w_7).trans ?_
  refine (if_neg w_8).trans ?_
  refine (zLet_eq w_9).trans ?_
  refine (if_neg w_10).trans ?_
  refine (zLet_eq w_11).trans ?_
  refine (if_neg w_12).trans ?_
  refine (zLet_eq w_13).trans ?_
  refine (if_pos w_14).trans ?_
  refine (zLet_eq w_15).trans ?_
  refine (zLet_eq (zF2_ok l0)).trans ?_
  refine (zLet_eq (zF2_ok l1)).trans ?_
  refine (zLet_eq (zF1_ok l2)).trans ?_
  refine (zLet_eq (show fn87 [ρ 12] (γ 0) = (0, 0, γ 1) from l3.symm)).trans ?_
  refine (zLet_eq (show _ = γ 1 from rfl)).trans ?_
  refine (zLet_eq w_16).trans ?_
  refine (zLet_eq (zF2_ok l4)).trans ?_
  refine (zLet_eq (zF2_ok l5)).trans ?_
  refine (zLet_eq (zF1_ok l6)).trans ?_
  refine (zLet_eq (show fn87 [ρ 16] (γ 1) = (0, 0, γ 2) from l7.symm)).trans ?_
  refine (zLet_eq (show _ = γ 2 from rfl)).trans ?_
  refine (zLet_eq w_17).trans ?_
  refine (zLet_eq (zF2_ok l8)).trans ?_
  refine (zLet_eq (zF2_ok l9)).trans ?_
  refine (zLet_eq (zF1_ok l10)).trans ?_
  refine (zLet_eq (show fn87 [ρ 20] (γ 2) = (0, 0, γ 3) from l11.symm)).trans ?_
  refine (zLet_eq (show _ = γ 3 from rfl)).trans ?_
  refine (zLet_eq w_18).trans ?_
  refine (zLet_eq (zF2_ok l12)).trans ?_
  refine (zLet_eq (zF2_ok l13)).trans ?_
  refine (zLet_eq (zF1_ok l14)).trans ?_
  refine (zLet_eq (show fn87 [ρ 24] (γ 3) = (0, 0, γ 4) from l15.symm)).trans ?_
  refine (zLet_eq (show _ = γ 4 from rfl)).trans ?_
  refine (zLet_eq w_19).trans ?_
  refine (zLet_eq (zF2_ok l16)).trans ?_
  refine (zLet_eq (zF2_ok l17)).trans ?_
  refine (zLet_eq (zF1_ok l18)).trans ?_
  refine (zLet_eq (show fn87 [ρ 28] (γ 4) = (0, 0, γ 5) from l19.symm)).trans ?_
  refine (zLet_eq (show _ = γ 5 from rfl)).trans ?_
  refine (zLet_eq w_20).trans ?_
  refine (zLet_eq (zF2_ok l20)).trans ?_
  refine (zLet_eq (zF2_ok l21)).trans ?_
  refine (zLet_eq (zF1_ok l22)).trans ?_
  refine (zLet_eq (show fn87 [ρ 32] (γ 5) = (0, 0, γ 6) from l23.symm)).trans ?_
  refine (zLet_eq (show _ = γ 6 from rfl)).trans ?_
  refine (zLet_eq w_21).trans ?_
  refine (zLet_eq (zF2_ok l24)).trans ?_
  refine (zLet_eq (zF2_ok l25)).trans ?_
  refine (zLet_eq (zF1_ok l26)).trans ?_
  refine (zLet_eq (show fn87 [ρ 36] (γ 6) = (0, 0, γ 7) from l27.symm)).trans ?_
  refine (zLet_eq (show _ = γ 7 from rfl)).trans ?_
  rfl
set_option maxRecDepth 100000 in
theorem vn88_7 {S : Nat → zSpc} (hS87 : ∀ x g o v gz, S 87 x g o v gz → sn87 x g o v gz) {a : List Int} {g : rHp} : ∀ (ρ : Nat → Int) (γ : Nat → rHp), zO 2 S a g q88_7 ρ γ → zGl (fun _ _ _ => True) (sn88 a g) q88_7 ρ γ := by
  intro ρ γ h
  obtain ⟨ha, hg, hr, hf, hm, hc, hl⟩ := h
  have ha : a = [ρ 0, ρ 1] := ha
  subst ha
  subst hg
  obtain ⟨r0, -, r2, r3, r4, r5, r6, r7, r8, r9, -⟩ := hr
  have r0 : (0 : Int) ≤ ρ 0 ∧ ρ 0 ≤ 549755813887 := r0
  have r2 : (10 : Int) ≤ ρ 2 ∧ ρ 2 ≤ 549755813887 := r2
  have r3 : (10 : Int) ≤ ρ 3 ∧ ρ 3 ≤ 54975581388 := r3
  have r4 : (10 : Int) ≤ ρ 4 ∧ ρ 4 ≤ 5497558138 := r4
  have r5 : (10 : Int) ≤ ρ 5 ∧ ρ 5 ≤ 549755813 := r5
  have r6 : (10 : Int) ≤ ρ 6 ∧ ρ 6 ≤ 54975581 := r6
  have r7 : (10 : Int) ≤ ρ 7 ∧ ρ 7 ≤ 5497558 := r7
  have r8 : (10 : Int) ≤ ρ 8 ∧ ρ 8 ≤ 549755 := r8
  have r9 : (0 : Int) ≤ ρ 9 ∧ ρ 9 ≤ 9 := r9
  obtain ⟨f0, f1, -, f3, f4, -, f6, f7, -, f9, f10, -, f12, f13, -, f15, f16, -, f18, f19, -, f21, f22, -, f24, f25, -, f27, f28, -, f30, f31, -, f33, f34, -, f36, f37, -, f39, f40, -, f42, f43, f44, f45, -⟩ := hf
  have f0 : (0 : Int) ≤ ρ 38 + -ρ 0 := f0
  have f1 : (0 : Int) ≤ -ρ 38 + ρ 0 := f1
  have f3 : (0 : Int) ≤ 10 * ρ 34 + -ρ 0 + 9 := f3
  have f4 : (0 : Int) ≤ (-10) * ρ 34 + ρ 0 := f4
  have f6 : (0 : Int) ≤ 100 * ρ 30 + -ρ 0 + 99 := f6
  have f7 : (0 : Int) ≤ (-100) * ρ 30 + ρ 0 := f7
  have f9 : (0 : Int) ≤ 1000 * ρ 26 + -ρ 0 + 999 := f9
  have f10 : (0 : Int) ≤ (-1000) * ρ 26 + ρ 0 := f10
  have f12 : (0 : Int) ≤ 10000 * ρ 22 + -ρ 0 + 9999 := f12
  have f13 : (0 : Int) ≤ (-10000) * ρ 22 + ρ 0 := f13
  have f15 : (0 : Int) ≤ 100000 * ρ 18 + -ρ 0 + 99999 := f15
  have f16 : (0 : Int) ≤ (-100000) * ρ 18 + ρ 0 := f16
  have f18 : (0 : Int) ≤ 1000000 * ρ 14 + -ρ 0 + 999999 := f18
  have f19 : (0 : Int) ≤ (-1000000) * ρ 14 + ρ 0 := f19
  have f21 : (0 : Int) ≤ 10000000 * ρ 10 + -ρ 0 + 9999999 := f21
  have f22 : (0 : Int) ≤ (-10000000) * ρ 10 + ρ 0 := f22
  have f24 : (0 : Int) ≤ 10000000 * ρ 9 + -ρ 0 + 9999999 := f24
  have f25 : (0 : Int) ≤ (-10000000) * ρ 9 + ρ 0 := f25
  have f27 : (0 : Int) ≤ 1000000 * ρ 8 + -ρ 0 + 999999 := f27
  have f28 : (0 : Int) ≤ (-1000000) * ρ 8 + ρ 0 := f28
  have f30 : (0 : Int) ≤ 100000 * ρ 7 + -ρ 0 + 99999 := f30
  have f31 : (0 : Int) ≤ (-100000) * ρ 7 + ρ 0 := f31
  have f33 : (0 : Int) ≤ 10000 * ρ 6 + -ρ 0 + 9999 := f33
  have f34 : (0 : Int) ≤ (-10000) * ρ 6 + ρ 0 := f34
  have f36 : (0 : Int) ≤ 1000 * ρ 5 + -ρ 0 + 999 := f36
  have f37 : (0 : Int) ≤ (-1000) * ρ 5 + ρ 0 := f37
  have f39 : (0 : Int) ≤ 100 * ρ 4 + -ρ 0 + 99 := f39
  have f40 : (0 : Int) ≤ (-100) * ρ 4 + ρ 0 := f40
  have f42 : (0 : Int) ≤ 10 * ρ 3 + -ρ 0 + 9 := f42
  have f43 : (0 : Int) ≤ (-10) * ρ 3 + ρ 0 := f43
  have f44 : (0 : Int) ≤ ρ 2 + -ρ 0 := f44
  have f45 : (0 : Int) ≤ -ρ 2 + ρ 0 := f45
  obtain ⟨w_0, w_1, w_2, w_3, w_4, w_5, w_6, w_7, w_8, w_9, w_10, w_11, w_12, w_13, w_14, w_15, w_16, w_17, w_18, w_19, w_20, w_21, w_22, w_23, w_24⟩ : (ρ 0 ≥ 0) ∧ ((ρ 0) / 1 = ρ 2) ∧ (¬ (ρ 2 ≤ 9)) ∧ ((ρ 0) / 10 = ρ 3) ∧ (¬ (ρ 3 ≤ 9)) ∧ ((ρ 0) / 100 = ρ 4) ∧ (¬ (ρ 4 ≤ 9)) ∧ ((ρ 0) / 1000 = ρ 5) ∧ (¬ (ρ 5 ≤ 9)) ∧ ((ρ 0) / 10000 = ρ 6) ∧ (¬ (ρ 6 ≤ 9)) ∧ ((ρ 0) / 100000 = ρ 7) ∧ (¬ (ρ 7 ≤ 9)) ∧ ((ρ 0) / 1000000 = ρ 8) ∧ (¬ (ρ 8 ≤ 9)) ∧ ((ρ 0) / 10000000 = ρ 9) ∧ (ρ 9 ≤ 9) ∧ ((ρ 0) / 10000000 = ρ 10) ∧ ((ρ 0) / 1000000 = ρ 14) ∧ ((ρ 0) / 100000 = ρ 18) ∧ ((ρ 0) / 10000 = ρ 22) ∧ ((ρ 0) / 1000 = ρ 26) ∧ ((ρ 0) / 100 = ρ 30) ∧ ((ρ 0) / 10 = ρ 34) ∧ ((ρ 0) / 1 = ρ 38) := ⟨by clear r2 r3 r4 r5 r6 r7 r8 r9 f0 f1 f3 f4 f6 f7 f9 f10 f12 f13 f15 f16 f18 f19 f21 f22 f24 f25 f27 f28 f30 f31 f33 f34 f36 f37 f39 f40 f42 f43 f44 f45; omega, by clear r0 r2 r3 r4 r5 r6 r7 r8 r9 f0 f1 f3 f4 f6 f7 f9 f10 f12 f13 f15 f16 f18 f19 f21 f22 f24 f25 f27 f28 f30 f31 f33 f34 f36 f37 f39 f40 f42 f43; omega, by clear r0 r3 r4 r5 r6 r7 r8 r9 f0 f1 f3 f4 f6 f7 f9 f10 f12 f13 f15 f16 f18 f19 f21 f22 f24 f25 f27 f28 f30 f31 f33 f34 f36 f37 f39 f40 f42 f43 f44 f45; omega, by clear r0 r2 r3 r4 r5 r6 r7 r8 r9 f0 f1 f3 f4 f6 f7 f9 f10 f12 f13 f15 f16 f18 f19 f21 f22 f24 f25 f27 f28 f30 f31 f33 f34 f36 f37 f39 f40 f44 f45; omega, by clear r0 r2 r4 r5 r6 r7 r8 r9 f0 f1 f3 f4 f6 f7 f9 f10 f12 f13 f15 f16 f18 f19 f21 f22 f24 f25 f27 f28 f30 f31 f33 f34 f36 f37 f39 f40 f42 f43 f44 f45; omega, by clear r0 r2 r3 r4 r5 r6 r7 r8 r9 f0 f1 f3 f4 f6 f7 f9 f10 f12 f13 f15 f16 f18 f19 f21 f22 f24 f25 f27 f28 f30 f31 f33 f34 f36 f37 f42 f43 f44 f45; omega, by clear r0 r2 r3 r5 r6 r7 r8 r9 f0 f1 f3 f4 f6 f7 f9 f10 f12 f13 f15 f16 f18 f19 f21 f22 f24 f25 f27 f28 f30 f31 f33 f34 f36 f37 f39 f40 f42 f43 f44 f45; omega, by clear r0 r2 r3 r4 r5 r6 r7 r8 r9 f0 f1 f3 f4 f6 f7 f9 f10 f12 f13 f15 f16 f18 f19 f21 f22 f24 f25 f27 f28 f30 f31 f33 f34 f39 f40 f42 f43 f44 f45; omega, by clear r0 r2 r3 r4 r6 r7 r8 r9 f0 f1 f3 f4 f6 f7 f9 f10 f12 f13 f15 f16 f18 f19 f21 f22 f24 f25 f27 f28 f30 f31 f33 f34 f36 f37 f39 f40 f42 f43 f44 f45; omega, by clear r0 r2 r3 r4 r5 r6 r7 r8 r9 f0 f1 f3 f4 f6 f7 f9 f10 f12 f13 f15 f16 f18 f19 f21 f22 f24 f25 f27 f28 f30 f31 f36 f37 f39 f40 f42 f43 f44 f45; omega, by clear r0 r2 r3 r4 r5 r7 r8 r9 f0 f1 f3 f4 f6 f7 f9 f10 f12 f13 f15 f16 f18 f19 f21 f22 f24 f25 f27 f28 f30 f31 f33 f34 f36 f37 f39 f40 f42 f43 f44 f45; omega, by clear r0 r2 r3 r4 r5 r6 r7 r8 r9 f0 f1 f3 f4 f6 f7 f9 f10 f12 f13 f15 f16 f18 f19 f21 f22 f24 f25 f27 f28 f33 f34 f36 f37 f39 f40 f42 f43 f44 f45; omega, by clear r0 r2 r3 r4 r5 r6 r8 r9 f0 f1 f3 f4 f6 f7 f9 f10 f12 f13 f15 f16 f18 f19 f21 f22 f24 f25 f27 f28 f30 f31 f33 f34 f36 f37 f39 f40 f42 f43 f44 f45; omega, by clear r0 r2 r3 r4 r5 r6 r7 r8 r9 f0 f1 f3 f4 f6 f7 f9 f10 f12 f13 f15 f16 f18 f19 f21 f22 f24 f25 f30 f31 f33 f34 f36 f37 f39 f40 f42 f43 f44 f45; omega, by clear r0 r2 r3 r4 r5 r6 r7 r9 f0 f1 f3 f4 f6 f7 f9 f10 f12 f13 f15 f16 f18 f19 f21 f22 f24 f25 f27 f28 f30 f31 f33 f34 f36 f37 f39 f40 f42 f43 f44 f45; omega, by clear r0 r2 r3 r4 r5 r6 r7 r8 r9 f0 f1 f3 f4 f6 f7 f9 f10 f12 f13 f15 f16 f18 f19 f21 f22 f27 f28 f30 f31 f33 f34 f36 f37 f39 f40 f42 f43 f44 f45; omega, by clear r0 r2 r3 r4 r5 r6 r7 r8 f0 f1 f3 f4 f6 f7 f9 f10 f12 f13 f15 f16 f18 f19 f21 f22 f24 f25 f27 f28 f30 f31 f33 f34 f36 f37 f39 f40 f42 f43 f44 f45; omega, by clear r0 r2 r3 r4 r5 r6 r7 r8 r9 f0 f1 f3 f4 f6 f7 f9 f10 f12 f13 f15 f16 f18 f19 f24 f25 f27 f28 f30 f31 f33 f34 f36 f37 f39 f40 f42 f43 f44 f45; omega, by clear r0 r2 r3 r4 r5 r6 r7 r8 r9 f0 f1 f3 f4 f6 f7 f9 f10 f12 f13 f15 f16 f21 f22 f24 f25 f27 f28 f30 f31 f33 f34 f36 f37 f39 f40 f42 f43 f44 f45; omega, by clear r0 r2 r3 r4 r5 r6 r7 r8 r9 f0 f1 f3 f4 f6 f7 f9 f10 f12 f13 f18 f19 f21 f22 f24 f25 f27 f28 f30 f31 f33 f34 f36 f37 f39 f40 f42 f43 f44 f45; omega, by clear r0 r2 r3 r4 r5 r6 r7 r8 r9 f0 f1 f3 f4 f6 f7 f9 f10 f15 f16 f18 f19 f21 f22 f24 f25 f27 f28 f30 f31 f33 f34 f36 f37 f39 f40 f42 f43 f44 f45; omega, by clear r0 r2 r3 r4 r5 r6 r7 r8 r9 f0 f1 f3 f4 f6 f7 f12 f13 f15 f16 f18 f19 f21 f22 f24 f25 f27 f28 f30 f31 f33 f34 f36 f37 f39 f40 f42 f43 f44 f45; omega, by clear r0 r2 r3 r4 r5 r6 r7 r8 r9 f0 f1 f3 f4 f9 f10 f12 f13 f15 f16 f18 f19 f21 f22 f24 f25 f27 f28 f30 f31 f33 f34 f36 f37 f39 f40 f42 f43 f44 f45; omega, by clear r0 r2 r3 r4 r5 r6 r7 r8 r9 f0 f1 f6 f7 f9 f10 f12 f13 f15 f16 f18 f19 f21 f22 f24 f25 f27 f28 f30 f31 f33 f34 f36 f37 f39 f40 f42 f43 f44 f45; omega, by clear r0 r2 r3 r4 r5 r6 r7 r8 r9 f3 f4 f6 f7 f9 f10 f12 f13 f15 f16 f18 f19 f21 f22 f24 f25 f27 f28 f30 f31 f33 f34 f36 f37 f39 f40 f42 f43 f44 f45; omega⟩
  obtain ⟨l0, l1, l2, l3, l4, l5, l6, l7, l8, l9, l10, l11, l12, l13, l14, l15, l16, l17, l18, l19, l20, l21, l22, l23, l24, l25, l26, l27, l28, l29, l30, l31, -⟩ := hl
  have l0 : zOpP (.lrem) (γ 0) (γ 1) [ρ 10, 10] (ρ 11) := l0
  have l1 : zOpP (.ladd) (γ 0) (γ 1) [48, ρ 11] (ρ 12) := l1
  have l2 : zOpP (.l2i) (γ 0) (γ 1) [ρ 12] (ρ 13) := l2
  have l3 : sn87 [ρ 13, ρ 1] (γ 0) 0 0 (γ 1) := hS87 _ _ _ _ _ l3
  have l4 : zOpP (.lrem) (γ 0) (γ 1) [ρ 14, 10] (ρ 15) := l4
  have l5 : zOpP (.ladd) (γ 0) (γ 1) [48, ρ 15] (ρ 16) := l5
  have l6 : zOpP (.l2i) (γ 0) (γ 1) [ρ 16] (ρ 17) := l6
  have l7 : sn87 [ρ 17, ρ 1 + 1] (γ 1) 0 0 (γ 2) := hS87 _ _ _ _ _ l7
  have l8 : zOpP (.lrem) (γ 0) (γ 1) [ρ 18, 10] (ρ 19) := l8
  have l9 : zOpP (.ladd) (γ 0) (γ 1) [48, ρ 19] (ρ 20) := l9
  have l10 : zOpP (.l2i) (γ 0) (γ 1) [ρ 20] (ρ 21) := l10
  have l11 : sn87 [ρ 21, ρ 1 + 2] (γ 2) 0 0 (γ 3) := hS87 _ _ _ _ _ l11
  have l12 : zOpP (.lrem) (γ 0) (γ 1) [ρ 22, 10] (ρ 23) := l12
  have l13 : zOpP (.ladd) (γ 0) (γ 1) [48, ρ 23] (ρ 24) := l13
  have l14 : zOpP (.l2i) (γ 0) (γ 1) [ρ 24] (ρ 25) := l14
  have l15 : sn87 [ρ 25, ρ 1 + 3] (γ 3) 0 0 (γ 4) := hS87 _ _ _ _ _ l15
  have l16 : zOpP (.lrem) (γ 0) (γ 1) [ρ 26, 10] (ρ 27) := l16
  have l17 : zOpP (.ladd) (γ 0) (γ 1) [48, ρ 27] (ρ 28) := l17
  have l18 : zOpP (.l2i) (γ 0) (γ 1) [ρ 28] (ρ 29) := l18
  have l19 : sn87 [ρ 29, ρ 1 + 4] (γ 4) 0 0 (γ 5) := hS87 _ _ _ _ _ l19
  have l20 : zOpP (.lrem) (γ 0) (γ 1) [ρ 30, 10] (ρ 31) := l20
  have l21 : zOpP (.ladd) (γ 0) (γ 1) [48, ρ 31] (ρ 32) := l21
  have l22 : zOpP (.l2i) (γ 0) (γ 1) [ρ 32] (ρ 33) := l22
  have l23 : sn87 [ρ 33, ρ 1 + 5] (γ 5) 0 0 (γ 6) := hS87 _ _ _ _ _ l23
  have l24 : zOpP (.lrem) (γ 0) (γ 1) [ρ 34, 10] (ρ 35) := l24
  have l25 : zOpP (.ladd) (γ 0) (γ 1) [48, ρ 35] (ρ 36) := l25
  have l26 : zOpP (.l2i) (γ 0) (γ 1) [ρ 36] (ρ 37) := l26
  have l27 : sn87 [ρ 37, ρ 1 + 6] (γ 6) 0 0 (γ 7) := hS87 _ _ _ _ _ l27
  have l28 : zOpP (.lrem) (γ 0) (γ 1) [ρ 38, 10] (ρ 39) := l28
  have l29 : zOpP (.ladd) (γ 0) (γ 1) [48, ρ 39] (ρ 40) := l29
  have l30 : zOpP (.l2i) (γ 0) (γ 1) [ρ 40] (ρ 41) := l30
  have l31 : sn87 [ρ 41, ρ 1 + 7] (γ 7) 0 0 (γ 8) := hS87 _ _ _ _ _ l31
  show sn88 [ρ 0, ρ 1] (γ 0) 0 0 (γ 8)
  refine Eq.symm ?_
  show fn88 [ρ 0] (γ 0) = _
  unfold fn88
  refine (zLet_eq (show _ = ρ 0 from rfl)).trans ?_
  refine (if_pos w_0).trans ?_
  refine (zLet_eq w_1).trans ?_
  refine (if_neg w_2).trans ?_
  refine (zLet_eq w_3).trans ?_
  refine (if_neg w_4).trans ?_
  refine (zLet_eq w_5).trans ?_
  refine (if_neg w_6).trans ?_
  refine (zLet_eq w_7).trans ?_
  refine (if_neg w_8).trans ?_
  refine (zLet_eq w_9).trans ?_
  refine (if_neg w_10).trans ?_
  refine (zLet_eq w_11).trans ?_
  refine (if_neg w_12).trans ?_
  refine (zLet_eq w_13).trans ?_
  refine (if_neg w_14).trans ?_
  refine (zLet_eq w_15).trans ?_
  refine (if_pos w_16).trans ?_
  refine (zLet_eq w_17).trans ?_
  refine (zLet_eq (zF2_ok l0)).trans ?_
  refine (zLet_eq (zF2_ok l1)).trans ?_
  refine (zLet_eq (zF1_ok l2)).trans ?_
  refine (zLet_eq (show fn87 [ρ 13] (γ 0) = (0, 0, γ 1) from l3.symm)).trans ?_
  refine (zLet_eq (show _ = γ 1 from rfl)).trans ?_
  refine (zLet_eq w_18).trans ?_
  refine (zLet_eq (zF2_ok l4)).trans ?_
  refine (zLet_eq (zF2_ok l5)).trans ?_
  refine (zLet_eq (zF1_ok l6)).trans ?_
  refine (zLet_eq (show fn87 [ρ 17] (γ 1) = (0, 0, γ 2) from l7.symm)).trans ?_
  refine (zLet_eq (show _ = γ 2 from rfl)).trans ?_
  refine (zLet_eq w_19).trans ?_
  refine (zLet_eq (zF2_ok l8)).trans ?_
  refine (zLet_eq (zF2_ok l9)).trans ?_
  refine (zLet_eq (zF1_ok l10)).trans ?_
  refine (zLet_eq (show fn87 [ρ 21] (γ 2) = (0, 0, γ 3) from l11.symm)).trans ?_
  refine (zLet_eq (show _ = γ 3 from rfl)).trans ?_
  refine (zLet_eq w_20).trans ?_
  refine (zLet_eq (zF2_ok l12)).trans ?_
  refine (zLet_eq (zF2_ok l13)).trans ?_
  refine (zLet_eq (zF1_ok l14)).trans ?_
  refine (zLet_eq (show fn87 [ρ 25] (γ 3) = (0, 0, γ 4) from l15.symm)).trans ?_
  refine (zLet_eq (show _ = γ 4 from rfl)).trans ?_
  refine (zLet_eq w_21).trans ?_
  refine (zLet_eq (zF2_ok l16)).trans ?_
  refine (zLet_eq (zF2_ok l17)).trans ?_
  refine (zLet_eq (zF1_ok l18)).trans ?_
  refine (zLet_eq (show fn87 [ρ 29] (γ 4) = (0, 0, γ 5) from l19.symm)).trans ?_
  refine (zLet_eq (show _ = γ 5 from rfl)).trans ?_
  refine (zLet_eq w_22).trans ?_
  refine (zLet_eq (zF2_ok l20)).trans ?_
  refine (zLet_eq (zF2_ok l21)).trans ?_
  refine (zLet_eq (zF1_ok l22)).trans ?_
  refine (zLet_eq (show fn87 [ρ 33] (γ 5) = (0, 0, γ 6) from l23.symm)).trans ?_
  refine (zLet_eq (show _ = γ 6 from rfl)).trans ?_
  refine (zLet_eq w_23).trans ?_
  refine (zLet_eq (zF2_ok l24)).trans ?_
  refine (zLet_eq (zF2_ok l25)).trans ?_
  refine (zLet_eq (zF1_ok l26)).trans ?_
  refine (zLet_eq (show fn87 [ρ 37] (γ 6) = (0, 0, γ 7) from l27.symm)).trans ?_
  refine (zLet_eq (show _ = γ 7 from rfl)).trans ?_
  refine (zLet_eq w_24).trans ?_
  refine (zLet_eq (zF2_ok l28)).trans ?_
  refine (zLet_eq (zF2_ok l29)).trans ?_
  refine (zLet_eq (zF1_ok l30)).trans ?_
  refine (zLet_eq (show fn87 [ρ 41] (γ 7) = (0, 0, γ 8) from l31.symm)).trans ?_
  refine (zLet_eq (show _ = γ 8 from rfl)).trans ?_
  rfl
set_option maxRecDepth 100000 in
theorem vn88_8 {S : Nat → zSpc} (hS87 : ∀ x g o v gz, S 87 x g o v gz → sn87 x g o v gz) {a : List Int} {g : rHp} : ∀ (ρ : Nat → Int) (γ : Nat → rHp), zO 2 S a g q88_8 ρ γ → zGl (fun _ _ _ => True) (sn88 a g) q88_8 ρ γ := by
  intro ρ γ h
  obtain ⟨ha, hg, hr, hf, hm, hc, hl⟩ := h
  have ha : a = [ρ 0, ρ 1] := ha
  subst ha
  subst hg
  obtain ⟨r0, -, r2, r3, r4, r5, r6, r7, r8, r9, r10, -⟩ := hr
  have r0 : (0 : Int) ≤ ρ 0 ∧ ρ 0 ≤ 549755813887 := r0
  have r2 : (10 : Int) ≤ ρ 2 ∧ ρ 2 ≤ 549755813887 := r2
  have r3 : (10 : Int) ≤ ρ 3 ∧ ρ 3 ≤ 54975581388 := r3
  have r4 : (10 : Int) ≤ ρ 4 ∧ ρ 4 ≤ 5497558138 := r4
  have r5 : (10 : Int) ≤ ρ 5 ∧ ρ 5 ≤ 549755813 := r5
  have r6 : (10 : Int) ≤ ρ 6 ∧ ρ 6 ≤ 54975581 := r6
  have r7 : (10 : Int) ≤ ρ 7 ∧ ρ 7 ≤ 5497558 := r7
  have r8 : (10 : Int) ≤ ρ 8 ∧ ρ 8 ≤ 549755 := r8
  have r9 : (10 : Int) ≤ ρ 9 ∧ ρ 9 ≤ 54975 := r9
  have r10 : (0 : Int) ≤ ρ 10 ∧ ρ 10 ≤ 9 := r10
  obtain ⟨f0, f1, -, f3, f4, -, f6, f7, -, f9, f10, -, f12, f13, -, f15, f16, -, f18, f19, -, f21, f22, -, f24, f25, -, f27, f28, -, f30, f31, -, f33, f34, -, f36, f37, -, f39, f40, -, f42, f43, -, f45, f46, -, f48, f49, f50, f51, -⟩ := hf
  have f0 : (0 : Int) ≤ ρ 43 + -ρ 0 := f0
  have f1 : (0 : Int) ≤ -ρ 43 + ρ 0 := f1
  have f3 : (0 : Int) ≤ 10 * ρ 39 + -ρ 0 + 9 := f3
  have f4 : (0 : Int) ≤ (-10) * ρ 39 + ρ 0 := f4
  have f6 : (0 : Int) ≤ 100 * ρ 35 + -ρ 0 + 99 := f6
  have f7 : (0 : Int) ≤ (-100) * ρ 35 + ρ 0 := f7
  have f9 : (0 : Int) ≤ 1000 * ρ 31 + -ρ 0 + 999 := f9
  have f10 : (0 : Int) ≤ (-1000) * ρ 31 + ρ 0 := f10
  have f12 : (0 : Int) ≤ 10000 * ρ 27 + -ρ 0 + 9999 := f12
  have f13 : (0 : Int) ≤ (-10000) * ρ 27 + ρ 0 := f13
  have f15 : (0 : Int) ≤ 100000 * ρ 23 + -ρ 0 + 99999 := f15
  have f16 : (0 : Int) ≤ (-100000) * ρ 23 + ρ 0 := f16
  have f18 : (0 : Int) ≤ 1000000 * ρ 19 + -ρ 0 + 999999 := f18
  have f19 : (0 : Int) ≤ (-1000000) * ρ 19 + ρ 0 := f19
  have f21 : (0 : Int) ≤ 10000000 * ρ 15 + -ρ 0 + 9999999 := f21
  have f22 : (0 : Int) ≤ (-10000000) * ρ 15 + ρ 0 := f22
  have f24 : (0 : Int) ≤ 100000000 * ρ 11 + -ρ 0 + 99999999 := f24
  have f25 : (0 : Int) ≤ (-100000000) * ρ 11 + ρ 0 := f25
  have f27 : (0 : Int) ≤ 100000000 * ρ 10 + -ρ 0 + 99999999 := f27
  have f28 : (0 : Int) ≤ (-100000000) * ρ 10 + ρ 0 := f28
  have f30 : (0 : Int) ≤ 10000000 * ρ 9 + -ρ 0 + 9999999 := f30
  have f31 : (0 : Int) ≤ (-10000000) * ρ 9 + ρ 0 := f31
  have f33 : (0 : Int) ≤ 1000000 * ρ 8 + -ρ 0 + 999999 := f33
  have f34 : (0 : Int) ≤ (-1000000) * ρ 8 + ρ 0 := f34
  have f36 : (0 : Int) ≤ 100000 * ρ 7 + -ρ 0 + 99999 := f36
  have f37 : (0 : Int) ≤ (-100000) * ρ 7 + ρ 0 := f37
  have f39 : (0 : Int) ≤ 10000 * ρ 6 + -ρ 0 + 9999 := f39
  have f40 : (0 : Int) ≤ (-10000) * ρ 6 + ρ 0 := f40
  have f42 : (0 : Int) ≤ 1000 * ρ 5 + -ρ 0 + 999 := f42
  have f43 : (0 : Int) ≤ (-1000) * ρ 5 + ρ 0 := f43
  have f45 : (0 : Int) ≤ 100 * ρ 4 + -ρ 0 + 99 := f45
  have f46 : (0 : Int) ≤ (-100) * ρ 4 + ρ 0 := f46
  have f48 : (0 : Int) ≤ 10 * ρ 3 + -ρ 0 + 9 := f48
  have f49 : (0 : Int) ≤ (-10) * ρ 3 + ρ 0 := f49
  have f50 : (0 : Int) ≤ ρ 2 + -ρ 0 := f50
  have f51 : (0 : Int) ≤ -ρ 2 + ρ 0 := f51
  obtain ⟨w_0, w_1, w_2, w_3, w_4, w_5, w_6, w_7, w_8, w_9, w_10, w_11, w_12, w_13, w_14, w_15, w_16, w_17, w_18, w_19, w_20, w_21, w_22, w_23, w_24, w_25, w_26, w_27⟩ : (ρ 0 ≥ 0) ∧ ((ρ 0) / 1 = ρ 2) ∧ (¬ (ρ 2 ≤ 9)) ∧ ((ρ 0) / 10 = ρ 3) ∧ (¬ (ρ 3 ≤ 9)) ∧ ((ρ 0) / 100 = ρ 4) ∧ (¬ (ρ 4 ≤ 9)) ∧ ((ρ 0) / 1000 = ρ 5) ∧ (¬ (ρ 5 ≤ 9)) ∧ ((ρ 0) / 10000 = ρ 6) ∧ (¬ (ρ 6 ≤ 9)) ∧ ((ρ 0) / 100000 = ρ 7) ∧ (¬ (ρ 7 ≤ 9)) ∧ ((ρ 0) / 1000000 = ρ 8) ∧ (¬ (ρ 8 ≤ 9)) ∧ ((ρ 0) / 10000000 = ρ 9) ∧ (¬ (ρ 9 ≤ 9)) ∧ ((ρ 0) / 100000000 = ρ 10) ∧ (ρ 10 ≤ 9) ∧ ((ρ 0) / 100000000 = ρ 11) ∧ ((ρ 0) / 10000000 = ρ 15) ∧ ((ρ 0) / 1000000 = ρ 19) ∧ ((ρ 0) / 100000 = ρ 23) ∧ ((ρ 0) / 10000 = ρ 27) ∧ ((ρ 0) / 1000 = ρ 31) ∧ ((ρ 0) / 100 = ρ 35) ∧ ((ρ 0) / 10 = ρ 39) ∧ ((ρ 0) / 1 = ρ 43) := ⟨by clear r2 r3 r4 r5 r6 r7 r8 r9 r10 f0 f1 f3 f4 f6 f7 f9 f10 f12 f13 f15 f16 f18 f19 f21 f22 f24 f25 f27 f28 f30 f31 f33 f34 f36 f37 f39 f40 f42 f43 f45 f46 f48 f49 f50 f51; omega, by clear r0 r2 r3 r4 r5 r6 r7 r8 r9 r10 f0 f1 f3 f4 f6 f7 f9 f10 f12 f13 f15 f16 f18 f19 f21 f22 f24 f25 f27 f28 f30 f31 f33 f34 f36 f37 f39 f40 f42 f43 f45 f46 f48 f49; omega, by clear r0 r3 r4 r5 r6 r7 r8 r9 r10 f0 f1 f3 f4 f6 f7 f9 f10 f12 f13 f15 f16 f18 f19 f21 f22 f24 f25 f27 f28 f30 f31 f33 f34 f36 f37 f39 f40 f42 f43 f45 f46 f48 f49 f50 f51; omega, by clear r0 r2 r3 r4 r5 r6 r7 r8 r9 r10 f0 f1 f3 f4 f6 f7 f9 f10 f12 f13 f15 f16 f18 f19 f21 f22 f24 f25 f27 f28 f30 f31 f33 f34 f36 f37 f39 f40 f42 f43 f45 f46 f50 f51; omega, by clear r0 r2 r4 r5 r6 r7 r8 r9 r10 f0 f1 f3 f4 f6 f7 f9 f10 f12 f13 f15 f16 f18 f19 f21 f22 f24 f25 f27 f28 f30 f31 f33 f34 f36 f37 f39 f40 f42 f43 f45 f46 f48 f49 f50 f51; omega, by clear r0 r2 r3 r4 r5 r6 r7 r8 r9 r10 f0 f1 f3 f4 f6 f7 f9 f10 f12 f13 f15 f16 f18 f19 f21 f22 f24 f25 f27 f28 f30 f31 f33 f34 f36 f37 f39 f40 f42 f43 f48 f49 f50 f51; omega, by clear r0 r2 r3 r5 r6 r7 r8 r9 r10 f0 f1 f3 f4 f6 f7 f9 f10 f12 f13 f15 f16 f18 f19 f21 f22 f24 f25 f27 f28 f30 f31 f33 f34 f36 f37 f39 f40 f42 f43 f45 f46 f48 f49 f50 f51; omega, by clear r0 r2 r3 r4 r5 r6 r7 r8 r9 r10 f0 f1 f3 f4 f6 f7 f9 f10 f12 f13 f15 f16 f18 f19 f21 f22 f24 f25 f27 f28 f30 f31 f33 f34 f36 f37 f39 f40 f45 f46 f48 f49 f50 f51; omega, by clear r0 r2 r3 r4 r6 r7 r8 r9 r10 f0 f1 f3 f4 f6 f7 f9 f10 f12 f13 f15 f16 f18 f19 f21 f22 f24 f25 f27 f28 f30 f31 f33 f34 f36 f37 f39 f40 f42 f43 f45 f46 f48 f49 f50 f51; omega, by clear r0 r2 r3 r4 r5 r6 r7 r8 r9 r10 f0 f1 f3 f4 f6 f7 f9 f10 f12 f13 f15 f16 f18 f19 f21 f22 f24 f25 f27 f28 f30 f31 f33 f34 f36 f37 f42 f43 f45 f46 f48 f49 f50 f51; omega, by clear r0 r2 r3 r4 r5 r7 r8 r9 r10 f0 f1 f3 f4 f6 f7 f9 f10 f12 f13 f15 f16 f18 f19 f21 f22 f24 f25 f27 f28 f30 f31 f33 f34 f36 f37 f39 f40 f42 f43 f45 f46 f48 f49 f50 f51; omega, by clear r0 r2 r3 r4 r5 r6 r7 r8 r9 r10 f0 f1 f3 f4 f6 f7 f9 f10 f12 f13 f15 f16 f18 f19 f21 f22 f24 f25 f27 f28 f30 f31 f33 f34 f39 f40 f42 f43 f45 f46 f48 f49 f50 f51; omega, by clear r0 r2 r3 r4 r5 r6 r8 r9 r10 f0 f1 f3 f4 f6 f7 f9 f10 f12 f13 f15 f16 f18 f19 f21 f22 f24 f25 f27 f28 f30 f31 f33 f34 f36 f37 f39 f40 f42 f43 f45 f46 f48 f49 f50 f51; omega, by clear r0 r2 r3 r4 r5 r6 r7 r8 r9 r10 f0 f1 f3 f4 f6 f7 f9 f10 f12 f13 f15 f16 f18 f19 f21 f22 f24 f25 f27 f28 f30 f31 f36 f37 f39 f40 f42 f43 f45 f46 f48 f49 f50 f51; omega, by clear r0 r2 r3 r4 r5 r6 r7 r9 r10 f0 f1 f3 f4 f6 f7 f9 f10 f12 f13 f15 f16 f18 f19 f21 f22 f24 f25 f27 f28 f30 f31 f33 f34 f36 f37 f39 f40 f42 f43 f45 f46 f48 f49 f50 f51; omega, by clear r0 r2 r3 r4 r5 r6 r7 r8 r9 r10 f0 f1 f3 f4 f6 f7 f9 f10 f12 f13 f15 f16 f18 f19 f21 f22 f24 f25 f27 f28 f33 f34 f36 f37 f39 f40 f42 f43 f45 f46 f48 f49 f50 f51; omega, by clear r0 r2 r3 r4 r5 r6 r7 r8 r10 f0 f1 f3 f4 f6 f7 f9 f10 f12 f13 f15 f16 f18 f19 f21 f22 f24 f25 f27 f28 f30 f31 f33 f34 f36 f37 f39 f40 f42 f43 f45 f46 f48 f49 f50 f51; omega, by clear r0 r2 r3 r4 r5 r6 r7 r8 r9 r10 f0 f1 f3 f4 f6 f7 f9 f10 f12 f13 f15 f16 f18 f19 f21 f22 f24 f25 f30 f31 f33 f34 f36 f37 f39 f40 f42 f43 f45 f46 f48 f49 f50 f51; omega, by clear r0 r2 r3 r4 r5 r6 r7 r8 r9 f0 f1 f3 f4 f6 f7 f9 f10 f12 f13 f15 f16 f18 f19 f21 f22 f24 f25 f27 f28 f30 f31 f33 f34 f36 f37 f39 f40 f42 f43 f45 f46 f48 f49 f50 f51; omega, by clear r0 r2 r3 r4 r5 r6 r7 r8 r9 r10 f0 f1 f3 f4 f6 f7 f9 f10 f12 f13 f15 f16 f18 f19 f21 f22 f27 f28 f30 f31 f33 f34 f36 f37 f39 f40 f42 f43 f45 f46 f48 f49 f50 f51; omega, by clear r0 r2 r3 r4 r5 r6 r7 r8 r9 r10 f0 f1 f3 f4 f6 f7 f9 f10 f12 f13 f15 f16 f18 f19 f24 f25 f27 f28 f30 f31 f33 f34 f36 f37 f39 f40 f42 f43 f45 f46 f48 f49 f50 f51; omega, by clear r0 r2 r3 r4 r5 r6 r7 r8 r9 r10 f0 f1 f3 f4 f6 f7 f9 f10 f12 f13 f15 f16 f21 f22 f24 f25 f27 f28 f30 f31 f33 f34 f36 f37 f39 f40 f42 f43 f45 f46 f48 f49 f50 f51; omega, by clear r0 r2 r3 r4 r5 r6 r7 r8 r9 r10 f0 f1 f3 f4 f6 f7 f9 f10 f12 f13 f18 f19 f21 f22 f24 f25 f27 f28 f30 f31 f33 f34 f36 f37 f39 f40 f42 f43 f45 f46 f48 f49 f50 f51; omega, by clear r0 r2 r3 r4 r5 r6 r7 r8 r9 r10 f0 f1 f3 f4 f6 f7 f9 f10 f15 f16 f18 f19 f21 f22 f24 f25 f27 f28 f30 f31 f33 f34 f36 f37 f39 f40 f42 f43 f45 f46 f48 f49 f50 f51; omega, by clear r0 r2 r3 r4 r5 r6 r7 r8 r9 r10 f0 f1 f3 f4 f6 f7 f12 f13 f15 f16 f18 f19 f21 f22 f24 f25 f27 f28 f30 f31 f33 f34 f36 f37 f39 f40 f42 f43 f45 f46 f48 f49 f50 f51; omega, by clear r0 r2 r3 r4 r5 r6 r7 r8 r9 r10 f0 f1 f3 f4 f9 f10 f12 f13 f15 f16 f18 f19 f21 f22 f24 f25 f27 f28 f30 f31 f33 f34 f36 f37 f39 f40 f42 f43 f45 f46 f48 f49 f50 f51; omega, by clear r0 r2 r3 r4 r5 r6 r7 r8 r9 r10 f0 f1 f6 f7 f9 f10 f12 f13 f15 f16 f18 f19 f21 f22 f24 f25 f27 f28 f30 f31 f33 f34 f36 f37 f39 f40 f42 f43 f45 f46 f48 f49 f50 f51; omega, by clear r0 r2 r3 r4 r5 r6 r7 r8 r9 r10 f3 f4 f6 f7 f9 f10 f12 f13 f15 f16 f18 f19 f21 f22 f24 f25 f27 f28 f30 f31 f33 f34 f36 f37 f39 f40 f42 f43 f45 f46 f48 f49 f50 f51; omega⟩
  obtain ⟨l0, l1, l2, l3, l4, l5, l6, l7, l8, l9, l10, l11, l12, l13, l14, l15, l16, l17, l18, l19, l20, l21, l22, l23, l24, l25, l26, l27, l28, l29, l30, l31, l32, l33, l34, l35, -⟩ := hl
  have l0 : zOpP (.lrem) (γ 0) (γ 1) [ρ 11, 10] (ρ 12) := l0
  have l1 : zOpP (.ladd) (γ 0) (γ 1) [48, ρ 12] (ρ 13) := l1
  have l2 : zOpP (.l2i) (γ 0) (γ 1) [ρ 13] (ρ 14) := l2
  have l3 : sn87 [ρ 14, ρ 1] (γ 0) 0 0 (γ 1) := hS87 _ _ _ _ _ l3
  have l4 : zOpP (.lrem) (γ 0) (γ 1) [ρ 15, 10] (ρ 16) := l4
  have l5 : zOpP (.ladd) (γ 0) (γ 1) [48, ρ 16] (ρ 17) := l5
  have l6 : zOpP (.l2i) (γ 0) (γ 1) [ρ 17] (ρ 18) := l6
  have l7 : sn87 [ρ 18, ρ 1 + 1] (γ 1) 0 0 (γ 2) := hS87 _ _ _ _ _ l7
  have l8 : zOpP (.lrem) (γ 0) (γ 1) [ρ 19, 10] (ρ 20) := l8
  have l9 : zOpP (.ladd) (γ 0) (γ 1) [48, ρ 20] (ρ 21) := l9
  have l10 : zOpP (.l2i) (γ 0) (γ 1) [ρ 21] (ρ 22) := l10
  have l11 : sn87 [ρ 22, ρ 1 + 2] (γ 2) 0 0 (γ 3) := hS87 _ _ _ _ _ l11
  have l12 : zOpP (.lrem) (γ 0) (γ 1) [ρ 23, 10] (ρ 24) := l12
  have l13 : zOpP (.ladd) (γ 0) (γ 1) [48, ρ 24] (ρ 25) := l13
  have l14 : zOpP (.l2i) (γ 0) (γ 1) [ρ 25] (ρ 26) := l14
  have l15 : sn87 [ρ 26, ρ 1 + 3] (γ 3) 0 0 (γ 4) := hS87 _ _ _ _ _ l15
  have l16 : zOpP (.lrem) (γ 0) (γ 1) [ρ 27, 10] (ρ 28) := l16
  have l17 : zOpP (.ladd) (γ 0) (γ 1) [48, ρ 28] (ρ 29) := l17
  have l18 : zOpP (.l2i) (γ 0) (γ 1) [ρ 29] (ρ 30) := l18
  have l19 : sn87 [ρ 30, ρ 1 + 4] (γ 4) 0 0 (γ 5) := hS87 _ _ _ _ _ l19
  have l20 : zOpP (.lrem) (γ 0) (γ 1) [ρ 31, 10] (ρ 32) := l20
  have l21 : zOpP (.ladd) (γ 0) (γ 1) [48, ρ 32] (ρ 33) := l21
  have l22 : zOpP (.l2i) (γ 0) (γ 1) [ρ 33] (ρ 34) := l22
  have l23 : sn87 [ρ 34, ρ 1 + 5] (γ 5) 0 0 (γ 6) := hS87 _ _ _ _ _ l23
  have l24 : zOpP (.lrem) (γ 0) (γ 1) [ρ 35, 10] (ρ 36) := l24
  have l25 : zOpP (.ladd) (γ 0) (γ 1) [48, ρ 36] (ρ 37) := l25
  have l26 : zOpP (.l2i) (γ 0) (γ 1) [ρ 37] (ρ 38) := l26
  have l27 : sn87 [ρ 38, ρ 1 + 6] (γ 6) 0 0 (γ 7) := hS87 _ _ _ _ _ l27
  have l28 : zOpP (.lrem) (γ 0) (γ 1) [ρ 39, 10] (ρ 40) := l28
  have l29 : zOpP (.ladd) (γ 0) (γ 1) [48, ρ 40] (ρ 41) := l29
  have l30 : zOpP (.l2i) (γ 0) (γ 1) [ρ 41] (ρ 42) := l30
  have l31 : sn87 [ρ 42, ρ 1 + 7] (γ 7) 0 0 (γ 8) := hS87 _ _ _ _ _ l31
  have l32 : zOpP (.lrem) (γ 0) (γ 1) [ρ 43, 10] (ρ 44) := l32
  have l33 : zOpP (.ladd) (γ 0) (γ 1) [48, ρ 44] (ρ 45) := l33
  have l34 : zOpP (.l2i) (γ 0) (γ 1) [ρ 45] (ρ 46) := l34
  have l35 : sn87 [ρ 46, ρ 1 + 8] (γ 8) 0 0 (γ 9) := hS87 _ _ _ _ _ l35
  show sn88 [ρ 0, ρ 1] (γ 0) 0 0 (γ 9)
  refine Eq.symm ?_
  show fn88 [ρ 0] (γ 0) = _
  unfold fn88
  refine (zLet_eq (show _ = ρ 0 from rfl)).trans ?_
  refine (if_pos w_0).trans ?_
  refine (zLet_eq w_1).trans ?_
  refine (if_neg w_2).trans ?_
  refine (zLet_eq w_3).trans ?_
  refine (if_neg w_4).trans ?_
  refine (zLet_eq w_5).trans ?_
  refine (if_neg w_6).trans ?_
  refine (zLet_eq w_7).trans ?_
  refine (if_neg w_8).trans ?_
  refine (zLet_eq w_9).trans ?_
  refine (if_neg w_10).trans ?_
  refine (zLet_eq w_11).trans ?_
  refine (if_neg w_12).trans ?_
  refine (zLet_eq w_13).trans ?_
  refine (if_neg w_14).trans ?_
  refine (zLet_eq w_15).trans ?_
  refine (if_neg w_16).trans ?_
  refine (zLet_eq w_17).trans ?_
  refine (if_pos w_18).trans ?_
  refine (zLet_eq w_19).trans ?_
  refine (zLet_eq (zF2_ok l0)).trans ?_
  refine (zLet_eq (zF2_ok l1)).trans ?_
  refine (zLet_eq (zF1_ok l2)).trans ?_
  refine (zLet_eq (show fn87 [ρ 14] (γ 0) = (0, 0, γ 1) from l3.symm)).trans ?_
  refine (zLet_eq (show _ = γ 1 from rfl)).trans ?_
  refine (zLet_eq w_20).trans ?_
  refine (zLet_eq (zF2_ok l4)).trans ?_
  refine (zLet_eq (zF2_ok l5)).trans ?_
  refine (zLet_eq (zF1_ok l6)).trans ?_
  refine (zLet_eq (show fn87 [ρ 18] (γ 1) = (0, 0, γ 2) from l7.symm)).trans ?_
  refine (zLet_eq (show _ = γ 2 from rfl)).trans ?_
  refine (zLet_eq w_21).trans ?_
  refine (zLet_eq (zF2_ok l8)).trans ?_
  refine (zLet_eq (zF2_ok l9)).trans ?_
  refine (zLet_eq (zF1_ok l10)).trans ?_
  refine (zLet_eq (show fn87 [ρ 22] (γ 2) = (0, 0, γ 3) from l11.symm)).trans ?_
  refine (zLet_eq (show _ = γ 3 from rfl)).trans ?_
  refine (zLet_eq w_22).trans ?_
  refine (zLet_eq (zF2_ok l12)).trans ?_
  refine (zLet_eq (zF2_ok l13)).trans ?_
  refine (zLet_eq (zF1_ok l14)).trans ?_
  refine (zLet_eq (show fn87 [ρ 26] (γ 3) = (0, 0, γ 4) from l15.symm)).trans ?_
  refine (zLet_eq (show _ = γ 4 from rfl)).trans ?_
  refine (zLet_eq w_23).trans ?_
  refine (zLet_eq (zF2_ok l16)).trans ?_
  refine (zLet_eq (zF2_ok l17)).trans ?_
  refine (zLet_eq (zF1_ok l18)).trans ?_
  refine (zLet_eq (show fn87 [ρ 30] (γ 4) = (0, 0, γ 5) from l19.symm)).trans ?_
  refine (zLet_eq (show _ = γ 5 from rfl)).trans ?_
  refine (zLet_eq w_24).trans ?_
  refine (zLet_eq (zF2_ok l20)).trans ?_
  refine (zLet_eq (zF2_ok l21)).trans ?_
  refine (zLet_eq (zF1_ok l22)).trans ?_
  refine (zLet_eq (show fn87 [ρ 34] (γ 5) = (0, 0, γ 6) from l23.symm)).trans ?_
  refine (zLet_eq (show _ = γ 6 from rfl)).trans ?_
  refine (zLet_eq w_25).trans ?_
  refine (zLet_eq (zF2_ok l24)).trans ?_
  refine (zLet_eq (zF2_ok l25)).trans ?_
  refine (zLet_eq (zF1_ok l26)).trans ?_
  refine (zLet_eq (show fn87 [ρ 38] (γ 6) = (0, 0, γ 7) from l27.symm)).trans ?_
  refine (zLet_eq (show _ = γ 7 from rfl)).trans ?_
  refine (zLet_eq w_26).trans ?_
  refine (zLet_eq (zF2_ok l28)).trans ?_
  refine (zLet_eq (zF2_ok l29)).trans ?_
  refine (zLet_eq (zF1_ok l30)).trans ?_
  refine (zLet_eq (show fn87 [ρ 42] (γ 7) = (0, 0, γ 8) from l31.symm)).trans ?_
  refine (zLet_eq (show _ = γ 8 from rfl)).trans ?_
  refine (zLet_eq w_27).trans ?_
  refine (zLet_eq (zF2_ok l32)).trans ?_
  refine (zLet_eq (zF2_ok l33)).trans ?_
  refine (zLet_eq (zF1_ok l34)).trans ?_
  refine (zLet_eq (show fn87 [ρ 46] (γ 8) = (0, 0, γ 9) from l35.symm)).trans ?_
  refine (zLet_eq (show _ = γ 9 from rfl)).trans ?_
  rfl
set_option maxRecDepth 100000 in
theorem vn88_9 {S : Nat → zSpc} (hS87 : ∀ x g o v gz, S 87 x g o v gz → sn87 x g o v gz) {a : List Int} {g : rHp} : ∀ (ρ : Nat → Int) (γ : Nat → rHp), zO 2 S a g q88_9 ρ γ → zGl (fun _ _ _ => True) (sn88 a g) q88_9 ρ γ := by
  intro ρ γ h
  obtain ⟨ha, hg, hr, hf, hm, hc, hl⟩ := h
  have ha : a = [ρ 0, ρ 1] := ha
  subst ha
  subst hg
  obtain ⟨r0, -, r2, r3, r4, r5, r6, r7, r8, r9, r10, r11, -⟩ := hr
  have r0 : (0 : Int) ≤ ρ 0 ∧ ρ 0 ≤ 549755813887 := r0
  have r2 : (10 : Int) ≤ ρ 2 ∧ ρ 2 ≤ 549755813887 := r2
  have r3 : (10 : Int) ≤ ρ 3 ∧ ρ 3 ≤ 54975581388 := r3
  have r4 : (10 : Int) ≤ ρ 4 ∧ ρ 4 ≤ 5497558138 := r4
  have r5 : (10 : Int) ≤ ρ 5 ∧ ρ 5 ≤ 549755813 := r5
  have r6 : (10 : Int) ≤ ρ 6 ∧ ρ 6 ≤ 54975581 := r6
  have r7 : (10 : Int) ≤ ρ 7 ∧ ρ 7 ≤ 5497558 := r7
  have r8 : (10 : Int) ≤ ρ 8 ∧ ρ 8 ≤ 549755 := r8
  have r9 : (10 : Int) ≤ ρ 9 ∧ ρ 9 ≤ 54975 := r9
  have r10 : (10 : Int) ≤ ρ 10 ∧ ρ 10 ≤ 5497 := r10
  have r11 : (0 : Int) ≤ ρ 11 ∧ ρ 11 ≤ 9 := r11
  obtain ⟨f0, f1, -, f3, f4, -, f6, f7, -, f9, f10, -, f12, f13, -, f15, f16, -, f18, f19, -, f21, f22, -, f24, f25, -, f27, f28, -, f30, f31, -, f33, f34, -, f36, f37, -, f39, f40, -, f42, f43, -, f45, f46, -, f48, f49, -, f51, f52, -, f54, f55, f56, f57, -⟩ := hf
  have f0 : (0 : Int) ≤ ρ 48 + -ρ 0 := f0
  have f1 : (0 : Int) ≤ -ρ 48 + ρ 0 := f1
  have f3 : (0 : Int) ≤ 10 * ρ 44 + -ρ 0 + 9 := f3
  have f4 : (0 : Int) ≤ (-10) * ρ 44 + ρ 0 := f4
  have f6 : (0 : Int) ≤ 100 * ρ 40 + -ρ 0 + 99 := f6
  have f7 : (0 : Int) ≤ (-100) * ρ 40 + ρ 0 := f7
  have f9 : (0 : Int) ≤ 1000 * ρ 36 + -ρ 0 + 999 := f9
  have f10 : (0 : Int) ≤ (-1000) * ρ 36 + ρ 0 := f10
  have f12 : (0 : Int) ≤ 10000 * ρ 32 + -ρ 0 + 9999 := f12
  have f13 : (0 : Int) ≤ (-10000) * ρ 32 + ρ 0 := f13
  have f15 : (0 : Int) ≤ 100000 * ρ 28 + -ρ 0 + 99999 := f15
  have f16 : (0 : Int) ≤ (-100000) * ρ 28 + ρ 0 := f16
  have f18 : (0 : Int) ≤ 1000000 * ρ 24 + -ρ 0 + 999999 := f18
  have f19 : (0 : Int) ≤ (-1000000) * ρ 24 + ρ 0 := f19
  have f21 : (0 : Int) ≤ 10000000 * ρ 20 + -ρ 0 + 9999999 := f21
  have f22 : (0 : Int) ≤ (-10000000) * ρ 20 + ρ 0 := f22
  have f24 : (0 : Int) ≤ 100000000 * ρ 16 + -ρ 0 + 99999999 := f24
  have f25 : (0 : Int) ≤ (-100000000) * ρ 16 + ρ 0 := f25
  have f27 : (0 : Int) ≤ 1000000000 * ρ 12 + -ρ 0 + 999999999 := f27
  have f28 : (0 : Int) ≤ (-1000000000) * ρ 12 + ρ 0 := f28
  have f30 : (0 : Int) ≤ 1000000000 * ρ 11 + -ρ 0 + 999999999 := f30
  have f31 : (0 : Int) ≤ (-1000000000) * ρ 11 + ρ 0 := f31
  have f33 : (0 : Int) ≤ 100000000 * ρ 10 + -ρ 0 + 99999999 := f33
  have f34 : (0 : Int) ≤ (-100000000) * ρ 10 + ρ 0 := f34
  have f36 : (0 : Int) ≤ 10000000 * ρ 9 + -ρ 0 + 9999999 := f36
  have f37 : (0 : Int) ≤ (-10000000) * ρ 9 + ρ 0 := f37
  have f39 : (0 : Int) ≤ 1000000 * ρ 8 + -ρ 0 + 999999 := f39
  have f40 : (0 : Int) ≤ (-1000000) * ρ 8 + ρ 0 := f40
  have f42 : (0 : Int) ≤ 100000 * ρ 7 + -ρ 0 + 99999 := f42
  have f43 : (0 : Int) ≤ (-100000) * ρ 7 + ρ 0 := f43
  have f45 : (0 : Int) ≤ 10000 * ρ 6 + -ρ 0 + 9999 := f45
  have f46 : (0 : Int) ≤ (-10000) * ρ 6 + ρ 0 := f46
  have f48 : (0 : Int) ≤ 1000 * ρ 5 + -ρ 0 + 999 := f48
  have f49 : (0 : Int) ≤ (-1000) * ρ 5 + ρ 0 := f49
  have f51 : (0 : Int) ≤ 100 * ρ 4 + -ρ 0 + 99 := f51
  have f52 : (0 : Int) ≤ (-100) * ρ 4 + ρ 0 := f52
  have f54 : (0 : Int) ≤ 10 * ρ 3 + -ρ 0 + 9 := f54
  have f55 : (0 : Int) ≤ (-10) * ρ 3 + ρ 0 := f55
  have f56 : (0 : Int) ≤ ρ 2 + -ρ 0 := f56
  have f57 : (0 : Int) ≤ -ρ 2 + ρ 0 := f57
  obtain ⟨w_0, w_1, w_2, w_3, w_4, w_5, w_6, w_7, w_8, w_9, w_10, w_11, w_12, w_13, w_14, w_15, w_16, w_17, w_18, w_19, w_20, w_21, w_22, w_23, w_24, w_25, w_26, w_27, w_28, w_29, w_30⟩ : (ρ 0 ≥ 0) ∧ ((ρ 0) / 1 = ρ 2) ∧ (¬ (ρ 2 ≤ 9)) ∧ ((ρ 0) / 10 = ρ 3) ∧ (¬ (ρ 3 ≤ 9)) ∧ ((ρ 0) / 100 = ρ 4) ∧ (¬ (ρ 4 ≤ 9)) ∧ ((ρ 0) / 1000 = ρ 5) ∧ (¬ (ρ 5 ≤ 9)) ∧ ((ρ 0) / 10000 = ρ 6) ∧ (¬ (ρ 6 ≤ 9)) ∧ ((ρ 0) / 100000 = ρ 7) ∧ (¬ (ρ 7 ≤ 9)) ∧ ((ρ 0) / 1000000 = ρ 8) ∧ (¬ (ρ 8 ≤ 9)) ∧ ((ρ 0) / 10000000 = ρ 9) ∧ (¬ (ρ 9 ≤ 9)) ∧ ((ρ 0) / 100000000 = ρ 10) ∧ (¬ (ρ 10 ≤ 9)) ∧ ((ρ 0) / 1000000000 = ρ 11) ∧ (ρ 11 ≤ 9) ∧ ((ρ 0) / 1000000000 = ρ 12) ∧ ((ρ 0) / 100000000 = ρ 16) ∧ ((ρ 0) / 10000000 = ρ 20) ∧ ((ρ 0) / 1000000 = ρ 24) ∧ ((ρ 0) / 100000 = ρ 28) ∧ ((ρ 0) / 10000 = ρ 32) ∧ ((ρ 0) / 1000 = ρ 36) ∧ ((ρ 0) / 100 = ρ 40) ∧ ((ρ 0) / 10 = ρ 44) ∧ ((ρ 0) / 1 = ρ 48) := ⟨by clear r2 r3 r4 r5 r6 r7 r8 r9 r10 r11 f0 f1 f3 f4 f6 f7 f9 f10 f12 f13 f15 f16 f18 f19 f21 f22 f24 f25 f27 f28 f30 f31 f33 f34 f36 f37 f39 f40 f42 f43 f45 f46 f48 f49 f51 f52 f54 f55 f56 f57; omega, by clear r0 r2 r3 r4 r5 r6 r7 r8 r9 r10 r11 f0 f1 f3 f4 f6 f7 f9 f10 f12 f13 f15 f16 f18 f19 f21 f22 f24 f25 f27 f28 f30 f31 f33 f34 f36 f37 f39 f40 f42 f43 f45 f46 f48 f49 f51 f52 f54 f55; omega, by clear r0 r3 r4 r5 r6 r7 r8 r9 r10 r11 f0 f1 f3 f4 f6 f7 f9 f10 f12 f13 f15 f16 f18 f19 f21 f22 f24 f25 f27 f28 f30 f31 f33 f34 f36 f37 f39 f40 f42 f43 f45 f46 f48 f49 f51 f52 f54 f55 f56 f57; omega, by clear r0 r2 r3 r4 r5 r6 r7 r8 r9 r10 r11 f0 f1 f3 f4 f6 f7 f9 f10 f12 f13 f15 f16 f18 f19 f21 f22 f24 f25 f27 f28 f30 f31 f33 f34 f36 f37 f39 f40 f42 f43 f45 f46 f48 f49 f51 f52 f56 f57; omega, by clear r0 r2 r4 r5 r6 r7 r8 r9 r10 r11 f0 f1 f3 f4 f6 f7 f9 f10 f12 f13 f15 f16 f18 f19 f21 f22 f24 f25 f27 f28 f30 f31 f33 f34 f36 f37 f39 f40 f42 f43 f45 f46 f48 f49 f51 f52 f54 f55 f56 f57; omega, by clear r0 r2 r3 r4 r5 r6 r7 r8 r9 r10 r11 f0 f1 f3 f4 f6 f7 f9 f10 f12 f13 f15 f16 f18 f19 f21 f22 f24 f25 f27 f28 f30 f31 f33 f34 f36 f37 f39 f40 f42 f43 f45 f46 f48 f49 f54 f55 f56 f57; omega, by clear r0 r2 r3 r5 r6 r7 r8 r9 r10 r11 f0 f1 f3 f4 f6 f7 f9 f10 f12 f13 f15 f16 f18 f19 f21 f22 f24 f25 f27 f28 f30 f31 f33 f34 f36 f37 f39 f40 f42 f43 f45 f46 f48 f49 f51 f52 f54 f55 f56 f57; omega, by clear r0 r2 r3 r4 r5 r6 r7 r8 r9 r10 r11 f0 f1 f3 f4 f6 f7 f9 f10 f12 f13 f15 f16 f18 f19 f21 f22 f24 f25 f27 f28 f30 f31 f33 f34 f36 f37 f39 f40 f42 f43 f45 f46 f51 f52 f54 f55 f56 f57; omega, by clear r0 r2 r3 r4 r6 r7 r8 r9 r10 r11 f0 f1 f3 f4 f6 f7 f9 f10 f12 f13 f15 f16 f18 f19 f21 f22 f24 f25 f27 f28 f30 f31 f33 f34 f36 f37 f39 f40 f42 f43 f45 f46 f48 f49 f51 f52 f54 f55 f56 f57; omega, by clear r0 r2 r3 r4 r5 r6 r7 r8 r9 r10 r11 f0 f1 f3 f4 f6 f7 f9 f10 f12 f13 f15 f16 f18 f19 f21 f22 f24 f25 f27 f28 f30 f31 f33 f34 f36 f37 f39 f40 f42 f43 f48 f49 f51 f52 f54 f55 f56 f57; omega, by clear r0 r2 r3 r4 r5 r7 r8 r9 r10 r11 f0 f1 f3 f4 f6 f7 f9 f10 f12 f13 f15 f16 f18 f19 f21 f22 f24 f25 f27 f28 f30 f31 f33 f34 f36 f37 f39 f40 f42 f43 f45 f46 f48 f49 f51 f52 f54 f55 f56 f57; omega, by clear r0 r2 r3 r4 r5 r6 r7 r8 r9 r10 r11 f0 f1 f3 f4 f6 f7 f9 f10 f12 f13 f15 f16 f18 f19 f21 f22 f24 f25 f27 f28 f30 f31 f33 f34 f36 f37 f39 f40 f45 f46 f48 f49 f51 f52 f54 f55 f56 f57; omega, by clear r0 r2 r3 r4 r5 r6 r8 r9 r10 r11 f0 f1 f3 f4 f6 f7 f9 f10 f12 f13 f15 f16 f18 f19 f21 f22 f24 f25 f27 f28 f30 f31 f33 f34 f36 f37 f39 f40 f42 f43 f45 f46 f48 f49 f51 f52 f54 f55 f56 f57; omega, by clear r0 r2 r3 r4 r5 r6 r7 r8 r9 r10 r11 f0 f1 f3 f4 f6 f7 f9 f10 f12 f13 f15 f16 f18 f19 f21 f22 f24 f25 f27 f28 f30 f31 f33 f34 f36 f37 f42 f43 f45 f46 f48 f49 f51 f52 f54 f55 f56 f57; omega, by clear r0 r2 r3 r4 r5 r6 r7 r9 r10 r11 f0 f1 f3 f4 f6 f7 f9 f10 f12 f13 f15 f16 f18 f19 f21 f22 f24 f25 f27 f28 f30 f31 f33 f34 f36 f37 f39 f40 f42 f43 f45 f46 f48 f49 f51 f52 f54 f55 f56 f57; omega, by clear r0 r2 r3 r4 r5 r6 r7 r8 r9 r10 r11 f0 f1 f3 f4 f6 f7 f9 f10 f12 f13 f15 f16 f18 f19 f21 f22 f24 f25 f27 f28 f30 f31 f33 f34 f39 f40 f42 f43 f45 f46 f48 f49 f51 f52 f54 f55 f56 f57; omega, by clear r0 r2 r3 r4 r5 r6 r7 r8 r10 r11 f0 f1 f3 f4 f6 f7 f9 f10 f12 f13 f15 f16 f18 f19 f21 f22 f24 f25 f27 f28 f30 f31 f33 f34 f36 f37 f39 f40 f42 f43 f45 f46 f48 f49 f51 f52 f54 f55 f56 f57; omega, by clear r0 r2 r3 r4 r5 r6 r7 r8 r9 r10 r11 f0 f1 f3 f4 f6 f7 f9 f10 f12 f13 f15 f16 f18 f19 f21 f22 f24 f25 f27 f28 f30 f31 f36 f37 f39 f40 f42 f43 f45 f46 f48 f49 f51 f52 f54 f55 f56 f57; omega, by clear r0 r2 r3 r4 r5 r6 r7 r8 r9 r11 f0 f1 f3 f4 f6 f7 f9 f10 f12 f13 f15 f16 f18 f19 f21 f22 f24 f25 f27 f28 f30 f31 f33 f34 f36 f37 f39 f40 f42 f43 f45 f46 f48 f49 f51 f52 f54 f55 f56 f57; omega, by clear r0 r2 r3 r4 r5 r6 r7 r8 r9 r10 r11 f0 f1 f3 f4 f6 f7 f9 f10 f12 f13 f15 f16 f18 f19 f21 f22 f24 f25 f27 f28 f33 f34 f36 f37 f39 f40 f42 f43 f45 f46 f48 f49 f51 f52 f54 f55 f56 f57; omega, by clear r0 r2 r3 r4 r5 r6 r7 r8 r9 r10 f0 f1 f3 f4 f6 f7 f9 f10 f12 f13 f15 f16 f18 f19 f21 f22 f24 f25 f27 f28 f30 f31 f33 f34 f36 f37 f39 f40 f42 f43 f45 f46 f48 f49 f51 f52 f54 f55 f56 f57; omega, by clear r0 r2 r3 r4 r5 r6 r7 r8 r9 r10 r11 f0 f1 f3 f4 f6 f7 f9 f10 f12 f13 f15 f16 f18 f19 f21 f22 f24 f25 f30 f31 f33 f34 f36 f37 f39 f40 f42 f43 f45 f46 f48 f49 f51 f52 f54 f55 f56 f57; omega, by clear r0 r2 r3 r4 r5 r6 r7 r8 r9 r10 r11 f0 f1 f3 f4 f6 f7 f9 f10 f12 f13 f15 f16 f18 f19 f21 f22 f27 f28 f30 f31 f33 f34 f36 f37 f39 f40 f42 f43 f45 f46 f48 f49 f51 f52 f54 f55 f56 f57; omega, by clear r0 r2 r3 r4 r5 r6 r7 r8 r9 r10 r11 f0 f1 f3 f4 f6 f7 f9 f10 f12 f13 f15 f16 f18 f19 f24 f25 f27 f28 f30 f31 f33 f34 f36 f37 f39 f40 f42 f43 f45 f46 f48 f49 f51 f52 f54 f55 f56 f57; omega, by clear r0 r2 r3 r4 r5 r6 r7 r8 r9 r10 r11 f0 f1 f3 f4 f6 f7 f9 f10 f12 f13 f15 f16 f21 f22 f24 f25 f27 f28 f30 f31 f33 f34 f36 f37 f39 f40 f42 f43 f45 f46 f48 f49 f51 f52 f54 f55 f56 f57; omega, by clear r0 r2 r3 r4 r5 r6 r7 r8 r9 r10 r11 f0 f1 f3 f4 f6 f7 f9 f10 f12 f13 f18 f19 f21 f22 f24 f25 f27 f28 f30 f31 f33 f34 f36 f37 f39 f40 f42 f43 f45 f46 f48 f49 f51 f52 f54 f55 f56 f57; omega, by clear r0 r2 r3 r4 r5 r6 r7 r8 r9 r10 r11 f0 f1 f3 f4 f6 f7 f9 f10 f15 f16 f18 f19 f21 f22 f24 f25 f27 f28 f30 f31 f33 f34 f36 f37 f39 f40 f42 f43 f45 f46 f48 f49 f51 f52 f54 f55 f56 f57; omega, by clear r0 r2 r3 r4 r5 r6 r7 r8 r9 r10 r11 f0 f1 f3 f4 f6 f7 f12 f13 f15 f16 f18 f19 f21 f22 f24 f25 f27 f28 f30 f31 f33 f34 f36 f37 f39 f40 f42 f43 f45 f46 f48 f49 f51 f52 f54 f55 f56 f57; omega, by clear r0 r2 r3 r4 r5 r6 r7 r8 r9 r10 r11 f0 f1 f3 f4 f9 f10 f12 f13 f15 f16 f18 f19 f21 f22 f24 f25 f27 f28 f30 f31 f33 f34 f36 f37 f39 f40 f42 f43 f45 f46 f48 f49 f51 f52 f54 f55 f56 f57; omega, by clear r0 r2 r3 r4 r5 r6 r7 r8 r9 r10 r11 f0 f1 f6 f7 f9 f10 f12 f13 f15 f16 f18 f19 f21 f22 f24 f25 f27 f28 f30 f31 f33 f34 f36 f37 f39 f40 f42 f43 f45 f46 f48 f49 f51 f52 f54 f55 f56 f57; omega, by clear r0 r2 r3 r4 r5 r6 r7 r8 r9 r10 r11 f3 f4 f6 f7 f9 f10 f12 f13 f15 f16 f18 f19 f21 f22 f24 f25 f27 f28 f30 f31 f33 f34 f36 f37 f39 f40 f42 f43 f45 f46 f48 f49 f51 f52 f54 f55 f56 f57; omega⟩
  obtain ⟨l0, l1, l2, l3, l4, l5, l6, l7, l8, l9, l10, l11, l12, l13, l14, l15, l16, l17, l18, l19, l20, l21, l22, l23, l24, l25, l26, l27, l28, l29, l30, l31, l32, l33, l34, l35, l36, l37, l38, l39, -⟩ := hl
  have l0 : zOpP (.lrem) (γ 0) (γ 1) [ρ 12, 10] (ρ 13) := l0
  have l1 : zOpP (.ladd) (γ 0) (γ 1) [48, ρ 13] (ρ 14) := l1
  have l2 : zOpP (.l2i) (γ 0) (γ 1) [ρ 14] (ρ 15) := l2
  have l3 : sn87 [ρ 15, ρ 1] (γ 0) 0 0 (γ 1) := hS87 _ _ _ _ _ l3
  have l4 : zOpP (.lrem) (γ 0) (γ 1) [ρ 16, 10] (ρ 17) := l4
  have l5 : zOpP (.ladd) (γ 0) (γ 1) [48, ρ 17] (ρ 18) := l5
  have l6 : zOpP (.l2i) (γ 0) (γ 1) [ρ 18] (ρ 19) := l6
  have l7 : sn87 [ρ 19, ρ 1 + 1] (γ 1) 0 0 (γ 2) := hS87 _ _ _ _ _ l7
  have l8 : zOpP (.lrem) (γ 0) (γ 1) [ρ 20, 10] (ρ 21) := l8
  have l9 : zOpP (.ladd) (γ 0) (γ 1) [48, ρ 21] (ρ 22) := l9
  have l10 : zOpP (.l2i) (γ 0) (γ 1) [ρ 22] (ρ 23) := l10
  have l11 : sn87 [ρ 23, ρ 1 + 2] (γ 2) 0 0 (γ 3) := hS87 _ _ _ _ _ l11
  have l12 : zOpP (.lrem) (γ 0) (γ 1) [ρ 24, 10] (ρ 25) := l12
  have l13 : zOpP (.ladd) (γ 0) (γ 1) [48, ρ 25] (ρ 26) := l13
  have l14 : zOpP (.l2i) (γ 0) (γ 1) [ρ 26] (ρ 27) := l14
  have l15 : sn87 [ρ 27, ρ 1 + 3] (γ 3) 0 0 (γ 4) := hS87 _ _ _ _ _ l15
  have l16 : zOpP (.lrem) (γ 0) (γ 1) [ρ 28, 10] (ρ 29) := l16
  have l17 : zOpP (.ladd) (γ 0) (γ 1) [48, ρ 29] (ρ 30) := l17
  have l18 : zOpP (.l2i) (γ 0) (γ 1) [ρ 30] (ρ 31) := l18
  have l19 : sn87 [ρ 31, ρ 1 + 4] (γ 4) 0 0 (γ 5) := hS87 _ _ _ _ _ l19
  have l20 : zOpP (.lrem) (γ 0) (γ 1) [ρ 32, 10] (ρ 33) := l20
  have l21 : zOpP (.ladd) (γ 0) (γ 1) [48, ρ 33] (ρ 34) := l21
  have l22 : zOpP (.l2i) (γ 0) (γ 1) [ρ 34] (ρ 35) := l22
  have l23 : sn87 [ρ 35, ρ 1 + 5] (γ 5) 0 0 (γ 6) := hS87 _ _ _ _ _ l23
  have l24 : zOpP (.lrem) (γ 0) (γ 1) [ρ 36, 10] (ρ 37) := l24
  have l25 : zOpP (.ladd) (γ 0) (γ 1) [48, ρ 37] (ρ 38) := l25
  have l26 : zOpP (.l2i) (γ 0) (γ 1) [ρ 38] (ρ 39) := l26
  have l27 : sn87 [ρ 39, ρ 1 + 6] (γ 6) 0 0 (γ 7) := hS87 _ _ _ _ _ l27
  have l28 : zOpP (.lrem) (γ 0) (γ 1) [ρ 40, 10] (ρ 41) := l28
  have l29 : zOpP (.ladd) (γ 0) (γ 1) [48, ρ 41] (ρ 42) := l29
  have l30 : zOpP (.l2i) (γ 0) (γ 1) [ρ 42] (ρ 43) := l30
  have l31 : sn87 [ρ 43, ρ 1 + 7] (γ 7) 0 0 (γ 8) := hS87 _ _ _ _ _ l31
  have l32 : zOpP (.lrem) (γ 0) (γ 1) [ρ 44, 10] (ρ 45) := l32
  have l33 : zOpP (.ladd) (γ 0) (γ 1) [48, ρ 45] (ρ 46) := l33
  have l34 : zOpP (.l2i) (γ 0) (γ 1) [ρ 46] (ρ 47) := l34
  have l35 : sn87 [ρ 47, ρ 1 + 8] (γ 8) 0 0 (γ 9) := hS87 _ _ _ _ _ l35
  have l36 : zOpP (.lrem) (γ 0) (γ 1) [ρ 48, 10] (ρ 49) := l36
  have l37 : zOpP (.ladd) (γ 0) (γ 1) [48, ρ 49] (ρ 50) := l37
  have l38 : zOpP (.l2i) (γ 0) (γ 1) [ρ 50] (ρ 51) := l38
  have l39 : sn87 [ρ 51, ρ 1 + 9] (γ 9) 0 0 (γ 10) := hS87 _ _ _ _ _ l39
  show sn88 [ρ 0, ρ 1] (γ 0) 0 0 (γ 10)
  refine Eq.symm ?_
  show fn88 [ρ 0] (γ 0) = _
  unfold fn88
  refine (zLet_eq (show _ = ρ 0 from rfl)).trans ?_
  refine (if_pos w_0).trans ?_
  refine (zLet_eq w_1).trans ?_
  refine (if_neg w_2).trans ?_
  refine (zLet_eq w_3).trans ?_
  refine (if_neg w_4).trans ?_
  refine (zLet_eq w_5).trans ?_
  refine (if_neg w_6).trans ?_
  refine (zLet_eq w_7).trans ?_
  refine (if_neg w_8).trans ?_
  refine (zLet_eq w_9).trans ?_
  refine (if_neg w_10).trans ?_
  refine (zLet_eq w_11).trans ?_
  refine (if_neg w_12).trans ?_
  refine (zLet_eq w_13).trans ?_
  refine (if_neg w_14).trans ?_
  refine (zLet_eq w_15).trans ?_
  refine (if_neg w_16).trans ?_
  refine (zLet_eq w_17).trans ?_
  refine (if_neg w_18).trans ?_
  refine (zLet_eq w_19).trans ?_
  refine (if_pos w_20).trans ?_
  refine (zLet_eq w_21).trans ?_
  refine (zLet_eq (zF2_ok l0)).trans ?_
  refine (zLet_eq (zF2_ok l1)).trans ?_
  refine (zLet_eq (zF1_ok l2)).trans ?_
  refine (zLet_eq (show fn87 [ρ 15] (γ 0) = (0, 0, γ 1) from l3.symm)).trans ?_
  refine (zLet_eq (show _ = γ 1 from rfl)).trans ?_
  refine (zLet_eq w_22).trans ?_
  refine (zLet_eq (zF2_ok l4)).trans ?_
  refine (zLet_eq (zF2_ok l5)).trans ?_
  refine (zLet_eq (zF1_ok l6)).trans ?_
  refine (zLet_eq (show fn87 [ρ 19] (γ 1) = (0, 0, γ 2) from l7.symm)).trans ?_
  refine (zLet_eq (show _ = γ 2 from rfl)).trans ?_
  refine (zLet_eq w_23).trans ?_
  refine (zLet_eq (zF2_ok l8)).trans ?_
  refine (zLet_eq (zF2_ok l9)).trans ?_
  refine (zLet_eq (zF1_ok l10)).trans ?_
  refine (zLet_eq (show fn87 [ρ 23] (γ 2) = (0, 0, γ 3) from l11.symm)).trans ?_
  refine (zLet_eq (show _ = γ 3 from rfl)).trans ?_
  refine (zLet_eq w_24).trans ?_
  refine (zLet_eq (zF2_ok l12)).trans ?_
  refine (zLet_eq (zF2_ok l13)).trans ?_
  refine (zLet_eq (zF1_ok l14)).trans ?_
  refine (zLet_eq (show fn87 [ρ 27] (γ 3) = (0, 0, γ 4) from l15.symm)).trans ?_
  refine (zLet_eq (show _ = γ 4 from rfl)).trans ?_
  refine (zLet_eq w_25).trans ?_
  refine (zLet_eq (zF2_ok l16)).trans ?_
  refine (zLet_eq (zF2_ok l17)).trans ?_
  refine (zLet_eq (zF1_ok l18)).trans ?_
  refine (zLet_eq (show fn87 [ρ 31] (γ 4) = (0, 0, γ 5) from l19.symm)).trans ?_
  refine (zLet_eq (show _ = γ 5 from rfl)).trans ?_
  refine (zLet_eq w_26).trans ?_
  refine (zLet_eq (zF2_ok l20)).trans ?_
  refine (zLet_eq (zF2_ok l21)).trans ?_
  refine (zLet_eq (zF1_ok l22)).trans ?_
  refine (zLet_eq (show fn87 [ρ 35] (γ 5) = (0, 0, γ 6) from l23.symm)).trans ?_
  refine (zLet_eq (show _ = γ 6 from rfl)).trans ?_
  refine (zLet_eq w_27).trans ?_
  refine (zLet_eq (zF2_ok l24)).trans ?_
  refine (zLet_eq (zF2_ok l25)).trans ?_
  refine (zLet_eq (zF1_ok l26)).trans ?_
  refine (zLet_eq (show fn87 [ρ 39] (γ 6) = (0, 0, γ 7) from l27.symm)).trans ?_
  refine (zLet_eq (show _ = γ 7 from rfl)).trans ?_
  refine (zLet_eq w_28).trans ?_
  refine (zLet_eq (zF2_ok l28)).trans ?_
  refine (zLet_eq (zF2_ok l29)).trans ?_
  refine (zLet_eq (zF1_ok l30)).trans ?_
  refine (zLet_eq (show fn87 [ρ 43] (γ 7) = (0, 0, γ 8) from l31.symm)).trans ?_
  refine (zLet_eq (show _ = γ 8 from rfl)).trans ?_
  refine (zLet_eq w_29).trans ?_
  refine (zLet_eq (zF2_ok l32)).trans ?_
  refine (zLet_eq (zF2_ok l33)).trans ?_
  refine (zLet_eq (zF1_ok l34)).trans ?_
  refine (zLet_eq (show fn87 [ρ 47] (γ 8) = (0, 0, γ 9) from l35.symm)).trans ?_
  refine (zLet_eq (show _ = γ 9 from rfl)).trans ?_
  refine (zLet_eq w_30).trans ?_
  refine (zLet_eq (zF2_ok l36)).trans ?_
  refine (zLet_eq (zF2_ok l37)).trans ?_
  refine (zLet_eq (zF1_ok l38)).trans ?_
  refine (zLet_eq (show fn87 [ρ 51] (γ 9) = (0, 0, γ 10) from l39.symm)).trans ?_
  refine (zLet_eq (show _ = γ 10 from rfl)).trans ?_
  rfl
set_option maxRecDepth 100000 in
theorem vn88_10 {S : Nat → zSpc} (hS87 : ∀ x g o v gz, S 87 x g o v gz → sn87 x g o v gz) {a : List Int} {g : rHp} : ∀ (ρ : Nat → Int) (γ : Nat → rHp), zO 2 S a g q88_10 ρ γ → zGl (fun _ _ _ => True) (sn88 a g) q88_10 ρ γ := by
  intro ρ γ h
  obtain ⟨ha, hg, hr, hf, hm, hc, hl⟩ := h
  have ha : a = [ρ 0, ρ 1] := ha
  subst ha
  subst hg
  obtain ⟨r0, -, r2, r3, r4, r5, r6, r7, r8, r9, r10, r11, r12, -⟩ := hr
  have r0 : (0 : Int) ≤ ρ 0 ∧ ρ 0 ≤ 549755813887 := r0
  have r2 : (10 : Int) ≤ ρ 2 ∧ ρ 2 ≤ 549755813887 := r2
  have r3 : (10 : Int) ≤ ρ 3 ∧ ρ 3 ≤ 54975581388 := r3
  have r4 : (10 : Int) ≤ ρ 4 ∧ ρ 4 ≤ 5497558138 := r4
  have r5 : (10 : Int) ≤ ρ 5 ∧ ρ 5 ≤ 549755813 := r5
  have r6 : (10 : Int) ≤ ρ 6 ∧ ρ 6 ≤ 54975581 := r6
  have r7 : (10 : Int) ≤ ρ 7 ∧ ρ 7 ≤ 5497558 := r7
  have r8 : (10 : Int) ≤ ρ 8 ∧ ρ 8 ≤ 549755 := r8
  have r9 : (10 : Int) ≤ ρ 9 ∧ ρ 9 ≤ 54975 := r9
  have r10 : (10 : Int) ≤ ρ 10 ∧ ρ 10 ≤ 5497 := r10
  have r11 : (10 : Int) ≤ ρ 11 ∧ ρ 11 ≤ 549 := r11
  have r12 : (0 : Int) ≤ ρ 12 ∧ ρ 12 ≤ 9 := r12
  obtain ⟨f0, f1, -, f3, f4, -, f6, f7, -, f9, f10, -, f12, f13, -, f15, f16, -, f18, f19, -, f21, f22, -, f24, f25, -, f27, f28, -, f30, f31, -, f33, f34, -, f36, f37, -, f39, f40, -, f42, f43, -, f45, f46, -, f48, f49, -, f51, f52, -, f54, f55, -, f57, f58, -, f60, f61, f62, f63, -⟩ := hf
  have f0 : (0 : Int) ≤ ρ 53 + -ρ 0 := f0
  have f1 : (0 : Int) ≤ -ρ 53 + ρ 0 := f1
  have f3 : (0 : Int) ≤ 10 * ρ 49 + -ρ 0 + 9 := f3
  have f4 : (0 : Int) ≤ (-10) * ρ 49 + ρ 0 := f4
  have f6 : (0 : Int) ≤ 100 * ρ 45 + -ρ 0 + 99 := f6
  have f7 : (0 : Int) ≤ (-100) * ρ 45 + ρ 0 := f7
  have f9 : (0 : Int) ≤ 1000 * ρ 41 + -ρ 0 + 999 := f9
  have f10 : (0 : Int) ≤ (-1000) * ρ 41 + ρ 0 := f10
  have f12 : (0 : Int) ≤ 10000 * ρ 37 + -ρ 0 + 9999 := f12
  have f13 : (0 : Int) ≤ (-10000) * ρ 37 + ρ 0 := f13
  have f15 : (0 : Int) ≤ 100000 * ρ 33 + -ρ 0 + 99999 := f15
  have f16 : (0 : Int) ≤ (-100000) * ρ 33 + ρ 0 := f16
  have f18 : (0 : Int) ≤ 1000000 * ρ 29 + -ρ 0 + 999999 := f18
  have f19 : (0 : Int) ≤ (-1000000) * ρ 29 + ρ 0 := f19
  have f21 : (0 : Int) ≤ 10000000 * ρ 25 + -ρ 0 + 9999999 := f21
  have f22 : (0 : Int) ≤ (-10000000) * ρ 25 + ρ 0 := f22
  have f24 : (0 : Int) ≤ 100000000 * ρ 21 + -ρ 0 + 99999999 := f24
  have f25 : (0 : Int) ≤ (-100000000) * ρ 21 + ρ 0 := f25
  have f27 : (0 : Int) ≤ 1000000000 * ρ 17 + -ρ 0 + 999999999 := f27
  have f28 : (0 : Int) ≤ (-1000000000) * ρ 17 + ρ 0 := f28
  have f30 : (0 : Int) ≤ 10000000000 * ρ 13 + -ρ 0 + 9999999999 := f30
  have f31 : (0 : Int) ≤ (-10000000000) * ρ 13 + ρ 0 := f31
  have f33 : (0 : Int) ≤ 10000000000 * ρ 12 + -ρ 0 + 9999999999 := f33
  have f34 : (0 : Int) ≤ (-10000000000) * ρ 12 + ρ 0 := f34
  have f36 : (0 : Int) ≤ 1000000000 * ρ 11 + -ρ 0 + 999999999 := f36
  have f37 : (0 : Int) ≤ (-1000000000) * ρ 11 + ρ 0 := f37
  have f39 : (0 : Int) ≤ 100000000 * ρ 10 + -ρ 0 + 99999999 := f39
  have f40 : (0 : Int) ≤ (-100000000) * ρ 10 + ρ 0 := f40
  have f42 : (0 : Int) ≤ 10000000 * ρ 9 + -ρ 0 + 9999999 := f42
  have f43 : (0 : Int) ≤ (-10000000) * ρ 9 + ρ 0 := f43
  have f45 : (0 : Int) ≤ 1000000 * ρ 8 + -ρ 0 + 999999 := f45
  have f46 : (0 : Int) ≤ (-1000000) * ρ 8 + ρ 0 := f46
  have f48 : (0 : Int) ≤ 100000 * ρ 7 + -ρ 0 + 99999 := f48
  have f49 : (0 : Int) ≤ (-100000) * ρ 7 + ρ 0 := f49
  have f51 : (0 : Int) ≤ 10000 * ρ 6 + -ρ 0 + 9999 := f51
  have f52 : (0 : Int) ≤ (-10000) * ρ 6 + ρ 0 := f52
  have f54 : (0 : Int) ≤ 1000 * ρ 5 + -ρ 0 + 999 := f54
  have f55 : (0 : Int) ≤ (-1000) * ρ 5 + ρ 0 := f55
  have f57 : (0 : Int) ≤ 100 * ρ 4 + -ρ 0 + 99 := f57
  have f58 : (0 : Int) ≤ (-100) * ρ 4 + ρ 0 := f58
  have f60 : (0 : Int) ≤ 10 * ρ 3 + -ρ 0 + 9 := f60
  have f61 : (0 : Int) ≤ (-10) * ρ 3 + ρ 0 := f61
  have f62 : (0 : Int) ≤ ρ 2 + -ρ 0 := f62
  have f63 : (0 : Int) ≤ -ρ 2 + ρ 0 := f63
  obtain ⟨w_0, w_1, w_2, w_3, w_4, w_5, w_6, w_7, w_8, w_9, w_10, w_11, w_12, w_13, w_14, w_15, w_16, w_17, w_18, w_19, w_20, w_21, w_22, w_23, w_24, w_25, w_26, w_27, w_28, w_29, w_30, w_31, w_32, w_33⟩ : (ρ 0 ≥ 0) ∧ ((ρ 0) / 1 = ρ 2) ∧ (¬ (ρ 2 ≤ 9)) ∧ ((ρ 0) / 10 = ρ 3) ∧ (¬ (ρ 3 ≤ 9)) ∧ ((ρ 0) / 100 = ρ 4) ∧ (¬ (ρ 4 ≤ 9)) ∧ ((ρ 0) / 1000 = ρ 5) ∧ (¬ (ρ 5 ≤ 9)) ∧ ((ρ 0) / 10000 = ρ 6) ∧ (¬ (ρ 6 ≤ 9)) ∧ ((ρ 0) / 100000 = ρ 7) ∧ (¬ (ρ 7 ≤ 9)) ∧ ((ρ 0) / 1000000 = ρ 8) ∧ (¬ (ρ 8 ≤ 9)) ∧ ((ρ 0) / 10000000 = ρ 9) ∧ (¬ (ρ 9 ≤ 9)) ∧ ((ρ 0) / 100000000 = ρ 10) ∧ (¬ (ρ 10 ≤ 9)) ∧ ((ρ 0) / 1000000000 = ρ 11) ∧ (¬ (ρ 11 ≤ 9)) ∧ ((ρ 0) / 10000000000 = ρ 12) ∧ (ρ 12 ≤ 9) ∧ ((ρ 0) / 10000000000 = ρ 13) ∧ ((ρ 0) / 1000000000 = ρ 17) ∧ ((ρ 0) / 100000000 = ρ 21) ∧ ((ρ 0) / 10000000 = ρ 25) ∧ ((ρ 0) / 1000000 = ρ 29) ∧ ((ρ 0) / 100000 = ρ 33) ∧ ((ρ 0) / 10000 = ρ 37) ∧ ((ρ 0) / 1000 = ρ 41) ∧ ((ρ 0) / 100 = ρ 45) ∧ ((ρ 0) / 10 = ρ 49) ∧ ((ρ 0) / 1 = ρ 53) := ⟨by clear r2 r3 r4 r5 r6 r7 r8 r9 r10 r11 r12 f0 f1 f3 f4 f6 f7 f9 f10 f12 f13 f15 f16 f18 f19 f21 f22 f24 f25 f27 f28 f30 f31 f33 f34 f36 f37 f39 f40 f42 f43 f45 f46 f48 f49 f51 f52 f54 f55 f57 f58 f60 f61 f62 f63; omega, by clear r0 r2 r3 r4 r5 r6 r7 r8 r9 r10 r11 r12 f0 f1 f3 f4 f6 f7 f9 f10 f12 f13 f15 f16 f18 f19 f21 f22 f24 f25 f27 f28 f30 f31 f33 f34 f36 f37 f39 f40 f42 f43 f45 f46 f48 f49 f51 f52 f54 f55 f57 f58 f60 f61; omega, by clear r0 r3 r4 r5 r6 r7 r8 r9 r10 r11 r12 f0 f1 f3 f4 f6 f7 f9 f10 f12 f13 f15 f16 f18 f19 f21 f22 f24 f25 f27 f28 f30 f31 f33 f34 f36 f37 f39 f40 f42 f43 f45 f46 f48 f49 f51 f52 f54 f55 f57 f58 f60 f61 f62 f63; omega, by clear r0 r2 r3 r4 r5 r6 r7 r8 r9 r10 r11 r12 f0 f1 f3 f4 f6 f7 f9 f10 f12 f13 f15 f16 f18 f19 f21 f22 f24 f25 f27 f28 f30 f31 f33 f34 f36 f37 f39 f40 f42 f43 f45 f46 f48 f49 f51 f52 f54 f55 f57 f58 f62 f63; omega, by clear r0 r2 r4 r5 r6 r7 r8 r9 r10 r11 r12 f0 f1 f3 f4 f6 f7 f9 f10 f12 f13 f15 f16 f18 f19 f21 f22 f24 f25 f27 f28 f30 f31 f33 f34 f36 f37 f39 f40 f42 f43 f45 f46 f48 f49 f51 f52 f54 f55 f57 f58 f60 f61 f62 f63; omega, by clear r0 r2 r3 r4 r5 r6 r7 r8 r9 r10 r11 r12 f0 f1 f3 f4 f6 f7 f9 f10 f12 f13 f15 f16 f18 f19 f21 f22 f24 f25 f27 f28 f30 f31 f33 f34 f36 f37 f39 f40 f42 f43 f45 f46 f48 f49 f51 f52 f54 f55 f60 f61 f62 f63; omega, by clear r0 r2 r3 r5 r6 r7 r8 r9 r10 r11 r12 f0 f1 f3 f4 f6 f7 f9 f10 f12 f13 f15 f16 f18 f19 f21 f22 f24 f25 f27 f28 f30 f31 f33 f34 f36 f37 f39 f40 f42 f43 f45 f46 f48 f49 f51 f52 f54 f55 f57 f58 f60 f61 f62 f63; omega, by clear r0 r2 r3 r4 r5 r6 r7 r8 r9 r10 r11 r12 f0 f1 f3 f4 f6 f7 f9 f10 f12 f13 f15 f16 f18 f19 f21 f22 f24 f25 f27 f28 f30 f31 f33 f34 f36 f37 f39 f40 f42 f43 f45 f46 f48 f49 f51 f52 f57 f58 f60 f61 f62 f63; omega, by clear r0 r2 r3 r4 r6 r7 r8 r9 r10 r11 r12 f0 f1 f3 f4 f6 f7 f9 f10 f12 f13 f15 f16 f18 f19 f21 f22 f24 f25 f27 f28 f30 f31 f33 f34 f36 f37 f39 f40 f42 f43 f45 f46 f48 f49 f51 f52 f54 f55 f57 f58 f60 f61 f62 f63; omega, by clear r0 r2 r3 r4 r5 r6 r7 r8 r9 r10 r11 r12 f0 f1 f3 f4 f6 f7 f9 f10 f12 f13 f15 f16 f18 f19 f21 f22 f24 f25 f27 f28 f30 f31 f33 f34 f36 f37 f39 f40 f42 f43 f45 f46 f48 f49 f54 f55 f57 f58 f60 f61 f62 f63; omega, by clear r0 r2 r3 r4 r5 r7 r8 r9 r10 r11 r12 f0 f1 f3 f4 f6 f7 f9 f10 f12 f13 f15 f16 f18 f19 f21 f22 f24 f25 f27 f28 f30 f31 f33 f34 f36 f37 f39 f40 f42 f43 f45 f46 f48 f49 f51 f52 f54 f55 f57 f58 f60 f61 f62 f63; omega, by clear r0 r2 r3 r4 r5 r6 r7 r8 r9 r10 r11 r12 f0 f1 f3 f4 f6 f7 f9 f10 f12 f13 f15 f16 f18 f19 f21 f22 f24 f25 f27 f28 f30 f31 f33 f34 f36 f37 f39 f40 f42 f43 f45 f46 f51 f52 f54 f55 f57 f58 f60 f61 f62 f63; omega, by clear r0 r2 r3 r4 r5 r6 r8 r9 r10 r11 r12 f0 f1 f3 f4 f6 f7 f9 f10 f12 f13 f15 f16 f18 f19 f21 f22 f24 f25 f27 f28 f30 f31 f33 f34 f36 f37 f39 f40 f42 f43 f45 f46 f48 f49 f51 f52 f54 f55 f57 f58 f60 f61 f62 f63; omega, by clear r0 r2 r3 r4 r5 r6 r7 r8 r9 r10 r11 r12 f0 f1 f3 f4 f6 f7 f9 f10 f12 f13 f15 f16 f18 f19 f21 f22 f24 f25 f27 f28 f30 f31 f33 f34 f36 f37 f39 f40 f42 f43 f48 f49 f51 f52 f54 f55 f57 f58 f60 f61 f62 f63; omega, by clear r0 r2 r3 r4 r5 r6 r7 r9 r10 r11 r12 f0 f1 f3 f4 f6 f7 f9 f10 f12 f13 f15 f16 f18 f19 f21 f22 f24 f25 f27 f28 f30 f31 f33 f34 f36 f37 f39 f40 f42 f43 f45 f46 f48 f49 f51 f52 f54 f55 f57 f58 f60 f61 f62 f63; omega, by clear r0 r2 r3 r4 r5 r6 r7 r8 r9 r10 r11 r12 f0 f1 f3 f4 f6 f7 f9 f10 f12 f13 f15 f16 f18 f19 f21 f22 f24 f25 f27 f28 f30 f31 f33 f34 f36 f37 f39 f40 f45 f46 f48 f49 f51 f52 f54 f55 f57 f58 f60 f61 f62 f63; omega, by clear r0 r2 r3 r4 r5 r6 r7 r8 r10 r11 r12 f0 f1 f3 f4 f6 f7 f9 f10 f12 f13 f15 f16 f18 f19 f21 f22 f24 f25 f27 f28 f30 f31 f33 f34 f36 f37 f39 f40 f42 f43 f45 f46 f48 f49 f51 f52 f54 f55 f57 f58 f60 f61 f62 f63; omega, by clear r0 r2 r3 r4 r5 r6 r7 r8 r9 r10 r11 r12 f0 f1 f3 f4 f6 f7 f9 f10 f12 f13 f15 f16 f18 f19 f21 f22 f24 f25 f27 f28 f30 f31 f33 f34 f36 f37 f42 f43 f45 f46 f48 f49 f51 f52 f54 f55 f57 f58 f60 f61 f62 f63; omega, by clear r0 r2 r3 r4 r5 r6 r7 r8 r9 r11 r12 f0 f1 f3 f4 f6 f7 f9 f10 f12 f13 f15 f16 f18 f19 f21 f22 f24 f25 f27 f28 f30 f31 f33 f34 f36 f37 f39 f40 f42 f43 f45 f46 f48 f49 f51 f52 f54 f55 f57 f58 f60 f61 f62 f63; omega, by clear r0 r2 r3 r4 r5 r6 r7 r8 r9 r10 r11 r12 f0 f1 f3 f4 f6 f7 f9 f10 f12 f13 f15 f16 f18 f19 f21 f22 f24 f25 f27 f28 f30 f31 f33 f34 f39 f40 f42 f43 f45 f46 f48 f49 f51 f52 f54 f55 f57 f58 f60 f61 f62 f63; omega, by clear r0 r2 r3 r4 r5 r6 r7 r8 r9 r10 r12 f0 f1 f3 f4 f6 f7 f9 f10 f12 f13 f15 f16 f18 f19 f21 f22 f24 f25 f27 f28 f30 f31 f33 f34 f36 f37 f39 f40 f42 f43 f45 f46 f48 f49 f51 f52 f54 f55 f57 f58 f60 f61 f62 f63; omega, by clear r0 r2 r3 r4 r5 r6 r7 r8 r9 r10 r11 r12 f0 f1 f3 f4 f6 f7 f9 f10 f12 f13 f15 f16 f18 f19 f21 f22 f24 f25 f27 f28 f30 f31 f36 f37 f39 f40 f42 f43 f45 f46 f48 f49 f51 f52 f54 f55 f57 f58 f60 f61 f62 f63; omega, by clear r0 r2 r3 r4 r5 r6 r7 r8 r9 r10 r11 f0 f1 f3 f4 f6 f7 f9 f10 f12 f13 f15 f16 f18 f19 f21 f22 f24 f25 f27 f28 f30 f31 f33 f34 f36 f37 f39 f40 f42 f43 f45 f46 f48 f49 f51 f52 f54 f55 f57 f58 f60 f61 f62 f63; omega, by clear r0 r2 r3 r4 r5 r6 r7 r8 r9 r10 r11 r12 f0 f1 f3 f4 f6 f7 f9 f10 f12 f13 f15 f16 f18 f19 f21 f22 f24 f25 f27 f28 f33 f34 f36 f37 f39 f40 f42 f43 f45 f46 f48 f49 f51 f52 f54 f55 f57 f58 f60 f61 f62 f63; omega, by clear r0 r2 r3 r4 r5 r6 r7 r8 r9 r10 r11 r12 f0 f1 f3 f4 f6 f7 f9 f10 f12 f13 f15 f16 f18 f19 f21 f22 f24 f25 f30 f31 f33 f34 f36 f37 f39 f40 f42 f43 f45 f46 f48 f49 f51 f52 f54 f55 f57 f58 f60 f61 f62 f63; omega, by clear r0 r2 r3 r4 r5 r6 r7 r8 r9 r10 r11 r12 f0 f1 f3 f4 f6 f7 f9 f10 f12 f13 f15 f16 f18 f19 f21 f22 f27 f28 f30 f31 f33 f34 f36 f37 f39 f40 f42 f43 f45 f46 f48 f49 f51 f52 f54 f55 f57 f58 f60 f61 f62 f63; omega, by clear r0 r2 r3 r4 r5 r6 r7 r8 r9 r10 r11 r12 f0 f1 f3 f4 f6 f7 f9 f10 f12 f13 f15 f16 f18 f19 f24 f25 f27 f28 f30 f31 f33 f34 f36 f37 f39 f40 f42 f43 f45 f46 f48 f49 f51 f52 f54 f55 f57 f58 f60 f61 f62 f63; omega, by clear r0 r2 r3 r4 r5 r6 r7 r8 r9 r10 r11 r12 f0 f1 f3 f4 f6 f7 f9 f10 f12 f13 f15 f16 f21 f22 f24 f25 f27 f28 f30 f31 f33 f34 f36 f37 f39 f40 f42 f43 f45 f46 f48 f49 f51 f52 f54 f55 f57 f58 f60 f61 f62 f63; omega, by clear r0 r2 r3 r4 r5 r6 r7 r8 r9 r10 r11 r12 f0 f1 f3 f4 f6 f7 f9 f10 f12 f13 f18 f19 f21 f22 f24 f25 f27 f28 f30 f31 f33 f34 f36 f37 f39 f40 f42 f43 f45 f46 f48 f49 f51 f52 f54 f55 f57 f58 f60 f61 f62 f63; omega, by clear r0 r2 r3 r4 r5 r6 r7 r8 r9 r10 r11 r12 f0 f1 f3 f4 f6 f7 f9 f10 f15 f16 f18 f19 f21 f22 f24 f25 f27 f28 f30 f31 f33 f34 f36 f37 f39 f40 f42 f43 f45 f46 f48 f49 f51 f52 f54 f55 f57 f58 f60 f61 f62 f63; omega, by clear r0 r2 r3 r4 r5 r6 r7 r8 r9 r10 r11 r12 f0 f1 f3 f4 f6 f7 f12 f13 f15 f16 f18 f19 f21 f22 f24 f25 f27 f28 f30 f31 f33 f34 f36 f37 f39 f40 f42 f43 f45 f46 f48 f49 f51 f52 f54 f55 f57 f58 f60 f61 f62 f63; omega, by clear r0 r2 r3 r4 r5 r6 r7 r8 r9 r10 r11 r12 f0 f1 f3 f4 f9 f10 f12 f13 f15 f16 f18 f19 f21 f22 f24 f25 f27 f28 f30 f31 f33 f34 f36 f37 f39 f40 f42 f43 f45 f46 f48 f49 f51 f52 f54 f55 f57 f58 f60 f61 f62 f63; omega, by clear r0 r2 r3 r4 r5 r6 r7 r8 r9 r10 r11 r12 f0 f1 f6 f7 f9 f10 f12 f13 f15 f16 f18 f19 f21 f22 f24 f25 f27 f28 f30 f31 f33 f34 f36 f37 f39 f40 f42 f43 f45 f46 f48 f49 f51 f52 f54 f55 f57 f58 f60 f61 f62 f63; omega, by clear r0 r2 r3 r4 r5 r6 r7 r8 r9 r10 r11 r12 f3 f4 f6 f7 f9 f10 f12 f13 f15 f16 f18 f19 f21 f22 f24 f25 f27 f28 f30 f31 f33 f34 f36 f37 f39 f40 f42 f43 f45 f46 f48 f49 f51 f52 f54 f55 f57 f58 f60 f61 f62 f63; omega⟩
  obtain ⟨l0, l1, l2, l3, l4, l5, l6, l7, l8, l9, l10, l11, l12, l13, l14, l15, l16, l17, l18, l19, l20, l21, l22, l23, l24, l25, l26, l27, l28, l29, l30, l31, l32, l33, l34, l35, l36, l37, l38, l39, l40, l41, l42, l43, -⟩ := hl
  have l0 : zOpP (.lrem) (γ 0) (γ 1) [ρ 13, 10] (ρ 14) := l0
  have l1 : zOpP (.ladd) (γ 0) (γ 1) [48, ρ 14] (ρ 15) := l1
  have l2 : zOpP (.l2i) (γ 0) (γ 1) [ρ 15] (ρ 16) := l2
  have l3 : sn87 [ρ 16, ρ 1] (γ 0) 0 0 (γ 1) := hS87 _ _ _ _ _ l3
  have l4 : zOpP (.lrem) (γ 0) (γ 1) [ρ 17, 10] (ρ 18) := l4
  have l5 : zOpP (.ladd) (γ 0) (γ 1) [48, ρ 18] (ρ 19) := l5
  have l6 : zOpP (.l2i) (γ 0) (γ 1) [ρ 19] (ρ 20) := l6
  have l7 : sn87 [ρ 20, ρ 1 + 1] (γ 1) 0 0 (γ 2) := hS87 _ _ _ _ _ l7
  have l8 : zOpP (.lrem) (γ 0) (γ 1) [ρ 21, 10] (ρ 22) := l8
  have l9 : zOpP (.ladd) (γ 0) (γ 1) [48, ρ 22] (ρ 23) := l9
  have l10 : zOpP (.l2i) (γ 0) (γ 1) [ρ 23] (ρ 24) := l10
  have l11 : sn87 [ρ 24, ρ 1 + 2] (γ 2) 0 0 (γ 3) := hS87 _ _ _ _ _ l11
  have l12 : zOpP (.lrem) (γ 0) (γ 1) [ρ 25, 10] (ρ 26) := l12
  have l13 : zOpP (.ladd) (γ 0) (γ 1) [48, ρ 26] (ρ 27) := l13
  have l14 : zOpP (.l2i) (γ 0) (γ 1) [ρ 27] (ρ 28) := l14
  have l15 : sn87 [ρ 28, ρ 1 + 3] (γ 3) 0 0 (γ 4) := hS87 _ _ _ _ _ l15
  have l16 : zOpP (.lrem) (γ 0) (γ 1) [ρ 29, 10] (ρ 30) := l16
  have l17 : zOpP (.ladd) (γ 0) (γ 1) [48, ρ 30] (ρ 31) := l17
  have l18 : zOpP (.l2i) (γ 0) (γ 1) [ρ 31] (ρ 32) := l18
  have l19 : sn87 [ρ 32, ρ 1 + 4] (γ 4) 0 0 (γ 5) := hS87 _ _ _ _ _ l19
  have l20 : zOpP (.lrem) (γ 0) (γ 1) [ρ 33, 10] (ρ 34) := l20
  have l21 : zOpP (.ladd) (γ 0) (γ 1) [48, ρ 34] (ρ 35) := l21
  have l22 : zOpP (.l2i) (γ 0) (γ 1) [ρ 35] (ρ 36) := l22
  have l23 : sn87 [ρ 36, ρ 1 + 5] (γ 5) 0 0 (γ 6) := hS87 _ _ _ _ _ l23
  have l24 : zOpP (.lrem) (γ 0) (γ 1) [ρ 37, 10] (ρ 38) := l24
  have l25 : zOpP (.ladd) (γ 0) (γ 1) [48, ρ 38] (ρ 39) := l25
  have l26 : zOpP (.l2i) (γ 0) (γ 1) [ρ 39] (ρ 40) := l26
  have l27 : sn87 [ρ 40, ρ 1 + 6] (γ 6) 0 0 (γ 7) := hS87 _ _ _ _ _ l27
  have l28 : zOpP (.lrem) (γ 0) (γ 1) [ρ 41, 10] (ρ 42) := l28
  have l29 : zOpP (.ladd) (γ 0) (γ 1) [48, ρ 42] (ρ 43) := l29
  have l30 : zOpP (.l2i) (γ 0) (γ 1) [ρ 43] (ρ 44) := l30
  have l31 : sn87 [ρ 44, ρ 1 + 7] (γ 7) 0 0 (γ 8) := hS87 _ _ _ _ _ l31
  have l32 : zOpP (.lrem) (γ 0) (γ 1) [ρ 45, 10] (ρ 46) := l32
  have l33 : zOpP (.ladd) (γ 0) (γ 1) [48, ρ 46] (ρ 47) := l33
  have l34 : zOpP (.l2i) (γ 0) (γ 1) [ρ 47] (ρ 48) := l34
  have l35 : sn87 [ρ 48, ρ 1 + 8] (γ 8) 0 0 (γ 9) := hS87 _ _ _ _ _ l35
  have l36 : zOpP (.lrem) (γ 0) (γ 1) [ρ 49, 10] (ρ 50) := l36
  have l37 : zOpP (.ladd) (γ 0) (γ 1) [48, ρ 50] (ρ 51) := l37
  have l38 : zOpP (.l2i) (γ 0) (γ 1) [ρ 51] (ρ 52) := l38
  have l39 : sn87 [ρ 52, ρ 1 + 9] (γ 9) 0 0 (γ 10) := hS87 _ _ _ _ _ l39
  have l40 : zOpP (.lrem) (γ 0) (γ 1) [ρ 53, 10] (ρ 54) := l40
  have l41 : zOpP (.ladd) (γ 0) (γ 1) [48, ρ 54] (ρ 55) := l41
  have l42 : zOpP (.l2i) (γ 0) (γ 1) [ρ 55] (ρ 56) := l42
  have l43 : sn87 [ρ 56, ρ 1 + 10] (γ 10) 0 0 (γ 11) := hS87 _ _ _ _ _ l43
  show sn88 [ρ 0, ρ 1] (γ 0) 0 0 (γ 11)
  refine Eq.symm ?_
  show fn88 [ρ 0] (γ 0) = _
  unfold fn88
  refine (zLet_eq (show _ = ρ 0 from rfl)).trans ?_
  refine (if_pos w_0).trans ?_
  refine (zLet_eq w_1).trans ?_
  refine (if_neg w_2).trans ?_
  refine (zLet_eq w_3).trans ?_
  refine (if_neg w_4).trans ?_
  refine (zLet_eq w_5).trans ?_
  refine (if_neg w_6).trans ?_
  refine (zLet_eq w_7).trans ?_
  refine (if_neg w_8).trans ?_
  refine (zLet_eq w_9).trans ?_
  refine (if_neg w_10).trans ?_
  refine (zLet_eq w_11).trans ?_
  refine (if_neg w_12).trans ?_
  refine (zLet_eq w_13).trans ?_
  refine (if_neg w_14).trans ?_
  refine (zLet_eq w_15).trans ?_
  refine (if_neg w_16).trans ?_
  refine (zLet_eq w_17).trans ?_
  refine (if_neg w_18).trans ?_
  refine (zLet_eq w_19).trans ?_
  refine (if_neg w_20).trans ?_
  refine (zLet_eq w_21).trans ?_
  refine (if_pos w_22).trans ?_
  refine (zLet_eq w_23).trans ?_
  refine (zLet_eq (zF2_ok l0)).trans ?_
  refine (zLet_eq (zF2_ok l1)).trans ?_
  refine (zLet_eq (zF1_ok l2)).trans ?_
  refine (zLet_eq (show fn87 [ρ 16] (γ 0) = (0, 0, γ 1) from l3.symm)).trans ?_
  refine (zLet_eq (show _ = γ 1 from rfl)).trans ?_
  refine (zLet_eq w_24).trans ?_
  refine (zLet_eq (zF2_ok l4)).trans ?_
  refine (zLet_eq (zF2_ok l5)).trans ?_
  refine (zLet_eq (zF1_ok l6)).trans ?_
  refine (zLet_eq (show fn87 [ρ 20] (γ 1) = (0, 0, γ 2) from l7.symm)).trans ?_
  refine (zLet_eq (show _ = γ 2 from rfl)).trans ?_
  refine (zLet_eq w_25).trans ?_
  refine (zLet_eq (zF2_ok l8)).trans ?_
  refine (zLet_eq (zF2_ok l9)).trans ?_
  refine (zLet_eq (zF1_ok l10)).trans ?_
  refine (zLet_eq (show fn87 [ρ 24] (γ 2) = (0, 0, γ 3) from l11.symm)).trans ?_
  refine (zLet_eq (show _ = γ 3 from rfl)).trans ?_
  refine (zLet_eq w_26).trans ?_
  refine (zLet_eq (zF2_ok l12)).trans ?_
  refine (zLet_eq (zF2_ok l13)).trans ?_
  refine (zLet_eq (zF1_ok l14)).trans ?_
  refine (zLet_eq (show fn87 [ρ 28] (γ 3) = (0, 0, γ 4) from l15.symm)).trans ?_
  refine (zLet_eq (show _ = γ 4 from rfl)).trans ?_
  refine (zLet_eq w_27).trans ?_
  refine (zLet_eq (zF2_ok l16)).trans ?_
  refine (zLet_eq (zF2_ok l17)).trans ?_
  refine (zLet_eq (zF1_ok l18)).trans ?_
  refine (zLet_eq (show fn87 [ρ 32] (γ 4) = (0, 0, γ 5) from l19.symm)).trans ?_
  refine (zLet_eq (show _ = γ 5 from rfl)).trans ?_
  refine (zLet_eq w_28).trans ?_
  refine (zLet_eq (zF2_ok l20)).trans ?_
  refine (zLet_eq (zF2_ok l21)).trans ?_
  refine (zLet_eq (zF1_ok l22)).trans ?_
  refine (zLet_eq (show fn87 [ρ 36] (γ 5) = (0, 0, γ 6) from l23.symm)).trans ?_
  refine (zLet_eq (show _ = γ 6 from rfl)).trans ?_
  refine (zLet_eq w_29).trans ?_
  refine (zLet_eq (zF2_ok l24)).trans ?_
  refine (zLet_eq (zF2_ok l25)).trans ?_
  refine (zLet_eq (zF1_ok l26)).trans ?_
  refine (zLet_eq (show fn87 [ρ 40] (γ 6) = (0, 0, γ 7) from l27.symm)).trans ?_
  refine (zLet_eq (show _ = γ 7 from rfl)).trans ?_
  refine (zLet_eq w_30).trans ?_
  refine (zLet_eq (zF2_ok l28)).trans ?_
  refine (zLet_eq (zF2_ok l29)).trans ?_
  refine (zLet_eq (zF1_ok l30)).trans ?_
  refine (zLet_eq (show fn87 [ρ 44] (γ 7) = (0, 0, γ 8) from l31.symm)).trans ?_
  refine (zLet_eq (show _ = γ 8 from rfl)).trans ?_
  refine (zLet_eq w_31).trans ?_
  refine (zLet_eq (zF2_ok l32)).trans ?_
  refine (zLet_eq (zF2_ok l33)).trans ?_
  refine (zLet_eq (zF1_ok l34)).trans ?_
  refine (zLet_eq (show fn87 [ρ 48] (γ 8) = (0, 0, γ 9) from l35.symm)).trans ?_
  refine (zLet_eq (show _ = γ 9 from rfl)).trans ?_
  refine (zLet_eq w_32).trans ?_
  refine (zLet_eq (zF2_ok l36)).trans ?_
  refine (zLet_eq (zF2_ok l37)).trans ?_
  refine (zLet_eq (zF1_ok l38)).trans ?_
  refine (zLet_eq (show fn87 [ρ 52] (γ 9) = (0, 0, γ 10) from l39.symm)).trans ?_
  refine (zLet_eq (show _ = γ 10 from rfl)).trans ?_
  refine (zLet_eq w_33).trans ?_
  refine (zLet_eq (zF2_ok l40)).trans ?_
  refine (zLet_eq (zF2_ok l41)).trans ?_
  refine (zLet_eq (zF1_ok l42)).trans ?_
  refine (zLet_eq (show fn87 [ρ 56] (γ 10) = (0, 0, γ 11) from l43.symm)).trans ?_
  refine (zLet_eq (show _ = γ 11 from rfl)).trans ?_
  rfl
set_option maxRecDepth 100000 in
theorem vn88_11 {S : Nat → zSpc} (hS87 : ∀ x g o v gz, S 87 x g o v gz → sn87 x g o v gz) {a : List Int} {g : rHp} : ∀ (ρ : Nat → Int) (γ : Nat → rHp), zO 2 S a g q88_11 ρ γ → zGl (fun _ _ _ => True) (sn88 a g) q88_11 ρ γ := by
  intro ρ γ h
  obtain ⟨ha, hg, hr, hf, hm, hc, hl⟩ := h
  have ha : a = [ρ 0, ρ 1] := ha
  subst ha
  subst hg
  obtain ⟨r0, -, r2, r3, r4, r5, r6, r7, r8, r9, r10, r11, r12, -⟩ := hr
  have r0 : (0 : Int) ≤ ρ 0 ∧ ρ 0 ≤ 549755813887 := r0
  have r2 : (10 : Int) ≤ ρ 2 ∧ ρ 2 ≤ 549755813887 := r2
  have r3 : (10 : Int) ≤ ρ 3 ∧ ρ 3 ≤ 54975581388 := r3
  have r4 : (10 : Int) ≤ ρ 4 ∧ ρ 4 ≤ 5497558138 := r4
  have r5 : (10 : Int) ≤ ρ 5 ∧ ρ 5 ≤ 549755813 := r5
  have r6 : (10 : Int) ≤ ρ 6 ∧ ρ 6 ≤ 54975581 := r6
  have r7 : (10 : Int) ≤ ρ 7 ∧ ρ 7 ≤ 5497558 := r7
  have r8 : (10 : Int) ≤ ρ 8 ∧ ρ 8 ≤ 549755 := r8
  have r9 : (10 : Int) ≤ ρ 9 ∧ ρ 9 ≤ 54975 := r9
  have r10 : (10 : Int) ≤ ρ 10 ∧ ρ 10 ≤ 5497 := r10
  have r11 : (10 : Int) ≤ ρ 11 ∧ ρ 11 ≤ 549 := r11
  have r12 : (10 : Int) ≤ ρ 12 ∧ ρ 12 ≤ 54 := r12
  obtain ⟨f0, f1, -, f3, f4, -, f6, f7, -, f9, f10, -, f12, f13, -, f15, f16, -, f18, f19, -, f21, f22, -, f24, f25, -, f27, f28, -, f30, f31, -, f33, f34, -, -, -, -, f39, f40, -, f42, f43, -, f45, f46, -, f48, f49, -, f51, f52, -, f54, f55, -, f57, f58, -, f60, f61, -, f63, f64, -, f66, f67, f68, f69, -⟩ := hf
  have f0 : (0 : Int) ≤ ρ 58 + -ρ 0 := f0
  have f1 : (0 : Int) ≤ -ρ 58 + ρ 0 := f1
  have f3 : (0 : Int) ≤ 10 * ρ 54 + -ρ 0 + 9 := f3
  have f4 : (0 : Int) ≤ (-10) * ρ 54 + ρ 0 := f4
  have f6 : (0 : Int) ≤ 100 * ρ 50 + -ρ 0 + 99 := f6
  have f7 : (0 : Int) ≤ (-100) * ρ 50 + ρ 0 := f7
  have f9 : (0 : Int) ≤ 1000 * ρ 46 + -ρ 0 + 999 := f9
  have f10 : (0 : Int) ≤ (-1000) * ρ 46 + ρ 0 := f10
  have f12 : (0 : Int) ≤ 10000 * ρ 42 + -ρ 0 + 9999 := f12
  have f13 : (0 : Int) ≤ (-10000) * ρ 42 + ρ 0 := f13
  have f15 : (0 : Int) ≤ 100000 * ρ 38 + -ρ 0 + 99999 := f15
  have f16 : (0 : Int) ≤ (-100000) * ρ 38 + ρ 0 := f16
  have f18 : (0 : Int) ≤ 1000000 * ρ 34 + -ρ 0 + 999999 := f18
  have f19 : (0 : Int) ≤ (-1000000) * ρ 34 + ρ 0 := f19
  have f21 : (0 : Int) ≤ 10000000 * ρ 30 + -ρ 0 + 9999999 := f21
  have f22 : (0 : Int) ≤ (-10000000) * ρ 30 + ρ 0 := f22
  have f24 : (0 : Int) ≤ 100000000 * ρ 26 + -ρ 0 + 99999999 := f24
  have f25 : (0 : Int) ≤ (-100000000) * ρ 26 + ρ 0 := f25
  have f27 : (0 : Int) ≤ 1000000000 * ρ 22 + -ρ 0 + 999999999 := f27
  have f28 : (0 : Int) ≤ (-1000000000) * ρ 22 + ρ 0 := f28
  have f30 : (0 : Int) ≤ 10000000000 * ρ 18 + -ρ 0 + 9999999999 := f30
  have f31 : (0 : Int) ≤ (-10000000000) * ρ 18 + ρ 0 := f31
  have f33 : (0 : Int) ≤ 100000000000 * ρ 14 + -ρ 0 + 99999999999 := f33
  have f34 : (0 : Int) ≤ (-100000000000) * ρ 14 + ρ 0 := f34
  have f39 : (0 : Int) ≤ 10000000000 * ρ 12 + -ρ 0 + 9999999999 := f39
  have f40 : (0 : Int) ≤ (-10000000000) * ρ 12 + ρ 0 := f40
  have f42 : (0 : Int) ≤ 1000000000 * ρ 11 + -ρ 0 + 999999999 := f42
  have f43 : (0 : Int) ≤ (-1000000000) * ρ 11 + ρ 0 := f43
  have f45 : (0 : Int) ≤ 100000000 * ρ 10 + -ρ 0 + 99999999 := f45
  have f46 : (0 : Int) ≤ (-100000000) * ρ 10 + ρ 0 := f46
  have f48 : (0 : Int) ≤ 10000000 * ρ 9 + -ρ 0 + 9999999 := f48
  have f49 : (0 : Int) ≤ (-10000000) * ρ 9 + ρ 0 := f49
  have f51 : (0 : Int) ≤ 1000000 * ρ 8 + -ρ 0 + 999999 := f51
  have f52 : (0 : Int) ≤ (-1000000) * ρ 8 + ρ 0 := f52
  have f54 : (0 : Int) ≤ 100000 * ρ 7 + -ρ 0 + 99999 := f54
  have f55 : (0 : Int) ≤ (-100000) * ρ 7 + ρ 0 := f55
  have f57 : (0 : Int) ≤ 10000 * ρ 6 + -ρ 0 + 9999 := f57
  have f58 : (0 : Int) ≤ (-10000) * ρ 6 + ρ 0 := f58
  have f60 : (0 : Int) ≤ 1000 * ρ 5 + -ρ 0 + 999 := f60
  have f61 : (0 : Int) ≤ (-1000) * ρ 5 + ρ 0 := f61
  have f63 : (0 : Int) ≤ 100 * ρ 4 + -ρ 0 + 99 := f63
  have f64 : (0 : Int) ≤ (-100) * ρ 4 + ρ 0 := f64
  have f66 : (0 : Int) ≤ 10 * ρ 3 + -ρ 0 + 9 := f66
  have f67 : (0 : Int) ≤ (-10) * ρ 3 + ρ 0 := f67
  have f68 : (0 : Int) ≤ ρ 2 + -ρ 0 := f68
  have f69 : (0 : Int) ≤ -ρ 2 + ρ 0 := f69
  obtain ⟨w_0, w_1, w_2, w_3, w_4, w_5, w_6, w_7, w_8, w_9, w_10, w_11, w_12, w_13, w_14, w_15, w_16, w_17, w_18, w_19, w_20, w_21, w_22, w_23, w_24, w_25, w_26, w_27, w_28, w_29, w_30, w_31, w_32, w_33, w_34⟩ : (ρ 0 ≥ 0) ∧ ((ρ 0) / 1 = ρ 2) ∧ (¬ (ρ 2 ≤ 9)) ∧ ((ρ 0) / 10 = ρ 3) ∧ (¬ (ρ 3 ≤ 9)) ∧ ((ρ 0) / 100 = ρ 4) ∧ (¬ (ρ 4 ≤ 9)) ∧ ((ρ 0) / 1000 = ρ 5) ∧ (¬ (ρ 5 ≤ 9)) ∧ ((ρ 0) / 10000 = ρ 6) ∧ (¬ (ρ 6 ≤ 9)) ∧ ((ρ 0) / 100000 = ρ 7) ∧ (¬ (ρ 7 ≤ 9)) ∧ ((ρ 0) / 1000000 = ρ 8) ∧ (¬ (ρ 8 ≤ 9)) ∧ ((ρ 0) / 10000000 = ρ 9) ∧ (¬ (ρ 9 ≤ 9)) ∧ ((ρ 0) / 100000000 = ρ 10) ∧ (¬ (ρ 10 ≤ 9)) ∧ ((ρ 0) / 1000000000 = ρ 11) ∧ (¬ (ρ 11 ≤ 9)) ∧ ((ρ 0) / 10000000000 = ρ 12) ∧ (¬ (ρ 12 ≤ 9)) ∧ ((ρ 0) / 100000000000 = ρ 14) ∧ ((ρ 0) / 10000000000 = ρ 18) ∧ ((ρ 0) / 1000000000 = ρ 22) ∧ ((ρ 0) / 100000000 = ρ 26) ∧ ((ρ 0) / 10000000 = ρ 30) ∧ ((ρ 0) / 1000000 = ρ 34) ∧ ((ρ 0) / 100000 = ρ 38) ∧ ((ρ 0) / 10000 = ρ 42) ∧ ((ρ 0) / 1000 = ρ 46) ∧ ((ρ 0) / 100 = ρ 50) ∧ ((ρ 0) / 10 = ρ 54) ∧ ((ρ 0) / 1 = ρ 58) := ⟨by clear r2 r3 r4 r5 r6 r7 r8 r9 r10 r11 r12 f0 f1 f3 f4 f6 f7 f9 f10 f12 f13 f15 f16 f18 f19 f21 f22 f24 f25 f27 f28 f30 f31 f33 f34 f39 f40 f42 f43 f45 f46 f48 f49 f51 f52 f54 f55 f57 f58 f60 f61 f63 f64 f66 f67 f68 f69; omega, by clear r0 r2 r3 r4 r5 r6 r7 r8 r9 r10 r11 r12 f0 f1 f3 f4 f6 f7 f9 f10 f12 f13 f15 f16 f18 f19 f21 f22 f24 f25 f27 f28 f30 f31 f33 f34 f39 f40 f42 f43 f45 f46 f48 f49 f51 f52 f54 f55 f57 f58 f60 f61 f63 f64 f66 f67; omega, by clear r0 r3 r4 r5 r6 r7 r8 r9 r10 r11 r12 f0 f1 f3 f4 f6 f7 f9 f10 f12 f13 f15 f16 f18 f19 f21 f22 f24 f25 f27 f28 f30 f31 f33 f34 f39 f40 f42 f43 f45 f46 f48 f49 f51 f52 f54 f55 f57 f58 f60 f61 f63 f64 f66 f67 f68 f69; omega, by clear r0 r2 r3 r4 r5 r6 r7 r8 r9 r10 r11 r12 f0 f1 f3 f4 f6 f7 f9 f10 f12 f13 f15 f16 f18 f19 f21 f22 f24 f25 f27 f28 f30 f31 f33 f34 f39 f40 f42 f43 f45 f46 f48 f49 f51 f52 f54 f55 f57 f58 f60 f61 f63 f64 f68 f69; omega, by clear r0 r2 r4 r5 r6 r7 r8 r9 r10 r11 r12 f0 f1 f3 f4 f6 f7 f9 f10 f12 f13 f15 f16 f18 f19 f21 f22 f24 f25 f27 f28 f30 f31 f33 f34 f39 f40 f42 f43 f45 f46 f48 f49 f51 f52 f54 f55 f57 f58 f60 f61 f63 f64 f66 f67 f68 f69; omega, by clear r0 r2 r3 r4 r5 r6 r7 r8 r9 r10 r11 r12 f0 f1 f3 f4 f6 f7 f9 f10 f12 f13 f15 f16 f18 f19 f21 f22 f24 f25 f27 f28 f30 f31 f33 f34 f39 f40 f42 f43 f45 f46 f48 f49 f51 f52 f54 f55 f57 f58 f60 f61 f66 f67 f68 f69; omega, by clear r0 r2 r3 r5 r6 r7 r8 r9 r10 r11 r12 f0 f1 f3 f4 f6 f7 f9 f10 f12 f13 f15 f16 f18 f19 f21 f22 f24 f25 f27 f28 f30 f31 f33 f34 f39 f40 f42 f43 f45 f46 f48 f49 f51 f52 f54 f55 f57 f58 f60 f61 f63 f64 f66 f67 f68 f69; omega, by clear r0 r2 r3 r4 r5 r6 r7 r8 r9 r10 r11 r12 f0 f1 f3 f4 f6 f7 f9 f10 f12 f13 f15 f16 f18 f19 f21 f22 f24 f25 f27 f28 f30 f31 f33 f34 f39 f40 f42 f43 f45 f46 f48 f49 f51 f52 f54 f55 f57 f58 f63 f64 f66 f67 f68 f69; omega, by clear r0 r2 r3 r4 r6 r7 r8 r9 r10 r11 r12 f0 f1 f3 f4 f6 f7 f9 f10 f12 f13 f15 f16 f18 f19 f21 f22 f24 f25 f27 f28 f30 f31 f33 f34 f39 f40 f42 f43 f45 f46 f48 f49 f51 f52 f54 f55 f57 f58 f60 f61 f63 f64 f66 f67 f68 f69; omega, by clear r0 r2 r3 r4 r5 r6 r7 r8 r9 r10 r11 r12 f0 f1 f3 f4 f6 f7 f9 f10 f12 f13 f15 f16 f18 f19 f21 f22 f24 f25 f27 f28 f30 f31 f33 f34 f39 f40 f42 f43 f45 f46 f48 f49 f51 f52 f54 f55 f60 f61 f63 f64 f66 f67 f68 f69; omega, by clear r0 r2 r3 r4 r5 r7 r8 r9 r10 r11 r12 f0 f1 f3 f4 f6 f7 f9 f10 f12 f13 f15 f16 f18 f19 f21 f22 f24 f25 f27 f28 f30 f31 f33 f34 f39 f40 f42 f43 f45 f46 f48 f49 f51 f52 f54 f55 f57 f58 f60 f61 f63 f64 f66 f67 f68 f69; omega, by clear r0 r2 r3 r4 r5 r6 r7 r8 r9 r10 r11 r12 f0 f1 f3 f4 f6 f7 f9 f10 f12 f13 f15 f16 f18 f19 f21 f22 f24 f25 f27 f28 f30 f31 f33 f34 f39 f40 f42 f43 f45 f46 f48 f49 f51 f52 f57 f58 f60 f61 f63 f64 f66 f67 f68 f69; omega, by clear r0 r2 r3 r4 r5 r6 r8 r9 r10 r11 r12 f0 f1 f3 f4 f6 f7 f9 f10 f12 f13 f15 f16 f18 f19 f21 f22 f24 f25 f27 f28 f30 f31 f33 f34 f39 f40 f42 f43 f45 f46 f48 f49 f51 f52 f54 f55 f57 f58 f60 f61 f63 f64 f66 f67 f68 f69; omega, by clear r0 r2 r3 r4 r5 r6 r7 r8 r9 r10 r11 r12 f0 f1 f3 f4 f6 f7 f9 f10 f12 f13 f15 f16 f18 f19 f21 f22 f24 f25 f27 f28 f30 f31 f33 f34 f39 f40 f42 f43 f45 f46 f48 f49 f54 f55 f57 f58 f60 f61 f63 f64 f66 f67 f68 f69; omega, by clear r0 r2 r3 r4 r5 r6 r7 r9 r10 r11 r12 f0 f1 f3 f4 f6 f7 f9 f10 f12 f13 f15 f16 f18 f19 f21 f22 f24 f25 f27 f28 f30 f31 f33 f34 f39 f40 f42 f43 f45 f46 f48 f49 f51 f52 f54 f55 f57 f58 f60 f61 f63 f64 f66 f67 f68 f69; omega, by clear r0 r2 r3 r4 r5 r6 r7 r8 r9 r10 r11 r12 f0 f1 f3 f4 f6 f7 f9 f10 f12 f13 f15 f16 f18 f19 f21 f22 f24 f25 f27 f28 f30 f31 f33 f34 f39 f40 f42 f43 f45 f46 f51 f52 f54 f55 f57 f58 f60 f61 f63 f64 f66 f67 f68 f69; omega, by clear r0 r2 r3 r4 r5 r6 r7 r8 r10 r11 r12 f0 f1 f3 f4 f6 f7 f9 f10 f12 f13 f15 f16 f18 f19 f21 f22 f24 f25 f27 f28 f30 f31 f33 f34 f39 f40 f42 f43 f45 f46 f48 f49 f51 f52 f54 f55 f57 f58 f60 f61 f63 f64 f66 f67 f68 f69; omega, by clear r0 r2 r3 r4 r5 r6 r7 r8 r9 r10 r11 r12 f0 f1 f3 f4 f6 f7 f9 f10 f12 f13 f15 f16 f18 f19 f21 f22 f24 f25 f27 f28 f30 f31 f33 f34 f39 f40 f42 f43 f48 f49 f51 f52 f54 f55 f57 f58 f60 f61 f63 f64 f66 f67 f68 f69; omega, by clear r0 r2 r3 r4 r5 r6 r7 r8 r9 r11 r12 f0 f1 f3 f4 f6 f7 f9 f10 f12 f13 f15 f16 f18 f19 f21 f22 f24 f25 f27 f28 f30 f31 f33 f34 f39 f40 f42 f43 f45 f46 f48 f49 f51 f52 f54 f55 f57 f58 f60 f61 f63 f64 f66 f67 f68 f69; omega, by clear r0 r2 r3 r4 r5 r6 r7 r8 r9 r10 r11 r12 f0 f1 f3 f4 f6 f7 f9 f10 f12 f13 f15 f16 f18 f19 f21 f22 f24 f25 f27 f28 f30 f31 f33 f34 f39 f40 f45 f46 f48 f49 f51 f52 f54 f55 f57 f58 f60 f61 f63 f64 f66 f67 f68 f69; omega, by clear r0 r2 r3 r4 r5 r6 r7 r8 r9 r10 r12 f0 f1 f3 f4 f6 f7 f9 f10 f12 f13 f15 f16 f18 f19 f21 f22 f24 f25 f27 f28 f30 f31 f33 f34 f39 f40 f42 f43 f45 f46 f48 f49 f51 f52 f54 f55 f57 f58 f60 f61 f63 f64 f66 f67 f68 f69; omega, by clear r0 r2 r3 r4 r5 r6 r7 r8 r9 r10 r11 r12 f0 f1 f3 f4 f6 f7 f9 f10 f12 f13 f15 f16 f18 f19 f21 f22 f24 f25 f27 f28 f30 f31 f33 f34 f42 f43 f45 f46 f48 f49 f51 f52 f54 f55 f57 f58 f60 f61 f63 f64 f66 f67 f68 f69; omega, by clear r0 r2 r3 r4 r5 r6 r7 r8 r9 r10 r11 f0 f1 f3 f4 f6 f7 f9 f10 f12 f13 f15 f16 f18 f19 f21 f22 f24 f25 f27 f28 f30 f31 f33 f34 f39 f40 f42 f43 f45 f46 f48 f49 f51 f52 f54 f55 f57 f58 f60 f61 f63 f64 f66 f67 f68 f69; omega, by clear r0 r2 r3 r4 r5 r6 r7 r8 r9 r10 r11 r12 f0 f1 f3 f4 f6 f7 f9 f10 f12 f13 f15 f16 f18 f19 f21 f22 f24 f25 f27 f28 f30 f31 f39 f40 f42 f43 f45 f46 f48 f49 f51 f52 f54 f55 f57 f58 f60 f61 f63 f64 f66 f67 f68 f69; omega, by clear r0 r2 r3 r4 r5 r6 r7 r8 r9 r10 r11 r12 f0 f1 f3 f4 f6 f7 f9 f10 f12 f13 f15 f16 f18 f19 f21 f22 f24 f25 f27 f28 f33 f34 f39 f40 f42 f43 f45 f46 f48 f49 f51 f52 f54 f55 f57 f58 f60 f61 f63 f64 f66 f67 f68 f69; omega, by clear r0 r2 r3 r4 r5 r6 r7 r8 r9 r10 r11 r12 f0 f1 f3 f4 f6 f7 f9 f10 f12 f13 f15 f16 f18 f19 f21 f22 f24 f25 f30 f31 f33 f34 f39 f40 f42 f43 f45 f46 f48 f49 f51 f52 f54 f55 f57 f58 f60 f61 f63 f64 f66 f67 f68 f69; omega, by clear r0 r2 r3 r4 r5 r6 r7 r8 r9 r10 r11 r12 f0 f1 f3 f4 f6 f7 f9 f10 f12 f13 f15 f16 f18 f19 f21 f22 f27 f28 f30 f31 f33 f34 f39 f40 f42 f43 f45 f46 f48 f49 f51 f52 f54 f55 f57 f58 f60 f61 f63 f64 f66 f67 f68 f69; omega, by clear r0 r2 r3 r4 r5 r6 r7 r8 r9 r10 r11 r12 f0 f1 f3 f4 f6 f7 f9 f10 f12 f13 f15 f16 f18 f19 f24 f25 f27 f28 f30 f31 f33 f34 f39 f40 f42 f43 f45 f46 f48 f49 f51 f52 f54 f55 f57 f58 f60 f61 f63 f64 f66 f67 f68 f69; omega, by clear r0 r2 r3 r4 r5 r6 r7 r8 r9 r10 r11 r12 f0 f1 f3 f4 f6 f7 f9 f10 f12 f13 f15 f16 f21 f22 f24 f25 f27 f28 f30 f31 f33 f34 f39 f40 f42 f43 f45 f46 f48 f49 f51 f52 f54 f55 f57 f58 f60 f61 f63 f64 f66 f67 f68 f69; omega, by clear r0 r2 r3 r4 r5 r6 r7 r8 r9 r10 r11 r12 f0 f1 f3 f4 f6 f7 f9 f10 f12 f13 f18 f19 f21 f22 f24 f25 f27 f28 f30 f31 f33 f34 f39 f40 f42 f43 f45 f46 f48 f49 f51 f52 f54 f55 f57 f58 f60 f61 f63 f64 f66 f67 f68 f69; omega, by clear r0 r2 r3 r4 r5 r6 r7 r8 r9 r10 r11 r12 f0 f1 f3 f4 f6 f7 f9 f10 f15 f16 f18 f19 f21 f22 f24 f25 f27 f28 f30 f31 f33 f34 f39 f40 f42 f43 f45 f46 f48 f49 f51 f52 f54 f55 f57 f58 f60 f61 f63 f64 f66 f67 f68 f69; omega, by clear r0 r2 r3 r4 r5 r6 r7 r8 r9 r10 r11 r12 f0 f1 f3 f4 f6 f7 f12 f13 f15 f16 f18 f19 f21 f22 f24 f25 f27 f28 f30 f31 f33 f34 f39 f40 f42 f43 f45 f46 f48 f49 f51 f52 f54 f55 f57 f58 f60 f61 f63 f64 f66 f67 f68 f69; omega, by clear r0 r2 r3 r4 r5 r6 r7 r8 r9 r10 r11 r12 f0 f1 f3 f4 f9 f10 f12 f13 f15 f16 f18 f19 f21 f22 f24 f25 f27 f28 f30 f31 f33 f34 f39 f40 f42 f43 f45 f46 f48 f49 f51 f52 f54 f55 f57 f58 f60 f61 f63 f64 f66 f67 f68 f69; omega, by clear r0 r2 r3 r4 r5 r6 r7 r8 r9 r10 r11 r12 f0 f1 f6 f7 f9 f10 f12 f13 f15 f16 f18 f19 f21 f22 f24 f25 f27 f28 f30 f31 f33 f34 f39 f40 f42 f43 f45 f46 f48 f49 f51 f52 f54 f55 f57 f58 f60 f61 f63 f64 f66 f67 f68 f69; omega, by clear r0 r2 r3 r4 r5 r6 r7 r8 r9 r10 r11 r12 f3 f4 f6 f7 f9 f10 f12 f13 f15 f16 f18 f19 f21 f22 f24 f25 f27 f28 f30 f31 f33 f34 f39 f40 f42 f43 f45 f46 f48 f49 f51 f52 f54 f55 f57 f58 f60 f61 f63 f64 f66 f67 f68 f69; omega⟩
  obtain ⟨l0, l1, l2, l3, l4, l5, l6, l7, l8, l9, l10, l11, l12, l13, l14, l15, l16, l17, l18, l19, l20, l21, l22, l23, l24, l25, l26, l27, l28, l29, l30, l31, l32, l33, l34, l35, l36, l37, l38, l39, l40, l41, l42, l43, l44, l45, l46, l47, -⟩ := hl
  have l0 : zOpP (.lrem) (γ 0) (γ 1) [ρ 14, 10] (ρ 15) := l0
  have l1 : zOpP (.ladd) (γ 0) (γ 1) [48, ρ 15] (ρ 16) := l1
  have l2 : zOpP (.l2i) (γ 0) (γ 1) [ρ 16] (ρ 17) := l2
  have l3 : sn87 [ρ 17, ρ 1] (γ 0) 0 0 (γ 1) := hS87 _ _ _ _ _ l3
  have l4 : zOpP (.lrem) (γ 0) (γ 1) [ρ 18, 10] (ρ 19) := l4
  have l5 : zOpP (.ladd) (γ 0) (γ 1) [48, ρ 19] (ρ 20) := l5
  have l6 : zOpP (.l2i) (γ 0) (γ 1) [ρ 20] (ρ 21) := l6
  have l7 : sn87 [ρ 21, ρ 1 + 1] (γ 1) 0 0 (γ 2) := hS87 _ _ _ _ _ l7
  have l8 : zOpP (.lrem) (γ 0) (γ 1) [ρ 22, 10] (ρ 23) := l8
  have l9 : zOpP (.ladd) (γ 0) (γ 1) [48, ρ 23] (ρ 24) := l9
  have l10 : zOpP (.l2i) (γ 0) (γ 1) [ρ 24] (ρ 25) := l10
  have l11 : sn87 [ρ 25, ρ 1 + 2] (γ 2) 0 0 (γ 3) := hS87 _ _ _ _ _ l11
  have l12 : zOpP (.lrem) (γ 0) (γ 1) [ρ 26, 10] (ρ 27) := l12
  have l13 : zOpP (.ladd) (γ 0) (γ 1) [48, ρ 27] (ρ 28) := l13
  have l14 : zOpP (.l2i) (γ 0) (γ 1) [ρ 28] (ρ 29) := l14
  have l15 : sn87 [ρ 29, ρ 1 + 3] (γ 3) 0 0 (γ 4) := hS87 _ _ _ _ _ l15
  have l16 : zOpP (.lrem) (γ 0) (γ 1) [ρ 30, 10] (ρ 31) := l16
  have l17 : zOpP (.ladd) (γ 0) (γ 1) [48, ρ 31] (ρ 32) := l17
  have l18 : zOpP (.l2i) (γ 0) (γ 1) [ρ 32] (ρ 33) := l18
  have l19 : sn87 [ρ 33, ρ 1 + 4] (γ 4) 0 0 (γ 5) := hS87 _ _ _ _ _ l19
  have l20 : zOpP (.lrem) (γ 0) (γ 1) [ρ 34, 10] (ρ 35) := l20
  have l21 : zOpP (.ladd) (γ 0) (γ 1) [48, ρ 35] (ρ 36) := l21
  have l22 : zOpP (.l2i) (γ 0) (γ 1) [ρ 36] (ρ 37) := l22
  have l23 : sn87 [ρ 37, ρ 1 + 5] (γ 5) 0 0 (γ 6) := hS87 _ _ _ _ _ l23
  have l24 : zOpP (.lrem) (γ 0) (γ 1) [ρ 38, 10] (ρ 39) := l24
  have l25 : zOpP (.ladd) (γ 0) (γ 1) [48, ρ 39] (ρ 40) := l25
  have l26 : zOpP (.l2i) (γ 0) (γ 1) [ρ 40] (ρ 41) := l26
  have l27 : sn87 [ρ 41, ρ 1 + 6] (γ 6) 0 0 (γ 7) := hS87 _ _ _ _ _ l27
  have l28 : zOpP (.lrem) (γ 0) (γ 1) [ρ 42, 10] (ρ 43) := l28
  have l29 : zOpP (.ladd) (γ 0) (γ 1) [48, ρ 43] (ρ 44) := l29
  have l30 : zOpP (.l2i) (γ 0) (γ 1) [ρ 44] (ρ 45) := l30
  have l31 : sn87 [ρ 45, ρ 1 + 7] (γ 7) 0 0 (γ 8) := hS87 _ _ _ _ _ l31
  have l32 : zOpP (.lrem) (γ 0) (γ 1) [ρ 46, 10] (ρ 47) := l32
  have l33 : zOpP (.ladd) (γ 0) (γ 1) [48, ρ 47] (ρ 48) := l33
  have l34 : zOpP (.l2i) (γ 0) (γ 1) [ρ 48] (ρ 49) := l34
  have l35 : sn87 [ρ 49, ρ 1 + 8] (γ 8) 0 0 (γ 9) := hS87 _ _ _ _ _ l35
  have l36 : zOpP (.lrem) (γ 0) (γ 1) [ρ 50, 10] (ρ 51) := l36
  have l37 : zOpP (.ladd) (γ 0) (γ 1) [48, ρ 51] (ρ 52) := l37
  have l38 : zOpP (.l2i) (γ 0) (γ 1) [ρ 52] (ρ 53) := l38
  have l39 : sn87 [ρ 53, ρ 1 + 9] (γ 9) 0 0 (γ 10) := hS87 _ _ _ _ _ l39
  have l40 : zOpP (.lrem) (γ 0) (γ 1) [ρ 54, 10] (ρ 55) := l40
  have l41 : zOpP (.ladd) (γ 0) (γ 1) [48, ρ 55] (ρ 56) := l41
  have l42 : zOpP (.l2i) (γ 0) (γ 1) [ρ 56] (ρ 57) := l42
  have l43 : sn87 [ρ 57, ρ 1 + 10] (γ 10) 0 0 (γ 11) := hS87 _ _ _ _ _ l43
  have l44 : zOpP (.lrem) (γ 0) (γ 1) [ρ 58, 10] (ρ 59) := l44
  have l45 : zOpP (.ladd) (γ 0) (γ 1) [48, ρ 59] (ρ 60) := l45
  have l46 : zOpP (.l2i) (γ 0) (γ 1) [ρ 60] (ρ 61) := l46
  have l47 : sn87 [ρ 61, ρ 1 + 11] (γ 11) 0 0 (γ 12) := hS87 _ _ _ _ _ l47
  show sn88 [ρ 0, ρ 1] (γ 0) 0 0 (γ 12)
  refine Eq.symm ?_
  show fn88 [ρ 0] (γ 0) = _
  unfold fn88
  refine (zLet_eq (show _ = ρ 0 from rfl)).trans ?_
  refine (if_pos w_0).trans ?_
  refine (zLet_eq w_1).trans ?_
  refine (if_neg w_2).trans ?_
  refine (zLet_eq w_3).trans ?_
  refine (if_neg w_4).trans ?_
  refine (zLet_eq w_5).trans ?_
  refine (if_neg w_6).trans ?_
  refine (zLet_eq w_7).trans ?_
  refine (if_neg w_8).trans ?_
  refine (zLet_eq w_9).trans ?_
  refine (if_neg w_10).trans ?_
  refine (zLet_eq w_11).trans ?_
  refine (if_neg w_12).trans ?_
  refine (zLet_eq w_13).trans ?_
  refine (if_neg w_14).trans ?_
  refine (zLet_eq w_15).trans ?_
  refine (if_neg w_16).trans ?_
  refine (zLet_eq w_17).trans ?_
  refine (if_neg w_18).trans ?_
  refine (zLet_eq w_19).trans ?_
  refine (if_neg w_20).trans ?_
  refine (zLet_eq w_21).trans ?_
  refine (if_neg w_22).trans ?_
  refine (zLet_eq w_23).trans ?_
  refine (zLet_eq (zF2_ok l0)).trans ?_
  refine (zLet_eq (zF2_ok l1)).trans ?_
  refine (zLet_eq (zF1_ok l2)).trans ?_
  refine (zLet_eq (show fn87 [ρ 17] (γ 0) = (0, 0, γ 1) from l3.symm)).trans ?_
  refine (zLet_eq (show _ = γ 1 from rfl)).trans ?_
  refine (zLet_eq w_24).trans ?_
  refine (zLet_eq (zF2_ok l4)).trans ?_
  refine (zLet_eq (zF2_ok l5)).trans ?_
  refine (zLet_eq (zF1_ok l6)).trans ?_
  refine (zLet_eq (show fn87 [ρ 21] (γ 1) = (0, 0, γ 2) from l7.symm)).trans ?_
  refine (zLet_eq (show _ = γ 2 from rfl)).trans ?_
  refine (zLet_eq w_25).trans ?_
  refine (zLet_eq (zF2_ok l8)).trans ?_
  refine (zLet_eq (zF2_ok l9)).trans ?_
  refine (zLet_eq (zF1_ok l10)).trans ?_
  refine (zLet_eq (show fn87 [ρ 25] (γ 2) = (0, 0, γ 3) from l11.symm)).trans ?_
  refine (zLet_eq (show _ = γ 3 from rfl)).trans ?_
  refine (zLet_eq w_26).trans ?_
  refine (zLet_eq (zF2_ok l12)).trans ?_
  refine (zLet_eq (zF2_ok l13)).trans ?_
  refine (zLet_eq (zF1_ok l14)).trans ?_
  refine (zLet_eq (show fn87 [ρ 29] (γ 3) = (0, 0, γ 4) from l15.symm)).trans ?_
  refine (zLet_eq (show _ = γ 4 from rfl)).trans ?_
  refine (zLet_eq w_27).trans ?_
  refine (zLet_eq (zF2_ok l16)).trans ?_
  refine (zLet_eq (zF2_ok l17)).trans ?_
  refine (zLet_eq (zF1_ok l18)).trans ?_
  refine (zLet_eq (show fn87 [ρ 33] (γ 4) = (0, 0, γ 5) from l19.symm)).trans ?_
  refine (zLet_eq (show _ = γ 5 from rfl)).trans ?_
  refine (zLet_eq w_28).trans ?_
  refine (zLet_eq (zF2_ok l20)).trans ?_
  refine (zLet_eq (zF2_ok l21)).trans ?_
  refine (zLet_eq (zF1_ok l22)).trans ?_
  refine (zLet_eq (show fn87 [ρ 37] (γ 5) = (0, 0, γ 6) from l23.symm)).trans ?_
  refine (zLet_eq (show _ = γ 6 from rfl)).trans ?_
  refine (zLet_eq w_29).trans ?_
  refine (zLet_eq (zF2_ok l24)).trans ?_
  refine (zLet_eq (zF2_ok l25)).trans ?_
  refine (zLet_eq (zF1_ok l26)).trans ?_
  refine (zLet_eq (show fn87 [ρ 41] (γ 6) = (0, 0, γ 7) from l27.symm)).trans ?_
  refine (zLet_eq (show _ = γ 7 from rfl)).trans ?_
  refine (zLet_eq w_30).trans ?_
  refine (zLet_eq (zF2_ok l28)).trans ?_
  refine (zLet_eq (zF2_ok l29)).trans ?_
  refine (zLet_eq (zF1_ok l30)).trans ?_
  refine (zLet_eq (show fn87 [ρ 45] (γ 7) = (0, 0, γ 8) from l31.symm)).trans ?_
  refine (zLet_eq (show _ = γ 8 from rfl)).trans ?_
  refine (zLet_eq w_31).trans ?_
  refine (zLet_eq (zF2_ok l32)).trans ?_
  refine (zLet_eq (zF2_ok l33)).trans ?_
  refine (zLet_eq (zF1_ok l34)).trans ?_
  refine (zLet_eq (show fn87 [ρ 49] (γ 8) = (0, 0, γ 9) from l35.symm)).trans ?_
  refine (zLet_eq (show _ = γ 9 from rfl)).trans ?_
  refine (zLet_eq w_32).trans ?_
  refine (zLet_eq (zF2_ok l36)).trans ?_
  refine (zLet_eq (zF2_ok l37)).trans ?_
  refine (zLet_eq (zF1_ok l38)).trans ?_
  refine (zLet_eq (show fn87 [ρ 53] (γ 9) = (0, 0, γ 10) from l39.symm)).trans ?_
  refine (zLet_eq (show _ = γ 10 from rfl)).trans ?_
  refine (zLet_eq w_33).trans ?_
  refine (zLet_eq (zF2_ok l40)).trans ?_
  refine (zLet_eq (zF2_ok l41)).trans ?_
  refine (zLet_eq (zF1_ok l42)).trans ?_
  refine (zLet_eq (show fn87 [ρ 57] (γ 10) = (0, 0, γ 11) from l43.symm)).trans ?_
  refine (zLet_eq (show _ = γ 11 from rfl)).trans ?_
  refine (zLet_eq w_34).trans ?_
  refine (zLet_eq (zF2_ok l44)).trans ?_
  refine (zLet_eq (zF2_ok l45)).trans ?_
  refine (zLet_eq (zF1_ok l46)).trans ?_
  refine (zLet_eq (show fn87 [ρ 61] (γ 11) = (0, 0, γ 12) from l47.symm)).trans ?_
  refine (zLet_eq (show _ = γ 12 from rfl)).trans ?_
  rfl
set_option maxRecDepth 100000 in
theorem vn88_12 {S : Nat → zSpc} (hS87 : ∀ x g o v gz, S 87 x g o v gz → sn87 x g o v gz) {a : List Int} {g : rHp} : ∀ (ρ : Nat → Int) (γ : Nat → rHp), zO 2 S a g q88_12 ρ γ → zGl (fun _ _ _ => True) (sn88 a g) q88_12 ρ γ := by
  intro ρ γ h
  obtain ⟨ha, hg, hr, hf, hm, hc, hl⟩ := h
  have ha : a = [ρ 0, ρ 1] := ha
  subst ha
  subst hg
  obtain ⟨r0, -, -, r3, -⟩ := hr
  have r0 : ((-2147483648) : Int) ≤ ρ 0 ∧ ρ 0 ≤ (-1) := r0
  have r3 : (0 : Int) ≤ ρ 3 ∧ ρ 3 ≤ 9 := r3
  obtain ⟨f0, f1, f2, f3, -⟩ := hf
  have f0 : (0 : Int) ≤ ρ 4 + -ρ 2 := f0
  have f1 : (0 : Int) ≤ -ρ 4 + ρ 2 := f1
  have f2 : (0 : Int) ≤ ρ 3 + -ρ 2 := f2
  have f3 : (0 : Int) ≤ -ρ 3 + ρ 2 := f3
  obtain ⟨w_0, w_1, w_2, w_3⟩ : (¬ (ρ 0 ≥ 0)) ∧ ((ρ 2) / 1 = ρ 3) ∧ (ρ 3 ≤ 9) ∧ ((ρ 2) / 1 = ρ 4) := ⟨by omega, by omega, by omega, by omega⟩
  obtain ⟨l0, l1, l2, l3, l4, l5, -⟩ := hl
  have l0 : sn87 [45, ρ 1] (γ 0) 0 0 (γ 1) := hS87 _ _ _ _ _ l0
  have l1 : zOpP (.lneg) (γ 0) (γ 1) [ρ 0] (ρ 2) := l1
  have l2 : zOpP (.lrem) (γ 0) (γ 1) [ρ 4, 10] (ρ 5) := l2
  have l3 : zOpP (.ladd) (γ 0) (γ 1) [48, ρ 5] (ρ 6) := l3
  have l4 : zOpP (.l2i) (γ 0) (γ 1) [ρ 6] (ρ 7) := l4
  have l5 : sn87 [ρ 7, ρ 1 + 1] (γ 1) 0 0 (γ 2) := hS87 _ _ _ _ _ l5
  show sn88 [ρ 0, ρ 1] (γ 0) 0 0 (γ 2)
  refine Eq.symm ?_
  show fn88 [ρ 0] (γ 0) = _
  unfold fn88
  refine (zLet_eq (show _ = ρ 0 from rfl)).trans ?_
  refine (if_neg w_0).trans ?_
  refine (zLet_eq (show fn87 [45] (γ 0) = (0, 0, γ 1) from l0.symm)).trans ?_
  refine (zLet_eq (show _ = γ 1 from rfl)).trans ?_
  refine (zLet_eq (zF1_ok l1)).trans ?_
  refine (zLet_eq w_1).trans ?_
  refine (if_pos w_2).trans ?_
  refine (zLet_eq w_3).trans ?_
  refine (zLet_eq (zF2_ok l2)).trans ?_
  refine (zLet_eq (zF2_ok l3)).trans ?_
  refine (zLet_eq (zF1_ok l4)).trans ?_
  refine (zLet_eq (show fn87 [ρ 7] (γ 1) = (0, 0, γ 2) from l5.symm)).trans ?_
  refine (zLet_eq (show _ = γ 2 from rfl)).trans ?_
  rfl
set_option maxRecDepth 100000 in
theorem vn88_13 {S : Nat → zSpc} (hS87 : ∀ x g o v gz, S 87 x g o v gz → sn87 x g o v gz) {a : List Int} {g : rHp} : ∀ (ρ : Nat → Int) (γ : Nat → rHp), zO 2 S a g q88_13 ρ γ → zGl (fun _ _ _ => True) (sn88 a g) q88_13 ρ γ := by
  intro ρ γ h
  obtain ⟨ha, hg, hr, hf, hm, hc, hl⟩ := h
  have ha : a = [ρ 0, ρ 1] := ha
  subst ha
  subst hg
  obtain ⟨r0, -, -, r3, r4, -⟩ := hr
  have r0 : ((-2147483648) : Int) ≤ ρ 0 ∧ ρ 0 ≤ (-1) := r0
  have r3 : (10 : Int) ≤ ρ 3 ∧ ρ 3 ≤ 2147483648 := r3
  have r4 : (0 : Int) ≤ ρ 4 ∧ ρ 4 ≤ 9 := r4
  obtain ⟨f0, f1, -, f3, f4, -, f6, f7, f8, f9, -⟩ := hf
  have f0 : (0 : Int) ≤ ρ 9 + -ρ 2 := f0
  have f1 : (0 : Int) ≤ -ρ 9 + ρ 2 := f1
  have f3 : (0 : Int) ≤ 10 * ρ 5 + -ρ 2 + 9 := f3
  have f4 : (0 : Int) ≤ (-10) * ρ 5 + ρ 2 := f4
  have f6 : (0 : Int) ≤ 10 * ρ 4 + -ρ 2 + 9 := f6
  have f7 : (0 : Int) ≤ (-10) * ρ 4 + ρ 2 := f7
  have f8 : (0 : Int) ≤ ρ 3 + -ρ 2 := f8
  have f9 : (0 : Int) ≤ -ρ 3 + ρ 2 := f9
  obtain ⟨w_0, w_1, w_2, w_3, w_4, w_5, w_6⟩ : (¬ (ρ 0 ≥ 0)) ∧ ((ρ 2) / 1 = ρ 3) ∧ (¬ (ρ 3 ≤ 9)) ∧ ((ρ 2) / 10 = ρ 4) ∧ (ρ 4 ≤ 9) ∧ ((ρ 2) / 10 = ρ 5) ∧ ((ρ 2) / 1 = ρ 9) := ⟨by omega, by omega, by omega, by omega, by omega, by omega, by omega⟩
  obtain ⟨l0, l1, l2, l3, l4, l5, l6, l7, l8, l9, -⟩ := hl
  have l0 : sn87 [45, ρ 1] (γ 0) 0 0 (γ 1) := hS87 _ _ _ _ _ l0
  have l1 : zOpP (.lneg) (γ 0) (γ 1) [ρ 0] (ρ 2) := l1
  have l2 : zOpP (.lrem) (γ 0) (γ 1) [ρ 5, 10] (ρ 6) := l2
  have l3 : zOpP (.ladd) (γ 0) (γ 1) [48, ρ 6] (ρ 7) := l3
  have l4 : zOpP (.l2i) (γ 0) (γ 1) [ρ 7] (ρ 8) := l4
  have l5 : sn87 [ρ 8, ρ 1 + 1] (γ 1) 0 0 (γ 2) := hS87 _ _ _ _ _ l5
  have l6 : zOpP (.lrem) (γ 0) (γ 1) [ρ 9, 10] (ρ 10) := l6
  have l7 : zOpP (.ladd) (γ 0) (γ 1) [48, ρ 10] (ρ 11) := l7
  have l8 : zOpP (.l2i) (γ 0) (γ 1) [ρ 11] (ρ 12) := l8
  have l9 : sn87 [ρ 12, ρ 1 + 2] (γ 2) 0 0 (γ 3) := hS87 _ _ _ _ _ l9
  show sn88 [ρ 0, ρ 1] (γ 0) 0 0 (γ 3)
  refine Eq.symm ?_
  show fn88 [ρ 0] (γ 0) = _
  unfold fn88
  refine (zLet_eq (show _ = ρ 0 from rfl)).trans ?_
  refine (if_neg w_0).trans ?_
  refine (zLet_eq (show fn87 [45] (γ 0) = (0, 0, γ 1) from l0.symm)).trans ?_
  refine (zLet_eq (show _ = γ 1 from rfl)).trans ?_
  refine (zLet_eq (zF1_ok l1)).trans ?_
  refine (zLet_eq w_1).trans ?_
  refine (if_neg w_2).trans ?_
  refine (zLet_eq w_3).trans ?_
  refine (if_pos w_4).trans ?_
  refine (zLet_eq w_5).trans ?_
  refine (zLet_eq (zF2_ok l2)).trans ?_
  refine (zLet_eq (zF2_ok l3)).trans ?_
  refine (zLet_eq (zF1_ok l4)).trans ?_
  refine (zLet_eq (show fn87 [ρ 8] (γ 1) = (0, 0, γ 2) from l5.symm)).trans ?_
  refine (zLet_eq (show _ = γ 2 from rfl)).trans ?_
  refine (zLet_eq w_6).trans ?_
  refine (zLet_eq (zF2_ok l6)).trans ?_
  refine (zLet_eq (zF2_ok l7)).trans ?_
  refine (zLet_eq (zF1_ok l8)).trans ?_
  refine (zLet_eq (show fn87 [ρ 12] (γ 2) = (0, 0, γ 3) from l9.symm)).trans ?_
  refine (zLet_eq (show _ = γ 3 from rfl)).trans ?_
  rfl
set_option maxRecDepth 100000 in
theorem vn88_14 {S : Nat → zSpc} (hS87 : ∀ x g o v gz, S 87 x g o v gz → sn87 x g o v gz) {a : List Int} {g : rHp} : ∀ (ρ : Nat → Int) (γ : Nat → rHp), zO 2 S a g q88_14 ρ γ → zGl (fun _ _ _ => True) (sn88 a g) q88_14 ρ γ := by
  intro ρ γ h
  obtain ⟨ha, hg, hr, hf, hm, hc, hl⟩ := h
  have ha : a = [ρ 0, ρ 1] := ha
  subst ha
  subst hg
  obtain ⟨r0, -, -, r3, r4, r5, -⟩ := hr
  have r0 : ((-2147483648) : Int) ≤ ρ 0 ∧ ρ 0 ≤ (-1) := r0
  have r3 : (10 : Int) ≤ ρ 3 ∧ ρ 3 ≤ 2147483648 := r3
  have r4 : (10 : Int) ≤ ρ 4 ∧ ρ 4 ≤ 214748364 := r4
  have r5 : (0 : Int) ≤ ρ 5 ∧ ρ 5 ≤ 9 := r5
  obtain ⟨f0, f1, -, f3, f4, -, f6, f7, -, f9, f10, -, f12, f13, f14, f15, -⟩ := hf
  have f0 : (0 : Int) ≤ ρ 14 + -ρ 2 := f0
  have f1 : (0 : Int) ≤ -ρ 14 + ρ 2 := f1
  have f3 : (0 : Int) ≤ 10 * ρ 10 + -ρ 2 + 9 := f3
  have f4 : (0 : Int) ≤ (-10) * ρ 10 + ρ 2 := f4
  have f6 : (0 : Int) ≤ 100 * ρ 6 + -ρ 2 + 99 := f6
  have f7 : (0 : Int) ≤ (-100) * ρ 6 + ρ 2 := f7
  have f9 : (0 : Int) ≤ 100 * ρ 5 + -ρ 2 + 99 := f9
  have f10 : (0 : Int) ≤ (-100) * ρ 5 + ρ 2 := f10
  have f12 : (0 : Int) ≤ 10 * ρ 4 + -ρ 2 + 9 := f12
  have f13 : (0 : Int) ≤ (-10) * ρ 4 + ρ 2 := f13
  have f14 : (0 : Int) ≤ ρ 3 + -ρ 2 := f14
  have f15 : (0 : Int) ≤ -ρ 3 + ρ 2 := f15
  obtain ⟨w_0, w_1, w_2, w_3, w_4, w_5, w_6, w_7, w_8, w_9⟩ : (¬ (ρ 0 ≥ 0)) ∧ ((ρ 2) / 1 = ρ 3) ∧ (¬ (ρ 3 ≤ 9)) ∧ ((ρ 2) / 10 = ρ 4) ∧ (¬ (ρ 4 ≤ 9)) ∧ ((ρ 2) / 100 = ρ 5) ∧ (ρ 5 ≤ 9) ∧ ((ρ 2) / 100 = ρ 6) ∧ ((ρ 2) / 10 = ρ 10) ∧ ((ρ 2) / 1 = ρ 14) := ⟨by clear r3 r4 r5 f0 f1 f3 f4 f6 f7 f9 f10 f12 f13 f14 f15; omega, by clear r0 r3 r4 r5 f0 f1 f3 f4 f6 f7 f9 f10 f12 f13; omega, by clear r0 r4 r5 f0 f1 f3 f4 f6 f7 f9 f10 f12 f13 f14 f15; omega, by clear r0 r3 r4 r5 f0 f1 f3 f4 f6 f7 f9 f10 f14 f15; omega, by clear r0 r3 r5 f0 f1 f3 f4 f6 f7 f9 f10 f12 f13 f14 f15; omega, by clear r0 r3 r4 r5 f0 f1 f3 f4 f6 f7 f12 f13 f14 f15; omega, by clear r0 r3 r4 f0 f1 f3 f4 f6 f7 f9 f10 f12 f13 f14 f15; omega, by clear r0 r3 r4 r5 f0 f1 f3 f4 f9 f10 f12 f13 f14 f15; omega, by clear r0 r3 r4 r5 f0 f1 f6 f7 f9 f10 f12 f13 f14 f15; omega, by clear r0 r3 r4 r5 f3 f4 f6 f7 f9 f10 f12 f13 f14 f15; omega⟩
  obtain ⟨l0, l1, l2, l3, l4, l5, l6, l7, l8, l9, l10, l11, l12, l13, -⟩ := hl
  have l0 : sn87 [45, ρ 1] (γ 0) 0 0 (γ 1) := hS87 _ _ _ _ _ l0
  have l1 : zOpP (.lneg) (γ 0) (γ 1) [ρ 0] (ρ 2) := l1
  have l2 : zOpP (.lrem) (γ 0) (γ 1) [ρ 6, 10] (ρ 7) := l2
  have l3 : zOpP (.ladd) (γ 0) (γ 1) [48, ρ 7] (ρ 8) := l3
  have l4 : zOpP (.l2i) (γ 0) (γ 1) [ρ 8] (ρ 9) := l4
  have l5 : sn87 [ρ 9, ρ 1 + 1] (γ 1) 0 0 (γ 2) := hS87 _ _ _ _ _ l5
  have l6 : zOpP (.lrem) (γ 0) (γ 1) [ρ 10, 10] (ρ 11) := l6
  have l7 : zOpP (.ladd) (γ 0) (γ 1) [48, ρ 11] (ρ 12) := l7
  have l8 : zOpP (.l2i) (γ 0) (γ 1) [ρ 12] (ρ 13) := l8
  have l9 : sn87 [ρ 13, ρ 1 + 2] (γ 2) 0 0 (γ 3) := hS87 _ _ _ _ _ l9
  have l10 : zOpP (.lrem) (γ 0) (γ 1) [ρ 14, 10] (ρ 15) := l10
  have l11 : zOpP (.ladd) (γ 0) (γ 1) [48, ρ 15] (ρ 16) := l11
  have l12 : zOpP (.l2i) (γ 0) (γ 1) [ρ 16] (ρ 17) := l12
  have l13 : sn87 [ρ 17, ρ 1 + 3] (γ 3) 0 0 (γ 4) := hS87 _ _ _ _ _ l13
  show sn88 [ρ 0, ρ 1] (γ 0) 0 0 (γ 4)
  refine Eq.symm ?_
  show fn88 [ρ 0] (γ 0) = _
  unfold fn88
  refine (zLet_eq (show _ = ρ 0 from rfl)).trans ?_
  refine (if_neg w_0).trans ?_
  refine (zLet_eq (show fn87 [45] (γ 0) = (0, 0, γ 1) from l0.symm)).trans ?_
  refine (zLet_eq (show _ = γ 1 from rfl)).trans ?_
  refine (zLet_eq (zF1_ok l1)).trans ?_
  refine (zLet_eq w_1).trans ?_
  refine (if_neg w_2).trans ?_
  refine (zLet_eq w_3).trans ?_
  refine (if_neg w_4).trans ?_
  refine (zLet_eq w_5).trans ?_
  refine (if_pos w_6).trans ?_
  refine (zLet_eq w_7).trans ?_
  refine (zLet_eq (zF2_ok l2)).trans ?_
  refine (zLet_eq (zF2_ok l3)).trans ?_
  refine (zLet_eq (zF1_ok l4)).trans ?_
  refine (zLet_eq (show fn87 [ρ 9] (γ 1) = (0, 0, γ 2) from l5.symm)).trans ?_
  refine (zLet_eq (show _ = γ 2 from rfl)).trans ?_
  refine (zLet_eq w_8).trans ?_
  refine (zLet_eq (zF2_ok l6)).trans ?_
  refine (zLet_eq (zF2_ok l7)).trans ?_
  refine (zLet_eq (zF1_ok l8)).trans ?_
  refine (zLet_eq (show fn87 [ρ 13] (γ 2) = (0, 0, γ 3) from l9.symm)).trans ?_
  refine (zLet_eq (show _ = γ 3 from rfl)).trans ?_
  refine (zLet_eq w_9).trans ?_
  refine (zLet_eq (zF2_ok l10)).trans ?_
  refine (zLet_eq (zF2_ok l11)).trans ?_
  refine (zLet_eq (zF1_ok l12)).trans ?_
  refine (zLet_eq (show fn87 [ρ 17] (γ 3) = (0, 0, γ 4) from l13.symm)).trans ?_
  refine (zLet_eq (show _ = γ 4 from rfl)).trans ?_
  rfl
set_option maxRecDepth 100000 in
theorem vn88_15 {S : Nat → zSpc} (hS87 : ∀ x g o v gz, S 87 x g o v gz → sn87 x g o v gz) {a : List Int} {g : rHp} : ∀ (ρ : Nat → Int) (γ : Nat → rHp), zO 2 S a g q88_15 ρ γ → zGl (fun _ _ _ => True) (sn88 a g) q88_15 ρ γ := by
  intro ρ γ h
  obtain ⟨ha, hg, hr, hf, hm, hc, hl⟩ := h
  have ha : a = [ρ 0, ρ 1] := ha
  subst ha
  subst hg
  obtain ⟨r0, -, -, r3, r4, r5, r6, -⟩ := hr
  have r0 : ((-2147483648) : Int) ≤ ρ 0 ∧ ρ 0 ≤ (-1) := r0
  have r3 : (10 : Int) ≤ ρ 3 ∧ ρ 3 ≤ 2147483648 := r3
  have r4 : (10 : Int) ≤ ρ 4 ∧ ρ 4 ≤ 214748364 := r4
  have r5 : (10 : Int) ≤ ρ 5 ∧ ρ 5 ≤ 21474836 := r5
  have r6 : (0 : Int) ≤ ρ 6 ∧ ρ 6 ≤ 9 := r6
  obtain ⟨f0, f1, -, f3, f4, -, f6, f7, -, f9, f10, -, f12, f13, -, f15, f16, -, f18, f19, f20, f21, -⟩ := hf
  have f0 : (0 : Int) ≤ ρ 19 + -ρ 2 := f0
  have f1 : (0 : Int) ≤ -ρ 19 + ρ 2 := f1
  have f3 : (0 : Int) ≤ 10 * ρ 15 + -ρ 2 + 9 := f3
  have f4 : (0 : Int) ≤ (-10) * ρ 15 + ρ 2 := f4
  have f6 : (0 : Int) ≤ 100 * ρ 11 + -ρ 2 + 99 := f6
  have f7 : (0 : Int) ≤ (-100) * ρ 11 + ρ 2 := f7
  have f9 : (0 : Int) ≤ 1000 * ρ 7 + -ρ 2 + 999 := f9
  have f10 : (0 : Int) ≤ (-1000) * ρ 7 + ρ 2 := f10
  have f12 : (0 : Int) ≤ 1000 * ρ 6 + -ρ 2 + 999 := f12
  have f13 : (0 : Int) ≤ (-1000) * ρ 6 + ρ 2 := f13
  have f15 : (0 : Int) ≤ 100 * ρ 5 + -ρ 2 + 99 := f15
  have f16 : (0 : Int) ≤ (-100) * ρ 5 + ρ 2 := f16
  have f18 : (0 : Int) ≤ 10 * ρ 4 + -ρ 2 + 9 := f18
  have f19 : (0 : Int) ≤ (-10) * ρ 4 + ρ 2 := f19
  have f20 : (0 : Int) ≤ ρ 3 + -ρ 2 := f20
  have f21 : (0 : Int) ≤ -ρ 3 + ρ 2 := f21
  obtain ⟨w_0, w_1, w_2, w_3, w_4, w_5, w_6, w_7, w_8, w_9, w_10, w_11, w_12⟩ : (¬ (ρ 0 ≥ 0)) ∧ ((ρ 2) / 1 = ρ 3) ∧ (¬ (ρ 3 ≤ 9)) ∧ ((ρ 2) / 10 = ρ 4) ∧ (¬ (ρ 4 ≤ 9)) ∧ ((ρ 2) / 100 = ρ 5) ∧ (¬ (ρ 5 ≤ 9)) ∧ ((ρ 2) / 1000 = ρ 6) ∧ (ρ 6 ≤ 9) ∧ ((ρ 2) / 1000 = ρ 7) ∧ ((ρ 2) / 100 = ρ 11) ∧ ((ρ 2) / 10 = ρ 15) ∧ ((ρ 2) / 1 = ρ 19) := ⟨by clear r3 r4 r5 r6 f0 f1 f3 f4 f6 f7 f9 f10 f12 f13 f15 f16 f18 f19 f20 f21; omega, by clear r0 r3 r4 r5 r6 f0 f1 f3 f4 f6 f7 f9 f10 f12 f13 f15 f16 f18 f19; omega, by clear r0 r4 r5 r6 f0 f1 f3 f4 f6 f7 f9 f10 f12 f13 f15 f16 f18 f19 f20 f21; omega, by clear r0 r3 r4 r5 r6 f0 f1 f3 f4 f6 f7 f9 f10 f12 f13 f15 f16 f20 f21; omega, by clear r0 r3 r5 r6 f0 f1 f3 f4 f6 f7 f9 f10 f12 f13 f15 f16 f18 f19 f20 f21; omega, by clear r0 r3 r4 r5 r6 f0 f1 f3 f4 f6 f7 f9 f10 f12 f13 f18 f19 f20 f21; omega, by clear r0 r3 r4 r6 f0 f1 f3 f4 f6 f7 f9 f10 f12 f13 f15 f16 f18 f19 f20 f21; omega, by clear r0 r3 r4 r5 r6 f0 f1 f3 f4 f6 f7 f9 f10 f15 f16 f18 f19 f20 f21; omega, by clear r0 r3 r4 r5 f0 f1 f3 f4 f6 f7 f9 f10 f12 f13 f15 f16 f18 f19 f20 f21; omega, by clear r0 r3 r4 r5 r6 f0 f1 f3 f4 f6 f7 f12 f13 f15 f16 f18 f19 f20 f21; omega, by clear r0 r3 r4 r5 r6 f0 f1 f3 f4 f9 f10 f12 f13 f15 f16 f18 f19 f20 f21; omega, by clear r0 r3 r4 r5 r6 f0 f1 f6 f7 f9 f10 f12 f13 f15 f16 f18 f19 f20 f21; omega, by clear r0 r3 r4 r5 r6 f3 f4 f6 f7 f9 f10 f12 f13 f15 f16 f18 f19 f20 f21; omega⟩
  obtain ⟨l0, l1, l2, l3, l4, l5, l6, l7, l8, l9, l10, l11, l12, l13, l14, l15, l16, l17, -⟩ := hl
  have l0 : sn87 [45, ρ 1] (γ 0) 0 0 (γ 1) := hS87 _ _ _ _ _ l0
  have l1 : zOpP (.lneg) (γ 0) (γ 1) [ρ 0] (ρ 2) := l1
  have l2 : zOpP (.lrem) (γ 0) (γ 1) [ρ 7, 10] (ρ 8) := l2
  have l3 : zOpP (.ladd) (γ 0) (γ 1) [48, ρ 8] (ρ 9) := l3
  have l4 : zOpP (.l2i) (γ 0) (γ 1) [ρ 9] (ρ 10) := l4
  have l5 : sn87 [ρ 10, ρ 1 + 1] (γ 1) 0 0 (γ 2) := hS87 _ _ _ _ _ l5
  have l6 : zOpP (.lrem) (γ 0) (γ 1) [ρ 11, 10] (ρ 12) := l6
  have l7 : zOpP (.ladd) (γ 0) (γ 1) [48, ρ 12] (ρ 13) := l7
  have l8 : zOpP (.l2i) (γ 0) (γ 1) [ρ 13] (ρ 14) := l8
  have l9 : sn87 [ρ 14, ρ 1 + 2] (γ 2) 0 0 (γ 3) := hS87 _ _ _ _ _ l9
  have l10 : zOpP (.lrem) (γ 0) (γ 1) [ρ 15, 10] (ρ 16) := l10
  have l11 : zOpP (.ladd) (γ 0) (γ 1) [48, ρ 16] (ρ 17) := l11
  have l12 : zOpP (.l2i) (γ 0) (γ 1) [ρ 17] (ρ 18) := l12
  have l13 : sn87 [ρ 18, ρ 1 + 3] (γ 3) 0 0 (γ 4) := hS87 _ _ _ _ _ l13
  have l14 : zOpP (.lrem) (γ 0) (γ 1) [ρ 19, 10] (ρ 20) := l14
  have l15 : zOpP (.ladd) (γ 0) (γ 1) [48, ρ 20] (ρ 21) := l15
  have l16 : zOpP (.l2i) (γ 0) (γ 1) [ρ 21] (ρ 22) := l16
  have l17 : sn87 [ρ 22, ρ 1 + 4] (γ 4) 0 0 (γ 5) := hS87 _ _ _ _ _ l17
  show sn88 [ρ 0, ρ 1] (γ 0) 0 0 (γ 5)
  refine Eq.symm ?_
  show fn88 [ρ 0] (γ 0) = _
  unfold fn88
  refine (zLet_eq (show _ = ρ 0 from rfl)).trans ?_
  refine (if_neg w_0).trans ?_
  refine (zLet_eq (show fn87 [45] (γ 0) = (0, 0, γ 1) from l0.symm)).trans ?_
  refine (zLet_eq (show _ = γ 1 from rfl)).trans ?_
  refine (zLet_eq (zF1_ok l1)).trans ?_
  refine (zLet_eq w_1).trans ?_
  refine (if_neg w_2).trans ?_
  refine (zLet_eq w_3).trans ?_
  refine (if_neg w_4).trans ?_
  refine (zLet_eq w_5).trans ?_
  refine (if_neg w_6).trans ?_
  refine (zLet_eq w_7).trans ?_
  refine (if_pos w_8).trans ?_
  refine (zLet_eq w_9).trans ?_
  refine (zLet_eq (zF2_ok l2)).trans ?_
  refine (zLet_eq (zF2_ok l3)).trans ?_
  refine (zLet_eq (zF1_ok l4)).trans ?_
  refine (zLet_eq (show fn87 [ρ 10] (γ 1) = (0, 0, γ 2) from l5.symm)).trans ?_
  refine (zLet_eq (show _ = γ 2 from rfl)).trans ?_
  refine (zLet_eq w_10).trans ?_
  refine (zLet_eq (zF2_ok l6)).trans ?_
  refine (zLet_eq (zF2_ok l7)).trans ?_
  refine (zLet_eq (zF1_ok l8)).trans ?_
  refine (zLet_eq (show fn87 [ρ 14] (γ 2) = (0, 0, γ 3) from l9.symm)).trans ?_
  refine (zLet_eq (show _ = γ 3 from rfl)).trans ?_
  refine (zLet_eq w_11).trans ?_
  refine (zLet_eq (zF2_ok l10)).trans ?_
  refine (zLet_eq (zF2_ok l11)).trans ?_
  refine (zLet_eq (zF1_ok l12)).trans ?_
  refine (zLet_eq (show fn87 [ρ 18] (γ 3) = (0, 0, γ 4) from l13.symm)).trans ?_
  refine (zLet_eq (show _ = γ 4 from rfl)).trans ?_
  refine (zLet_eq w_12).trans ?_
  refine (zLet_eq (zF2_ok l14)).trans ?_
  refine (zLet_eq (zF2_ok l15)).trans ?_
  refine (zLet_eq (zF1_ok l16)).trans ?_
  refine (zLet_eq (show fn87 [ρ 22] (γ 4) = (0, 0, γ 5) from l17.symm)).trans ?_
  refine (zLet_eq (show _ = γ 5 from rfl)).trans ?_
  rfl
set_option maxRecDepth 100000 in
theorem vn88_16 {S : Nat → zSpc} (hS87 : ∀ x g o v gz, S 87 x g o v gz → sn87 x g o v gz) {a : List Int} {g : rHp} : ∀ (ρ : Nat → Int) (γ : Nat → rHp), zO 2 S a g q88_16 ρ γ → zGl (fun _ _ _ => True) (sn88 a g) q88_16 ρ γ := by
  intro ρ γ h
  obtain ⟨ha, hg, hr, hf, hm, hc, hl⟩ := h
  have ha : a = [ρ 0, ρ 1] := ha
  subst ha
  subst hg
  obtain ⟨r0, -, -, r3, r4, r5, r6, r7, -⟩ := hr
  have r0 : ((-2147483648) : Int) ≤ ρ 0 ∧ ρ 0 ≤ (-1) := r0
  have r3 : (10 : Int) ≤ ρ 3 ∧ ρ 3 ≤ 2147483648 := r3
  have r4 : (10 : Int) ≤ ρ 4 ∧ ρ 4 ≤ 214748364 := r4
  have r5 : (10 : Int) ≤ ρ 5 ∧ ρ 5 ≤ 21474836 := r5
  have r6 : (10 : Int) ≤ ρ 6 ∧ ρ 6 ≤ 2147483 := r6
  have r7 : (0 : Int) ≤ ρ 7 ∧ ρ 7 ≤ 9 := r7
  obtain ⟨f0, f1, -, f3, f4, -, f6, f7, -, f9, f10, -, f12, f13, -, f15, f16, -, f18, f19, -, f21, f22, -, f24, f25, f26, f27, -⟩ := hf
  have f0 : (0 : Int) ≤ ρ 24 + -ρ 2 := f0
  have f1 : (0 : Int) ≤ -ρ 24 + ρ 2 := f1
  have f3 : (0 : Int) ≤ 10 * ρ 20 + -ρ 2 + 9 := f3
  have f4 : (0 : Int) ≤ (-10) * ρ 20 + ρ 2 := f4
  have f6 : (0 : Int) ≤ 100 * ρ 16 + -ρ 2 + 99 := f6
  have f7 : (0 : Int) ≤ (-100) * ρ 16 + ρ 2 := f7
  have f9 : (0 : Int) ≤ 1000 * ρ 12 + -ρ 2 + 999 := f9
  have f10 : (0 : Int) ≤ (-1000) * ρ 12 + ρ 2 := f10
  have f12 : (0 : Int) ≤ 10000 * ρ 8 + -ρ 2 + 9999 := f12
  have f13 : (0 : Int) ≤ (-10000) * ρ 8 + ρ 2 := f13
  have f15 : (0 : Int) ≤ 10000 * ρ 7 + -ρ 2 + 9999 := f15
  have f16 : (0 : Int) ≤ (-10000) * ρ 7 + ρ 2 := f16
  have f18 : (0 : Int) ≤ 1000 * ρ 6 + -ρ 2 + 999 := f18
  have f19 : (0 : Int) ≤ (-1000) * ρ 6 + ρ 2 := f19
  have f21 : (0 : Int) ≤ 100 * ρ 5 + -ρ 2 + 99 := f21
  have f22 : (0 : Int) ≤ (-100) * ρ 5 + ρ 2 := f22
  have f24 : (0 : Int) ≤ 10 * ρ 4 + -ρ 2 + 9 := f24
  have f25 : (0 : Int) ≤ (-10) * ρ 4 + ρ 2 := f25
  have f26 : (0 : Int) ≤ ρ 3 + -ρ 2 := f26
  have f27 : (0 : Int) ≤ -ρ 3 + ρ 2 := f27
  obtain ⟨w_0, w_1, w_2, w_3, w_4, w_5, w_6, w_7, w_8, w_9, w_10, w_11, w_12, w_13, w_14, w_15⟩ : (¬ (ρ 0 ≥ 0)) ∧ ((ρ 2) / 1 = ρ 3) ∧ (¬ (ρ 3 ≤ 9)) ∧ ((ρ 2) / 10 = ρ 4) ∧ (¬ (ρ 4 ≤ 9)) ∧ ((ρ 2) / 100 = ρ 5) ∧ (¬ (ρ 5 ≤ 9)) ∧ ((ρ 2) / 1000 = ρ 6) ∧ (¬ (ρ 6 ≤ 9)) ∧ ((ρ 2) / 10000 = ρ 7) ∧ (ρ 7 ≤ 9) ∧ ((ρ 2) / 10000 = ρ 8) ∧ ((ρ 2) / 1000 = ρ 12) ∧ ((ρ 2) / 100 = ρ 16) ∧ ((ρ 2) / 10 = ρ 20) ∧ ((ρ 2) / 1 = ρ 24) := ⟨by clear r3 r4 r5 r6 r7 f0 f1 f3 f4 f6 f7 f9 f10 f12 f13 f15 f16 f18 f19 f21 f22 f24 f25 f26 f27; omega, by clear r0 r3 r4 r5 r6 r7 f0 f1 f3 f4 f6 f7 f9 f10 f12 f13 f15 f16 f18 f19 f21 f22 f24 f25; omega, by clear r0 r4 r5 r6 r7 f0 f1 f3 f4 f6 f7 f9 f10 f12 f13 f15 f16 f18 f19 f21 f22 f24 f25 f26 f27; omega, by clear r0 r3 r4 r5 r6 r7 f0 f1 f3 f4 f6 f7 f9 f10 f12 f13 f15 f16 f18 f19 f21 f22 f26 f27; omega, by clear r0 r3 r5 r6 r7 f0 f1 f3 f4 f6 f7 f9 f10 f12 f13 f15 f16 f18 f19 f21 f22 f24 f25 f26 f27; omega, by clear r0 r3 r4 r5 r6 r7 f0 f1 f3 f4 f6 f7 f9 f10 f12 f13 f15 f16 f18 f19 f24 f25 f26 f27; omega, by clear r0 r3 r4 r6 r7 f0 f1 f3 f4 f6 f7 f9 f10 f12 f13 f15 f16 f18 f19 f21 f22 f24 f25 f26 f27; omega, by clear r0 r3 r4 r5 r6 r7 f0 f1 f3 f4 f6 f7 f9 f10 f12 f13 f15 f16 f21 f22 f24 f25 f26 f27; omega, by clear r0 r3 r4 r5 r7 f0 f1 f3 f4 f6 f7 f9 f10 f12 f13 f15 f16 f18 f19 f21 f22 f24 f25 f26 f27; omega, by clear r0 r3 r4 r5 r6 r7 f0 f1 f3 f4 f6 f7 f9 f10 f12 f13 f18 f19 f21 f22 f24 f25 f26 f27; omega, by clear r0 r3 r4 r5 r6 f0 f1 f3 f4 f6 f7 f9 f10 f12 f13 f15 f16 f18 f19 f21 f22 f24 f25 f26 f27; omega, by clear r0 r3 r4 r5 r6 r7 f0 f1 f3 f4 f6 f7 f9 f10 f15 f16 f18 f19 f21 f22 f24 f25 f26 f27; omega, by clear r0 r3 r4 r5 r6 r7 f0 f1 f3 f4 f6 f7 f12 f13 f15 f16 f18 f19 f21 f22 f24 f25 f26 f27; omega, by clear r0 r3 r4 r5 r6 r7 f0 f1 f3 f4 f9 f10 f12 f13 f15 f16 f18 f19 f21 f22 f24 f25 f26 f27; omega, by clear r0 r3 r4 r5 r6 r7 f0 f1 f6 f7 f9 f10 f12 f13 f15 f16 f18 f19 f21 f22 f24 f25 f26 f27; omega, by clear r0 r3 r4 r5 r6 r7 f3 f4 f6 f7 f9 f10 f12 f13 f15 f16 f18 f19 f21 f22 f24 f25 f26 f27; omega⟩
  obtain ⟨l0, l1, l2, l3, l4, l5, l6, l7, l8, l9, l10, l11, l12, l13, l14, l15, l16, l17, l18, l19, l20, l21, -⟩ := hl
  have l0 : sn87 [45, ρ 1] (γ 0) 0 0 (γ 1) := hS87 _ _ _ _ _ l0
  have l1 : zOpP (.lneg) (γ 0) (γ 1) [ρ 0] (ρ 2) := l1
  have l2 : zOpP (.lrem) (γ 0) (γ 1) [ρ 8, 10] (ρ 9) := l2
  have l3 : zOpP (.ladd) (γ 0) (γ 1) [48, ρ 9] (ρ 10) := l3
  have l4 : zOpP (.l2i) (γ 0) (γ 1) [ρ 10] (ρ 11) := l4
  have l5 : sn87 [ρ 11, ρ 1 + 1] (γ 1) 0 0 (γ 2) := hS87 _ _ _ _ _ l5
  have l6 : zOpP (.lrem) (γ 0) (γ 1) [ρ 12, 10] (ρ 13) := l6
  have l7 : zOpP (.ladd) (γ 0) (γ 1) [48, ρ 13] (ρ 14) := l7
  have l8 : zOpP (.l2i) (γ 0) (γ 1) [ρ 14] (ρ 15) := l8
  have l9 : sn87 [ρ 15, ρ 1 + 2] (γ 2) 0 0 (γ 3) := hS87 _ _ _ _ _ l9
  have l10 : zOpP (.lrem) (γ 0) (γ 1) [ρ 16, 10] (ρ 17) := l10
  have l11 : zOpP (.ladd) (γ 0) (γ 1) [48, ρ 17] (ρ 18) := l11
  have l12 : zOpP (.l2i) (γ 0) (γ 1) [ρ 18] (ρ 19) := l12
  have l13 : sn87 [ρ 19, ρ 1 + 3] (γ 3) 0 0 (γ 4) := hS87 _ _ _ _ _ l13
  have l14 : zOpP (.lrem) (γ 0) (γ 1) [ρ 20, 10] (ρ 21) := l14
  have l15 : zOpP (.ladd) (γ 0) (γ 1) [48, ρ 21] (ρ 22) := l15
  have l16 : zOpP (.l2i) (γ 0) (γ 1) [ρ 22] (ρ 23) := l16
  have l17 : sn87 [ρ 23, ρ 1 + 4] (γ 4) 0 0 (γ 5) := hS87 _ _ _ _ _ l17
  have l18 : zOpP (.lrem) (γ 0) (γ 1) [ρ 24, 10] (ρ 25) := l18
  have l19 : zOpP (.ladd) (γ 0) (γ 1) [48, ρ 25] (ρ 26) := l19
  have l20 : zOpP (.l2i) (γ 0) (γ 1) [ρ 26] (ρ 27) := l20
  have l21 : sn87 [ρ 27, ρ 1 + 5] (γ 5) 0 0 (γ 6) := hS87 _ _ _ _ _ l21
  show sn88 [ρ 0, ρ 1] (γ 0) 0 0 (γ 6)
  refine Eq.symm ?_
  show fn88 [ρ 0] (γ 0) = _
  unfold fn88
  refine (zLet_eq (show _ = ρ 0 from rfl)).trans ?_
  refine (if_neg w_0).trans ?_
  refine (zLet_eq (show fn87 [45] (γ 0) = (0, 0, γ 1) from l0.symm)).trans ?_
  refine (zLet_eq (show _ = γ 1 from rfl)).trans ?_
  refine (zLet_eq (zF1_ok l1)).trans ?_
  refine (zLet_eq w_1).trans ?_
  refine (if_neg w_2).trans ?_
  refine (zLet_eq w_3).trans ?_
  refine (if_neg w_4).trans ?_
  refine (zLet_eq w_5).trans ?_
  refine (if_neg w_6).trans ?_
  refine (zLet_eq w_7).trans ?_
  refine (if_neg w_8).trans ?_
  refine (zLet_eq w_9).trans ?_
  refine (if_pos w_10).trans ?_
  refine (zLet_eq w_11).trans ?_
  refine (zLet_eq (zF2_ok l2)).trans ?_
  refine (zLet_eq (zF2_ok l3)).trans ?_
  refine (zLet_eq (zF1_ok l4)).trans ?_
  refine (zLet_eq (show fn87 [ρ 11] (γ 1) = (0, 0, γ 2) from l5.symm)).trans ?_
  refine (zLet_eq (show _ = γ 2 from rfl)).trans ?_
  refine (zLet_eq w_12).trans ?_
  refine (zLet_eq (zF2_ok l6)).trans ?_
  refine (zLet_eq (zF2_ok l7)).trans ?_
  refine (zLet_eq (zF1_ok l8)).trans ?_
  refine (zLet_eq (show fn87 [ρ 15] (γ 2) = (0, 0, γ 3) from l9.symm)).trans ?_
  refine (zLet_eq (show _ = γ 3 from rfl)).trans ?_
  refine (zLet_eq w_13).trans ?_
  refine (zLet_eq (zF2_ok l10)).trans ?_
  refine (zLet_eq (zF2_ok l11)).trans ?_
  refine (zLet_eq (zF1_ok l12)).trans ?_
  refine (zLet_eq (show fn87 [ρ 19] (γ 3) = (0, 0, γ 4) from l13.symm)).trans ?_
  refine (zLet_eq (show _ = γ 4 from rfl)).trans ?_
  refine (zLet_eq w_14).trans ?_
  refine (zLet_eq (zF2_ok l14)).trans ?_
  refine (zLet_eq (zF2_ok l15)).trans ?_
  refine (zLet_eq (zF1_ok l16)).trans ?_
  refine (zLet_eq (show fn87 [ρ 23] (γ 4) = (0, 0, γ 5) from l17.symm)).trans ?_
  refine (zLet_eq (show _ = γ 5 from rfl)).trans ?_
  refine (zLet_eq w_15).trans ?_
  refine (zLet_eq (zF2_ok l18)).trans ?_
  refine (zLet_eq (zF2_ok l19)).trans ?_
  refine (zLet_eq (zF1_ok l20)).trans ?_
  refine (zLet_eq (show fn87 [ρ 27] (γ 5) = (0, 0, γ 6) from l21.symm)).trans ?_
  refine (zLet_eq (show _ = γ 6 from rfl)).trans ?_
  rfl
set_option maxRecDepth 100000 in
theorem vn88_17 {S : Nat → zSpc} (hS87 : ∀ x g o v gz, S 87 x g o v gz → sn87 x g o v gz) {a : List Int} {g : rHp} : ∀ (ρ : Nat → Int) (γ : Nat → rHp), zO 2 S a g q88_17 ρ γ → zGl (fun _ _ _ => True) (sn88 a g) q88_17 ρ γ := by
  intro ρ γ h
  obtain ⟨ha, hg, hr, hf, hm, hc, hl⟩ := h
  have ha : a = [ρ 0, ρ 1] := ha
  subst ha
  subst hg
  obtain ⟨r0, -, -, r3, r4, r5, r6, r7, r8, -⟩ := hr
  have r0 : ((-2147483648) : Int) ≤ ρ 0 ∧ ρ 0 ≤ (-1) := r0
  have r3 : (10 : Int) ≤ ρ 3 ∧ ρ 3 ≤ 2147483648 := r3
  have r4 : (10 : Int) ≤ ρ 4 ∧ ρ 4 ≤ 214748364 := r4
  have r5 : (10 : Int) ≤ ρ 5 ∧ ρ 5 ≤ 21474836 := r5
  have r6 : (10 : Int) ≤ ρ 6 ∧ ρ 6 ≤ 2147483 := r6
  have r7 : (10 : Int) ≤ ρ 7 ∧ ρ 7 ≤ 214748 := r7
  have r8 : (0 : Int) ≤ ρ 8 ∧ ρ 8 ≤ 9 := r8
  obtain ⟨f0, f1, -, f3, f4, -, f6, f7, -, f9, f10, -, f12, f13, -, f15, f16, -, f18, f19, -, f21, f22, -, f24, f25, -, f27, f28, -, f30, f31, f32, f33, -⟩ := hf
  have f0 : (0 : Int) ≤ ρ 29 + -ρ 2 := f0
  have f1 : (0 : Int) ≤ -ρ 29 + ρ 2 := f1
  have f3 : (0 : Int) ≤ 10 * ρ 25 + -ρ 2 + 9 := f3
  have f4 : (0 : Int) ≤ (-10) * ρ 25 + ρ 2 := f4
  have f6 : (0 : Int) ≤ 100 * ρ 21 + -ρ 2 + 99 := f6
  have f7 : (0 : Int) ≤ (-100) * ρ 21 + ρ 2 := f7
  have f9 : (0 : Int) ≤ 1000 * ρ 17 + -ρ 2 + 999 := f9
  have f10 : (0 : Int) ≤ (-1000) * ρ 17 + ρ 2 := f10
  have f12 : (0 : Int) ≤ 10000 * ρ 13 + -ρ 2 + 9999 := f12
  have f13 : (0 : Int) ≤ (-10000) * ρ 13 + ρ 2 := f13
  have f15 : (0 : Int) ≤ 100000 * ρ 9 + -ρ 2 + 99999 := f15
  have f16 : (0 : Int) ≤ (-100000) * ρ 9 + ρ 2 := f16
  have f18 : (0 : Int) ≤ 100000 * ρ 8 + -ρ 2 + 99999 := f18
  have f19 : (0 : Int) ≤ (-100000) * ρ 8 + ρ 2 := f19
  have f21 : (0 : Int) ≤ 10000 * ρ 7 + -ρ 2 + 9999 := f21
  have f22 : (0 : Int) ≤ (-10000) * ρ 7 + ρ 2 := f22
  have f24 : (0 : Int) ≤ 1000 * ρ 6 + -ρ 2 + 999 := f24
  have f25 : (0 : Int) ≤ (-1000) * ρ 6 + ρ 2 := f25
  have f27 : (0 : Int) ≤ 100 * ρ 5 + -ρ 2 + 99 := f27
  have f28 : (0 : Int) ≤ (-100) * ρ 5 + ρ 2 := f28
  have f30 : (0 : Int) ≤ 10 * ρ 4 + -ρ 2 + 9 := f30
  have f31 : (0 : Int) ≤ (-10) * ρ 4 + ρ 2 := f31
  have f32 : (0 : Int) ≤ ρ 3 + -ρ 2 := f32
  have f33 : (0 : Int) ≤ -ρ 3 + ρ 2 := f33
  obtain ⟨w_0, w_1, w_2, w_3, w_4, w_5, w_6, w_7, w_8, w_9, w_10, w_11, w_12, w_13, w_14, w_15, w_16, w_17, w_18⟩ : (¬ (ρ 0 ≥ 0)) ∧ ((ρ 2) / 1 = ρ 3) ∧ (¬ (ρ 3 ≤ 9)) ∧ ((ρ 2) / 10 = ρ 4) ∧ (¬ (ρ 4 ≤ 9)) ∧ ((ρ 2) / 100 = ρ 5) ∧ (¬ (ρ 5 ≤ 9)) ∧ ((ρ 2) / 1000 = ρ 6) ∧ (¬ (ρ 6 ≤ 9)) ∧ ((ρ 2) / 10000 = ρ 7) ∧ (¬ (ρ 7 ≤ 9)) ∧ ((ρ 2) / 100000 = ρ 8) ∧ (ρ 8 ≤ 9) ∧ ((ρ 2) / 100000 = ρ 9) ∧ ((ρ 2) / 10000 = ρ 13) ∧ ((ρ 2) / 1000 = ρ 17) ∧ ((ρ 2) / 100 = ρ 21) ∧ ((ρ 2) / 10 = ρ 25) ∧ ((ρ 2) / 1 = ρ 29) := ⟨by clear r3 r4 r5 r6 r7 r8 f0 f1 f3 f4 f6 f7 f9 f10 f12 f13 f15 f16 f18 f19 f21 f22 f24 f25 f27 f28 f30 f31 f32 f33; omega, by clear r0 r3 r4 r5 r6 r7 r8 f0 f1 f3 f4 f6 f7 f9 f10 f12 f13 f15 f16 f18 f19 f21 f22 f24 f25 f27 f28 f30 f31; omega, by clear r0 r4 r5 r6 r7 r8 f0 f1 f3 f4 f6 f7 f9 f10 f12 f13 f15 f16 f18 f19 f21 f22 f24 f25 f27 f28 f30 f31 f32 f33; omega, by clear r0 r3 r4 r5 r6 r7 r8 f0 f1 f3 f4 f6 f7 f9 f10 f12 f13 f15 f16 f18 f19 f21 f22 f24 f25 f27 f28 f32 f33; omega, by clear r0 r3 r5 r6 r7 r8 f0 f1 f3 f4 f6 f7 f9 f10 f12 f13 f15 f16 f18 f19 f21 f22 f24 f25 f27 f28 f30 f31 f32 f33; omega, by clear r0 r3 r4 r5 r6 r7 r8 f0 f1 f3 f4 f6 f7 f9 f10 f12 f13 f15 f16 f18 f19 f21 f22 f24 f25 f30 f31 f32 f33; omega, by clear r0 r3 r4 r6 r7 r8 f0 f1 f3 f4 f6 f7 f9 f10 f12 f13 f15 f16 f18 f19 f21 f22 f24 f25 f27 f28 f30 f31 f32 f33; omega, by clear r0 r3 r4 r5 r6 r7 r8 f0 f1 f3 f4 f6 f7 f9 f10 f12 f13 f15 f16 f18 f19 f21 f22 f27 f28 f30 f31 f32 f33; omega, by clear r0 r3 r4 r5 r7 r8 f0 f1 f3 f4 f6 f7 f9 f10 f12 f13 f15 f16 f18 f19 f21 f22 f24 f25 f27 f28 f30 f31 f32 f33; omega, by clear r0 r3 r4 r5 r6 r7 r8 f0 f1 f3 f4 f6 f7 f9 f10 f12 f13 f15 f16 f18 f19 f24 f25 f27 f28 f30 f31 f32 f33; omega, by clear r0 r3 r4 r5 r6 r8 f0 f1 f3 f4 f6 f7 f9 f10 f12 f13 f15 f16 f18 f19 f21 f22 f24 f25 f27 f28 f30 f31 f32 f33; omega, by clear r0 r3 r4 r5 r6 r7 r8 f0 f1 f3 f4 f6 f7 f9 f10 f12 f13 f15 f16 f21 f22 f24 f25 f27 f28 f30 f31 f32 f33; omega, by clear r0 r3 r4 r5 r6 r7 f0 f1 f3 f4 f6 f7 f9 f10 f12 f13 f15 f16 f18 f19 f21 f22 f24 f25 f27 f28 f30 f31 f32 f33; omega, by clear r0 r3 r4 r5 r6 r7 r8 f0 f1 f3 f4 f6 f7 f9 f10 f12 f13 f18 f19 f21 f22 f24 f25 f27 f28 f30 f31 f32 f33; omega, by clear r0 r3 r4 r5 r6 r7 r8 f0 f1 f3 f4 f6 f7 f9 f10 f15 f16 f18 f19 f21 f22 f24 f25 f27 f28 f30 f31 f32 f33; omega, by clear r0 r3 r4 r5 r6 r7 r8 f0 f1 f3 f4 f6 f7 f12 f13 f15 f16 f18 f19 f21 f22 f24 f25 f27 f28 f30 f31 f32 f33; omega, by clear r0 r3 r4 r5 r6 r7 r8 f0 f1 f3 f4 f9 f10 f12 f13 f15 f16 f18 f19 f21 f22 f24 f25 f27 f28 f30 f31 f32 f33; omega, by clear r0 r3 r4 r5 r6 r7 r8 f0 f1 f6 f7 f9 f10 f12 f13 f15 f16 f18 f19 f21 f22 f24 f25 f27 f28 f30 f31 f32 f33; omega, by clear r0 r3 r4 r5 r6 r7 r8 f3 f4 f6 f7 f9 f10 f12 f13 f15 f16 f18 f19 f21 f22 f24 f25 f27 f28 f30 f31 f32 f33; omega⟩
  obtain ⟨l0, l1, l2, l3, l4, l5, l6, l7, l8, l9, l10, l11, l12, l13, l14, l15, l16, l17, l18, l19, l20, l21, l22, l23, l24, l25, -⟩ := hl
  have l0 : sn87 [45, ρ 1] (γ 0) 0 0 (γ 1) := hS87 _ _ _ _ _ l0
  have l1 : zOpP (.lneg) (γ 0) (γ 1) [ρ 0] (ρ 2) := l1
  have l2 : zOpP (.lrem) (γ 0) (γ 1) [ρ 9, 10] (ρ 10) := l2
  have l3 : zOpP (.ladd) (γ 0) (γ 1) [48, ρ 10] (ρ 11) := l3
  have l4 : zOpP (.l2i) (γ 0) (γ 1) [ρ 11] (ρ 12) := l4
  have l5 : sn87 [ρ 12, ρ 1 + 1] (γ 1) 0 0 (γ 2) := hS87 _ _ _ _ _ l5
  have l6 : zOpP (.lrem) (γ 0) (γ 1) [ρ 13, 10] (ρ 14) := l6
  have l7 : zOpP (.ladd) (γ 0) (γ 1) [48, ρ 14] (ρ 15) := l7
  have l8 : zOpP (.l2i) (γ 0) (γ 1) [ρ 15] (ρ 16) := l8
  have l9 : sn87 [ρ 16, ρ 1 + 2] (γ 2) 0 0 (γ 3) := hS87 _ _ _ _ _ l9
  have l10 : zOpP (.lrem) (γ 0) (γ 1) [ρ 17, 10] (ρ 18) := l10
  have l11 : zOpP (.ladd) (γ 0) (γ 1) [48, ρ 18] (ρ 19) := l11
  have l12 : zOpP (.l2i) (γ 0) (γ 1) [ρ 19] (ρ 20) := l12
  have l13 : sn87 [ρ 20, ρ 1 + 3] (γ 3) 0 0 (γ 4) := hS87 _ _ _ _ _ l13
  have l14 : zOpP (.lrem) (γ 0) (γ 1) [ρ 21, 10] (ρ 22) := l14
  have l15 : zOpP (.ladd) (γ 0) (γ 1) [48, ρ 22] (ρ 23) := l15
  have l16 : zOpP (.l2i) (γ 0) (γ 1) [ρ 23] (ρ 24) := l16
  have l17 : sn87 [ρ 24, ρ 1 + 4] (γ 4) 0 0 (γ 5) := hS87 _ _ _ _ _ l17
  have l18 : zOpP (.lrem) (γ 0) (γ 1) [ρ 25, 10] (ρ 26) := l18
  have l19 : zOpP (.ladd) (γ 0) (γ 1) [48, ρ 26] (ρ 27) := l19
  have l20 : zOpP (.l2i) (γ 0) (γ 1) [ρ 27] (ρ 28) := l20
  have l21 : sn87 [ρ 28, ρ 1 + 5] (γ 5) 0 0 (γ 6) := hS87 _ _ _ _ _ l21
  have l22 : zOpP (.lrem) (γ 0) (γ 1) [ρ 29, 10] (ρ 30) := l22
  have l23 : zOpP (.ladd) (γ 0) (γ 1) [48, ρ 30] (ρ 31) := l23
  have l24 : zOpP (.l2i) (γ 0) (γ 1) [ρ 31] (ρ 32) := l24
  have l25 : sn87 [ρ 32, ρ 1 + 6] (γ 6) 0 0 (γ 7) := hS87 _ _ _ _ _ l25
  show sn88 [ρ 0, ρ 1] (γ 0) 0 0 (γ 7)
  refine Eq.symm ?_
  show fn88 [ρ 0] (γ 0) = _
  unfold fn88
  refine (zLet_eq (show _ = ρ 0 from rfl)).trans ?_
  refine (if_neg w_0).trans ?_
  refine (zLet_eq (show fn87 [45] (γ 0) = (0, 0, γ 1) from l0.symm)).trans ?_
  refine (zLet_eq (show _ = γ 1 from rfl)).trans ?_
  refine (zLet_eq (zF1_ok l1)).trans ?_
  refine (zLet_eq w_1).trans ?_
  refine (if_neg w_2).trans ?_
  refine (zLet_eq w_3).trans ?_
  refine (if_neg w_4).trans ?_
  refine (zLet_eq w_5).trans ?_
  refine (if_neg w_6).trans ?_
  refine (zLet_eq w_7).trans ?_
  refine (if_neg w_8).trans ?_
  refine (zLet_eq w_9).trans ?_
  refine (if_neg w_10).trans ?_
  refine (zLet_eq w_11).trans ?_
  refine (if_pos w_12).trans ?_
  refine (zLet_eq w_13).trans ?_
  refine (zLet_eq (zF2_ok l2)).trans ?_
  refine (zLet_eq (zF2_ok l3)).trans ?_
  refine (zLet_eq (zF1_ok l4)).trans ?_
  refine (zLet_eq (show fn87 [ρ 12] (γ 1) = (0, 0, γ 2) from l5.symm)).trans ?_
  refine (zLet_eq (show _ = γ 2 from rfl)).trans ?_
  refine (zLet_eq w_14).trans ?_
  refine (zLet_eq (zF2_ok l6)).trans ?_
  refine (zLet_eq (zF2_ok l7)).trans ?_
  refine (zLet_eq (zF1_ok l8)).trans ?_
  refine (zLet_eq (show fn87 [ρ 16] (γ 2) = (0, 0, γ 3) from l9.symm)).trans ?_
  refine (zLet_eq (show _ = γ 3 from rfl)).trans ?_
  refine (zLet_eq w_15).trans ?_
  refine (zLet_eq (zF2_ok l10)).trans ?_
  refine (zLet_eq (zF2_ok l11)).trans ?_
  refine (zLet_eq (zF1_ok l12)).trans ?_
  refine (zLet_eq (show fn87 [ρ 20] (γ 3) = (0, 0, γ 4) from l13.symm)).trans ?_
  refine (zLet_eq (show _ = γ 4 from rfl)).trans ?_
  refine (zLet_eq w_16).trans ?_
  refine (zLet_eq (zF2_ok l14)).trans ?_
  refine (zLet_eq (zF2_ok l15)).trans ?_
  refine (zLet_eq (zF1_ok l16)).trans ?_
  refine (zLet_eq (show fn87 [ρ 24] (γ 4) = (0, 0, γ 5) from l17.symm)).trans ?_
  refine (zLet_eq (show _ = γ 5 from rfl)).trans ?_
  refine (zLet_eq w_17).trans ?_
  refine (zLet_eq (zF2_ok l18)).trans ?_
  refine (zLet_eq (zF2_ok l19)).trans ?_
  refine (zLet_eq (zF1_ok l20)).trans ?_
  refine (zLet_eq (show fn87 [ρ 28] (γ 5) = (0, 0, γ 6) from l21.symm)).trans ?_
  refine (zLet_eq (show _ = γ 6 from rfl)).trans ?_
  refine (zLet_eq w_18).trans ?_
  refine (zLet_eq (zF2_ok l22)).trans ?_
  refine (zLet_eq (zF2_ok l23)).trans ?_
  refine (zLet_eq (zF1_ok l24)).trans ?_
  refine (zLet_eq (show fn87 [ρ 32] (γ 6) = (0, 0, γ 7) from l25.symm)).trans ?_
  refine (zLet_eq (show _ = γ 7 from rfl)).trans ?_
  rfl
set_option maxRecDepth 100000 in
theorem vn88_18 {S : Nat → zSpc} (hS87 : ∀ x g o v gz, S 87 x g o v gz → sn87 x g o v gz) {a : List Int} {g : rHp} : ∀ (ρ : Nat → Int) (γ : Nat → rHp), zO 2 S a g q88_18 ρ γ → zGl (fun _ _ _ => True) (sn88 a g) q88_18 ρ γ := by
  intro ρ γ h
  obtain ⟨ha, hg, hr, hf, hm, hc, hl⟩ := h
  have ha : a = [ρ 0, ρ 1] := ha
  subst ha
  subst hg
  obtain ⟨r0, -, -, r3, r4, r5, r6, r7, r8, r9, -⟩ := hr
  have r0 : ((-2147483648) : Int) ≤ ρ 0 ∧ ρ 0 ≤ (-1) := r0
  have r3 : (10 : Int) ≤ ρ 3 ∧ ρ 3 ≤ 2147483648 := r3
  have r4 : (10 : Int) ≤ ρ 4 ∧ ρ 4 ≤ 214748364 := r4
  have r5 : (10 : Int) ≤ ρ 5 ∧ ρ 5 ≤ 21474836 := r5
  have r6 : (10 : Int) ≤ ρ 6 ∧ ρ 6 ≤ 2147483 := r6
  have r7 : (10 : Int) ≤ ρ 7 ∧ ρ 7 ≤ 214748 := r7
  have r8 : (10 : Int) ≤ ρ 8 ∧ ρ 8 ≤ 21474 := r8
  have r9 : (0 : Int) ≤ ρ 9 ∧ ρ 9 ≤ 9 := r9
  obtain ⟨f0, f1, -, f3, f4, -, f6, f7, -, f9, f10, -, f12, f13, -, f15, f16, -, f18, f19, -, f21, f22, -, f24, f25, -, f27, f28, -, f30, f31, -, f33, f34, -, f36, f37, f38, f39, -⟩ := hf
  have f0 : (0 : Int) ≤ ρ 34 + -ρ 2 := f0
  have f1 : (0 : Int) ≤ -ρ 34 + ρ 2 := f1
  have f3 : (0 : Int) ≤ 10 * ρ 30 + -ρ 2 + 9 := f3
  have f4 : (0 : Int) ≤ (-10) * ρ 30 + ρ 2 := f4
  have f6 : (0 : Int) ≤ 100 * ρ 26 + -ρ 2 + 99 := f6
  have f7 : (0 : Int) ≤ (-100) * ρ 26 + ρ 2 := f7
  have f9 : (0 : Int) ≤ 1000 * ρ 22 + -ρ 2 + 999 := f9
  have f10 : (0 : Int) ≤ (-1000) * ρ 22 + ρ 2 := f10
  have f12 : (0 : Int) ≤ 10000 * ρ 18 + -ρ 2 + 9999 := f12
  have f13 : (0 : Int) ≤ (-10000) * ρ 18 + ρ 2 := f13
  have f15 : (0 : Int) ≤ 100000 * ρ 14 + -ρ 2 + 99999 := f15
  have f16 : (0 : Int) ≤ (-100000) * ρ 14 + ρ 2 := f16
  have f18 : (0 : Int) ≤ 1000000 * ρ 10 + -ρ 2 + 999999 := f18
  have f19 : (0 : Int) ≤ (-1000000) * ρ 10 + ρ 2 := f19
  have f21 : (0 : Int) ≤ 1000000 * ρ 9 + -ρ 2 + 999999 := f21
  have f22 : (0 : Int) ≤ (-1000000) * ρ 9 + ρ 2 := f22
  have f24 : (0 : Int) ≤ 100000 * ρ 8 + -ρ 2 + 99999 := f24
  have f25 : (0 : Int) ≤ (-100000) * ρ 8 + ρ 2 := f25
  have f27 : (0 : Int) ≤ 10000 * ρ 7 + -ρ 2 + 9999 := f27
  have f28 : (0 : Int) ≤ (-10000) * ρ 7 + ρ 2 := f28
  have f30 : (0 : Int) ≤ 1000 * ρ 6 + -ρ 2 + 999 := f30
  have f31 : (0 : Int) ≤ (-1000) * ρ 6 + ρ 2 := f31
  have f33 : (0 : Int) ≤ 100 * ρ 5 + -ρ 2 + 99 := f33
  have f34 : (0 : Int) ≤ (-100) * ρ 5 + ρ 2 := f34
  have f36 : (0 : Int) ≤ 10 * ρ 4 + -ρ 2 + 9 := f36
  have f37 : (0 : Int) ≤ (-10) * ρ 4 + ρ 2 := f37
  have f38 : (0 : Int) ≤ ρ 3 + -ρ 2 := f38
  have f39 : (0 : Int) ≤ -ρ 3 + ρ 2 := f39
  obtain ⟨w_0, w_1, w_2, w_3, w_4, w_5, w_6, w_7, w_8, w_9, w_10, w_11, w_12, w_13, w_14, w_15, w_16, w_17, w_18, w_19, w_20, w_21⟩ : (¬ (ρ 0 ≥ 0)) ∧ ((ρ 2) / 1 = ρ 3) ∧ (¬ (ρ 3 ≤ 9)) ∧ ((ρ 2) / 10 = ρ 4) ∧ (¬ (ρ 4 ≤ 9)) ∧ ((ρ 2) / 100 = ρ 5) ∧ (¬ (ρ 5 ≤ 9)) ∧ ((ρ 2) / 1000 = ρ 6) ∧ (¬ (ρ 6 ≤ 9)) ∧ ((ρ 2) / 10000 = ρ 7) ∧ (¬ (ρ 7 ≤ 9)) ∧ ((ρ 2) / 100000 = ρ 8) ∧ (¬ (ρ 8 ≤ 9)) ∧ ((ρ 2) / 1000000 = ρ 9) ∧ (ρ 9 ≤ 9) ∧ ((ρ 2) / 1000000 = ρ 10) ∧ ((ρ 2) / 100000 = ρ 14) ∧ ((ρ 2) / 10000 = ρ 18) ∧ ((ρ 2) / 1000 = ρ 22) ∧ ((ρ 2) / 100 = ρ 26) ∧ ((ρ 2) / 10 = ρ 30) ∧ ((ρ 2) / 1 = ρ 34) := ⟨by clear r3 r4 r5 r6 r7 r8 r9 f0 f1 f3 f4 f6 f7 f9 f10 f12 f13 f15 f16 f18 f19 f21 f22 f24 f25 f27 f28 f30 f31 f33 f34 f36 f37 f38 f39; omega, by clear r0 r3 r4 r5 r6 r7 r8 r9 f0 f1 f3 f4 f6 f7 f9 f10 f12 f13 f15 f16 f18 f19 f21 f22 f24 f25 f27 f28 f30 f31 f33 f34 f36 f37; omega, by clear r0 r4 r5 r6 r7 r8 r9 f0 f1 f3 f4 f6 f7 f9 f10 f12 f13 f15 f16 f18 f19 f21 f22 f24 f25 f27 f28 f30 f31 f33 f34 f36 f37 f38 f39; omega, by clear r0 r3 r4 r5 r6 r7 r8 r9 f0 f1 f3 f4 f6 f7 f9 f10 f12 f13 f15 f16 f18 f19 f21 f22 f24 f25 f27 f28 f30 f31 f33 f34 f38 f39; omega, by clear r0 r3 r5 r6 r7 r8 r9 f0 f1 f3 f4 f6 f7 f9 f10 f12 f13 f15 f16 f18 f19 f21 f22 f24 f25 f27 f28 f30 f31 f33 f34 f36 f37 f38 f39; omega, by clear r0 r3 r4 r5 r6 r7 r8 r9 f0 f1 f3 f4 f6 f7 f9 f10 f12 f13 f15 f16 f18 f19 f21 f22 f24 f25 f27 f28 f30 f31 f36 f37 f38 f39; omega, by clear r0 r3 r4 r6 r7 r8 r9 f0 f1 f3 f4 f6 f7 f9 f10 f12 f13 f15 f16 f18 f19 f21 f22 f24 f25 f27 f28 f30 f31 f33 f34 f36 f37 f38 f39; omega, by clear r0 r3 r4 r5 r6 r7 r8 r9 f0 f1 f3 f4 f6 f7 f9 f10 f12 f13 f15 f16 f18 f19 f21 f22 f24 f25 f27 f28 f33 f34 f36 f37 f38 f39; omega, by clear r0 r3 r4 r5 r7 r8 r9 f0 f1 f3 f4 f6 f7 f9 f10 f12 f13 f15 f16 f18 f19 f21 f22 f24 f25 f27 f28 f30 f31 f33 f34 f36 f37 f38 f39; omega, by clear r0 r3 r4 r5 r6 r7 r8 r9 f0 f1 f3 f4 f6 f7 f9 f10 f12 f13 f15 f16 f18 f19 f21 f22 f24 f25 f30 f31 f33 f34 f36 f37 f38 f39; omega, by clear r0 r3 r4 r5 r6 r8 r9 f0 f1 f3 f4 f6 f7 f9 f10 f12 f13 f15 f16 f18 f19 f21 f22 f24 f25 f27 f28 f30 f31 f33 f34 f36 f37 f38 f39; omega, by clear r0 r3 r4 r5 r6 r7 r8 r9 f0 f1 f3 f4 f6 f7 f9 f10 f12 f13 f15 f16 f18 f19 f21 f22 f27 f28 f30 f31 f33 f34 f36 f37 f38 f39; omega, by clear r0 r3 r4 r5 r6 r7 r9 f0 f1 f3 f4 f6 f7 f9 f10 f12 f13 f15 f16 f18 f19 f21 f22 f24 f25 f27 f28 f30 f31 f33 f34 f36 f37 f38 f39; omega, by clear r0 r3 r4 r5 r6 r7 r8 r9 f0 f1 f3 f4 f6 f7 f9 f10 f12 f13 f15 f16 f18 f19 f24 f25 f27 f28 f30 f31 f33 f34 f36 f37 f38 f39; omega, by clear r0 r3 r4 r5 r6 r7 r8 f0 f1 f3 f4 f6 f7 f9 f10 f12 f13 f15 f16 f18 f19 f21 f22 f24 f25 f27 f28 f30 f31 f33 f34 f36 f37 f38 f39; omega, by clear r0 r3 r4 r5 r6 r7 r8 r9 f0 f1 f3 f4 f6 f7 f9 f10 f12 f13 f15 f16 f21 f22 f24 f25 f27 f28 f30 f31 f33 f34 f36 f37 f38 f39; omega, by clear r0 r3 r4 r5 r6 r7 r8 r9 f0 f1 f3 f4 f6 f7 f9 f10 f12 f13 f18 f19 f21 f22 f24 f25 f27 f28 f30 f31 f33 f34 f36 f37 f38 f39; omega, by clear r0 r3 r4 r5 r6 r7 r8 r9 f0 f1 f3 f4 f6 f7 f9 f10 f15 f16 f18 f19 f21 f22 f24 f25 f27 f28 f30 f31 f33 f34 f36 f37 f38 f39; omega, by clear r0 r3 r4 r5 r6 r7 r8 r9 f0 f1 f3 f4 f6 f7 f12 f13 f15 f16 f18 f19 f21 f22 f24 f25 f27 f28 f30 f31 f33 f34 f36 f37 f38 f39; omega, by clear r0 r3 r4 r5 r6 r7 r8 r9 f0 f1 f3 f4 f9 f10 f12 f13 f15 f16 f18 f19 f21 f22 f24 f25 f27 f28 f30 f31 f33 f34 f36 f37 f38 f39; omega, by clear r0 r3 r4 r5 r6 r7 r8 r9 f0 f1 f6 f7 f9 f10 f12 f13 f15 f16 f18 f19 f21 f22 f24 f25 f27 f28 f30 f31 f33 f34 f36 f37 f38 f39; omega, by clear r0 r3 r4 r5 r6 r7 r8 r9 f3 f4 f6 f7 f9 f10 f12 f13 f15 f16 f18 f19 f21 f22 f24 f25 f27 f28 f30 f31 f33 f34 f36 f37 f38 f39; omega⟩
  obtain ⟨l0, l1, l2, l3, l4, l5, l6, l7, l8, l9, l10, l11, l12, l13, l14, l15, l16, l17, l18, l19, l20, l21, l22, l23, l24, l25, l26, l27, l28, l29, -⟩ := hl
  have l0 : sn87 [45, ρ 1] (γ 0) 0 0 (γ 1) := hS87 _ _ _ _ _ l0
  have l1 : zOpP (.lneg) (γ 0) (γ 1) [ρ 0] (ρ 2) := l1
  have l2 : zOpP (.lrem) (γ 0) (γ 1) [ρ 10, 10] (ρ 11) := l2
  have l3 : zOpP (.ladd) (γ 0) (γ 1) [48, ρ 11] (ρ 12) := l3
  have l4 : zOpP (.l2i) (γ 0) (γ 1) [ρ 12] (ρ 13) := l4
  have l5 : sn87 [ρ 13, ρ 1 + 1] (γ 1) 0 0 (γ 2) := hS87 _ _ _ _ _ l5
  have l6 : zOpP (.lrem) (γ 0) (γ 1) [ρ 14, 10] (ρ 15) := l6
  have l7 : zOpP (.ladd) (γ 0) (γ 1) [48, ρ 15] (ρ 16) := l7
  have l8 : zOpP (.l2i) (γ 0) (γ 1) [ρ 16] (ρ 17) := l8
  have l9 : sn87 [ρ 17, ρ 1 + 2] (γ 2) 0 0 (γ 3) := hS87 _ _ _ _ _ l9
  have l10 : zOpP (.lrem) (γ 0) (γ 1) [ρ 18, 10] (ρ 19) := l10
  have l11 : zOpP (.ladd) (γ 0) (γ 1) [48, ρ 19] (ρ 20) := l11
  have l12 : zOpP (.l2i) (γ 0) (γ 1) [ρ 20] (ρ 21) := l12
  have l13 : sn87 [ρ 21, ρ 1 + 3] (γ 3) 0 0 (γ 4) := hS87 _ _ _ _ _ l13
  have l14 : zOpP (.lrem) (γ 0) (γ 1) [ρ 22, 10] (ρ 23) := l14
  have l15 : zOpP (.ladd) (γ 0) (γ 1) [48, ρ 23] (ρ 24) := l15
  have l16 : zOpP (.l2i) (γ 0) (γ 1) [ρ 24] (ρ 25) := l16
  have l17 : sn87 [ρ 25, ρ 1 + 4] (γ 4) 0 0 (γ 5) := hS87 _ _ _ _ _ l17
  have l18 : zOpP (.lrem) (γ 0) (γ 1) [ρ 26, 10] (ρ 27) := l18
  have l19 : zOpP (.ladd) (γ 0) (γ 1) [48, ρ 27] (ρ 28) := l19
  have l20 : zOpP (.l2i) (γ 0) (γ 1) [ρ 28] (ρ 29) := l20
  have l21 : sn87 [ρ 29, ρ 1 + 5] (γ 5) 0 0 (γ 6) := hS87 _ _ _ _ _ l21
  have l22 : zOpP (.lrem) (γ 0) (γ 1) [ρ 30, 10] (ρ 31) := l22
  have l23 : zOpP (.ladd) (γ 0) (γ 1) [48, ρ 31] (ρ 32) := l23
  have l24 : zOpP (.l2i) (γ 0) (γ 1) [ρ 32] (ρ 33) := l24
  have l25 : sn87 [ρ 33, ρ 1 + 6] (γ 6) 0 0 (γ 7) := hS87 _ _ _ _ _ l25
  have l26 : zOpP (.lrem) (γ 0) (γ 1) [ρ 34, 10] (ρ 35) := l26
  have l27 : zOpP (.ladd) (γ 0) (γ 1) [48, ρ 35] (ρ 36) := l27
  have l28 : zOpP (.l2i) (γ 0) (γ 1) [ρ 36] (ρ 37) := l28
  have l29 : sn87 [ρ 37, ρ 1 + 7] (γ 7) 0 0 (γ 8) := hS87 _ _ _ _ _ l29
  show sn88 [ρ 0, ρ 1] (γ 0) 0 0 (γ 8)
  refine Eq.symm ?_
  show fn88 [ρ 0] (γ 0) = _
  unfold fn88
  refine (zLet_eq (show _ = ρ 0 from rfl)).trans ?_
  refine (if_neg w_0).trans ?_
  refine (zLet_eq (show fn87 [45] (γ 0) = (0, 0, γ 1) from l0.symm)).trans ?_
  refine (zLet_eq (show _ = γ 1 from rfl)).trans ?_
  refine (zLet_eq (zF1_ok l1)).trans ?_
  refine (zLet_eq w_1).trans ?_
  refine (if_neg w_2).trans ?_
  refine (zLet_eq w_3).trans ?_
  refine (if_neg w_4).trans ?_
  refine (zLet_eq w_5).trans ?_
  refine (if_neg w_6).trans ?_
  refine (zLet_eq w_7).trans ?_
  refine (if_neg w_8).trans ?_
  refine (zLet_eq w_9).trans ?_
  refine (if_neg w_10).trans ?_
  refine (zLet_eq w_11).trans ?_
  refine (if_neg w_12).trans ?_
  refine (zLet_eq w_13).trans ?_
  refine (if_pos w_14).trans ?_
  refine (zLet_eq w_15).trans ?_
  refine (zLet_eq (zF2_ok l2)).trans ?_
  refine (zLet_eq (zF2_ok l3)).trans ?_
  refine (zLet_eq (zF1_ok l4)).trans ?_
  refine (zLet_eq (show fn87 [ρ 13] (γ 1) = (0, 0, γ 2) from l5.symm)).trans ?_
  refine (zLet_eq (show _ = γ 2 from rfl)).trans ?_
  refine (zLet_eq w_16).trans ?_
  refine (zLet_eq (zF2_ok l6)).trans ?_
  refine (zLet_eq (zF2_ok l7)).trans ?_
  refine (zLet_eq (zF1_ok l8)).trans ?_
  refine (zLet_eq (show fn87 [ρ 17] (γ 2) = (0, 0, γ 3) from l9.symm)).trans ?_
  refine (zLet_eq (show _ = γ 3 from rfl)).trans ?_
  refine (zLet_eq w_17).trans ?_
  refine (zLet_eq (zF2_ok l10)).trans ?_
  refine (zLet_eq (zF2_ok l11)).trans ?_
  refine (zLet_eq (zF1_ok l12)).trans ?_
  refine (zLet_eq (show fn87 [ρ 21] (γ 3) = (0, 0, γ 4) from l13.symm)).trans ?_
  refine (zLet_eq (show _ = γ 4 from rfl)).trans ?_
  refine (zLet_eq w_18).trans ?_
  refine (zLet_eq (zF2_ok l14)).trans ?_
  refine (zLet_eq (zF2_ok l15)).trans ?_
  refine (zLet_eq (zF1_ok l16)).trans ?_
  refine (zLet_eq (show fn87 [ρ 25] (γ 4) = (0, 0, γ 5) from l17.symm)).trans ?_
  refine (zLet_eq (show _ = γ 5 from rfl)).trans ?_
  refine (zLet_eq w_19).trans ?_
  refine (zLet_eq (zF2_ok l18)).trans ?_
  refine (zLet_eq (zF2_ok l19)).trans ?_
  refine (zLet_eq (zF1_ok l20)).trans ?_
  refine (zLet_eq (show fn87 [ρ 29] (γ 5) = (0, 0, γ 6) from l21.symm)).trans ?_
  refine (zLet_eq (show _ = γ 6 from rfl)).trans ?_
  refine (zLet_eq w_20).trans ?_
  refine (zLet_eq (zF2_ok l22)).trans ?_
  refine (zLet_eq (zF2_ok l23)).trans ?_
  refine (zLet_eq (zF1_ok l24)).trans ?_
  refine (zLet_eq (show fn87 [ρ 33] (γ 6) = (0, 0, γ 7) from l25.symm)).trans ?_
  refine (zLet_eq (show _ = γ 7 from rfl)).trans ?_
  refine (zLet_eq w_21).trans ?_
  refine (zLet_eq (zF2_ok l26)).trans ?_
  refine (zLet_eq (zF2_ok l27)).trans ?_
  refine (zLet_eq (zF1_ok l28)).trans ?_
  refine (zLet_eq (show fn87 [ρ 37] (γ 7) = (0, 0, γ 8) from l29.symm)).trans ?_
  refine (zLet_eq (show _ = γ 8 from rfl)).trans ?_
  rfl
set_option maxRecDepth 100000 in
theorem vn88_19 {S : Nat → zSpc} (hS87 : ∀ x g o v gz, S 87 x g o v gz → sn87 x g o v gz) {a : List Int} {g : rHp} : ∀ (ρ : Nat → Int) (γ : Nat → rHp), zO 2 S a g q88_19 ρ γ → zGl (fun _ _ _ => True) (sn88 a g) q88_19 ρ γ := by
  intro ρ γ h
  obtain ⟨ha, hg, hr, hf, hm, hc, hl⟩ := h
  have ha : a = [ρ 0, ρ 1] := ha
  subst ha
  subst hg
  obtain ⟨r0, -, -, r3, r4, r5, r6, r7, r8, r9, r10, -⟩ := hr
  have r0 : ((-2147483648) : Int) ≤ ρ 0 ∧ ρ 0 ≤ (-1) := r0
  have r3 : (10 : Int) ≤ ρ 3 ∧ ρ 3 ≤ 2147483648 := r3
  have r4 : (10 : Int) ≤ ρ 4 ∧ ρ 4 ≤ 214748364 := r4
  have r5 : (10 : Int) ≤ ρ 5 ∧ ρ 5 ≤ 21474836 := r5
  have r6 : (10 : Int) ≤ ρ 6 ∧ ρ 6 ≤ 2147483 := r6
  have r7 : (10 : Int) ≤ ρ 7 ∧ ρ 7 ≤ 214748 := r7
  have r8 : (10 : Int) ≤ ρ 8 ∧ ρ 8 ≤ 21474 := r8
  have r9 : (10 : Int) ≤ ρ 9 ∧ ρ 9 ≤ 2147 := r9
  have r10 : (0 : Int) ≤ ρ 10 ∧ ρ 10 ≤ 9 := r10
  obtain ⟨f0, f1, -, f3, f4, -, f6, f7, -, f9, f10, -, f12, f13, -, f15, f16, -, f18, f19, -, f21, f22, -, f24, f25, -, f27, f28, -, f30, f31, -, f33, f34, -, f36, f37, -, f39, f40, -, f42, f43, f44, f45, -⟩ := hf
  have f0 : (0 : Int) ≤ ρ 39 + -ρ 2 := f0
  have f1 : (0 : Int) ≤ -ρ 39 + ρ 2 := f1
  have f3 : (0 : Int) ≤ 10 * ρ 35 + -ρ 2 + 9 := f3
  have f4 : (0 : Int) ≤ (-10) * ρ 35 + ρ 2 := f4
  have f6 : (0 : Int) ≤ 100 * ρ 31 + -ρ 2 + 99 := f6
  have f7 : (0 : Int) ≤ (-100) * ρ 31 + ρ 2 := f7
  have f9 : (0 : Int) ≤ 1000 * ρ 27 + -ρ 2 + 999 := f9
  have f10 : (0 : Int) ≤ (-1000) * ρ 27 + ρ 2 := f10
  have f12 : (0 : Int) ≤ 10000 * ρ 23 + -ρ 2 + 9999 := f12
  have f13 : (0 : Int) ≤ (-10000) * ρ 23 + ρ 2 := f13
  have f15 : (0 : Int) ≤ 100000 * ρ 19 + -ρ 2 + 99999 := f15
  have f16 : (0 : Int) ≤ (-100000) * ρ 19 + ρ 2 := f16
  have f18 : (0 : Int) ≤ 1000000 * ρ 15 + -ρ 2 + 999999 := f18
  have f19 : (0 : Int) ≤ (-1000000) * ρ 15 + ρ 2 := f19
  have f21 : (0 : Int) ≤ 10000000 * ρ 11 + -ρ 2 + 9999999 := f21
  have f22 : (0 : Int) ≤ (-10000000) * ρ 11 + ρ 2 := f22
  have f24 : (0 : Int) ≤ 10000000 * ρ 10 + -ρ 2 + 9999999 := f24
  have f25 : (0 : Int) ≤ (-10000000) * ρ 10 + ρ 2 := f25
  have f27 : (0 : Int) ≤ 1000000 * ρ 9 + -ρ 2 + 999999 := f27
  have f28 : (0 : Int) ≤ (-1000000) * ρ 9 + ρ 2 := f28
  have f30 : (0 : Int) ≤ 100000 * ρ 8 + -ρ 2 + 99999 := f30
  have f31 : (0 : Int) ≤ (-100000) * ρ 8 + ρ 2 := f31
  have f33 : (0 : Int) ≤ 10000 * ρ 7 + -ρ 2 + 9999 := f33
  have f34 : (0 : Int) ≤ (-10000) * ρ 7 + ρ 2 := f34
  have f36 : (0 : Int) ≤ 1000 * ρ 6 + -ρ 2 + 999 := f36
  have f37 : (0 : Int) ≤ (-1000) * ρ 6 + ρ 2 := f37
  have f39 : (0 : Int) ≤ 100 * ρ 5 + -ρ 2 + 99 := f39
  have f40 : (0 : Int) ≤ (-100) * ρ 5 + ρ 2 := f40
  have f42 : (0 : Int) ≤ 10 * ρ 4 + -ρ 2 + 9 := f42
  have f43 : (0 : Int) ≤ (-10) * ρ 4 + ρ 2 := f43
  have f44 : (0 : Int) ≤ ρ 3 + -ρ 2 := f44
  have f45 : (0 : Int) ≤ -ρ 3 + ρ 2 := f45
  obtain ⟨w_0, w_1, w_2, w_3, w_4, w_5, w_6, w_7, w_8, w_9, w_10, w_11, w_12, w_13, w_14, w_15, w_16, w_17, w_18, w_19, w_20, w_21, w_22, w_23, w_24⟩ : (¬ (ρ 0 ≥ 0)) ∧ ((ρ 2) / 1 = ρ 3) ∧ (¬ (ρ 3 ≤ 9)) ∧ ((ρ 2) / 10 = ρ 4) ∧ (¬ (ρ 4 ≤ 9)) ∧ ((ρ 2) / 100 = ρ 5) ∧ (¬ (ρ 5 ≤ 9)) ∧ ((ρ 2) / 1000 = ρ 6) ∧ (¬ (ρ 6 ≤ 9)) ∧ ((ρ 2) / 10000 = ρ 7) ∧ (¬ (ρ 7 ≤ 9)) ∧ ((ρ 2) / 100000 = ρ 8) ∧ (¬ (ρ 8 ≤ 9)) ∧ ((ρ 2) / 1000000 = ρ 9) ∧ (¬ (ρ 9 ≤ 9)) ∧ ((ρ 2) / 10000000 = ρ 10) ∧ (ρ 10 ≤ 9) ∧ ((ρ 2) / 10000000 = ρ 11) ∧ ((ρ 2) / 1000000 = ρ 15) ∧ ((ρ 2) / 100000 = ρ 19) ∧ ((ρ 2) / 10000 = ρ 23) ∧ ((ρ 2) / 1000 = ρ 27) ∧ ((ρ 2) / 100 = ρ 31) ∧ ((ρ 2) / 10 = ρ 35) ∧ ((ρ 2) / 1 = ρ 39) := ⟨by clear r3 r4 r5 r6 r7 r8 r9 r10 f0 f1 f3 f4 f6 f7 f9 f10 f12 f13 f15 f16 f18 f19 f21 f22 f24 f25 f27 f28 f30 f31 f33 f34 f36 f37 f39 f40 f42 f43 f44 f45; omega, by clear r0 r3 r4 r5 r6 r7 r8 r9 r10 f0 f1 f3 f4 f6 f7 f9 f10 f12 f13 f15 f16 f18 f19 f21 f22 f24 f25 f27 f28 f30 f31 f33 f34 f36 f37 f39 f40 f42 f43; omega, by clear r0 r4 r5 r6 r7 r8 r9 r10 f0 f1 f3 f4 f6 f7 f9 f10 f12 f13 f15 f16 f18 f19 f21 f22 f24 f25 f27 f28 f30 f31 f33 f34 f36 f37 f39 f40 f42 f43 f44 f45; omega, by clear r0 r3 r4 r5 r6 r7 r8 r9 r10 f0 f1 f3 f4 f6 f7 f9 f10 f12 f13 f15 f16 f18 f19 f21 f22 f24 f25 f27 f28 f30 f31 f33 f34 f36 f37 f39 f40 f44 f45; omega, by clear r0 r3 r5 r6 r7 r8 r9 r10 f0 f1 f3 f4 f6 f7 f9 f10 f12 f13 f15 f16 f18 f19 f21 f22 f24 f25 f27 f28 f30 f31 f33 f34 f36 f37 f39 f40 f42 f43 f44 f45; omega, by clear r0 r3 r4 r5 r6 r7 r8 r9 r10 f0 f1 f3 f4 f6 f7 f9 f10 f12 f13 f15 f16 f18 f19 f21 f22 f24 f25 f27 f28 f30 f31 f33 f34 f36 f37 f42 f43 f44 f45; omega, by clear r0 r3 r4 r6 r7 r8 r9 r10 f0 f1 f3 f4 f6 f7 f9 f10 f12 f13 f15 f16 f18 f19 f21 f22 f24 f25 f27 f28 f30 f31 f33 f34 f36 f37 f39 f40 f42 f43 f44 f45; omega, by clear r0 r3 r4 r5 r6 r7 r8 r9 r10 f0 f1 f3 f4 f6 f7 f9 f10 f12 f13 f15 f16 f18 f19 f21 f22 f24 f25 f27 f28 f30 f31 f33 f34 f39 f40 f42 f43 f44 f45; omega, by clear r0 r3 r4 r5 r7 r8 r9 r10 f0 f1 f3 f4 f6 f7 f9 f10 f12 f13 f15 f16 f18 f19 f21 f22 f24 f25 f27 f28 f30 f31 f33 f34 f36 f37 f39 f40 f42 f43 f44 f45; omega, by clear r0 r3 r4 r5 r6 r7 r8 r9 r10 f0 f1 f3 f4 f6 f7 f9 f10 f12 f13 f15 f16 f18 f19 f21 f22 f24 f25 f27 f28 f30 f31 f36 f37 f39 f40 f42 f43 f44 f45; omega, by clear r0 r3 r4 r5 r6 r8 r9 r10 f0 f1 f3 f4 f6 f7 f9 f10 f12 f13 f15 f16 f18 f19 f21 f22 f24 f25 f27 f28 f30 f31 f33 f34 f36 f37 f39 f40 f42 f43 f44 f45; omega, by clear r0 r3 r4 r5 r6 r7 r8 r9 r10 f0 f1 f3 f4 f6 f7 f9 f10 f12 f13 f15 f16 f18 f19 f21 f22 f24 f25 f27 f28 f33 f34 f36 f37 f39 f40 f42 f43 f44 f45; omega, by clear r0 r3 r4 r5 r6 r7 r9 r10 f0 f1 f3 f4 f6 f7 f9 f10 f12 f13 f15 f16 f18 f19 f21 f22 f24 f25 f27 f28 f30 f31 f33 f34 f36 f37 f39 f40 f42 f43 f44 f45; omega, by clear r0 r3 r4 r5 r6 r7 r8 r9 r10 f0 f1 f3 f4 f6 f7 f9 f10 f12 f13 f15 f16 f18 f19 f21 f22 f24 f25 f30 f31 f33 f34 f36 f37 f39 f40 f42 f43 f44 f45; omega, by clear r0 r3 r4 r5 r6 r7 r8 r10 f0 f1 f3 f4 f6 f7 f9 f10 f12 f13 f15 f16 f18 f19 f21 f22 f24 f25 f27 f28 f30 f31 f33 f34 f36 f37 f39 f40 f42 f43 f44 f45; omega, by clear r0 r3 r4 r5 r6 r7 r8 r9 r10 f0 f1 f3 f4 f6 f7 f9 f10 f12 f13 f15 f16 f18 f19 f21 f22 f27 f28 f30 f31 f33 f34 f36 f37 f39 f40 f42 f43 f44 f45; omega, by clear r0 r3 r4 r5 r6 r7 r8 r9 f0 f1 f3 f4 f6 f7 f9 f10 f12 f13 f15 f16 f18 f19 f21 f22 f24 f25 f27 f28 f30 f31 f33 f34 f36 f37 f39 f40 f42 f43 f44 f45; omega, by clear r0 r3 r4 r5 r6 r7 r8 r9 r10 f0 f1 f3 f4 f6 f7 f9 f10 f12 f13 f15 f16 f18 f19 f24 f25 f27 f28 f30 f31 f33 f34 f36 f37 f39 f40 f42 f43 f44 f45; omega, by clear r0 r3 r4 r5 r6 r7 r8 r9 r10 f0 f1 f3 f4 f6 f7 f9 f10 f12 f13 f15 f16 f21 f22 f24 f25 f27 f28 f30 f31 f33 f34 f36 f37 f39 f40 f42 f43 f44 f45; omega, by clear r0 r3 r4 r5 r6 r7 r8 r9 r10 f0 f1 f3 f4 f6 f7 f9 f10 f12 f13 f18 f19 f21 f22 f24 f25 f27 f28 f30 f31 f33 f34 f36 f37 f39 f40 f42 f43 f44 f45; omega, by clear r0 r3 r4 r5 r6 r7 r8 r9 r10 f0 f1 f3 f4 f6 f7 f9 f10 f15 f16 f18 f19 f21 f22 f24 f25 f27 f28 f30 f31 f33 f34 f36 f37 f39 f40 f42 f43 f44 f45; omega, by clear r0 r3 r4 r5 r6 r7 r8 r9 r10 f0 f1 f3 f4 f6 f7 f12 f13 f15 f16 f18 f19 f21 f22 f24 f25 f27 f28 f30 f31 f33 f34 f36 f37 f39 f40 f42 f43 f44 f45; omega, by clear r0 r3 r4 r5 r6 r7 r8 r9 r10 f0 f1 f3 f4 f9 f10 f12 f13 f15 f16 f18 f19 f21 f22 f24 f25 f27 f28 f30 f31 f33 f34 f36 f37 f39 f40 f42 f43 f44 f45; omega, by clear r0 r3 r4 r5 r6 r7 r8 r9 r10 f0 f1 f6 f7 f9 f10 f12 f13 f15 f16 f18 f19 f21 f22 f24 f25 f27 f28 f30 f31 f33 f34 f36 f37 f39 f40 f42 f43 f44 f45; omega, by clear r0 r3 r4 r5 r6 r7 r8 r9 r10 f3 f4 f6 f7 f9 f10 f12 f13 f15 f16 f18 f19 f21 f22 f24 f25 f27 f28 f30 f31 f33 f34 f36 f37 f39 f40 f42 f43 f44 f45; omega⟩
  obtain ⟨l0, l1, l2, l3, l4, l5, l6, l7, l8, l9, l10, l11, l12, l13, l14, l15, l16, l17, l18, l19, l20, l21, l22, l23, l24, l25, l26, l27, l28, l29, l30, l31, l32, l33, -⟩ := hl
  have l0 : sn87 [45, ρ 1] (γ 0) 0 0 (γ 1) := hS87 _ _ _ _ _ l0
  have l1 : zOpP (.lneg) (γ 0) (γ 1) [ρ 0] (ρ 2) := l1
  have l2 : zOpP (.lrem) (γ 0) (γ 1) [ρ 11, 10] (ρ 12) := l2
  have l3 : zOpP (.ladd) (γ 0) (γ 1) [48, ρ 12] (ρ 13) := l3
  have l4 : zOpP (.l2i) (γ 0) (γ 1) [ρ 13] (ρ 14) := l4
  have l5 : sn87 [ρ 14, ρ 1 + 1] (γ 1) 0 0 (γ 2) := hS87 _ _ _ _ _ l5
  have l6 : zOpP (.lrem) (γ 0) (γ 1) [ρ 15, 10] (ρ 16) := l6
  have l7 : zOpP (.ladd) (γ 0) (γ 1) [48, ρ 16] (ρ 17) := l7
  have l8 : zOpP (.l2i) (γ 0) (γ 1) [ρ 17] (ρ 18) := l8
  have l9 : sn87 [ρ 18, ρ 1 + 2] (γ 2) 0 0 (γ 3) := hS87 _ _ _ _ _ l9
  have l10 : zOpP (.lrem) (γ 0) (γ 1) [ρ 19, 10] (ρ 20) := l10
  have l11 : zOpP (.ladd) (γ 0) (γ 1) [48, ρ 20] (ρ 21) := l11
  have l12 : zOpP (.l2i) (γ 0) (γ 1) [ρ 21] (ρ 22) := l12
  have l13 : sn87 [ρ 22, ρ 1 + 3] (γ 3) 0 0 (γ 4) := hS87 _ _ _ _ _ l13
  have l14 : zOpP (.lrem) (γ 0) (γ 1) [ρ 23, 10] (ρ 24) := l14
  have l15 : zOpP (.ladd) (γ 0) (γ 1) [48, ρ 24] (ρ 25) := l15
  have l16 : zOpP (.l2i) (γ 0) (γ 1) [ρ 25] (ρ 26) := l16
  have l17 : sn87 [ρ 26, ρ 1 + 4] (γ 4) 0 0 (γ 5) := hS87 _ _ _ _ _ l17
  have l18 : zOpP (.lrem) (γ 0) (γ 1) [ρ 27, 10] (ρ 28) := l18
  have l19 : zOpP (.ladd) (γ 0) (γ 1) [48, ρ 28] (ρ 29) := l19
  have l20 : zOpP (.l2i) (γ 0) (γ 1) [ρ 29] (ρ 30) := l20
  have l21 : sn87 [ρ 30, ρ 1 + 5] (γ 5) 0 0 (γ 6) := hS87 _ _ _ _ _ l21
  have l22 : zOpP (.lrem) (γ 0) (γ 1) [ρ 31, 10] (ρ 32) := l22
  have l23 : zOpP (.ladd) (γ 0) (γ 1) [48, ρ 32] (ρ 33) := l23
  have l24 : zOpP (.l2i) (γ 0) (γ 1) [ρ 33] (ρ 34) := l24
  have l25 : sn87 [ρ 34, ρ 1 + 6] (γ 6) 0 0 (γ 7) := hS87 _ _ _ _ _ l25
  have l26 : zOpP (.lrem) (γ 0) (γ 1) [ρ 35, 10] (ρ 36) := l26
  have l27 : zOpP (.ladd) (γ 0) (γ 1) [48, ρ 36] (ρ 37) := l27
  have l28 : zOpP (.l2i) (γ 0) (γ 1) [ρ 37] (ρ 38) := l28
  have l29 : sn87 [ρ 38, ρ 1 + 7] (γ 7) 0 0 (γ 8) := hS87 _ _ _ _ _ l29
  have l30 : zOpP (.lrem) (γ 0) (γ 1) [ρ 39, 10] (ρ 40) := l30
  have l31 : zOpP (.ladd) (γ 0) (γ 1) [48, ρ 40] (ρ 41) := l31
  have l32 : zOpP (.l2i) (γ 0) (γ 1) [ρ 41] (ρ 42) := l32
  have l33 : sn87 [ρ 42, ρ 1 + 8] (γ 8) 0 0 (γ 9) := hS87 _ _ _ _ _ l33
  show sn88 [ρ 0, ρ 1] (γ 0) 0 0 (γ 9)
  refine Eq.symm ?_
  show fn88 [ρ 0] (γ 0) = _
  unfold fn88
  refine (zLet_eq (show _ = ρ 0 from rfl)).trans ?_
  refine (if_neg w_0).trans ?_
  refine (zLet_eq (show fn87 [45] (γ 0) = (0, 0, γ 1) from l0.symm)).trans ?_
  refine (zLet_eq (show _ = γ 1 from rfl)).trans ?_
  refine (zLet_eq (zF1_ok l1)).trans ?_
  refine (zLet_eq w_1).trans ?_
  refine (if_neg w_2).trans ?_
  refine (zLet_eq w_3).trans ?_
  refine (if_neg w_4).trans ?_
  refine (zLet_eq w_5).trans ?_
  refine (if_neg w_6).trans ?_
  refine (zLet_eq w_7).trans ?_
  refine (if_neg w_8).trans ?_
  refine (zLet_eq w_9).trans ?_
  refine (if_neg w_10).trans ?_
  refine (zLet_eq w_11).trans ?_
  refine (if_neg w_12).trans ?_
  refine (zLet_eq w_13).trans ?_
  refine (if_neg w_14).trans ?_
  refine (zLet_eq w_15).trans ?_
  refine (if_pos w_16).trans ?_
  refine (zLet_eq w_17).trans ?_
  refine (zLet_eq (zF2_ok l2)).trans ?_
  refine (zLet_eq (zF2_ok l3)).trans ?_
  refine (zLet_eq (zF1_ok l4)).trans ?_
  refine (zLet_eq (show fn87 [ρ 14] (γ 1) = (0, 0, γ 2) from l5.symm)).trans ?_
  refine (zLet_eq (show _ = γ 2 from rfl)).trans ?_
  refine (zLet_eq w_18).trans ?_
  refine (zLet_eq (zF2_ok l6)).trans ?_
  refine (zLet_eq (zF2_ok l7)).trans ?_
  refine (zLet_eq (zF1_ok l8)).trans ?_
  refine (zLet_eq (show fn87 [ρ 18] (γ 2) = (0, 0, γ 3) from l9.symm)).trans ?_
  refine (zLet_eq (show _ = γ 3 from rfl)).trans ?_
  refine (zLet_eq w_19).trans ?_
  refine (zLet_eq (zF2_ok l10)).trans ?_
  refine (zLet_eq (zF2_ok l11)).trans ?_
  refine (zLet_eq (zF1_ok l12)).trans ?_
  refine (zLet_eq (show fn87 [ρ 22] (γ 3) = (0, 0, γ 4) from l13.symm)).trans ?_
  refine (zLet_eq (show _ = γ 4 from rfl)).trans ?_
  refine (zLet_eq w_20).trans ?_
  refine (zLet_eq (zF2_ok l14)).trans ?_
  refine (zLet_eq (zF2_ok l15)).trans ?_
  refine (zLet_eq (zF1_ok l16)).trans ?_
  refine (zLet_eq (show fn87 [ρ 26] (γ 4) = (0, 0, γ 5) from l17.symm)).trans ?_
  refine (zLet_eq (show _ = γ 5 from rfl)).trans ?_
  refine (zLet_eq w_21).trans ?_
  refine (zLet_eq (zF2_ok l18)).trans ?_
  refine (zLet_eq (zF2_ok l19)).trans ?_
  refine (zLet_eq (zF1_ok l20)).trans ?_
  refine (zLet_eq (show fn87 [ρ 30] (γ 5) = (0, 0, γ 6) from l21.symm)).trans ?_
  refine (zLet_eq (show _ = γ 6 from rfl)).trans ?_
  refine (zLet_eq w_22).trans ?_
  refine (zLet_eq (zF2_ok l22)).trans ?_
  refine (zLet_eq (zF2_ok l23)).trans ?_
  refine (zLet_eq (zF1_ok l24)).trans ?_
  refine (zLet_eq (show fn87 [ρ 34] (γ 6) = (0, 0, γ 7) from l25.symm)).trans ?_
  refine (zLet_eq (show _ = γ 7 from rfl)).trans ?_
  refine (zLet_eq w_23).trans ?_
  refine (zLet_eq (zF2_ok l26)).trans ?_
  refine (zLet_eq (zF2_ok l27)).trans ?_
  refine (zLet_eq (zF1_ok l28)).trans ?_
  refine (zLet_eq (show fn87 [ρ 38] (γ 7) = (0, 0, γ 8) from l29.symm)).trans ?_
  refine (zLet_eq (show _ = γ 8 from rfl)).trans ?_
  refine (zLet_eq w_24).trans ?_
  refine (zLet_eq (zF2_ok l30)).trans ?_
  refine (zLet_eq (zF2_ok l31)).trans ?_
  refine (zLet_eq (zF1_ok l32)).trans ?_
  refine (zLet_eq (show fn87 [ρ 42] (γ 8) = (0, 0, γ 9) from l33.symm)).trans ?_
  refine (zLet_eq (show _ = γ 9 from rfl)).trans ?_
  rfl
set_option maxRecDepth 100000 in
theorem vn88_20 {S : Nat → zSpc} (hS87 : ∀ x g o v gz, S 87 x g o v gz → sn87 x g o v gz) {a : List Int} {g : rHp} : ∀ (ρ : Nat → Int) (γ : Nat → rHp), zO 2 S a g q88_20 ρ γ → zGl (fun _ _ _ => True) (sn88 a g) q88_20 ρ γ := by
  intro ρ γ h
  obtain ⟨ha, hg, hr, hf, hm, hc, hl⟩ := h
  have ha : a = [ρ 0, ρ 1] := ha
  subst ha
  subst hg
  obtain ⟨r0, -, -, r3, r4, r5, r6, r7, r8, r9, r10, r11, -⟩ := hr
  have r0 : ((-2147483648) : Int) ≤ ρ 0 ∧ ρ 0 ≤ (-1) := r0
  have r3 : (10 : Int) ≤ ρ 3 ∧ ρ 3 ≤ 2147483648 := r3
  have r4 : (10 : Int) ≤ ρ 4 ∧ ρ 4 ≤ 214748364 := r4
  have r5 : (10 : Int) ≤ ρ 5 ∧ ρ 5 ≤ 21474836 := r5
  have r6 : (10 : Int) ≤ ρ 6 ∧ ρ 6 ≤ 2147483 := r6
  have r7 : (10 : Int) ≤ ρ 7 ∧ ρ 7 ≤ 214748 := r7
  have r8 : (10 : Int) ≤ ρ 8 ∧ ρ 8 ≤ 21474 := r8
  have r9 : (10 : Int) ≤ ρ 9 ∧ ρ 9 ≤ 2147 := r9
  have r10 : (10 : Int) ≤ ρ 10 ∧ ρ 10 ≤ 214 := r10
  have r11 : (0 : Int) ≤ ρ 11 ∧ ρ 11 ≤ 9 := r11
  obtain ⟨f0, f1, -, f3, f4, -, f6, f7, -, f9, f10, -, f12, f13, -, f15, f16, -, f18, f19, -, f21, f22, -, f24, f25, -, f27, f28, -, f30, f31, -, f33, f34, -, f36, f37, -, f39, f40, -, f42, f43, -, f45, f46, -, f48, f49, f50, f51, -⟩ := hf
  have f0 : (0 : Int) ≤ ρ 44 + -ρ 2 := f0
  have f1 : (0 : Int) ≤ -ρ 44 + ρ 2 := f1
  have f3 : (0 : Int) ≤ 10 * ρ 40 + -ρ 2 + 9 := f3
  have f4 : (0 : Int) ≤ (-10) * ρ 40 + ρ 2 := f4
  have f6 : (0 : Int) ≤ 100 * ρ 36 + -ρ 2 + 99 := f6
  have f7 : (0 : Int) ≤ (-100) * ρ 36 + ρ 2 := f7
  have f9 : (0 : Int) ≤ 1000 * ρ 32 + -ρ 2 + 999 := f9
  have f10 : (0 : Int) ≤ (-1000) * ρ 32 + ρ 2 := f10
  have f12 : (0 : Int) ≤ 10000 * ρ 28 + -ρ 2 + 9999 := f12
  have f13 : (0 : Int) ≤ (-10000) * ρ 28 + ρ 2 := f13
  have f15 : (0 : Int) ≤ 100000 * ρ 24 + -ρ 2 + 99999 := f15
  have f16 : (0 : Int) ≤ (-100000) * ρ 24 + ρ 2 := f16
  have f18 : (0 : Int) ≤ 1000000 * ρ 20 + -ρ 2 + 999999 := f18
  have f19 : (0 : Int) ≤ (-1000000) * ρ 20 + ρ 2 := f19
  have f21 : (0 : Int) ≤ 10000000 * ρ 16 + -ρ 2 + 9999999 := f21
  have f22 : (0 : Int) ≤ (-10000000) * ρ 16 + ρ 2 := f22
  have f24 : (0 : Int) ≤ 100000000 * ρ 12 + -ρ 2 + 99999999 := f24
  have f25 : (0 : Int) ≤ (-100000000) * ρ 12 + ρ 2 := f25
  have f27 : (0 : Int) ≤ 100000000 * ρ 11 + -ρ 2 + 99999999 := f27
  have f28 : (0 : Int) ≤ (-100000000) * ρ 11 + ρ 2 := f28
  have f30 : (0 : Int) ≤ 10000000 * ρ 10 + -ρ 2 + 9999999 := f30
  have f31 : (0 : Int) ≤ (-10000000) * ρ 10 + ρ 2 := f31
  have f33 : (0 : Int) ≤ 1000000 * ρ 9 + -ρ 2 + 999999 := f33
  have f34 : (0 : Int) ≤ (-1000000) * ρ 9 + ρ 2 := f34
  have f36 : (0 : Int) ≤ 100000 * ρ 8 + -ρ 2 + 99999 := f36
  have f37 : (0 : Int) ≤ (-100000) * ρ 8 + ρ 2 := f37
  have f39 : (0 : Int) ≤ 10000 * ρ 7 + -ρ 2 + 9999 := f39
  have f40 : (0 : Int) ≤ (-10000) * ρ 7 + ρ 2 := f40
  have f42 : (0 : Int) ≤ 1000 * ρ 6 + -ρ 2 + 999 := f42
  have f43 : (0 : Int) ≤ (-1000) * ρ 6 + ρ 2 := f43
  have f45 : (0 : Int) ≤ 100 * ρ 5 + -ρ 2 + 99 := f45
  have f46 : (0 : Int) ≤ (-100) * ρ 5 + ρ 2 := f46
  have f48 : (0 : Int) ≤ 10 * ρ 4 + -ρ 2 + 9 := f48
  have f49 : (0 : Int) ≤ (-10) * ρ 4 + ρ 2 := f49
  have f50 : (0 : Int) ≤ ρ 3 + -ρ 2 := f50
  have f51 : (0 : Int) ≤ -ρ 3 + ρ 2 := f51
  obtain ⟨w_0, w_1, w_2, w_3, w_4, w_5, w_6, w_7, w_8, w_9, w_10, w_11, w_12, w_13, w_14, w_15, w_16, w_17, w_18, w_19, w_20, w_21, w_22, w_23, w_24, w_25, w_26, w_27⟩ : (¬ (ρ 0 ≥ 0)) ∧ ((ρ 2) / 1 = ρ 3) ∧ (¬ (ρ 3 ≤ 9)) ∧ ((ρ 2) / 10 = ρ 4) ∧ (¬ (ρ 4 ≤ 9)) ∧ ((ρ 2) / 100 = ρ 5) ∧ (¬ (ρ 5 ≤ 9)) ∧ ((ρ 2) / 1000 = ρ 6) ∧ (¬ (ρ 6 ≤ 9)) ∧ ((ρ 2) / 10000 = ρ 7) ∧ (¬ (ρ 7 ≤ 9)) ∧ ((ρ 2) / 100000 = ρ 8) ∧ (¬ (ρ 8 ≤ 9)) ∧ ((ρ 2) / 1000000 = ρ 9) ∧ (¬ (ρ 9 ≤ 9)) ∧ ((ρ 2) / 10000000 = ρ 10) ∧ (¬ (ρ 10 ≤ 9)) ∧ ((ρ 2) / 100000000 = ρ 11) ∧ (ρ 11 ≤ 9) ∧ ((ρ 2) / 100000000 = ρ 12) ∧ ((ρ 2) / 10000000 = ρ 16) ∧ ((ρ 2) / 1000000 = ρ 20) ∧ ((ρ 2) / 100000 = ρ 24) ∧ ((ρ 2) / 10000 = ρ 28) ∧ ((ρ 2) / 1000 = ρ 32) ∧ ((ρ 2) / 100 = ρ 36) ∧ ((ρ 2) / 10 = ρ 40) ∧ ((ρ 2) / 1 = ρ 44) := ⟨by clear r3 r4 r5 r6 r7 r8 r9 r10 r11 f0 f1 f3 f4 f6 f7 f9 f10 f12 f13 f15 f16 f18 f19 f21 f22 f24 f25 f27 f28 f30 f31 f33 f34 f36 f37 f39 f40 f42 f43 f45 f46 f48 f49 f50 f51; omega, by clear r0 r3 r4 r5 r6 r7 r8 r9 r10 r11 f0 f1 f3 f4 f6 f7 f9 f10 f12 f13 f15 f16 f18 f19 f21 f22 f24 f25 f27 f28 f30 f31 f33 f34 f36 f37 f39 f40 f42 f43 f45 f46 f48 f49; omega, by clear r0 r4 r5 r6 r7 r8 r9 r10 r11 f0 f1 f3 f4 f6 f7 f9 f10 f12 f13 f15 f16 f18 f19 f21 f22 f24 f25 f27 f28 f30 f31 f33 f34 f36 f37 f39 f40 f42 f43 f45 f46 f48 f49 f50 f51; omega, by clear r0 r3 r4 r5 r6 r7 r8 r9 r10 r11 f0 f1 f3 f4 f6 f7 f9 f10 f12 f13 f15 f16 f18 f19 f21 f22 f24 f25 f27 f28 f30 f31 f33 f34 f36 f37 f39 f40 f42 f43 f45 f46 f50 f51; omega, by clear r0 r3 r5 r6 r7 r8 r9 r10 r11 f0 f1 f3 f4 f6 f7 f9 f10 f12 f13 f15 f16 f18 f19 f21 f22 f24 f25 f27 f28 f30 f31 f33 f34 f36 f37 f39 f40 f42 f43 f45 f46 f48 f49 f50 f51; omega, by clear r0 r3 r4 r5 r6 r7 r8 r9 r10 r11 f0 f1 f3 f4 f6 f7 f9 f10 f12 f13 f15 f16 f18 f19 f21 f22 f24 f25 f27 f28 f30 f31 f33 f34 f36 f37 f39 f40 f42 f43 f48 f49 f50 f51; omega, by clear r0 r3 r4 r6 r7 r8 r9 r10 r11 f0 f1 f3 f4 f6 f7 f9 f10 f12 f13 f15 f16 f18 f19 f21 f22 f24 f25 f27 f28 f30 f31 f33 f34 f36 f37 f39 f40 f42 f43 f45 f46 f48 f49 f50 f51; omega, by clear r0 r3 r4 r5 r6 r7 r8 r9 r10 r11 f0 f1 f3 f4 f6 f7 f9 f10 f12 f13 f15 f16 f18 f19 f21 f22 f24 f25 f27 f28 f30 f31 f33 f34 f36 f37 f39 f40 f45 f46 f48 f49 f50 f51; omega, by clear r0 r3 r4 r5 r7 r8 r9 r10 r11 f0 f1 f3 f4 f6 f7 f9 f10 f12 f13 f15 f16 f18 f19 f21 f22 f24 f25 f27 f28 f30 f31 f33 f34 f36 f37 f39 f40 f42 f43 f45 f46 f48 f49 f50 f51; omega, by clear r0 r3 r4 r5 r6 r7 r8 r9 r10 r11 f0 f1 f3 f4 f6 f7 f9 f10 f12 f13 f15 f16 f18 f19 f21 f22 f24 f25 f27 f28 f30 f31 f33 f34 f36 f37 f42 f43 f45 f46 f48 f49 f50 f51; omega, by clear r0 r3 r4 r5 r6 r8 r9 r10 r11 f0 f1 f3 f4 f6 f7 f9 f10 f12 f13 f15 f16 f18 f19 f21 f22 f24 f25 f27 f28 f30 f31 f33 f34 f36 f37 f39 f40 f42 f43 f45 f46 f48 f49 f50 f51; omega, by clear r0 r3 r4 r5 r6 r7 r8 r9 r10 r11 f0 f1 f3 f4 f6 f7 f9 f10 f12 f13 f15 f16 f18 f19 f21 f22 f24 f25 f27 f28 f30 f31 f33 f34 f39 f40 f42 f43 f45 f46 f48 f49 f50 f51; omega, by clear r0 r3 r4 r5 r6 r7 r9 r10 r11 f0 f1 f3 f4 f6 f7 f9 f10 f12 f13 f15 f16 f18 f19 f21 f22 f24 f25 f27 f28 f30 f31 f33 f34 f36 f37 f39 f40 f42 f43 f45 f46 f48 f49 f50 f51; omega, by clear r0 r3 r4 r5 r6 r7 r8 r9 r10 r11 f0 f1 f3 f4 f6 f7 f9 f10 f12 f13 f15 f16 f18 f19 f21 f22 f24 f25 f27 f28 f30 f31 f36 f37 f39 f40 f42 f43 f45 f46 f48 f49 f50 f51; omega, by clear r0 r3 r4 r5 r6 r7 r8 r10 r11 f0 f1 f3 f4 f6 f7 f9 f10 f12 f13 f15 f16 f18 f19 f21 f22 f24 f25 f27 f28 f30 f31 f33 f34 f36 f37 f39 f40 f42 f43 f45 f46 f48 f49 f50 f51; omega, by clear r0 r3 r4 r5 r6 r7 r8 r9 r10 r11 f0 f1 f3 f4 f6 f7 f9 f10 f12 f13 f15 f16 f18 f19 f21 f22 f24 f25 f27 f28 f33 f34 f36 f37 f39 f40 f42 f43 f45 f46 f48 f49 f50 f51; omega, by clear r0 r3 r4 r5 r6 r7 r8 r9 r11 f0 f1 f3 f4 f6 f7 f9 f10 f12 f13 f15 f16 f18 f19 f21 f22 f24 f25 f27 f28 f30 f31 f33 f34 f36 f37 f39 f40 f42 f43 f45 f46 f48 f49 f50 f51; omega, by clear r0 r3 r4 r5 r6 r7 r8 r9 r10 r11 f0 f1 f3 f4 f6 f7 f9 f10 f12 f13 f15 f16 f18 f19 f21 f22 f24 f25 f30 f31 f33 f34 f36 f37 f39 f40 f42 f43 f45 f46 f48 f49 f50 f51; omega, by clear r0 r3 r4 r5 r6 r7 r8 r9 r10 f0 f1 f3 f4 f6 f7 f9 f10 f12 f13 f15 f16 f18 f19 f21 f22 f24 f25 f27 f28 f30 f31 f33 f34 f36 f37 f39 f40 f42 f43 f45 f46 f48 f49 f50 f51; omega, by clear r0 r3 r4 r5 r6 r7 r8 r9 r10 r11 f0 f1 f3 f4 f6 f7 f9 f10 f12 f13 f15 f16 f18 f19 f21 f22 f27 f28 f30 f31 f33 f34 f36 f37 f39 f40 f42 f43 f45 f46 f48 f49 f50 f51; omega, by clear r0 r3 r4 r5 r6 r7 r8 r9 r10 r11 f0 f1 f3 f4 f6 f7 f9 f10 f12 f13 f15 f16 f18 f19 f24 f25 f27 f28 f30 f31 f33 f34 f36 f37 f39 f40 f42 f43 f45 f46 f48 f49 f50 f51; omega, by clear r0 r3 r4 r5 r6 r7 r8 r9 r10 r11 f0 f1 f3 f4 f6 f7 f9 f10 f12 f13 f15 f16 f21 f22 f24 f25 f27 f28 f30 f31 f33 f34 f36 f37 f39 f40 f42 f43 f45 f46 f48 f49 f50 f51; omega, by clear r0 r3 r4 r5 r6 r7 r8 r9 r10 r11 f0 f1 f3 f4 f6 f7 f9 f10 f12 f13 f18 f19 f21 f22 f24 f25 f27 f28 f30 f31 f33 f34 f36 f37 f39 f40 f42 f43 f45 f46 f48 f49 f50 f51; omega, by clear r0 r3 r4 r5 r6 r7 r8 r9 r10 r11 f0 f1 f3 f4 f6 f7 f9 f10 f15 f16 f18 f19 f21 f22 f24 f25 f27 f28 f30 f31 f33 f34 f36 f37 f39 f40 f42 f43 f45 f46 f48 f49 f50 f51; omega, by clear r0 r3 r4 r5 r6 r7 r8 r9 r10 r11 f0 f1 f3 f4 f6 f7 f12 f13 f15 f16 f18 f19 f21 f22 f24 f25 f27 f28 f30 f31 f33 f34 f36 f37 f39 f40 f42 f43 f45 f46 f48 f49 f50 f51; omega, by clear r0 r3 r4 r5 r6 r7 r8 r9 r10 r11 f0 f1 f3 f4 f9 f10 f12 f13 f15 f16 f18 f19 f21 f22 f24 f25 f27 f28 f30 f31 f33 f34 f36 f37 f39 f40 f42 f43 f45 f46 f48 f49 f50 f51; omega, by clear r0 r3 r4 r5 r6 r7 r8 r9 r10 r11 f0 f1 f6 f7 f9 f10 f12 f13 f15 f16 f18 f19 f21 f22 f24 f25 f27 f28 f30 f31 f33 f34 f36 f37 f39 f40 f42 f43 f45 f46 f48 f49 f50 f51; omega, by clear r0 r3 r4 r5 r6 r7 r8 r9 r10 r11 f3 f4 f6 f7 f9 f10 f12 f13 f15 f16 f18 f19 f21 f22 f24 f25 f27 f28 f30 f31 f33 f34 f36 f37 f39 f40 f42 f43 f45 f46 f48 f49 f50 f51; omega⟩
  obtain ⟨l0, l1, l2, l3, l4, l5, l6, l7, l8, l9, l10, l11, l12, l13, l14, l15, l16, l17, l18, l19, l20, l21, l22, l23, l24, l25, l26, l27, l28, l29, l30, l31, l32, l33, l34, l35, l36, l37, -⟩ := hl
  have l0 : sn87 [45, ρ 1] (γ 0) 0 0 (γ 1) := hS87 _ _ _ _ _ l0
  have l1 : zOpP (.lneg) (γ 0) (γ 1) [ρ 0] (ρ 2) := l1
  have l2 : zOpP (.lrem) (γ 0) (γ 1) [ρ 12, 10] (ρ 13) := l2
  have l3 : zOpP (.ladd) (γ 0) (γ 1) [48, ρ 13] (ρ 14) := l3
  have l4 : zOpP (.l2i) (γ 0) (γ 1) [ρ 14] (ρ 15) := l4
  have l5 : sn87 [ρ 15, ρ 1 + 1] (γ 1) 0 0 (γ 2) := hS87 _ _ _ _ _ l5
  have l6 : zOpP (.lrem) (γ 0) (γ 1) [ρ 16, 10] (ρ 17) := l6
  have l7 : zOpP (.ladd) (γ 0) (γ 1) [48, ρ 17] (ρ 18) := l7
  have l8 : zOpP (.l2i) (γ 0) (γ 1) [ρ 18] (ρ 19) := l8
  have l9 : sn87 [ρ 19, ρ 1 + 2] (γ 2) 0 0 (γ 3) := hS87 _ _ _ _ _ l9
  have l10 : zOpP (.lrem) (γ 0) (γ 1) [ρ 20, 10] (ρ 21) := l10
  have l11 : zOpP (.ladd) (γ 0) (γ 1) [48, ρ 21] (ρ 22) := l11
  have l12 : zOpP (.l2i) (γ 0) (γ 1) [ρ 22] (ρ 23) := l12
  have l13 : sn87 [ρ 23, ρ 1 + 3] (γ 3) 0 0 (γ 4) := hS87 _ _ _ _ _ l13
  have l14 : zOpP (.lrem) (γ 0) (γ 1) [ρ 24, 10] (ρ 25) := l14
  have l15 : zOpP (.ladd) (γ 0) (γ 1) [48, ρ 25] (ρ 26) := l15
  have l16 : zOpP (.l2i) (γ 0) (γ 1) [ρ 26] (ρ 27) := l16
  have l17 : sn87 [ρ 27, ρ 1 + 4] (γ 4) 0 0 (γ 5) := hS87 _ _ _ _ _ l17
  have l18 : zOpP (.lrem) (γ 0) (γ 1) [ρ 28, 10] (ρ 29) := l18
  have l19 : zOpP (.ladd) (γ 0) (γ 1) [48, ρ 29] (ρ 30) := l19
  have l20 : zOpP (.l2i) (γ 0) (γ 1) [ρ 30] (ρ 31) := l20
  have l21 : sn87 [ρ 31, ρ 1 + 5] (γ 5) 0 0 (γ 6) := hS87 _ _ _ _ _ l21
  have l22 : zOpP (.lrem) (γ 0) (γ 1) [ρ 32, 10] (ρ 33) := l22
  have l23 : zOpP (.ladd) (γ 0) (γ 1) [48, ρ 33] (ρ 34) := l23
  have l24 : zOpP (.l2i) (γ 0) (γ 1) [ρ 34] (ρ 35) := l24
  have l25 : sn87 [ρ 35, ρ 1 + 6] (γ 6) 0 0 (γ 7) := hS87 _ _ _ _ _ l25
  have l26 : zOpP (.lrem) (γ 0) (γ 1) [ρ 36, 10] (ρ 37) := l26
  have l27 : zOpP (.ladd) (γ 0) (γ 1) [48, ρ 37] (ρ 38) := l27
  have l28 : zOpP (.l2i) (γ 0) (γ 1) [ρ 38] (ρ 39) := l28
  have l29 : sn87 [ρ 39, ρ 1 + 7] (γ 7) 0 0 (γ 8) := hS87 _ _ _ _ _ l29
  have l30 : zOpP (.lrem) (γ 0) (γ 1) [ρ 40, 10] (ρ 41) := l30
  have l31 : zOpP (.ladd) (γ 0) (γ 1) [48, ρ 41] (ρ 42) := l31
  have l32 : zOpP (.l2i) (γ 0) (γ 1) [ρ 42] (ρ 43) := l32
  have l33 : sn87 [ρ 43, ρ 1 + 8] (γ 8) 0 0 (γ 9) := hS87 _ _ _ _ _ l33
  have l34 : zOpP (.lrem) (γ 0) (γ 1) [ρ 44, 10] (ρ 45) := l34
  have l35 : zOpP (.ladd) (γ 0) (γ 1) [48, ρ 45] (ρ 46) := l35
  have l36 : zOpP (.l2i) (γ 0) (γ 1) [ρ 46] (ρ 47) := l36
  have l37 : sn87 [ρ 47, ρ 1 + 9] (γ 9) 0 0 (γ 10) := hS87 _ _ _ _ _ l37
  show sn88 [ρ 0, ρ 1] (γ 0) 0 0 (γ 10)
  refine Eq.symm ?_
  show fn88 [ρ 0] (γ 0) = _
  unfold fn88
  refine (zLet_eq (show _ = ρ 0 from rfl)).trans ?_
  refine (if_neg w_0).trans ?_
  refine (zLet_eq (show fn87 [45] (γ 0) = (0, 0, γ 1) from l0.symm)).trans ?_
  refine (zLet_eq (show _ = γ 1 from rfl)).trans ?_
  refine (zLet_eq (zF1_ok l1)).trans ?_
  refine (zLet_eq w_1).trans ?_
  refine (if_neg w_2).trans ?_
  refine (zLet_eq w_3).trans ?_
  refine (if_neg w_4).trans ?_
  refine (zLet_eq w_5).trans ?_
  refine (if_neg w_6).trans ?_
  refine (zLet_eq w_7).trans ?_
  refine (if_neg w_8).trans ?_
  refine (zLet_eq w_9).trans ?_
  refine (if_neg w_10).trans ?_
  refine (zLet_eq w_11).trans ?_
  refine (if_neg w_12).trans ?_
  refine (zLet_eq w_13).trans ?_
  refine (if_neg w_14).trans ?_
  refine (zLet_eq w_15).trans ?_
  refine (if_neg w_16).trans ?_
  refine (zLet_eq w_17).trans ?_
  refine (if_pos w_18).trans ?_
  refine (zLet_eq w_19).trans ?_
  refine (zLet_eq (zF2_ok l2)).trans ?_
  refine (zLet_eq (zF2_ok l3)).trans ?_
  refine (zLet_eq (zF1_ok l4)).trans ?_
  refine (zLet_eq (show fn87 [ρ 15] (γ 1) = (0, 0, γ 2) from l5.symm)).trans ?_
  refine (zLet_eq (show _ = γ 2 from rfl)).trans ?_
  refine (zLet_eq w_20).trans ?_
  refine (zLet_eq (zF2_ok l6)).trans ?_
  refine (zLet_eq (zF2_ok l7)).trans ?_
  refine (zLet_eq (zF1_ok l8)).trans ?_
  refine (zLet_eq (show fn87 [ρ 19] (γ 2) = (0, 0, γ 3) from l9.symm)).trans ?_
  refine (zLet_eq (show _ = γ 3 from rfl)).trans ?_
  refine (zLet_eq w_21).trans ?_
  refine (zLet_eq (zF2_ok l10)).trans ?_
  refine (zLet_eq (zF2_ok l11)).trans ?_
  refine (zLet_eq (zF1_ok l12)).trans ?_
  refine (zLet_eq (show fn87 [ρ 23] (γ 3) = (0, 0, γ 4) from l13.symm)).trans ?_
  refine (zLet_eq (show _ = γ 4 from rfl)).trans ?_
  refine (zLet_eq w_22).trans ?_
  refine (zLet_eq (zF2_ok l14)).trans ?_
  refine (zLet_eq (zF2_ok l15)).trans ?_
  refine (zLet_eq (zF1_ok l16)).trans ?_
  refine (zLet_eq (show fn87 [ρ 27] (γ 4) = (0, 0, γ 5) from l17.symm)).trans ?_
  refine (zLet_eq (show _ = γ 5 from rfl)).trans ?_
  refine (zLet_eq w_23).trans ?_
  refine (zLet_eq (zF2_ok l18)).trans ?_
  refine (zLet_eq (zF2_ok l19)).trans ?_
  refine (zLet_eq (zF1_ok l20)).trans ?_
  refine (zLet_eq (show fn87 [ρ 31] (γ 5) = (0, 0, γ 6) from l21.symm)).trans ?_
  refine (zLet_eq (show _ = γ 6 from rfl)).trans ?_
  refine (zLet_eq w_24).trans ?_
  refine (zLet_eq (zF2_ok l22)).trans ?_
  refine (zLet_eq (zF2_ok l23)).trans ?_
  refine (zLet_eq (zF1_ok l24)).trans ?_
  refine (zLet_eq (show fn87 [ρ 35] (γ 6) = (0, 0, γ 7) from l25.symm)).trans ?_
  refine (zLet_eq (show _ = γ 7 from rfl)).trans ?_
  refine (zLet_eq w_25).trans ?_
  refine (zLet_eq (zF2_ok l26)).trans ?_
  refine (zLet_eq (zF2_ok l27)).trans ?_
  refine (zLet_eq (zF1_ok l28)).trans ?_
  refine (zLet_eq (show fn87 [ρ 39] (γ 7) = (0, 0, γ 8) from l29.symm)).trans ?_
  refine (zLet_eq (show _ = γ 8 from rfl)).trans ?_
  refine (zLet_eq w_26).trans ?_
  refine (zLet_eq (zF2_ok l30)).trans ?_
  refine (zLet_eq (zF2_ok l31)).trans ?_
  refine (zLet_eq (zF1_ok l32)).trans ?_
  refine (zLet_eq (show fn87 [ρ 43] (γ 8) = (0, 0, γ 9) from l33.symm)).trans ?_
  refine (zLet_eq (show _ = γ 9 from rfl)).trans ?_
  refine (zLet_eq w_27).trans ?_
  refine (zLet_eq (zF2_ok l34)).trans ?_
  refine (zLet_eq (zF2_ok l35)).trans ?_
  refine (zLet_eq (zF1_ok l36)).trans ?_
  refine (zLet_eq (show fn87 [ρ 47] (γ 9) = (0, 0, γ 10) from l37.symm)).trans ?_
  refine (zLet_eq (show _ = γ 10 from rfl)).trans ?_
  rfl
set_option maxRecDepth 100000 in
theorem vn88_21 {S : Nat → zSpc} (hS87 : ∀ x g o v gz, S 87 x g o v gz → sn87 x g o v gz) {a : List Int} {g : rHp} : ∀ (ρ : Nat → Int) (γ : Nat → rHp), zO 2 S a g q88_21 ρ γ → zGl (fun _ _ _ => True) (sn88 a g) q88_21 ρ γ := by
  intro ρ γ h
  obtain ⟨ha, hg, hr, hf, hm, hc, hl⟩ := h
  have ha : a = [ρ 0, ρ 1] := ha
  subst ha
  subst hg
  obtain ⟨r0, -, -, r3, r4, r5, r6, r7, r8, r9, r10, r11, -⟩ := hr
  have r0 : ((-2147483648) : Int) ≤ ρ 0 ∧ ρ 0 ≤ (-1) := r0
  have r3 : (10 : Int) ≤ ρ 3 ∧ ρ 3 ≤ 2147483648 := r3
  have r4 : (10 : Int) ≤ ρ 4 ∧ ρ 4 ≤ 214748364 := r4
  have r5 : (10 : Int) ≤ ρ 5 ∧ ρ 5 ≤ 21474836 := r5
  have r6 : (10 : Int) ≤ ρ 6 ∧ ρ 6 ≤ 2147483 := r6
  have r7 : (10 : Int) ≤ ρ 7 ∧ ρ 7 ≤ 214748 := r7
  have r8 : (10 : Int) ≤ ρ 8 ∧ ρ 8 ≤ 21474 := r8
  have r9 : (10 : Int) ≤ ρ 9 ∧ ρ 9 ≤ 2147 := r9
  have r10 : (10 : Int) ≤ ρ 10 ∧ ρ 10 ≤ 214 := r10
  have r11 : (10 : Int) ≤ ρ 11 ∧ ρ 11 ≤ 21 := r11
  obtain ⟨f0, f1, -, f3, f4, -, f6, f7, -, f9, f10, -, f12, f13, -, f15, f16, -, f18, f19, -, f21, f22, -, f24, f25, -, f27, f28, -, -, -, -, f33, f34, -, f36, f37, -, f39, f40, -, f42, f43, -, f45, f46, -, f48, f49, -, f51, f52, -, f54, f55, f56, f57, -⟩ := hf
  have f0 : (0 : Int) ≤ ρ 49 + -ρ 2 := f0
  have f1 : (0 : Int) ≤ -ρ 49 + ρ 2 := f1
  have f3 : (0 : Int) ≤ 10 * ρ 45 + -ρ 2 + 9 := f3
  have f4 : (0 : Int) ≤ (-10) * ρ 45 + ρ 2 := f4
  have f6 : (0 : Int) ≤ 100 * ρ 41 + -ρ 2 + 99 := f6
  have f7 : (0 : Int) ≤ (-100) * ρ 41 + ρ 2 := f7
  have f9 : (0 : Int) ≤ 1000 * ρ 37 + -ρ 2 + 999 := f9
  have f10 : (0 : Int) ≤ (-1000) * ρ 37 + ρ 2 := f10
  have f12 : (0 : Int) ≤ 10000 * ρ 33 + -ρ 2 + 9999 := f12
  have f13 : (0 : Int) ≤ (-10000) * ρ 33 + ρ 2 := f13
  have f15 : (0 : Int) ≤ 100000 * ρ 29 + -ρ 2 + 99999 := f15
  have f16 : (0 : Int) ≤ (-100000) * ρ 29 + ρ 2 := f16
  have f18 : (0 : Int) ≤ 1000000 * ρ 25 + -ρ 2 + 999999 := f18
  have f19 : (0 : Int) ≤ (-1000000) * ρ 25 + ρ 2 := f19
  have f21 : (0 : Int) ≤ 10000000 * ρ 21 + -ρ 2 + 9999999 := f21
  have f22 : (0 : Int) ≤ (-10000000) * ρ 21 + ρ 2 := f22
  have f24 : (0 : Int) ≤ 100000000 * ρ 17 + -ρ 2 + 99999999 := f24
  have f25 : (0 : Int) ≤ (-100000000) * ρ 17 + ρ 2 := f25
  have f27 : (0 : Int) ≤ 1000000000 * ρ 13 + -ρ 2 + 999999999 := f27
  have f28 : (0 : Int) ≤ (-1000000000) * ρ 13 + ρ 2 := f28
  have f33 : (0 : Int) ≤ 100000000 * ρ 11 + -ρ 2 + 99999999 := f33
  have f34 : (0 : Int) ≤ (-100000000) * ρ 11 + ρ 2 := f34
  have f36 : (0 : Int) ≤ 10000000 * ρ 10 + -ρ 2 + 9999999 := f36
  have f37 : (0 : Int) ≤ (-10000000) * ρ 10 + ρ 2 := f37
  have f39 : (0 : Int) ≤ 1000000 * ρ 9 + -ρ 2 + 999999 := f39
  have f40 : (0 : Int) ≤ (-1000000) * ρ 9 + ρ 2 := f40
  have f42 : (0 : Int) ≤ 100000 * ρ 8 + -ρ 2 + 99999 := f42
  have f43 : (0 : Int) ≤ (-100000) * ρ 8 + ρ 2 := f43
  have f45 : (0 : Int) ≤ 10000 * ρ 7 + -ρ 2 + 9999 := f45
  have f46 : (0 : Int) ≤ (-10000) * ρ 7 + ρ 2 := f46
  have f48 : (0 : Int) ≤ 1000 * ρ 6 + -ρ 2 + 999 := f48
  have f49 : (0 : Int) ≤ (-1000) * ρ 6 + ρ 2 := f49
  have f51 : (0 : Int) ≤ 100 * ρ 5 + -ρ 2 + 99 := f51
  have f52 : (0 : Int) ≤ (-100) * ρ 5 + ρ 2 := f52
  have f54 : (0 : Int) ≤ 10 * ρ 4 + -ρ 2 + 9 := f54
  have f55 : (0 : Int) ≤ (-10) * ρ 4 + ρ 2 := f55
  have f56 : (0 : Int) ≤ ρ 3 + -ρ 2 := f56
  have f57 : (0 : Int) ≤ -ρ 3 + ρ 2 := f57
  obtain ⟨w_0, w_1, w_2, w_3, w_4, w_5, w_6, w_7, w_8, w_9, w_10, w_11, w_12, w_13, w_14, w_15, w_16, w_17, w_18, w_19, w_20, w_21, w_22, w_23, w_24, w_25, w_26, w_27, w_28⟩ : (¬ (ρ 0 ≥ 0)) ∧ ((ρ 2) / 1 = ρ 3) ∧ (¬ (ρ 3 ≤ 9)) ∧ ((ρ 2) / 10 = ρ 4) ∧ (¬ (ρ 4 ≤ 9)) ∧ ((ρ 2) / 100 = ρ 5) ∧ (¬ (ρ 5 ≤ 9)) ∧ ((ρ 2) / 1000 = ρ 6) ∧ (¬ (ρ 6 ≤ 9)) ∧ ((ρ 2) / 10000 = ρ 7) ∧ (¬ (ρ 7 ≤ 9)) ∧ ((ρ 2) / 100000 = ρ 8) ∧ (¬ (ρ 8 ≤ 9)) ∧ ((ρ 2) / 1000000 = ρ 9) ∧ (¬ (ρ 9 ≤ 9)) ∧ ((ρ 2) / 10000000 = ρ 10) ∧ (¬ (ρ 10 ≤ 9)) ∧ ((ρ 2) / 100000000 = ρ 11) ∧ (¬ (ρ 11 ≤ 9)) ∧ ((ρ 2) / 1000000000 = ρ 13) ∧ ((ρ 2) / 100000000 = ρ 17) ∧ ((ρ 2) / 10000000 = ρ 21) ∧ ((ρ 2) / 1000000 = ρ 25) ∧ ((ρ 2) / 100000 = ρ 29) ∧ ((ρ 2) / 10000 = ρ 33) ∧ ((ρ 2) / 1000 = ρ 37) ∧ ((ρ 2) / 100 = ρ 41) ∧ ((ρ 2) / 10 = ρ 45) ∧ ((ρ 2) / 1 = ρ 49) := ⟨by clear r3 r4 r5 r6 r7 r8 r9 r10 r11 f0 f1 f3 f4 f6 f7 f9 f10 f12 f13 f15 f16 f18 f19 f21 f22 f24 f25 f27 f28 f33 f34 f36 f37 f39 f40 f42 f43 f45 f46 f48 f49 f51 f52 f54 f55 f56 f57; omega, by clear r0 r3 r4 r5 r6 r7 r8 r9 r10 r11 f0 f1 f3 f4 f6 f7 f9 f10 f12 f13 f15 f16 f18 f19 f21 f22 f24 f25 f27 f28 f33 f34 f36 f37 f39 f40 f42 f43 f45 f46 f48 f49 f51 f52 f54 f55; omega, by clear r0 r4 r5 r6 r7 r8 r9 r10 r11 f0 f1 f3 f4 f6 f7 f9 f10 f12 f13 f15 f16 f18 f19 f21 f22 f24 f25 f27 f28 f33 f34 f36 f37 f39 f40 f42 f43 f45 f46 f48 f49 f51 f52 f54 f55 f56 f57; omega, by clear r0 r3 r4 r5 r6 r7 r8 r9 r10 r11 f0 f1 f3 f4 f6 f7 f9 f10 f12 f13 f15 f16 f18 f19 f21 f22 f24 f25 f27 f28 f33 f34 f36 f37 f39 f40 f42 f43 f45 f46 f48 f49 f51 f52 f56 f57; omega, by clear r0 r3 r5 r6 r7 r8 r9 r10 r11 f0 f1 f3 f4 f6 f7 f9 f10 f12 f13 f15 f16 f18 f19 f21 f22 f24 f25 f27 f28 f33 f34 f36 f37 f39 f40 f42 f43 f45 f46 f48 f49 f51 f52 f54 f55 f56 f57; omega, by clear r0 r3 r4 r5 r6 r7 r8 r9 r10 r11 f0 f1 f3 f4 f6 f7 f9 f10 f12 f13 f15 f16 f18 f19 f21 f22 f24 f25 f27 f28 f33 f34 f36 f37 f39 f40 f42 f43 f45 f46 f48 f49 f54 f55 f56 f57; omega, by clear r0 r3 r4 r6 r7 r8 r9 r10 r11 f0 f1 f3 f4 f6 f7 f9 f10 f12 f13 f15 f16 f18 f19 f21 f22 f24 f25 f27 f28 f33 f34 f36 f37 f39 f40 f42 f43 f45 f46 f48 f49 f51 f52 f54 f55 f56 f57; omega, by clear r0 r3 r4 r5 r6 r7 r8 r9 r10 r11 f0 f1 f3 f4 f6 f7 f9 f10 f12 f13 f15 f16 f18 f19 f21 f22 f24 f25 f27 f28 f33 f34 f36 f37 f39 f40 f42 f43 f45 f46 f51 f52 f54 f55 f56 f57; omega, by clear r0 r3 r4 r5 r7 r8 r9 r10 r11 f0 f1 f3 f4 f6 f7 f9 f10 f12 f13 f15 f16 f18 f19 f21 f22 f24 f25 f27 f28 f33 f34 f36 f37 f39 f40 f42 f43 f45 f46 f48 f49 f51 f52 f54 f55 f56 f57; omega, by clear r0 r3 r4 r5 r6 r7 r8 r9 r10 r11 f0 f1 f3 f4 f6 f7 f9 f10 f12 f13 f15 f16 f18 f19 f21 f22 f24 f25 f27 f28 f33 f34 f36 f37 f39 f40 f42 f43 f48 f49 f51 f52 f54 f55 f56 f57; omega, by clear r0 r3 r4 r5 r6 r8 r9 r10 r11 f0 f1 f3 f4 f6 f7 f9 f10 f12 f13 f15 f16 f18 f19 f21 f22 f24 f25 f27 f28 f33 f34 f36 f37 f39 f40 f42 f43 f45 f46 f48 f49 f51 f52 f54 f55 f56 f57; omega, by clear r0 r3 r4 r5 r6 r7 r8 r9 r10 r11 f0 f1 f3 f4 f6 f7 f9 f10 f12 f13 f15 f16 f18 f19 f21 f22 f24 f25 f27 f28 f33 f34 f36 f37 f39 f40 f45 f46 f48 f49 f51 f52 f54 f55 f56 f57; omega, by clear r0 r3 r4 r5 r6 r7 r9 r10 r11 f0 f1 f3 f4 f6 f7 f9 f10 f12 f13 f15 f16 f18 f19 f21 f22 f24 f25 f27 f28 f33 f34 f36 f37 f39 f40 f42 f43 f45 f46 f48 f49 f51 f52 f54 f55 f56 f57; omega, by clear r0 r3 r4 r5 r6 r7 r8 r9 r10 r11 f0 f1 f3 f4 f6 f7 f9 f10 f12 f13 f15 f16 f18 f19 f21 f22 f24 f25 f27 f28 f33 f34 f36 f37 f42 f43 f45 f46 f48 f49 f51 f52 f54 f55 f56 f57; omega, by clear r0 r3 r4 r5 r6 r7 r8 r10 r11 f0 f1 f3 f4 f6 f7 f9 f10 f12 f13 f15 f16 f18 f19 f21 f22 f24 f25 f27 f28 f33 f34 f36 f37 f39 f40 f42 f43 f45 f46 f48 f49 f51 f52 f54 f55 f56 f57; omega, by clear r0 r3 r4 r5 r6 r7 r8 r9 r10 r11 f0 f1 f3 f4 f6 f7 f9 f10 f12 f13 f15 f16 f18 f19 f21 f22 f24 f25 f27 f28 f33 f34 f39 f40 f42 f43 f45 f46 f48 f49 f51 f52 f54 f55 f56 f57; omega, by clear r0 r3 r4 r5 r6 r7 r8 r9 r11 f0 f1 f3 f4 f6 f7 f9 f10 f12 f13 f15 f16 f18 f19 f21 f22 f24 f25 f27 f28 f33 f34 f36 f37 f39 f40 f42 f43 f45 f46 f48 f49 f51 f52 f54 f55 f56 f57; omega, by clear r0 r3 r4 r5 r6 r7 r8 r9 r10 r11 f0 f1 f3 f4 f6 f7 f9 f10 f12 f13 f15 f16 f18 f19 f21 f22 f24 f25 f27 f28 f36 f37 f39 f40 f42 f43 f45 f46 f48 f49 f51 f52 f54 f55 f56 f57; omega, by clear r0 r3 r4 r5 r6 r7 r8 r9 r10 f0 f1 f3 f4 f6 f7 f9 f10 f12 f13 f15 f16 f18 f19 f21 f22 f24 f25 f27 f28 f33 f34 f36 f37 f39 f40 f42 f43 f45 f46 f48 f49 f51 f52 f54 f55 f56 f57; omega, by clear r0 r3 r4 r5 r6 r7 r8 r9 r10 r11 f0 f1 f3 f4 f6 f7 f9 f10 f12 f13 f15 f16 f18 f19 f21 f22 f24 f25 f33 f34 f36 f37 f39 f40 f42 f43 f45 f46 f48 f49 f51 f52 f54 f55 f56 f57; omega, by clear r0 r3 r4 r5 r6 r7 r8 r9 r10 r11 f0 f1 f3 f4 f6 f7 f9 f10 f12 f13 f15 f16 f18 f19 f21 f22 f27 f28 f33 f34 f36 f37 f39 f40 f42 f43 f45 f46 f48 f49 f51 f52 f54 f55 f56 f57; omega, by clear r0 r3 r4 r5 r6 r7 r8 r9 r10 r11 f0 f1 f3 f4 f6 f7 f9 f10 f12 f13 f15 f16 f18 f19 f24 f25 f27 f28 f33 f34 f36 f37 f39 f40 f42 f43 f45 f46 f48 f49 f51 f52 f54 f55 f56 f57; omega, by clear r0 r3 r4 r5 r6 r7 r8 r9 r10 r11 f0 f1 f3 f4 f6 f7 f9 f10 f12 f13 f15 f16 f21 f22 f24 f25 f27 f28 f33 f34 f36 f37 f39 f40 f42 f43 f45 f46 f48 f49 f51 f52 f54 f55 f56 f57; omega, by clear r0 r3 r4 r5 r6 r7 r8 r9 r10 r11 f0 f1 f3 f4 f6 f7 f9 f10 f12 f13 f18 f19 f21 f22 f24 f25 f27 f28 f33 f34 f36 f37 f39 f40 f42 f43 f45 f46 f48 f49 f51 f52 f54 f55 f56 f57; omega, by clear r0 r3 r4 r5 r6 r7 r8 r9 r10 r11 f0 f1 f3 f4 f6 f7 f9 f10 f15 f16 f18 f19 f21 f22 f24 f25 f27 f28 f33 f34 f36 f37 f39 f40 f42 f43 f45 f46 f48 f49 f51 f52 f54 f55 f56 f57; omega, by clear r0 r3 r4 r5 r6 r7 r8 r9 r10 r11 f0 f1 f3 f4 f6 f7 f12 f13 f15 f16 f18 f19 f21 f22 f24 f25 f27 f28 f33 f34 f36 f37 f39 f40 f42 f43 f45 f46 f48 f49 f51 f52 f54 f55 f56 f57; omega, by clear r0 r3 r4 r5 r6 r7 r8 r9 r10 r11 f0 f1 f3 f4 f9 f10 f12 f13 f15 f16 f18 f19 f21 f22 f24 f25 f27 f28 f33 f34 f36 f37 f39 f40 f42 f43 f45 f46 f48 f49 f51 f52 f54 f55 f56 f57; omega, by clear r0 r3 r4 r5 r6 r7 r8 r9 r10 r11 f0 f1 f6 f7 f9 f10 f12 f13 f15 f16 f18 f19 f21 f22 f24 f25 f27 f28 f33 f34 f36 f37 f39 f40 f42 f43 f45 f46 f48 f49 f51 f52 f54 f55 f56 f57; omega, by clear r0 r3 r4 r5 r6 r7 r8 r9 r10 r11 f3 f4 f6 f7 f9 f10 f12 f13 f15 f16 f18 f19 f21 f22 f24 f25 f27 f28 f33 f34 f36 f37 f39 f40 f42 f43 f45 f46 f48 f49 f51 f52 f54 f55 f56 f57; omega⟩
  obtain ⟨l0, l1, l2, l3, l4, l5, l6, l7, l8, l9, l10, l11, l12, l13, l14, l15, l16, l17, l18, l19, l20, l21, l22, l23, l24, l25, l26, l27, l28, l29, l30, l31, l32, l33, l34, l35, l36, l37, l38, l39, l40, l41, -⟩ := hl
  have l0 : sn87 [45, ρ 1] (γ 0) 0 0 (γ 1) := hS87 _ _ _ _ _ l0
  have l1 : zOpP (.lneg) (γ 0) (γ 1) [ρ 0] (ρ 2) := l1
  have l2 : zOpP (.lrem) (γ 0) (γ 1) [ρ 13, 10] (ρ 14) := l2
  have l3 : zOpP (.ladd) (γ 0) (γ 1) [48, ρ 14] (ρ 15) := l3
  have l4 : zOpP (.l2i) (γ 0) (γ 1) [ρ 15] (ρ 16) := l4
  have l5 : sn87 [ρ 16, ρ 1 + 1] (γ 1) 0 0 (γ 2) := hS87 _ _ _ _ _ l5
  have l6 : zOpP (.lrem) (γ 0) (γ 1) [ρ 17, 10] (ρ 18) := l6
  have l7 : zOpP (.ladd) (γ 0) (γ 1) [48, ρ 18] (ρ 19) := l7
  have l8 : zOpP (.l2i) (γ 0) (γ 1) [ρ 19] (ρ 20) := l8
  have l9 : sn87 [ρ 20, ρ 1 + 2] (γ 2) 0 0 (γ 3) := hS87 _ _ _ _ _ l9
  have l10 : zOpP (.lrem) (γ 0) (γ 1) [ρ 21, 10] (ρ 22) := l10
  have l11 : zOpP (.ladd) (γ 0) (γ 1) [48, ρ 22] (ρ 23) := l11
  have l12 : zOpP (.l2i) (γ 0) (γ 1) [ρ 23] (ρ 24) := l12
  have l13 : sn87 [ρ 24, ρ 1 + 3] (γ 3) 0 0 (γ 4) := hS87 _ _ _ _ _ l13
  have l14 : zOpP (.lrem) (γ 0) (γ 1) [ρ 25, 10] (ρ 26) := l14
  have l15 : zOpP (.ladd) (γ 0) (γ 1) [48, ρ 26] (ρ 27) := l15
  have l16 : zOpP (.l2i) (γ 0) (γ 1) [ρ 27] (ρ 28) := l16
  have l17 : sn87 [ρ 28, ρ 1 + 4] (γ 4) 0 0 (γ 5) := hS87 _ _ _ _ _ l17
  have l18 : zOpP (.lrem) (γ 0) (γ 1) [ρ 29, 10] (ρ 30) := l18
  have l19 : zOpP (.ladd) (γ 0) (γ 1) [48, ρ 30] (ρ 31) := l19
  have l20 : zOpP (.l2i) (γ 0) (γ 1) [ρ 31] (ρ 32) := l20
  have l21 : sn87 [ρ 32, ρ 1 + 5] (γ 5) 0 0 (γ 6) := hS87 _ _ _ _ _ l21
  have l22 : zOpP (.lrem) (γ 0) (γ 1) [ρ 33, 10] (ρ 34) := l22
  have l23 : zOpP (.ladd) (γ 0) (γ 1) [48, ρ 34] (ρ 35) := l23
  have l24 : zOpP (.l2i) (γ 0) (γ 1) [ρ 35] (ρ 36) := l24
  have l25 : sn87 [ρ 36, ρ 1 + 6] (γ 6) 0 0 (γ 7) := hS87 _ _ _ _ _ l25
  have l26 : zOpP (.lrem) (γ 0) (γ 1) [ρ 37, 10] (ρ 38) := l26
  have l27 : zOpP (.ladd) (γ 0) (γ 1) [48, ρ 38] (ρ 39) := l27
  have l28 : zOpP (.l2i) (γ 0) (γ 1) [ρ 39] (ρ 40) := l28
  have l29 : sn87 [ρ 40, ρ 1 + 7] (γ 7) 0 0 (γ 8) := hS87 _ _ _ _ _ l29
  have l30 : zOpP (.lrem) (γ 0) (γ 1) [ρ 41, 10] (ρ 42) := l30
  have l31 : zOpP (.ladd) (γ 0) (γ 1) [48, ρ 42] (ρ 43) := l31
  have l32 : zOpP (.l2i) (γ 0) (γ 1) [ρ 43] (ρ 44) := l32
  have l33 : sn87 [ρ 44, ρ 1 + 8] (γ 8) 0 0 (γ 9) := hS87 _ _ _ _ _ l33
  have l34 : zOpP (.lrem) (γ 0) (γ 1) [ρ 45, 10] (ρ 46) := l34
  have l35 : zOpP (.ladd) (γ 0) (γ 1) [48, ρ 46] (ρ 47) := l35
  have l36 : zOpP (.l2i) (γ 0) (γ 1) [ρ 47] (ρ 48) := l36
  have l37 : sn87 [ρ 48, ρ 1 + 9] (γ 9) 0 0 (γ 10) := hS87 _ _ _ _ _ l37
  have l38 : zOpP (.lrem) (γ 0) (γ 1) [ρ 49, 10] (ρ 50) := l38
  have l39 : zOpP (.ladd) (γ 0) (γ 1) [48, ρ 50] (ρ 51) := l39
  have l40 : zOpP (.l2i) (γ 0) (γ 1) [ρ 51] (ρ 52) := l40
  have l41 : sn87 [ρ 52, ρ 1 + 10] (γ 10) 0 0 (γ 11) := hS87 _ _ _ _ _ l41
  show sn88 [ρ 0, ρ 1] (γ 0) 0 0 (γ 11)
  refine Eq.symm ?_
  show fn88 [ρ 0] (γ 0) = _
  unfold fn88
  refine (zLet_eq (show _ = ρ 0 from rfl)).trans ?_
  refine (if_neg w_0).trans ?_
  refine (zLet_eq (show fn87 [45] (γ 0) = (0, 0, γ 1) from l0.symm)).trans ?_
  refine (zLet_eq (show _ = γ 1 from rfl)).trans ?_
  refine (zLet_eq (zF1_ok l1)).trans ?_
  refine (zLet_eq w_1).trans ?_
  refine (if_neg w_2).trans ?_
  refine (zLet_eq w_3).trans ?_
  refine (if_neg w_4).trans ?_
  refine (zLet_eq w_5).trans ?_
  refine (if_neg w_6).trans ?_
  refine (zLet_eq w_7).trans ?_
  refine (if_neg w_8).trans ?_
  refine (zLet_eq w_9).trans ?_
  refine (if_neg w_10).trans ?_
  refine (zLet_eq w_11).trans ?_
  refine (if_neg w_12).trans ?_
  refine (zLet_eq w_13).trans ?_
  refine (if_neg w_14).trans ?_
  refine (zLet_eq w_15).trans ?_
  refine (if_neg w_16).trans ?_
  refine (zLet_eq w_17).trans ?_
  refine (if_neg w_18).trans ?_
  refine (zLet_eq w_19).trans ?_
  refine (zLet_eq (zF2_ok l2)).trans ?_
  refine (zLet_eq (zF2_ok l3)).trans ?_
  refine (zLet_eq (zF1_ok l4)).trans ?_
  refine (zLet_eq (show fn87 [ρ 16] (γ 1) = (0, 0, γ 2) from l5.symm)).trans ?_
  refine (zLet_eq (show _ = γ 2 from rfl)).trans ?_
  refine (zLet_eq w_20).trans ?_
  refine (zLet_eq (zF2_ok l6)).trans ?_
  refine (zLet_eq (zF2_ok l7)).trans ?_
  refine (zLet_eq (zF1_ok l8)).trans ?_
  refine (zLet_eq (show fn87 [ρ 20] (γ 2) = (0, 0, γ 3) from l9.symm)).trans ?_
  refine (zLet_eq (show _ = γ 3 from rfl)).trans ?_
  refine (zLet_eq w_21).trans ?_
  refine (zLet_eq (zF2_ok l10)).trans ?_
  refine (zLet_eq (zF2_ok l11)).trans ?_
  refine (zLet_eq (zF1_ok l12)).trans ?_
  refine (zLet_eq (show fn87 [ρ 24] (γ 3) = (0, 0, γ 4) from l13.symm)).trans ?_
  refine (zLet_eq (show _ = γ 4 from rfl)).trans ?_
  refine (zLet_eq w_22).trans ?_
  refine (zLet_eq (zF2_ok l14)).trans ?_
  refine (zLet_eq (zF2_ok l15)).trans ?_
  refine (zLet_eq (zF1_ok l16)).trans ?_
  refine (zLet_eq (show fn87 [ρ 28] (γ 4) = (0, 0, γ 5) from l17.symm)).trans ?_
  refine (zLet_eq (show _ = γ 5 from rfl)).trans ?_
  refine (zLet_eq w_23).trans ?_
  refine (zLet_eq (zF2_ok l18)).trans ?_
  refine (zLet_eq (zF2_ok l19)).trans ?_
  refine (zLet_eq (zF1_ok l20)).trans ?_
  refine (zLet_eq (show fn87 [ρ 32] (γ 5) = (0, 0, γ 6) from l21.symm)).trans ?_
  refine (zLet_eq (show _ = γ 6 from rfl)).trans ?_
  refine (zLet_eq w_24).trans ?_
  refine (zLet_eq (zF2_ok l22)).trans ?_
  refine (zLet_eq (zF2_ok l23)).trans ?_
  refine (zLet_eq (zF1_ok l24)).trans ?_
  refine (zLet_eq (show fn87 [ρ 36] (γ 6) = (0, 0, γ 7) from l25.symm)).trans ?_
  refine (zLet_eq (show _ = γ 7 from rfl)).trans ?_
  refine (zLet_eq w_25).trans ?_
  refine (zLet_eq (zF2_ok l26)).trans ?_
  refine (zLet_eq (zF2_ok l27)).trans ?_
  refine (zLet_eq (zF1_ok l28)).trans ?_
  refine (zLet_eq (show fn87 [ρ 40] (γ 7) = (0, 0, γ 8) from l29.symm)).trans ?_
  refine (zLet_eq (show _ = γ 8 from rfl)).trans ?_
  refine (zLet_eq w_26).trans ?_
  refine (zLet_eq (zF2_ok l30)).trans ?_
  refine (zLet_eq (zF2_ok l31)).trans ?_
  refine (zLet_eq (zF1_ok l32)).trans ?_
  refine (zLet_eq (show fn87 [ρ 44] (γ 8) = (0, 0, γ 9) from l33.symm)).trans ?_
  refine (zLet_eq (show _ = γ 9 from rfl)).trans ?_
  refine (zLet_eq w_27).trans ?_
  refine (zLet_eq (zF2_ok l34)).trans ?_
  refine (zLet_eq (zF2_ok l35)).trans ?_
  refine (zLet_eq (zF1_ok l36)).trans ?_
  refine (zLet_eq (show fn87 [ρ 48] (γ 9) = (0, 0, γ 10) from l37.symm)).trans ?_
  refine (zLet_eq (show _ = γ 10 from rfl)).trans ?_
  refine (zLet_eq w_28).trans ?_
  refine (zLet_eq (zF2_ok l38)).trans ?_
  refine (zLet_eq (zF2_ok l39)).trans ?_
  refine (zLet_eq (zF1_ok l40)).trans ?_
  refine (zLet_eq (show fn87 [ρ 52] (γ 10) = (0, 0, γ 11) from l41.symm)).trans ?_
  refine (zLet_eq (show _ = γ 11 from rfl)).trans ?_
  rfl
set_option maxRecDepth 100000 in
theorem yn88 {S : Nat → zSpc} (hS87 : ∀ x g o v gz, S 87 x g o v gz → sn87 x g o v gz) : ∀ x g o v gz, zSem uW uT w88_.2.2.2.1 w88_.2.2.1.1.length S q88 (fun i => q88a.getD i []) (zNA a88_) x g o v gz → sn88 x g o v gz := by
  intro a g o v gz h
  exact zSem_all (l0 := q88) (las := q88a) (S := S) (J := (fun _ _ _ => True)) (P := sn88 a g) (fun _ => (show zAll _ [q88_0, q88_1, q88_2, q88_3, q88_4, q88_5, q88_6, q88_7, q88_8, q88_9, q88_10, q88_11, q88_12, q88_13, q88_14, q88_15, q88_16, q88_17, q88_18, q88_19, q88_20, q88_21] from (zAll_c (vn88_0 hS87) (zAll_c (vn88_1 hS87) (zAll_c (vn88_2 hS87) (zAll_c (vn88_3 hS87) (zAll_c (vn88_4 hS87) (zAll_c (vn88_5 hS87) (zAll_c (vn88_6 hS87) (zAll_c (vn88_7 hS87) (zAll_c (vn88_8 hS87) (zAll_c (vn88_9 hS87) (zAll_c (vn88_10 hS87) (zAll_c (vn88_11 hS87) (zAll_c (vn88_12 hS87) (zAll_c (vn88_13 hS87) (zAll_c (vn88_14 hS87) (zAll_c (vn88_15 hS87) (zAll_c (vn88_16 hS87) (zAll_c (vn88_17 hS87) (zAll_c (vn88_18 hS87) (zAll_c (vn88_19 hS87) (zAll_c (vn88_20 hS87) (zAll_c (vn88_21 hS87) zAll_n)))))))))))))))))))))))) (fun _ => (show zAllI _ 0 [] from trivial)) h
set_option maxRecDepth 100000 in
theorem vn89_0 {S : Nat → zSpc} (hS1 : ∀ x g o v gz, S 1 x g o v gz → sn1 x g o v gz) (hS55 : ∀ x g o v gz, S 55 x g o v gz → sn55 x g o v gz) (hS79 : ∀ x g o v gz, S 79 x g o v gz → sn79 x g o v gz) (hS87 : ∀ x g o v gz, S 87 x g o v gz → sn87 x g o v gz) (hS88 : ∀ x g o v gz, S 88 x g o v gz → sn88 x g o v gz) {a : List Int} {g : rHp} : ∀ (ρ : Nat → Int) (γ : Nat → rHp), zO 5 S a g q89_0 ρ γ → zGl (fun i vs g1 => jn89 a g i vs g1) (sn89 a g) q89_0 ρ γ := by
  intro ρ γ h
  obtain ⟨ha, hg, hr, hf, hm, hc, hl⟩ := h
  have ha : a = [ρ 0, ρ 1, ρ 2, ρ 3, ρ 4] := ha
  subst ha
  subst hg
  obtain ⟨-, -, -, -, -, r5, -⟩ := hr
  have r5 : (1 : Int) ≤ ρ 5 ∧ ρ 5 ≤ 1 := r5
  have w_0 : ρ 5 ≠ 0 := by omega
  obtain ⟨-, -, -, -, m4, -⟩ := hm
  have m4 : γ 0 15 0 59 = ρ 5 := m4
  obtain ⟨l0, l1, -⟩ := hl
  have l0 : sn79 [ρ 0, ρ 3] (γ 0) 0 0 (γ 1) := hS79 _ _ _ _ _ l0
  have l1 : sn1 [2, ρ 2] (γ 1) 0 1 (γ 2) := hS1 _ _ _ _ _ l1
  show sn89 [ρ 0, ρ 1, ρ 2, ρ 3, ρ 4] (γ 0) 0 0 (γ 2)
  have hD : dn89 [ρ 0] (γ 0) = .inr (0, 0, γ 2) := by
    unfold dn89
    refine (zLet_eq (show _ = ρ 0 from rfl)).trans ?_
    refine (zLet_eq m4).trans ?_
    refine (if_pos w_0).trans ?_
    refine (zLet_eq (show fn79 [ρ 0] (γ 0) = (0, 0, γ 1) from l0.symm)).trans ?_
    refine (zLet_eq (show _ = γ 1 from rfl)).trans ?_
    refine (if_neg zQ0_).trans ?_
    refine (zLet_eq (show fn1 [2] (γ 1) = (0, 1, γ 2) from l1.symm)).trans ?_
    refine (zLet_eq (show _ = γ 2 from rfl)).trans ?_
    rfl
  exact zGoo_end hD
set_option maxRecDepth 100000 in
theorem vn89_1 {S : Nat → zSpc} (hS1 : ∀ x g o v gz, S 1 x g o v gz → sn1 x g o v gz) (hS55 : ∀ x g o v gz, S 55 x g o v gz → sn55 x g o v gz) (hS79 : ∀ x g o v gz, S 79 x g o v gz → sn79 x g o v gz) (hS87 : ∀ x g o v gz, S 87 x g o v gz → sn87 x g o v gz) (hS88 : ∀ x g o v gz, S 88 x g o v gz → sn88 x g o v gz) {a : List Int} {g : rHp} : ∀ (ρ : Nat → Int) (γ : Nat → rHp), zO 5 S a g q89_1 ρ γ → zGl (fun i vs g1 => jn89 a g i vs g1) (sn89 a g) q89_1 ρ γ := by
  intro ρ γ h
  obtain ⟨ha, hg, hr, hf, hm, hc, hl⟩ := h
  have ha : a = [ρ 0, ρ 1, ρ 2, ρ 3, ρ 4] := ha
  subst ha
  subst hg
  obtain ⟨-, -, -, -, -, r5, -⟩ := hr
  have r5 : (1 : Int) ≤ ρ 5 ∧ ρ 5 ≤ 1 := r5
  have w_0 : ρ 5 ≠ 0 := by omega
  obtain ⟨-, -, -, -, m4, -, m6, -⟩ := hm
  have m4 : γ 0 15 0 59 = ρ 5 := m4
  have m6 : γ 0 93 0 (ρ 0) = ρ 6 := m6
  obtain ⟨-, c3⟩ := hc
  have c3 : γ 3 = rUp (γ 2) 15 0 4 0 := c3
  obtain ⟨l0, l1, -⟩ := hl
  have l0 : sn79 [ρ 0, ρ 3] (γ 0) 0 1 (γ 1) := hS79 _ _ _ _ _ l0
  have l1 : sn1 [0, ρ 2] (γ 1) 0 0 (γ 2) := hS1 _ _ _ _ _ l1
  show jn89 [ρ 0, ρ 1, ρ 2, ρ 3, ρ 4] (γ 0) 0 [ρ 0, ρ 1, ρ 2, ρ 3, ρ 4, 0, ρ 6, 0, 0] (γ 3)
  have hD : dn89 [ρ 0] (γ 0) = .inl (0, [ρ 0, 0, ρ 6], γ 3) := by
    unfold dn89
    refine (zLet_eq (show _ = ρ 0 from rfl)).trans ?_
    refine (zLet_eq m4).trans ?_
    refine (if_pos w_0).trans ?_
    refine (zLet_eq (show fn79 [ρ 0] (γ 0) = (0, 1, γ 1) from l0.symm)).trans ?_
    refine (zLet_eq (show _ = γ 1 from rfl)).trans ?_
    refine (if_pos zQ1_).trans ?_
    refine (zLet_eq (show fn1 [0] (γ 1) = (0, 0, γ 2) from l1.symm)).trans ?_
    refine (zLet_eq (show _ = γ 2 from rfl)).trans ?_
    refine (zLet_eq m6).trans ?_
    refine (zLet_eq c3.symm).trans ?_
    rfl
  exact zGoo_to hD
set_option maxRecDepth 100000 in
theorem vn89_2 {S : Nat → zSpc} (hS1 : ∀ x g o v gz, S 1 x g o v gz → sn1 x g o v gz) (hS55 : ∀ x g o v gz, S 55 x g o v gz → sn55 x g o v gz) (hS79 : ∀ x g o v gz, S 79 x g o v gz → sn79 x g o v gz) (hS87 : ∀ x g o v gz, S 87 x g o v gz → sn87 x g o v gz) (hS88 : ∀ x g o v gz, S 88 x g o v gz → sn88 x g o v gz) {a : List Int} {g : rHp} : ∀ (ρ : Nat → Int) (γ : Nat → rHp), zO 5 S a g q89_2 ρ γ → zGl (fun i vs g1 => jn89 a g i vs g1) (sn89 a g) q89_2 ρ γ := by
  intro ρ γ h
  obtain ⟨ha, hg, hr, hf, hm, hc, hl⟩ := h
  have ha : a = [ρ 0, ρ 1, ρ 2, ρ 3, ρ 4] := ha
  subst ha
  subst hg
  obtain ⟨-, -, -, -, -, r5, -⟩ := hr
  have r5 : (0 : Int) ≤ ρ 5 ∧ ρ 5 ≤ 0 := r5
  have w_0 : ¬ (ρ 5 ≠ 0) := by omega
  obtain ⟨-, -, -, -, m4, -⟩ := hm
  have m4 : γ 0 15 0 59 = ρ 5 := m4
  obtain ⟨l0, -⟩ := hl
  have l0 : sn1 [1, ρ 2] (γ 0) 0 1 (γ 1) := hS1 _ _ _ _ _ l0
  show sn89 [ρ 0, ρ 1, ρ 2, ρ 3, ρ 4] (γ 0) 0 0 (γ 1)
  have hD : dn89 [ρ 0] (γ 0) = .inr (0, 0, γ 1) := by
    unfold dn89
    refine (zLet_eq (show _ = ρ 0 from rfl)).trans ?_
    refine (zLet_eq m4).trans ?_
    refine (if_neg w_0).trans ?_
    refine (zLet_eq (show fn1 [1] (γ 0) = (0, 1, γ 1) from l0.symm)).trans ?_
    refine (zLet_eq (show _ = γ 1 from rfl)).trans ?_
    rfl
  exact zGoo_end hD
set_option maxRecDepth 100000 in
theorem vn89a0_0 {S : Nat → zSpc} (hS1 : ∀ x g o v gz, S 1 x g o v gz → sn1 x g o v gz) (hS55 : ∀ x g o v gz, S 55 x g o v gz → sn55 x g o v gz) (hS79 : ∀ x g o v gz, S 79 x g o v gz → sn79 x g o v gz) (hS87 : ∀ x g o v gz, S 87 x g o v gz → sn87 x g o v gz) (hS88 : ∀ x g o v gz, S 88 x g o v gz → sn88 x g o v gz) {a : List Int} {g : rHp} : ∀ (ρ : Nat → Int) (γ : Nat → rHp), jn89 a g 0 (zAg (zNA a89_ 0) ρ) (γ 1) → zO 5 S a g q89a0_0 ρ γ → zGl (fun i vs g1 => jn89 a g i vs g1) (sn89 a g) q89a0_0 ρ γ := by
  intro ρ γ hJ h
  obtain ⟨ha, hg, hr, hf, hm, hc, hl⟩ := h
  have ha : a = [ρ 0, ρ 1, ρ 2, ρ 3, ρ 4] := ha
  subst ha
  subst hg
  have hJ : jn89 [ρ 0, ρ 1, ρ 2, ρ 3, ρ 4] (γ 0) 0 [ρ 0, ρ 1, ρ 2, ρ 3, ρ 4, ρ 5, ρ 6, ρ 7, ρ 8] (γ 1) := hJ
  obtain ⟨f0, -⟩ := hf
  have f0 : (0 : Int) ≤ -ρ 9 + ρ 5 := f0
  have w_0 : ρ 5 ≥ ρ 9 := by omega
  obtain ⟨-, -, -, -, -, -, m6, -⟩ := hm
  have m6 : γ 0 65 0 (ρ 6) = ρ 9 := m6
  show jn89 [ρ 0, ρ 1, ρ 2, ρ 3, ρ 4] (γ 0) 1 [ρ 0, ρ 1, ρ 2, ρ 3, ρ 4, 0, ρ 6, ρ 7, ρ 8] (γ 1)
  have hD : en89 (γ 0) (0, [ρ 0, ρ 5, ρ 6], γ 1) = .inl (1, [ρ 0, 0, ρ 6], γ 1) := by
    unfold en89
    refine (if_pos (show (0 : Nat) = 0 by decide)).trans ?_
    refine (zLet_eq (show _ = γ 1 from rfl)).trans ?_
    refine (zLet_eq (show _ = ρ 0 from rfl)).trans ?_
    refine (zLet_eq (show _ = ρ 5 from rfl)).trans ?_
    refine (zLet_eq (show _ = ρ 6 from rfl)).trans ?_
    refine (zLet_eq m6).trans ?_
    refine (if_pos w_0).trans ?_
    rfl
  exact zGoo_ato hJ hD
set_option maxRecDepth 100000 in
theorem vn89a0_1 {S : Nat → zSpc} (hS1 : ∀ x g o v gz, S 1 x g o v gz → sn1 x g o v gz) (hS55 : ∀ x g o v gz, S 55 x g o v gz → sn55 x g o v gz) (hS79 : ∀ x g o v gz, S 79 x g o v gz → sn79 x g o v gz) (hS87 : ∀ x g o v gz, S 87 x g o v gz → sn87 x g o v gz) (hS88 : ∀ x g o v gz, S 88 x g o v gz → sn88 x g o v gz) {a : List Int} {g : rHp} : ∀ (ρ : Nat → Int) (γ : Nat → rHp), jn89 a g 0 (zAg (zNA a89_ 0) ρ) (γ 1) → zO 5 S a g q89a0_1 ρ γ → zGl (fun i vs g1 => jn89 a g i vs g1) (sn89 a g) q89a0_1 ρ γ := by
  intro ρ γ hJ h
  obtain ⟨ha, hg, hr, hf, hm, hc, hl⟩ := h
  have ha : a = [ρ 0, ρ 1, ρ 2, ρ 3, ρ 4] := ha
  subst ha
  subst hg
  have hJ : jn89 [ρ 0, ρ 1, ρ 2, ρ 3, ρ 4] (γ 0) 0 [ρ 0, ρ 1, ρ 2, ρ 3, ρ 4, ρ 5, ρ 6, ρ 7, ρ 8] (γ 1) := hJ
  obtain ⟨f0, -⟩ := hf
  have f0 : (0 : Int) ≤ ρ 9 + -ρ 5 + (-1) := f0
  have w_0 : ¬ (ρ 5 ≥ ρ 9) := by omega
  obtain ⟨-, -, -, -, -, -, m6, m7, -⟩ := hm
  have m6 : γ 0 65 0 (ρ 6) = ρ 9 := m6
  have m7 : γ 0 64 0 (12 * ρ 6 + ρ 5) = ρ 10 := m7
  obtain ⟨l0, -⟩ := hl
  have l0 : sn87 [ρ 10, ρ 7] (γ 1) 0 0 (γ 2) := hS87 _ _ _ _ _ l0
  show jn89 [ρ 0, ρ 1, ρ 2, ρ 3, ρ 4] (γ 0) 0 [ρ 0, ρ 1, ρ 2, ρ 3, ρ 4, ρ 5 + 1, ρ 6, ρ 7 + 1, ρ 8] (γ 2)
  have hD : en89 (γ 0) (0, [ρ 0, ρ 5, ρ 6], γ 1) = .inl (0, [ρ 0, ρ 5 + 1, ρ 6], γ 2) := by
    unfold en89
    refine (if_pos (show (0 : Nat) = 0 by decide)).trans ?_
    refine (zLet_eq (show _ = γ 1 from rfl)).trans ?_
    refine (zLet_eq (show _ = ρ 0 from rfl)).trans ?_
    refine (zLet_eq (show _ = ρ 5 from rfl)).trans ?_
    refine (zLet_eq (show _ = ρ 6 from rfl)).trans ?_
    refine (zLet_eq m6).trans ?_
    refine (if_neg w_0).trans ?_
    refine (zLet_eq m7).trans ?_
    refine (zLet_eq (show fn87 [ρ 10] (γ 1) = (0, 0, γ 2) from l0.symm)).trans ?_
    refine (zLet_eq (show _ = γ 2 from rfl)).trans ?_
    rfl
  exact zGoo_ato hJ hD
set_option maxRecDepth 100000 in
theorem vn89a1_0 {S : Nat → zSpc} (hS1 : ∀ x g o v gz, S 1 x g o v gz → sn1 x g o v gz) (hS55 : ∀ x g o v gz, S 55 x g o v gz → sn55 x g o v gz) (hS79 : ∀ x g o v gz, S 79 x g o v gz → sn79 x g o v gz) (hS87 : ∀ x g o v gz, S 87 x g o v gz → sn87 x g o v gz) (hS88 : ∀ x g o v gz, S 88 x g o v gz → sn88 x g o v gz) {a : List Int} {g : rHp} : ∀ (ρ : Nat → Int) (γ : Nat → rHp), jn89 a g 1 (zAg (zNA a89_ 1) ρ) (γ 1) → zO 5 S a g q89a1_0 ρ γ → zGl (fun i vs g1 => jn89 a g i vs g1) (sn89 a g) q89a1_0 ρ γ := by
  intro ρ γ hJ h
  obtain ⟨ha, hg, hr, hf, hm, hc, hl⟩ := h
  have ha : a = [ρ 0, ρ 1, ρ 2, ρ 3, ρ 4] := ha
  subst ha
  subst hg
  have hJ : jn89 [ρ 0, ρ 1, ρ 2, ρ 3, ρ 4] (γ 0) 1 [ρ 0, ρ 1, ρ 2, ρ 3, ρ 4, ρ 5, ρ 6, ρ 7, ρ 8] (γ 1) := hJ
  obtain ⟨f0, -⟩ := hf
  have f0 : (0 : Int) ≤ -ρ 9 + ρ 5 := f0
  have w_0 : ρ 5 ≥ ρ 9 := by omega
  obtain ⟨-, -, -, -, m4, -, m6, -⟩ := hm
  have m4 : γ 1 15 0 4 = ρ 7 := m4
  have m6 : γ 0 66 0 (ρ 6) = ρ 9 := m6
  obtain ⟨l0, -⟩ := hl
  have l0 : sn87 [41, ρ 7] (γ 1) 0 0 (γ 2) := hS87 _ _ _ _ _ l0
  show sn89 [ρ 0, ρ 1, ρ 2, ρ 3, ρ 4] (γ 0) 0 (ρ 7 + 1) (γ 2)
  have hD : en89 (γ 0) (1, [ρ 0, ρ 5, ρ 6], γ 1) = .inr (0, ρ 7 + 1, γ 2) := by
    unfold en89
    refine (if_neg (show ¬ (1 : Nat) = 0 by decide)).trans ?_
    refine (if_pos (show (1 : Nat) = 1 by decide)).trans ?_
    refine (zLet_eq (show _ = γ 1 from rfl)).trans ?_
    refine (zLet_eq (show _ = ρ 0 from rfl)).trans ?_
    refine (zLet_eq (show _ = ρ 5 from rfl)).trans ?_
    refine (zLet_eq (show _ = ρ 6 from rfl)).trans ?_
    refine (zLet_eq m4).trans ?_
    refine (zLet_eq m6).trans ?_
    refine (if_pos w_0).trans ?_
    refine (zLet_eq (show fn87 [41] (γ 1) = (0, 0, γ 2) from l0.symm)).trans ?_
    refine (zLet_eq (show _ = γ 2 from rfl)).trans ?_
    rfl
  exact zGoo_aend hJ hD
set_option maxRecDepth 100000 in
theorem vn89a1_1 {S : Nat → zSpc} (hS1 : ∀ x g o v gz, S 1 x g o v gz → sn1 x g o v gz) (hS55 : ∀ x g o v gz, S 55 x g o v gz → sn55 x g o v gz) (hS79 : ∀ x g o v gz, S 79 x g o v gz → sn79 x g o v gz) (hS87 : ∀ x g o v gz, S 87 x g o v gz → sn87 x g o v gz) (hS88 : ∀ x g o v gz, S 88 x g o v gz → sn88 x g o v gz) {a : List Int} {g : rHp} : ∀ (ρ : Nat → Int) (γ : Nat → rHp), jn89 a g 1 (zAg (zNA a89_ 1) ρ) (γ 1) → zO 5 S a g q89a1_1 ρ γ → zGl (fun i vs g1 => jn89 a g i vs g1) (sn89 a g) q89a1_1 ρ γ := by
  intro ρ γ hJ h
  obtain ⟨ha, hg, hr, hf, hm, hc, hl⟩ := h
  have ha : a = [ρ 0, ρ 1, ρ 2, ρ 3, ρ 4] := ha
  subst ha
  subst hg
  have hJ : jn89 [ρ 0, ρ 1, ρ 2, ρ 3, ρ 4] (γ 0) 1 [ρ 0, ρ 1, ρ 2, ρ 3, ρ 4, ρ 5, ρ 6, ρ 7, ρ 8] (γ 1) := hJ
  obtain ⟨-, -, -, -, -, r5, -⟩ := hr
  have r5 : (1 : Int) ≤ ρ 5 ∧ ρ 5 ≤ 4 := r5
  obtain ⟨f0, -⟩ := hf
  have f0 : (0 : Int) ≤ ρ 9 + -ρ 5 + (-1) := f0
  obtain ⟨w_0, w_1⟩ : (¬ (ρ 5 ≥ ρ 9)) ∧ (ρ 5 ≠ 0) := ⟨by omega, by omega⟩
  obtain ⟨-, -, -, -, m4, -, m6, -, m8, -⟩ := hm
  have m4 : γ 1 15 0 4 = ρ 7 := m4
  have m6 : γ 0 66 0 (ρ 6) = ρ 9 := m6
  have m8 : γ 0 99 0 (ρ 5 + 4 * ρ 0) = ρ 10 := m8
  obtain ⟨l0, l1, -⟩ := hl
  have l0 : sn87 [44, ρ 7] (γ 1) 0 0 (γ 2) := hS87 _ _ _ _ _ l0
  have l1 : sn55 [ρ 10] (γ 2) 0 0 (γ 3) := hS55 _ _ _ _ _ l1
  show jn89 [ρ 0, ρ 1, ρ 2, ρ 3, ρ 4] (γ 0) 2 [ρ 0, ρ 1, ρ 2, ρ 3, ρ 4, 0, ρ 10 + (-1099511627776), ρ 10, ρ 5, ρ 6, ρ 7 + 1, ρ 8] (γ 3)
  have hD : en89 (γ 0) (1, [ρ 0, ρ 5, ρ 6], γ 1) = .inl (2, [ρ 0, 0, ρ 10 + (-1099511627776), ρ 10, ρ 5, ρ 6], γ 3) := by
    unfold en89
    refine (if_neg (show ¬ (1 : Nat) = 0 by decide)).trans ?_
    refine (if_pos (show (1 : Nat) = 1 by decide)).trans ?_
    refine (zLet_eq (show _ = γ 1 from rfl)).trans ?_
    refine (zLet_eq (show _ = ρ 0 from rfl)).trans ?_
    refine (zLet_eq (show _ = ρ 5 from rfl)).trans ?_
    refine (zLet_eq (show _ = ρ 6 from rfl)).trans ?_
    refine (zLet_eq m4).trans ?_
    refine (zLet_eq m6).trans ?_
    refine (if_neg w_0).trans ?_
    refine (if_pos w_1).trans ?_
    refine (zLet_eq (show fn87 [44] (γ 1) = (0, 0, γ 2) from l0.symm)).trans ?_
    refine (zLet_eq (show _ = γ 2 from rfl)).trans ?_
    refine (zLet_eq m8).trans ?_
    refine (zLet_eq (show fn55 [ρ 10] (γ 2) = (0, 0, γ 3) from l1.symm)).trans ?_
    refine (zLet_eq (show _ = γ 3 from rfl)).trans ?_
    refine (if_neg zQ0_).trans ?_
    rfl
  exact zGoo_ato hJ hD
set_option maxRecDepth 100000 in
theorem vn89a1_2 {S : Nat → zSpc} (hS1 : ∀ x g o v gz, S 1 x g o v gz → sn1 x g o v gz) (hS55 : ∀ x g o v gz, S 55 x g o v gz → sn55 x g o v gz) (hS79 : ∀ x g o v gz, S 79 x g o v gz → sn79 x g o v gz) (hS87 : ∀ x g o v gz, S 87 x g o v gz → sn87 x g o v gz) (hS88 : ∀ x g o v gz, S 88 x g o v gz → sn88 x g o v gz) {a : List Int} {g : rHp} : ∀ (ρ : Nat → Int) (γ : Nat → rHp), jn89 a g 1 (zAg (zNA a89_ 1) ρ) (γ 1) → zO 5 S a g q89a1_2 ρ γ → zGl (fun i vs g1 => jn89 a g i vs g1) (sn89 a g) q89a1_2 ρ γ := by
  intro ρ γ hJ h
  obtain ⟨ha, hg, hr, hf, hm, hc, hl⟩ := h
  have ha : a = [ρ 0, ρ 1, ρ 2, ρ 3, ρ 4] := ha
  subst ha
  subst hg
  have hJ : jn89 [ρ 0, ρ 1, ρ 2, ρ 3, ρ 4] (γ 0) 1 [ρ 0, ρ 1, ρ 2, ρ 3, ρ 4, ρ 5, ρ 6, ρ 7, ρ 8] (γ 1) := hJ
  obtain ⟨-, -, -, -, -, r5, -⟩ := hr
  have r5 : (1 : Int) ≤ ρ 5 ∧ ρ 5 ≤ 4 := r5
  obtain ⟨-, -, f2, -⟩ := hf
  have f2 : (0 : Int) ≤ ρ 9 + -ρ 5 + (-1) := f2
  obtain ⟨w_0, w_1⟩ : (¬ (ρ 5 ≥ ρ 9)) ∧ (ρ 5 ≠ 0) := ⟨by omega, by omega⟩
  obtain ⟨-, -, -, -, m4, -, m6, -, m8, -⟩ := hm
  have m4 : γ 1 15 0 4 = ρ 7 := m4
  have m6 : γ 0 66 0 (ρ 6) = ρ 9 := m6
  have m8 : γ 0 99 0 (ρ 5 + 4 * ρ 0) = ρ 10 := m8
  obtain ⟨l0, l1, l2, -⟩ := hl
  have l0 : sn87 [44, ρ 7] (γ 1) 0 0 (γ 2) := hS87 _ _ _ _ _ l0
  have l1 : sn55 [ρ 10] (γ 2) 0 1 (γ 3) := hS55 _ _ _ _ _ l1
  have l2 : sn88 [ρ 10, ρ 7 + 1] (γ 3) 0 0 (γ 4) := hS88 _ _ _ _ _ l2
  show jn89 [ρ 0, ρ 1, ρ 2, ρ 3, ρ 4] (γ 0) 1 [ρ 0, ρ 1, ρ 2, ρ 3, ρ 4, ρ 5 + 1, ρ 6, ρ 11, ρ 8] (γ 4)
  have hD : en89 (γ 0) (1, [ρ 0, ρ 5, ρ 6], γ 1) = .inl (1, [ρ 0, ρ 5 + 1, ρ 6], γ 4) := by
    unfold en89
    refine (if_neg (show ¬ (1 : Nat) = 0 by decide)).trans ?_
    refine (if_pos (show (1 : Nat) = 1 by decide)).trans ?_
    refine (zLet_eq (show _ = γ 1 from rfl)).trans ?_
    refine (zLet_eq (show _ = ρ 0 from rfl)).trans ?_
    refine (zLet_eq (show _ = ρ 5 from rfl)).trans ?_
    refine (zLet_eq (show _ = ρ 6 from rfl)).trans ?_
    refine (zLet_eq m4).trans ?_
    refine (zLet_eq m6).trans ?_
    refine (if_neg w_0).trans ?_
    refine (if_pos w_1).trans ?_
    refine (zLet_eq (show fn87 [44] (γ 1) = (0, 0, γ 2) from l0.symm)).trans ?_
    refine (zLet_eq (show _ = γ 2 from rfl)).trans ?_
    refine (zLet_eq m8).trans ?_
    refine (zLet_eq (show fn55 [ρ 10] (γ 2) = (0, 1, γ 3) from l1.symm)).trans ?_
    refine (zLet_eq (show _ = γ 3 from rfl)).trans ?_
    refine (if_pos zQ1_).trans ?_
    refine (zLet_eq (show fn88 [ρ 10] (γ 3) = (0, 0, γ 4) from l2.symm)).trans ?_
    refine (zLet_eq (show _ = γ 4 from rfl)).trans ?_
    rfl
  exact zGoo_ato hJ hD
set_option maxRecDepth 100000 in
theorem vn89a1_3 {S : Nat → zSpc} (hS1 : ∀ x g o v gz, S 1 x g o v gz → sn1 x g o v gz) (hS55 : ∀ x g o v gz, S 55 x g o v gz → sn55 x g o v gz) (hS79 : ∀ x g o v gz, S 79 x g o v gz → sn79 x g o v gz) (hS87 : ∀ x g o v gz, S 87 x g o v gz → sn87 x g o v gz) (hS88 : ∀ x g o v gz, S 88 x g o v gz → sn88 x g o v gz) {a : List Int} {g : rHp} : ∀ (ρ : Nat → Int) (γ : Nat → rHp), jn89 a g 1 (zAg (zNA a89_ 1) ρ) (γ 1) → zO 5 S a g q89a1_3 ρ γ → zGl (fun i vs g1 => jn89 a g i vs g1) (sn89 a g) q89a1_3 ρ γ := by
  intro ρ γ hJ h
  obtain ⟨ha, hg, hr, hf, hm, hc, hl⟩ := h
  have ha : a = [ρ 0, ρ 1, ρ 2, ρ 3, ρ 4] := ha
  subst ha
  subst hg
  have hJ : jn89 [ρ 0, ρ 1, ρ 2, ρ 3, ρ 4] (γ 0) 1 [ρ 0, ρ 1, ρ 2, ρ 3, ρ 4, ρ 5, ρ 6, ρ 7, ρ 8] (γ 1) := hJ
  obtain ⟨-, -, -, -, -, r5, -⟩ := hr
  have r5 : (0 : Int) ≤ ρ 5 ∧ ρ 5 ≤ 0 := r5
  obtain ⟨f0, -⟩ := hf
  have f0 : (0 : Int) ≤ ρ 9 + -ρ 5 + (-1) := f0
  obtain ⟨w_0, w_1⟩ : (¬ (ρ 5 ≥ ρ 9)) ∧ (¬ (ρ 5 ≠ 0)) := ⟨by omega, by omega⟩
  obtain ⟨-, -, -, -, m4, -, m6, -, m8, -⟩ := hm
  have m4 : γ 1 15 0 4 = ρ 7 := m4
  have m6 : γ 0 66 0 (ρ 6) = ρ 9 := m6
  have m8 : γ 0 99 0 (ρ 5 + 4 * ρ 0) = ρ 10 := m8
  obtain ⟨l0, l1, -⟩ := hl
  have l0 : sn87 [40, ρ 7] (γ 1) 0 0 (γ 2) := hS87 _ _ _ _ _ l0
  have l1 : sn55 [ρ 10] (γ 2) 0 0 (γ 3) := hS55 _ _ _ _ _ l1
  show jn89 [ρ 0, ρ 1, ρ 2, ρ 3, ρ 4] (γ 0) 2 [ρ 0, ρ 1, ρ 2, ρ 3, ρ 4, 0, ρ 10 + (-1099511627776), ρ 10, ρ 5, ρ 6, ρ 7 + 1, ρ 8] (γ 3)
  have hD : en89 (γ 0) (1, [ρ 0, ρ 5, ρ 6], γ 1) = .inl (2, [ρ 0, 0, ρ 10 + (-1099511627776), ρ 10, ρ 5, ρ 6], γ 3) := by
    unfold en89
    refine (if_neg (show ¬ (1 : Nat) = 0 by decide)).trans ?_
    refine (if_pos (show (1 : Nat) = 1 by decide)).trans ?_
    refine (zLet_eq (show _ = γ 1 from rfl)).trans ?_
    refine (zLet_eq (show _ = ρ 0 from rfl)).trans ?_
    refine (zLet_eq (show _ = ρ 5 from rfl)).trans ?_
    refine (zLet_eq (show _ = ρ 6 from rfl)).trans ?_
    refine (zLet_eq m4).trans ?_
    refine (zLet_eq m6).trans ?_
    refine (if_neg w_0).trans ?_
    refine (if_neg w_1).trans ?_
    refine (zLet_eq (show fn87 [40] (γ 1) = (0, 0, γ 2) from l0.symm)).trans ?_
    refine (zLet_eq (show _ = γ 2 from rfl)).trans ?_
    refine (zLet_eq m8).trans ?_
    refine (zLet_eq (show fn55 [ρ 10] (γ 2) = (0, 0, γ 3) from l1.symm)).trans ?_
    refine (zLet_eq (show _ = γ 3 from rfl)).trans ?_
    refine (if_neg zQ0_).trans ?_
    rfl
  exact zGoo_ato hJ hD
set_option maxRecDepth 100000 in
theorem vn89a1_4 {S : Nat → zSpc} (hS1 : ∀ x g o v gz, S 1 x g o v gz → sn1 x g o v gz) (hS55 : ∀ x g o v gz, S 55 x g o v gz → sn55 x g o v gz) (hS79 : ∀ x g o v gz, S 79 x g o v gz → sn79 x g o v gz) (hS87 : ∀ x g o v gz, S 87 x g o v gz → sn87 x g o v gz) (hS88 : ∀ x g o v gz, S 88 x g o v gz → sn88 x g o v gz) {a : List Int} {g : rHp} : ∀ (ρ : Nat → Int) (γ : Nat → rHp), jn89 a g 1 (zAg (zNA a89_ 1) ρ) (γ 1) → zO 5 S a g q89a1_4 ρ γ → zGl (fun i vs g1 => jn89 a g i vs g1) (sn89 a g) q89a1_4 ρ γ := by
  intro ρ γ hJ h
  obtain ⟨ha, hg, hr, hf, hm, hc, hl⟩ := h
  have ha : a = [ρ 0, ρ 1, ρ 2, ρ 3, ρ 4] := ha
  subst ha
  subst hg
  have hJ : jn89 [ρ 0, ρ 1, ρ 2, ρ 3, ρ 4] (γ 0) 1 [ρ 0, ρ 1, ρ 2, ρ 3, ρ 4, ρ 5, ρ 6, ρ 7, ρ 8] (γ 1) := hJ
  obtain ⟨-, -, -, -, -, r5, -⟩ := hr
  have r5 : (0 : Int) ≤ ρ 5 ∧ ρ 5 ≤ 0 := r5
  obtain ⟨-, -, f2, -⟩ := hf
  have f2 : (0 : Int) ≤ ρ 9 + -ρ 5 + (-1) := f2
  obtain ⟨w_0, w_1⟩ : (¬ (ρ 5 ≥ ρ 9)) ∧ (¬ (ρ 5 ≠ 0)) := ⟨by omega, by omega⟩
  obtain ⟨-, -, -, -, m4, -, m6, -, m8, -⟩ := hm
  have m4 : γ 1 15 0 4 = ρ 7 := m4
  have m6 : γ 0 66 0 (ρ 6) = ρ 9 := m6
  have m8 : γ 0 99 0 (ρ 5 + 4 * ρ 0) = ρ 10 := m8
  obtain ⟨l0, l1, l2, -⟩ := hl
  have l0 : sn87 [40, ρ 7] (γ 1) 0 0 (γ 2) := hS87 _ _ _ _ _ l0
  have l1 : sn55 [ρ 10] (γ 2) 0 1 (γ 3) := hS55 _ _ _ _ _ l1
  have l2 : sn88 [ρ 10, ρ 7 + 1] (γ 3) 0 0 (γ 4) := hS88 _ _ _ _ _ l2
  show jn89 [ρ 0, ρ 1, ρ 2, ρ 3, ρ 4] (γ 0) 1 [ρ 0, ρ 1, ρ 2, ρ 3, ρ 4, ρ 5 + 1, ρ 6, ρ 11, ρ 8] (γ 4)
  have hD : en89 (γ 0) (1, [ρ 0, ρ 5, ρ 6], γ 1) = .inl (1, [ρ 0, ρ 5 + 1, ρ 6], γ 4) := by
    unfold en89
    refine (if_neg (show ¬ (1 : Nat) = 0 by decide)).trans ?_
    refine (if_pos (show (1 : Nat) = 1 by decide)).trans ?_
    refine (zLet_eq (show _ = γ 1 from rfl)).trans ?_
    refine (zLet_eq (show _ = ρ 0 from rfl)).trans ?_
    refine (zLet_eq (show _ = ρ 5 from rfl)).trans ?_
    refine (zLet_eq (show _ = ρ 6 from rfl)).trans ?_
    refine (zLet_eq m4).trans ?_
    refine (zLet_eq m6).trans ?_
    refine (if_neg w_0).trans ?_
    refine (if_neg w_1).trans ?_
    refine (zLet_eq (show fn87 [40] (γ 1) = (0, 0, γ 2) from l0.symm)).trans ?_
    refine (zLet_eq (show _ = γ 2 from rfl)).trans ?_
    refine (zLet_eq m8).trans ?_
    refine (zLet_eq (show fn55 [ρ 10] (γ 2) = (0, 1, γ 3) from l1.symm)).trans ?_
    refine (zLet_eq (show _ = γ 3 from rfl)).trans ?_
    refine (if_pos zQ1_).trans ?_
    refine (zLet_eq (show fn88 [ρ 10] (γ 3) = (0, 0, γ 4) from l2.symm)).trans ?_
    refine (zLet_eq (show _ = γ 4 from rfl)).trans ?_
    rfl
  exact zGoo_ato hJ hD
set_option maxRecDepth 100000 in
theorem vn89a2_0 {S : Nat → zSpc} (hS1 : ∀ x g o v gz, S 1 x g o v gz → sn1 x g o v gz) (hS55 : ∀ x g o v gz, S 55 x g o v gz → sn55 x g o v gz) (hS79 : ∀ x g o v gz, S 79 x g o v gz → sn79 x g o v gz) (hS87 : ∀ x g o v gz, S 87 x g o v gz → sn87 x g o v gz) (hS88 : ∀ x g o v gz, S 88 x g o v gz → sn88 x g o v gz) {a : List Int} {g : rHp} : ∀ (ρ : Nat → Int) (γ : Nat → rHp), jn89 a g 2 (zAg (zNA a89_ 2) ρ) (γ 1) → zO 5 S a g q89a2_0 ρ γ → zGl (fun i vs g1 => jn89 a g i vs g1) (sn89 a g) q89a2_0 ρ γ := by
  intro ρ γ hJ h
  obtain ⟨ha, hg, hr, hf, hm, hc, hl⟩ := h
  have ha : a = [ρ 0, ρ 1, ρ 2, ρ 3, ρ 4] := ha
  subst ha
  subst hg
  have hJ : jn89 [ρ 0, ρ 1, ρ 2, ρ 3, ρ 4] (γ 0) 2 [ρ 0, ρ 1, ρ 2, ρ 3, ρ 4, ρ 5, ρ 6, ρ 7, ρ 8, ρ 9, ρ 10, ρ 11] (γ 1) := hJ
  obtain ⟨f0, -⟩ := hf
  have f0 : (0 : Int) ≤ -ρ 12 + ρ 5 := f0
  have w_0 : ρ 5 ≥ ρ 12 := by omega
  obtain ⟨-, -, -, -, -, -, m6, -⟩ := hm
  have m6 : γ 0 63 0 (ρ 6) = ρ 12 := m6
  show jn89 [ρ 0, ρ 1, ρ 2, ρ 3, ρ 4] (γ 0) 1 [ρ 0, ρ 1, ρ 2, ρ 3, ρ 4, ρ 8 + 1, ρ 9, ρ 10, ρ 11] (γ 1)
  have hD : en89 (γ 0) (2, [ρ 0, ρ 5, ρ 6, ρ 7, ρ 8, ρ 9], γ 1) = .inl (1, [ρ 0, ρ 8 + 1, ρ 9], γ 1) := by
    unfold en89
    refine (if_neg (show ¬ (2 : Nat) = 0 by decide)).trans ?_
    refine (if_neg (show ¬ (2 : Nat) = 1 by decide)).trans ?_
    refine (if_pos (show (2 : Nat) = 2 by decide)).trans ?_
    refine (zLet_eq (show _ = γ 1 from rfl)).trans ?_
    refine (zLet_eq (show _ = ρ 0 from rfl)).trans ?_
    refine (zLet_eq (show _ = ρ 5 from rfl)).trans ?_
    refine (zLet_eq (show _ = ρ 6 from rfl)).trans ?_
    refine (zLet_eq (show _ = ρ 7 from rfl)).trans ?_
    refine (zLet_eq (show _ = ρ 8 from rfl)).trans ?_
    refine (zLet_eq (show _ = ρ 9 from rfl)).trans ?_
    refine (zLet_eq m6).trans ?_
    refine (if_pos w_0).trans ?_
    rfl
  exact zGoo_ato hJ hD
set_option maxRecDepth 100000 in
theorem vn89a2_1 {S : Nat → zSpc} (hS1 : ∀ x g o v gz, S 1 x g o v gz → sn1 x g o v gz) (hS55 : ∀ x g o v gz, S 55 x g o v gz → sn55 x g o v gz) (hS79 : ∀ x g o v gz, S 79 x g o v gz → sn79 x g o v gz) (hS87 : ∀ x g o v gz, S 87 x g o v gz → sn87 x g o v gz) (hS88 : ∀ x g o v gz, S 88 x g o v gz → sn88 x g o v gz) {a : List Int} {g : rHp} : ∀ (ρ : Nat → Int) (γ : Nat → rHp), jn89 a g 2 (zAg (zNA a89_ 2) ρ) (γ 1) → zO 5 S a g q89a2_1 ρ γ → zGl (fun i vs g1 => jn89 a g i vs g1) (sn89 a g) q89a2_1 ρ γ := by
  intro ρ γ hJ h
  obtain ⟨ha, hg, hr, hf, hm, hc, hl⟩ := h
  have ha : a = [ρ 0, ρ 1, ρ 2, ρ 3, ρ 4] := ha
  subst ha
  subst hg
  have hJ : jn89 [ρ 0, ρ 1, ρ 2, ρ 3, ρ 4] (γ 0) 2 [ρ 0, ρ 1, ρ 2, ρ 3, ρ 4, ρ 5, ρ 6, ρ 7, ρ 8, ρ 9, ρ 10, ρ 11] (γ 1) := hJ
  obtain ⟨f0, -⟩ := hf
  have f0 : (0 : Int) ≤ ρ 12 + -ρ 5 + (-1) := f0
  have w_0 : ¬ (ρ 5 ≥ ρ 12) := by omega
  obtain ⟨-, -, -, -, -, -, m6, m7, m8, -⟩ := hm
  have m6 : γ 0 63 0 (ρ 6) = ρ 12 := m6
  have m7 : γ 0 62 0 (ρ 6) = ρ 13 := m7
  have m8 : γ 0 61 0 (ρ 13 + ρ 5) = ρ 14 := m8
  obtain ⟨l0, -⟩ := hl
  have l0 : sn87 [ρ 14, ρ 10] (γ 1) 0 0 (γ 2) := hS87 _ _ _ _ _ l0
  show jn89 [ρ 0, ρ 1, ρ 2, ρ 3, ρ 4] (γ 0) 2 [ρ 0, ρ 1, ρ 2, ρ 3, ρ 4, ρ 5 + 1, ρ 6, ρ 7, ρ 8, ρ 9, ρ 10 + 1, ρ 11] (γ 2)
  have hD : en89 (γ 0) (2, [ρ 0, ρ 5, ρ 6, ρ 7, ρ 8, ρ 9], γ 1) = .inl (2, [ρ 0, ρ 5 + 1, ρ 6, ρ 7, ρ 8, ρ 9], γ 2) := by
    unfold en89
    refine (if_neg (show ¬ (2 : Nat) = 0 by decide)).trans ?_
    refine (if_neg (show ¬ (2 : Nat) = 1 by decide)).trans ?_
    refine (if_pos (show (2 : Nat) = 2 by decide)).trans ?_
    refine (zLet_eq (show _ = γ 1 from rfl)).trans ?_
    refine (zLet_eq (show _ = ρ 0 from rfl)).trans ?_
    refine (zLet_eq (show _ = ρ 5 from rfl)).trans ?_
    refine (zLet_eq (show _ = ρ 6 from rfl)).trans ?_
    refine (zLet_eq (show _ = ρ 7 from rfl)).trans ?_
    refine (zLet_eq (show _ = ρ 8 from rfl)).trans ?_
    refine (zLet_eq (show _ = ρ 9 from rfl)).trans ?_
    refine (zLet_eq m6).trans ?_
    refine (if_neg w_0).trans ?_
    refine (zLet_eq m7).trans ?_
    refine (zLet_eq m8).trans ?_
    refine (zLet_eq (show fn87 [ρ 14] (γ 1) = (0, 0, γ 2) from l0.symm)).trans ?_
    refine (zLet_eq (show _ = γ 2 from rfl)).trans ?_
    rfl
  exact zGoo_ato hJ hD
set_option maxRecDepth 100000 in
theorem yn89 {S : Nat → zSpc} (hS1 : ∀ x g o v gz, S 1 x g o v gz → sn1 x g o v gz) (hS55 : ∀ x g o v gz, S 55 x g o v gz → sn55 x g o v gz) (hS79 : ∀ x g o v gz, S 79 x g o v gz → sn79 x g o v gz) (hS87 : ∀ x g o v gz, S 87 x g o v gz → sn87 x g o v gz) (hS88 : ∀ x g o v gz, S 88 x g o v gz → sn88 x g o v gz) : ∀ x g o v gz, zSem uW uT w89_.2.2.2.1 w89_.2.2.1.1.length S q89 (fun i => q89a.getD i []) (zNA a89_) x g o v gz → sn89 x g o v gz := by
  intro a g o v gz h
  exact zSem_all (l0 := q89) (las := q89a) (S := S) (J := (fun i vs g1 => jn89 a g i vs g1)) (P := sn89 a g) (fun _ => (show zAll _ [q89_0, q89_1, q89_2] from (zAll_c (vn89_0 hS1 hS55 hS79 hS87 hS88) (zAll_c (vn89_1 hS1 hS55 hS79 hS87 hS88) (zAll_c (vn89_2 hS1 hS55 hS79 hS87 hS88) zAll_n))))) (fun _ => (show zAllI _ 0 [q89a0, q89a1, q89a2] from ⟨(show zAll _ [q89a0_0, q89a0_1] from (zAll_c (vn89a0_0 hS1 hS55 hS79 hS87 hS88) (zAll_c (vn89a0_1 hS1 hS55 hS79 hS87 hS88) zAll_n))), ⟨(show zAll _ [q89a1_0, q89a1_1, q89a1_2, q89a1_3, q89a1_4] from (zAll_c (vn89a1_0 hS1 hS55 hS79 hS87 hS88) (zAll_c (vn89a1_1 hS1 hS55 hS79 hS87 hS88) (zAll_c (vn89a1_2 hS1 hS55 hS79 hS87 hS88) (zAll_c (vn89a1_3 hS1 hS55 hS79 hS87 hS88) (zAll_c (vn89a1_4 hS1 hS55 hS79 hS87 hS88) zAll_n)))))), ⟨(show zAll _ [q89a2_0, q89a2_1] from (zAll_c (vn89a2_0 hS1 hS55 hS79 hS87 hS88) (zAll_c (vn89a2_1 hS1 hS55 hS79 hS87 hS88) zAll_n))), trivial⟩⟩⟩)) h
set_option maxRecDepth 100000 in
theorem vn93_0 {S : Nat → zSpc}  {a : List Int} {g : rHp} : ∀ (ρ : Nat → Int) (γ : Nat → rHp), zO 2 S a g q93_0 ρ γ → zGl (fun _ _ _ => True) (sn93 a g) q93_0 ρ γ := by
  intro ρ γ h
  obtain ⟨ha, hg, hr, hf, hm, hc, hl⟩ := h
  have ha : a = [ρ 0, ρ 1] := ha
  subst ha
  subst hg
  obtain ⟨r0, -⟩ := hr
  have r0 : ((-2147483648) : Int) ≤ ρ 0 ∧ ρ 0 ≤ (-1) := r0
  have w_0 : ρ 0 < 0 := by omega
  obtain ⟨m0, -⟩ := hm
  have m0 : γ 0 3 0 1 = ρ 1 := m0
  show sn93 [ρ 0, ρ 1] (γ 0) 0 0 (γ 0)
  refine Eq.symm ?_
  show fn93 [ρ 0] (γ 0) = _
  unfold fn93
  refine (zLet_eq (show _ = ρ 0 from rfl)).trans ?_
  refine (zLet_eq m0).trans ?_
  refine (if_pos w_0).trans ?_
  rfl
set_option maxRecDepth 100000 in
theorem vn93_1 {S : Nat → zSpc}  {a : List Int} {g : rHp} : ∀ (ρ : Nat → Int) (γ : Nat → rHp), zO 2 S a g q93_1 ρ γ → zGl (fun _ _ _ => True) (sn93 a g) q93_1 ρ γ := by
  intro ρ γ h
  obtain ⟨ha, hg, hr, hf, hm, hc, hl⟩ := h
  have ha : a = [ρ 0, ρ 1] := ha
  subst ha
  subst hg
  obtain ⟨r0, -⟩ := hr
  have r0 : (0 : Int) ≤ ρ 0 ∧ ρ 0 ≤ 2147483647 := r0
  obtain ⟨f0, -⟩ := hf
  have f0 : (0 : Int) ≤ -ρ 1 + ρ 0 := f0
  obtain ⟨w_0, w_1⟩ : (¬ (ρ 0 < 0)) ∧ (ρ 0 ≥ ρ 1) := ⟨by omega, by omega⟩
  obtain ⟨m0, -⟩ := hm
  have m0 : γ 0 3 0 1 = ρ 1 := m0
  show sn93 [ρ 0, ρ 1] (γ 0) 0 0 (γ 0)
  refine Eq.symm ?_
  show fn93 [ρ 0] (γ 0) = _
  unfold fn93
  refine (zLet_eq (show _ = ρ 0 from rfl)).trans ?_
  refine (zLet_eq m0).trans ?_
  refine (if_neg w_0).trans ?_
  refine (if_pos w_1).trans ?_
  rfl
set_option maxRecDepth 100000 in
theorem vn93_2 {S : Nat → zSpc}  {a : List Int} {g : rHp} : ∀ (ρ : Nat → Int) (γ : Nat → rHp), zO 2 S a g q93_2 ρ γ → zGl (fun _ _ _ => True) (sn93 a g) q93_2 ρ γ := by
  intro ρ γ h
  obtain ⟨ha, hg, hr, hf, hm, hc, hl⟩ := h
  have ha : a = [ρ 0, ρ 1] := ha
  subst ha
  subst hg
  obtain ⟨r0, -⟩ := hr
  have r0 : (0 : Int) ≤ ρ 0 ∧ ρ 0 ≤ 2147483647 := r0
  obtain ⟨f0, -⟩ := hf
  have f0 : (0 : Int) ≤ ρ 1 + -ρ 0 + (-1) := f0
  obtain ⟨w_0, w_1⟩ : (¬ (ρ 0 < 0)) ∧ (¬ (ρ 0 ≥ ρ 1)) := ⟨by omega, by omega⟩
  obtain ⟨m0, m1, -⟩ := hm
  have m0 : γ 0 3 0 1 = ρ 1 := m0
  have m1 : γ 0 26 0 (ρ 0) = ρ 2 := m1
  show sn93 [ρ 0, ρ 1] (γ 0) 0 (ρ 2) (γ 0)
  refine Eq.symm ?_
  show fn93 [ρ 0] (γ 0) = _
  unfold fn93
  refine (zLet_eq (show _ = ρ 0 from rfl)).trans ?_
  refine (zLet_eq m0).trans ?_
  refine (if_neg w_0).trans ?_
  refine (if_neg w_1).trans ?_
  refine (zLet_eq m1).trans ?_
  rfl
set_option maxRecDepth 100000 in
theorem yn93 {S : Nat → zSpc}  : ∀ x g o v gz, zSem uW uT w93_.2.2.2.1 w93_.2.2.1.1.length S q93 (fun i => q93a.getD i []) (zNA a93_) x g o v gz → sn93 x g o v gz := by
  intro a g o v gz h
  exact zSem_all (l0 := q93) (las := q93a) (S := S) (J := (fun _ _ _ => True)) (P := sn93 a g) (fun _ => (show zAll _ [q93_0, q93_1, q93_2] from (zAll_c (vn93_0 ) (zAll_c (vn93_1 ) (zAll_c (vn93_2 ) zAll_n))))) (fun _ => (show zAllI _ 0 [] from trivial)) h
set_option maxRecDepth 100000 in
theorem vn170_0 {S : Nat → zSpc}  {a : List Int} {g : rHp} : ∀ (ρ : Nat → Int) (γ : Nat → rHp), zO 0 S a g q170_0 ρ γ → zGl (fun _ _ _ => True) (sn170 a g) q170_0 ρ γ := by
  intro ρ γ h
  obtain ⟨ha, hg, hr, hf, hm, hc, hl⟩ := h
  have ha : a = [] := ha
  subst ha
  subst hg
  obtain ⟨r0, -⟩ := hr
  have r0 : (1 : Int) ≤ ρ 0 ∧ ρ 0 ≤ 1 := r0
  have w_0 : ρ 0 ≠ 0 := by omega
  obtain ⟨m0, -⟩ := hm
  have m0 : γ 0 0 0 7 = ρ 0 := m0
  show sn170 [] (γ 0) 0 0 (γ 0)
  refine Eq.symm ?_
  show fn170 [] (γ 0) = _
  unfold fn170
  refine (zLet_eq m0).trans ?_
  refine (if_pos w_0).trans ?_
  rfl
set_option maxRecDepth 100000 in
theorem vn170_1 {S : Nat → zSpc}  {a : List Int} {g : rHp} : ∀ (ρ : Nat → Int) (γ : Nat → rHp), zO 0 S a g q170_1 ρ γ → zGl (fun _ _ _ => True) (sn170 a g) q170_1 ρ γ := by
  intro ρ γ h
  obtain ⟨ha, hg, hr, hf, hm, hc, hl⟩ := h
  have ha : a = [] := ha
  subst ha
  subst hg
  obtain ⟨r0, -⟩ := hr
  have r0 : (0 : Int) ≤ ρ 0 ∧ ρ 0 ≤ 0 := r0
  have w_0 : ¬ (ρ 0 ≠ 0) := by omega
  obtain ⟨m0, -⟩ := hm
  have m0 : γ 0 0 0 7 = ρ 0 := m0
  show sn170 [] (γ 0) 5 0 (γ 0)
  refine Eq.symm ?_
  show fn170 [] (γ 0) = _
  unfold fn170
  refine (zLet_eq m0).trans ?_
  refine (if_neg w_0).trans ?_
  rfl
set_option maxRecDepth 100000 in
theorem yn170 {S : Nat → zSpc}  : ∀ x g o v gz, zSem uW uT w170_.2.2.2.1 w170_.2.2.1.1.length S q170 (fun i => q170a.getD i []) (zNA a170_) x g o v gz → sn170 x g o v gz := by
  intro a g o v gz h
  exact zSem_all (l0 := q170) (las := q170a) (S := S) (J := (fun _ _ _ => True)) (P := sn170 a g) (fun _ => (show zAll _ [q170_0, q170_1] from (zAll_c (vn170_0 ) (zAll_c (vn170_1 ) zAll_n)))) (fun _ => (show zAllI _ 0 [] from trivial)) h
set_option maxRecDepth 100000 in
theorem vn171_0 {S : Nat → zSpc} (hS170 : ∀ x g o v gz, S 170 x g o v gz → sn170 x g o v gz) {a : List Int} {g : rHp} : ∀ (ρ : Nat → Int) (γ : Nat → rHp), zO 2 S a g q171_0 ρ γ → zGl (fun _ _ _ => True) (sn171 a g) q171_0 ρ γ := by
  intro ρ γ h
  obtain ⟨ha, hg, hr, hf, hm, hc, hl⟩ := h
  have ha : a = [ρ 0, ρ 1] := ha
  subst ha
  subst hg
  obtain ⟨r0, -⟩ := hr
  have r0 : ((-2147483648) : Int) ≤ ρ 0 ∧ ρ 0 ≤ (-1) := r0
  have w_0 : ρ 0 < 0 := by omega
  obtain ⟨m0, -⟩ := hm
  have m0 : γ 0 4 0 7 = ρ 1 := m0
  obtain ⟨l0, -⟩ := hl
  have l0 : sn170 [] (γ 0) 0 0 (γ 1) := hS170 _ _ _ _ _ l0
  show sn171 [ρ 0, ρ 1] (γ 0) 1 0 (γ 1)
  refine Eq.symm ?_
  show fn171 [ρ 0] (γ 0) = _
  unfold fn171
  refine (zLet_eq (show _ = ρ 0 from rfl)).trans ?_
  refine (zLet_eq m0).trans ?_
  refine (zLet_eq (show fn170 [] (γ 0) = (0, 0, γ 1) from l0.symm)).trans ?_
  refine (zLet_eq (show _ = γ 1 from rfl)).trans ?_
  refine (if_pos (show (0 : Nat) = 0 by decide)).trans ?_
  refine (if_pos w_0).trans ?_
  rfl
set_option maxRecDepth 100000 in
theorem vn171_1 {S : Nat → zSpc} (hS170 : ∀ x g o v gz, S 170 x g o v gz → sn170 x g o v gz) {a : List Int} {g : rHp} : ∀ (ρ : Nat → Int) (γ : Nat → rHp), zO 2 S a g q171_1 ρ γ → zGl (fun _ _ _ => True) (sn171 a g) q171_1 ρ γ := by
  intro ρ γ h
  obtain ⟨ha, hg, hr, hf, hm, hc, hl⟩ := h
  have ha : a = [ρ 0, ρ 1] := ha
  subst ha
  subst hg
  obtain ⟨r0, -⟩ := hr
  have r0 : (0 : Int) ≤ ρ 0 ∧ ρ 0 ≤ 2147483647 := r0
  obtain ⟨f0, -⟩ := hf
  have f0 : (0 : Int) ≤ ρ 1 + -ρ 0 + (-1) := f0
  obtain ⟨w_0, w_1⟩ : (¬ (ρ 0 < 0)) ∧ (ρ 0 < ρ 1) := ⟨by omega, by omega⟩
  obtain ⟨m0, -⟩ := hm
  have m0 : γ 0 4 0 7 = ρ 1 := m0
  obtain ⟨l0, -⟩ := hl
  have l0 : sn170 [] (γ 0) 0 0 (γ 1) := hS170 _ _ _ _ _ l0
  show sn171 [ρ 0, ρ 1] (γ 0) 0 0 (γ 1)
  refine Eq.symm ?_
  show fn171 [ρ 0] (γ 0) = _
  unfold fn171
  refine (zLet_eq (show _ = ρ 0 from rfl)).trans ?_
  refine (zLet_eq m0).trans ?_
  refine (zLet_eq (show fn170 [] (γ 0) = (0, 0, γ 1) from l0.symm)).trans ?_
  refine (zLet_eq (show _ = γ 1 from rfl)).trans ?_
  refine (if_pos (show (0 : Nat) = 0 by decide)).trans ?_
  refine (if_neg w_0).trans ?_
  refine (if_pos w_1).trans ?_
  rfl
set_option maxRecDepth 100000 in
theorem vn171_2 {S : Nat → zSpc} (hS170 : ∀ x g o v gz, S 170 x g o v gz → sn170 x g o v gz) {a : List Int} {g : rHp} : ∀ (ρ : Nat → Int) (γ : Nat → rHp), zO 2 S a g q171_2 ρ γ → zGl (fun _ _ _ => True) (sn171 a g) q171_2 ρ γ := by
  intro ρ γ h
  obtain ⟨ha, hg, hr, hf, hm, hc, hl⟩ := h
  have ha : a = [ρ 0, ρ 1] := ha
  subst ha
  subst hg
  obtain ⟨r0, -⟩ := hr
  have r0 : (0 : Int) ≤ ρ 0 ∧ ρ 0 ≤ 2147483647 := r0
  obtain ⟨f0, -⟩ := hf
  have f0 : (0 : Int) ≤ -ρ 1 + ρ 0 := f0
  obtain ⟨w_0, w_1⟩ : (¬ (ρ 0 < 0)) ∧ (¬ (ρ 0 < ρ 1)) := ⟨by omega, by omega⟩
  obtain ⟨m0, -⟩ := hm
  have m0 : γ 0 4 0 7 = ρ 1 := m0
  obtain ⟨l0, -⟩ := hl
  have l0 : sn170 [] (γ 0) 0 0 (γ 1) := hS170 _ _ _ _ _ l0
  show sn171 [ρ 0, ρ 1] (γ 0) 1 0 (γ 1)
  refine Eq.symm ?_
  show fn171 [ρ 0] (γ 0) = _
  unfold fn171
  refine (zLet_eq (show _ = ρ 0 from rfl)).trans ?_
  refine (zLet_eq m0).trans ?_
  refine (zLet_eq (show fn170 [] (γ 0) = (0, 0, γ 1) from l0.symm)).trans ?_
  refine (zLet_eq (show _ = γ 1 from rfl)).trans ?_
  refine (if_pos (show (0 : Nat) = 0 by decide)).trans ?_
  refine (if_neg w_0).trans ?_
  refine (if_neg w_1).trans ?_
  rfl
set_option maxRecDepth 100000 in
theorem vn171_3 {S : Nat → zSpc} (hS170 : ∀ x g o v gz, S 170 x g o v gz → sn170 x g o v gz) {a : List Int} {g : rHp} : ∀ (ρ : Nat → Int) (γ : Nat → rHp), zO 2 S a g q171_3 ρ γ → zGl (fun _ _ _ => True) (sn171 a g) q171_3 ρ γ := by
  intro ρ γ h
  obtain ⟨ha, hg, hr, hf, hm, hc, hl⟩ := h
  have ha : a = [ρ 0, ρ 1] := ha
  subst ha
  subst hg
  obtain ⟨m0, -⟩ := hm
  have m0 : γ 0 4 0 7 = ρ 1 := m0
  obtain ⟨l0, -⟩ := hl
  have l0 : sn170 [] (γ 0) 5 0 (γ 1) := hS170 _ _ _ _ _ l0
  show sn171 [ρ 0, ρ 1] (γ 0) 5 0 (γ 1)
  refine Eq.symm ?_
  show fn171 [ρ 0] (γ 0) = _
  unfold fn171
  refine (zLet_eq (show _ = ρ 0 from rfl)).trans ?_
  refine (zLet_eq m0).trans ?_
  refine (zLet_eq (show fn170 [] (γ 0) = (5, 0, γ 1) from l0.symm)).trans ?_
  refine (zLet_eq (show _ = γ 1 from rfl)).trans ?_
  refine (if_neg (show ¬ (5 : Nat) = 0 by decide)).trans ?_
  rfl
set_option maxRecDepth 100000 in
theorem yn171 {S : Nat → zSpc} (hS170 : ∀ x g o v gz, S 170 x g o v gz → sn170 x g o v gz) : ∀ x g o v gz, zSem uW uT w171_.2.2.2.1 w171_.2.2.1.1.length S q171 (fun i => q171a.getD i []) (zNA a171_) x g o v gz → sn171 x g o v gz := by
  intro a g o v gz h
  exact zSem_all (l0 := q171) (las := q171a) (S := S) (J := (fun _ _ _ => True)) (P := sn171 a g) (fun _ => (show zAll _ [q171_0, q171_1, q171_2, q171_3] from (zAll_c (vn171_0 hS170) (zAll_c (vn171_1 hS170) (zAll_c (vn171_2 hS170) (zAll_c (vn171_3 hS170) zAll_n)))))) (fun _ => (show zAllI _ 0 [] from trivial)) h
set_option maxRecDepth 100000 in
theorem vn173_0 {S : Nat → zSpc} (hS172 : ∀ x g o v gz, S 172 x g o v gz → sn172 x g o v gz) {a : List Int} {g : rHp} : ∀ (ρ : Nat → Int) (γ : Nat → rHp), zO 1 S a g q173_0 ρ γ → zGl (fun _ _ _ => True) (sn173 a g) q173_0 ρ γ := by
  intro ρ γ h
  obtain ⟨ha, hg, hr, hf, hm, hc, hl⟩ := h
  have ha : a = [ρ 0] := ha
  subst ha
  subst hg
  obtain ⟨l0, l1, l2, -⟩ := hl
  have l0 : sn172 [ρ 0] (γ 0) 0 0 (γ 1) := hS172 _ _ _ _ _ l0
  have l1 : zOpP (.l2i) (γ 0) (γ 1) [ρ 0 + (-1099511627776)] (ρ 1) := l1
  have l2 : zOpP (.iadd) (γ 0) (γ 1) [200000000, ρ 1] (ρ 2) := l2
  show sn173 [ρ 0] (γ 0) 0 (ρ 2) (γ 1)
  refine Eq.symm ?_
  show fn173 [ρ 0] (γ 0) = _
  unfold fn173
  refine (zLet_eq (show _ = ρ 0 from rfl)).trans ?_
  refine (zLet_eq (show fn172 [ρ 0] (γ 0) = (0, 0, γ 1) from l0.symm)).trans ?_
  refine (zLet_eq (show _ = γ 1 from rfl)).trans ?_
  refine (if_neg zQ0_).trans ?_
  refine (zLet_eq (zF1_ok l1)).trans ?_
  refine (zLet_eq (zF2_ok l2)).trans ?_
  rfl
set_option maxRecDepth 100000 in
theorem vn173_1 {S : Nat → zSpc} (hS172 : ∀ x g o v gz, S 172 x g o v gz → sn172 x g o v gz) {a : List Int} {g : rHp} : ∀ (ρ : Nat → Int) (γ : Nat → rHp), zO 1 S a g q173_1 ρ γ → zGl (fun _ _ _ => True) (sn173 a g) q173_1 ρ γ := by
  intro ρ γ h
  obtain ⟨ha, hg, hr, hf, hm, hc, hl⟩ := h
  have ha : a = [ρ 0] := ha
  subst ha
  subst hg
  obtain ⟨l0, l1, -⟩ := hl
  have l0 : sn172 [ρ 0] (γ 0) 0 1 (γ 1) := hS172 _ _ _ _ _ l0
  have l1 : zOpP (.l2i) (γ 0) (γ 1) [ρ 0] (ρ 1) := l1
  show sn173 [ρ 0] (γ 0) 0 (ρ 1) (γ 1)
  refine Eq.symm ?_
  show fn173 [ρ 0] (γ 0) = _
  unfold fn173
  refine (zLet_eq (show _ = ρ 0 from rfl)).trans ?_
  refine (zLet_eq (show fn172 [ρ 0] (γ 0) = (0, 1, γ 1) from l0.symm)).trans ?_
  refine (zLet_eq (show _ = γ 1 from rfl)).trans ?_
  refine (if_pos zQ1_).trans ?_
  refine (zLet_eq (zF1_ok l1)).trans ?_
  rfl
set_option maxRecDepth 100000 in
theorem yn173 {S : Nat → zSpc} (hS172 : ∀ x g o v gz, S 172 x g o v gz → sn172 x g o v gz) : ∀ x g o v gz, zSem uW uT w173_.2.2.2.1 w173_.2.2.1.1.length S q173 (fun i => q173a.getD i []) (zNA a173_) x g o v gz → sn173 x g o v gz := by
  intro a g o v gz h
  exact zSem_all (l0 := q173) (las := q173a) (S := S) (J := (fun _ _ _ => True)) (P := sn173 a g) (fun _ => (show zAll _ [q173_0, q173_1] from (zAll_c (vn173_0 hS172) (zAll_c (vn173_1 hS172) zAll_n)))) (fun _ => (show zAllI _ 0 [] from trivial)) h
set_option maxRecDepth 100000 in
theorem vn174_0 {S : Nat → zSpc} (hS171 : ∀ x g o v gz, S 171 x g o v gz → sn171 x g o v gz) (hS173 : ∀ x g o v gz, S 173 x g o v gz → sn173 x g o v gz) {a : List Int} {g : rHp} : ∀ (ρ : Nat → Int) (γ : Nat → rHp), zO 3 S a g q174_0 ρ γ → zGl (fun _ _ _ => True) (sn174 a g) q174_0 ρ γ := by
  intro ρ γ h
  obtain ⟨ha, hg, hr, hf, hm, hc, hl⟩ := h
  have ha : a = [ρ 0, ρ 1, ρ 2] := ha
  subst ha
  subst hg
  obtain ⟨-, r1, -⟩ := hr
  have r1 : ((-2147483648) : Int) ≤ ρ 1 ∧ ρ 1 ≤ (-1) := r1
  have w_0 : ρ 1 < 0 := by omega
  show sn174 [ρ 0, ρ 1, ρ 2] (γ 0) 2 0 (γ 0)
  refine Eq.symm ?_
  show fn174 [ρ 0, ρ 1] (γ 0) = _
  unfold fn174
  refine (zLet_eq (show _ = ρ 0 from rfl)).trans ?_
  refine (zLet_eq (show _ = ρ 1 from rfl)).trans ?_
  refine (if_pos w_0).trans ?_
  rfl
set_option maxRecDepth 100000 in
theorem vn174_1 {S : Nat → zSpc} (hS171 : ∀ x g o v gz, S 171 x g o v gz → sn171 x g o v gz) (hS173 : ∀ x g o v gz, S 173 x g o v gz → sn173 x g o v gz) {a : List Int} {g : rHp} : ∀ (ρ : Nat → Int) (γ : Nat → rHp), zO 3 S a g q174_1 ρ γ → zGl (fun _ _ _ => True) (sn174 a g) q174_1 ρ γ := by
  intro ρ γ h
  obtain ⟨ha, hg, hr, hf, hm, hc, hl⟩ := h
  have ha : a = [ρ 0, ρ 1, ρ 2] := ha
  subst ha
  subst hg
  obtain ⟨-, r1, -⟩ := hr
  have r1 : (0 : Int) ≤ ρ 1 ∧ ρ 1 ≤ 3 := r1
  obtain ⟨f0, -⟩ := hf
  have f0 : (0 : Int) ≤ -ρ 4 + ρ 1 := f0
  obtain ⟨w_0, w_1, w_2, w_3⟩ : (¬ (ρ 1 < 0)) ∧ (ρ 1 < 9) ∧ (0 ≤ -ρ 1 + 3) ∧ (ρ 1 ≥ ρ 4) := ⟨by omega, by omega, by omega, by omega⟩
  obtain ⟨-, m1, m2, -⟩ := hm
  have m1 : γ 0 28 0 (ρ 0) = ρ 3 := m1
  have m2 : γ 0 17 0 (ρ 3) = ρ 4 := m2
  obtain ⟨l0, -⟩ := hl
  have l0 : sn171 [ρ 0, ρ 2] (γ 0) 0 0 (γ 1) := hS171 _ _ _ _ _ l0
  show sn174 [ρ 0, ρ 1, ρ 2] (γ 0) 0 300000000 (γ 1)
  refine Eq.symm ?_
  show fn174 [ρ 0, ρ 1] (γ 0) = _
  unfold fn174
  refine (zLet_eq (show _ = ρ 0 from rfl)).trans ?_
  refine (zLet_eq (show _ = ρ 1 from rfl)).trans ?_
  refine (if_neg w_0).trans ?_
  refine (if_pos w_1).trans ?_
  refine (zLet_eq (show fn171 [ρ 0] (γ 0) = (0, 0, γ 1) from l0.symm)).trans ?_
  refine (zLet_eq (show _ = γ 1 from rfl)).trans ?_
  refine (if_pos (show (0 : Nat) = 0 by decide)).trans ?_
  refine (zLet_eq m1).trans ?_
  refine (if_pos w_2).trans ?_
  refine (zLet_eq m2).trans ?_
  refine (if_pos w_3).trans ?_
  rfl
set_option maxRecDepth 100000 in
theorem vn174_2 {S : Nat → zSpc} (hS171 : ∀ x g o v gz, S 171 x g o v gz → sn171 x g o v gz) (hS173 : ∀ x g o v gz, S 173 x g o v gz → sn173 x g o v gz) {a : List Int} {g : rHp} : ∀ (ρ : Nat → Int) (γ : Nat → rHp), zO 3 S a g q174_2 ρ γ → zGl (fun _ _ _ => True) (sn174 a g) q174_2 ρ γ := by
  intro ρ γ h
  obtain ⟨ha, hg, hr, hf, hm, hc, hl⟩ := h
  have ha : a = [ρ 0, ρ 1, ρ 2] := ha
  subst ha
  subst hg
  obtain ⟨-, r1, -⟩ := hr
  have r1 : (0 : Int) ≤ ρ 1 ∧ ρ 1 ≤ 3 := r1
  obtain ⟨f0, -⟩ := hf
  have f0 : (0 : Int) ≤ ρ 4 + -ρ 1 + (-1) := f0
  obtain ⟨w_0, w_1, w_2, w_3⟩ : (¬ (ρ 1 < 0)) ∧ (ρ 1 < 9) ∧ (0 ≤ -ρ 1 + 3) ∧ (¬ (ρ 1 ≥ ρ 4)) := ⟨by omega, by omega, by omega, by omega⟩
  obtain ⟨-, m1, m2, m3, -⟩ := hm
  have m1 : γ 0 28 0 (ρ 0) = ρ 3 := m1
  have m2 : γ 0 17 0 (ρ 3) = ρ 4 := m2
  have m3 : γ 0 27 0 (ρ 1 + 4 * ρ 0) = ρ 5 := m3
  obtain ⟨l0, l1, -⟩ := hl
  have l0 : sn171 [ρ 0, ρ 2] (γ 0) 0 0 (γ 1) := hS171 _ _ _ _ _ l0
  have l1 : sn173 [ρ 5] (γ 1) 0 (ρ 6) (γ 2) := hS173 _ _ _ _ _ l1
  show sn174 [ρ 0, ρ 1, ρ 2] (γ 0) 0 (ρ 6) (γ 2)
  refine Eq.symm ?_
  show fn174 [ρ 0, ρ 1] (γ 0) = _
  unfold fn174
  refine (zLet_eq (show _ = ρ 0 from rfl)).trans ?_
  refine (zLet_eq (show _ = ρ 1 from rfl)).trans ?_
  refine (if_neg w_0).trans ?_
  refine (if_pos w_1).trans ?_
  refine (zLet_eq (show fn171 [ρ 0] (γ 0) = (0, 0, γ 1) from l0.symm)).trans ?_
  refine (zLet_eq (show _ = γ 1 from rfl)).trans ?_
  refine (if_pos (show (0 : Nat) = 0 by decide)).trans ?_
  refine (zLet_eq m1).trans ?_
  refine (if_pos w_2).trans ?_
  refine (zLet_eq m2).trans ?_
  refine (if_neg w_3).trans ?_
  refine (zLet_eq m3).trans ?_
  refine (zLet_eq (show fn173 [ρ 5] (γ 1) = (0, ρ 6, γ 2) from l1.symm)).trans ?_
  refine (zLet_eq (show _ = γ 2 from rfl)).trans ?_
  refine (zLet_eq (show _ = ρ 6 from rfl)).trans ?_
  rfl
set_option maxRecDepth 100000 in
theorem vn174_3 {S : Nat → zSpc} (hS171 : ∀ x g o v gz, S 171 x g o v gz → sn171 x g o v gz) (hS173 : ∀ x g o v gz, S 173 x g o v gz → sn173 x g o v gz) {a : List Int} {g : rHp} : ∀ (ρ : Nat → Int) (γ : Nat → rHp), zO 3 S a g q174_3 ρ γ → zGl (fun _ _ _ => True) (sn174 a g) q174_3 ρ γ := by
  intro ρ γ h
  obtain ⟨ha, hg, hr, hf, hm, hc, hl⟩ := h
  have ha : a = [ρ 0, ρ 1, ρ 2] := ha
  subst ha
  subst hg
  obtain ⟨-, r1, -⟩ := hr
  have r1 : (4 : Int) ≤ ρ 1 ∧ ρ 1 ≤ 4 := r1
  obtain ⟨w_0, w_1, w_2, w_3⟩ : (¬ (ρ 1 < 0)) ∧ (ρ 1 < 9) ∧ (¬ (0 ≤ -ρ 1 + 3)) ∧ (ρ 1 = 4) := ⟨by omega, by omega, by omega, by omega⟩
  obtain ⟨-, m1, -⟩ := hm
  have m1 : γ 0 28 0 (ρ 0) = ρ 3 := m1
  obtain ⟨l0, -⟩ := hl
  have l0 : sn171 [ρ 0, ρ 2] (γ 0) 0 0 (γ 1) := hS171 _ _ _ _ _ l0
  show sn174 [ρ 0, ρ 1, ρ 2] (γ 0) 0 (ρ 3) (γ 1)
  refine Eq.symm ?_
  show fn174 [ρ 0, ρ 1] (γ 0) = _
  unfold fn174
  refine (zLet_eq (show _ = ρ 0 from rfl)).trans ?_
  refine (zLet_eq (show _ = ρ 1 from rfl)).trans ?_
  refine (if_neg w_0).trans ?_
  refine (if_pos w_1).trans ?_
  refine (zLet_eq (show fn171 [ρ 0] (γ 0) = (0, 0, γ 1) from l0.symm)).trans ?_
  refine (zLet_eq (show _ = γ 1 from rfl)).trans ?_
  refine (if_pos (show (0 : Nat) = 0 by decide)).trans ?_
  refine (zLet_eq m1).trans ?_
  refine (if_neg w_2).trans ?_
  refine (if_pos w_3).trans ?_
  rfl
set_option maxRecDepth 100000 in
theorem vn174_4 {S : Nat → zSpc} (hS171 : ∀ x g o v gz, S 171 x g o v gz → sn171 x g o v gz) (hS173 : ∀ x g o v gz, S 173 x g o v gz → sn173 x g o v gz) {a : List Int} {g : rHp} : ∀ (ρ : Nat → Int) (γ : Nat → rHp), zO 3 S a g q174_4 ρ γ → zGl (fun _ _ _ => True) (sn174 a g) q174_4 ρ γ := by
  intro ρ γ h
  obtain ⟨ha, hg, hr, hf, hm, hc, hl⟩ := h
  have ha : a = [ρ 0, ρ 1, ρ 2] := ha
  subst ha
  subst hg
  obtain ⟨-, r1, -⟩ := hr
  have r1 : (5 : Int) ≤ ρ 1 ∧ ρ 1 ≤ 5 := r1
  obtain ⟨w_0, w_1, w_2, w_3, w_4⟩ : (¬ (ρ 1 < 0)) ∧ (ρ 1 < 9) ∧ (¬ (0 ≤ -ρ 1 + 3)) ∧ (¬ (ρ 1 = 4)) ∧ (ρ 1 = 5) := ⟨by omega, by omega, by omega, by omega, by omega⟩
  obtain ⟨-, m1, m2, -⟩ := hm
  have m1 : γ 0 28 0 (ρ 0) = ρ 3 := m1
  have m2 : γ 0 18 0 (ρ 3) = ρ 4 := m2
  obtain ⟨l0, -⟩ := hl
  have l0 : sn171 [ρ 0, ρ 2] (γ 0) 0 0 (γ 1) := hS171 _ _ _ _ _ l0
  show sn174 [ρ 0, ρ 1, ρ 2] (γ 0) 0 (ρ 4) (γ 1)
  refine Eq.symm ?_
  show fn174 [ρ 0, ρ 1] (γ 0) = _
  unfold fn174
  refine (zLet_eq (show _ = ρ 0 from rfl)).trans ?_
  refine (zLet_eq (show _ = ρ 1 from rfl)).trans ?_
  refine (if_neg w_0).trans ?_
  refine (if_pos w_1).trans ?_
  refine (zLet_eq (show fn171 [ρ 0] (γ 0) = (0, 0, γ 1) from l0.symm)).trans ?_
  refine (zLet_eq (show _ = γ 1 from rfl)).trans ?_
  refine (if_pos (show (0 : Nat) = 0 by decide)).trans ?_
  refine (zLet_eq m1).trans ?_
  refine (if_neg w_2).trans ?_
  refine (if_neg w_3).trans ?_
  refine (if_pos w_4).trans ?_
  refine (zLet_eq m2).trans ?_
  rfl
set_option maxRecDepth 100000 in
theorem vn174_5 {S : Nat → zSpc} (hS171 : ∀ x g o v gz, S 171 x g o v gz → sn171 x g o v gz) (hS173 : ∀ x g o v gz, S 173 x g o v gz → sn173 x g o v gz) {a : List Int} {g : rHp} : ∀ (ρ : Nat → Int) (γ : Nat → rHp), zO 3 S a g q174_5 ρ γ → zGl (fun _ _ _ => True) (sn174 a g) q174_5 ρ γ := by
  intro ρ γ h
  obtain ⟨ha, hg, hr, hf, hm, hc, hl⟩ := h
  have ha : a = [ρ 0, ρ 1, ρ 2] := ha
  subst ha
  subst hg
  obtain ⟨-, r1, -⟩ := hr
  have r1 : (6 : Int) ≤ ρ 1 ∧ ρ 1 ≤ 6 := r1
  obtain ⟨w_0, w_1, w_2, w_3, w_4, w_5⟩ : (¬ (ρ 1 < 0)) ∧ (ρ 1 < 9) ∧ (¬ (0 ≤ -ρ 1 + 3)) ∧ (¬ (ρ 1 = 4)) ∧ (¬ (ρ 1 = 5)) ∧ (ρ 1 = 6) := ⟨by omega, by omega, by omega, by omega, by omega, by omega⟩
  obtain ⟨-, m1, m2, -⟩ := hm
  have m1 : γ 0 28 0 (ρ 0) = ρ 3 := m1
  have m2 : γ 0 29 0 (ρ 0) = ρ 4 := m2
  obtain ⟨l0, -⟩ := hl
  have l0 : sn171 [ρ 0, ρ 2] (γ 0) 0 0 (γ 1) := hS171 _ _ _ _ _ l0
  show sn174 [ρ 0, ρ 1, ρ 2] (γ 0) 0 (ρ 4) (γ 1)
  refine Eq.symm ?_
  show fn174 [ρ 0, ρ 1] (γ 0) = _
  unfold fn174
  refine (zLet_eq (show _ = ρ 0 from rfl)).trans ?_
  refine (zLet_eq (show _ = ρ 1 from rfl)).trans ?_
  refine (if_neg w_0).trans ?_
  refine (if_pos w_1).trans ?_
  refine (zLet_eq (show fn171 [ρ 0] (γ 0) = (0, 0, γ 1) from l0.symm)).trans ?_
  refine (zLet_eq (show _ = γ 1 from rfl)).trans ?_
  refine (if_pos (show (0 : Nat) = 0 by decide)).trans ?_
  refine (zLet_eq m1).trans ?_
  refine (if_neg w_2).trans ?_
  refine (if_neg w_3).trans ?_
  refine (if_neg w_4).trans ?_
  refine (if_pos w_5).trans ?_
  refine (zLet_eq m2).trans ?_
  rfl
set_option maxRecDepth 100000 in
theorem vn174_6 {S : Nat → zSpc} (hS171 : ∀ x g o v gz, S 171 x g o v gz → sn171 x g o v gz) (hS173 : ∀ x g o v gz, S 173 x g o v gz → sn173 x g o v gz) {a : List Int} {g : rHp} : ∀ (ρ : Nat → Int) (γ : Nat → rHp), zO 3 S a g q174_6 ρ γ → zGl (fun _ _ _ => True) (sn174 a g) q174_6 ρ γ := by
  intro ρ γ h
  obtain ⟨ha, hg, hr, hf, hm, hc, hl⟩ := h
  have ha : a = [ρ 0, ρ 1, ρ 2] := ha
  subst ha
  subst hg
  obtain ⟨-, r1, -⟩ := hr
  have r1 : (7 : Int) ≤ ρ 1 ∧ ρ 1 ≤ 7 := r1
  obtain ⟨w_0, w_1, w_2, w_3, w_4, w_5, w_6⟩ : (¬ (ρ 1 < 0)) ∧ (ρ 1 < 9) ∧ (¬ (0 ≤ -ρ 1 + 3)) ∧ (¬ (ρ 1 = 4)) ∧ (¬ (ρ 1 = 5)) ∧ (¬ (ρ 1 = 6)) ∧ (ρ 1 = 7) := ⟨by omega, by omega, by omega, by omega, by omega, by omega, by omega⟩
  obtain ⟨-, m1, m2, -⟩ := hm
  have m1 : γ 0 28 0 (ρ 0) = ρ 3 := m1
  have m2 : γ 0 30 0 (ρ 0) = ρ 4 := m2
  obtain ⟨l0, -⟩ := hl
  have l0 : sn171 [ρ 0, ρ 2] (γ 0) 0 0 (γ 1) := hS171 _ _ _ _ _ l0
  show sn174 [ρ 0, ρ 1, ρ 2] (γ 0) 0 (ρ 4) (γ 1)
  refine Eq.symm ?_
  show fn174 [ρ 0, ρ 1] (γ 0) = _
  unfold fn174
  refine (zLet_eq (show _ = ρ 0 from rfl)).trans ?_
  refine (zLet_eq (show _ = ρ 1 from rfl)).trans ?_
  refine (if_neg w_0).trans ?_
  refine (if_pos w_1).trans ?_
  refine (zLet_eq (show fn171 [ρ 0] (γ 0) = (0, 0, γ 1) from l0.symm)).trans ?_
  refine (zLet_eq (show _ = γ 1 from rfl)).trans ?_
  refine (if_pos (show (0 : Nat) = 0 by decide)).trans ?_
  refine (zLet_eq m1).trans ?_
  refine (if_neg w_2).trans ?_
  refine (if_neg w_3).trans ?_
  refine (if_neg w_4).trans ?_
  refine (if_neg w_5).trans ?_
  refine (if_pos w_6).trans ?_
  refine (zLet_eq m2).trans ?_
  rfl
set_option maxRecDepth 100000 in
theorem vn174_7 {S : Nat → zSpc} (hS171 : ∀ x g o v gz, S 171 x g o v gz → sn171 x g o v gz) (hS173 : ∀ x g o v gz, S 173 x g o v gz → sn173 x g o v gz) {a : List Int} {g : rHp} : ∀ (ρ : Nat → Int) (γ : Nat → rHp), zO 3 S a g q174_7 ρ γ → zGl (fun _ _ _ => True) (sn174 a g) q174_7 ρ γ := by
  intro ρ γ h
  obtain ⟨ha, hg, hr, hf, hm, hc, hl⟩ := h
  have ha : a = [ρ 0, ρ 1, ρ 2] := ha
  subst ha
  subst hg
  obtain ⟨-, r1, -⟩ := hr
  have r1 : (8 : Int) ≤ ρ 1 ∧ ρ 1 ≤ 8 := r1
  obtain ⟨w_0, w_1, w_2, w_3, w_4, w_5, w_6⟩ : (¬ (ρ 1 < 0)) ∧ (ρ 1 < 9) ∧ (¬ (0 ≤ -ρ 1 + 3)) ∧ (¬ (ρ 1 = 4)) ∧ (¬ (ρ 1 = 5)) ∧ (¬ (ρ 1 = 6)) ∧ (¬ (ρ 1 = 7)) := ⟨by omega, by omega, by omega, by omega, by omega, by omega, by omega⟩
  obtain ⟨-, m1, m2, -⟩ := hm
  have m1 : γ 0 28 0 (ρ 0) = ρ 3 := m1
  have m2 : γ 0 32 0 (ρ 0) = ρ 4 := m2
  obtain ⟨l0, -⟩ := hl
  have l0 : sn171 [ρ 0, ρ 2] (γ 0) 0 0 (γ 1) := hS171 _ _ _ _ _ l0
  show sn174 [ρ 0, ρ 1, ρ 2] (γ 0) 0 (ρ 4) (γ 1)
  refine Eq.symm ?_
  show fn174 [ρ 0, ρ 1] (γ 0) = _
  unfold fn174
  refine (zLet_eq (show _ = ρ 0 from rfl)).trans ?_
  refine (zLet_eq (show _ = ρ 1 from rfl)).trans ?_
  refine (if_neg w_0).trans ?_
  refine (if_pos w_1).trans ?_
  refine (zLet_eq (show fn171 [ρ 0] (γ 0) = (0, 0, γ 1) from l0.symm)).trans ?_
  refine (zLet_eq (show _ = γ 1 from rfl)).trans ?_
  refine (if_pos (show (0 : Nat) = 0 by decide)).trans ?_
  refine (zLet_eq m1).trans ?_
  refine (if_neg w_2).trans ?_
  refine (if_neg w_3).trans ?_
  refine (if_neg w_4).trans ?_
  refine (if_neg w_5).trans ?_
  refine (if_neg w_6).trans ?_
  refine (zLet_eq m2).trans ?_
  rfl
set_option maxRecDepth 100000 in
theorem vn174_8 {S : Nat → zSpc} (hS171 : ∀ x g o v gz, S 171 x g o v gz → sn171 x g o v gz) (hS173 : ∀ x g o v gz, S 173 x g o v gz → sn173 x g o v gz) {a : List Int} {g : rHp} : ∀ (ρ : Nat → Int) (γ : Nat → rHp), zO 3 S a g q174_8 ρ γ → zGl (fun _ _ _ => True) (sn174 a g) q174_8 ρ γ := by
  intro ρ γ h
  obtain ⟨ha, hg, hr, hf, hm, hc, hl⟩ := h
  have ha : a = [ρ 0, ρ 1, ρ 2] := ha
  subst ha
  subst hg
  obtain ⟨-, r1, -⟩ := hr
  have r1 : (0 : Int) ≤ ρ 1 ∧ ρ 1 ≤ 8 := r1
  obtain ⟨w_0, w_1⟩ : (¬ (ρ 1 < 0)) ∧ (ρ 1 < 9) := ⟨by omega, by omega⟩
  obtain ⟨l0, -⟩ := hl
  have l0 : sn171 [ρ 0, ρ 2] (γ 0) 1 0 (γ 1) := hS171 _ _ _ _ _ l0
  show sn174 [ρ 0, ρ 1, ρ 2] (γ 0) 1 0 (γ 1)
  refine Eq.symm ?_
  show fn174 [ρ 0, ρ 1] (γ 0) = _
  unfold fn174
  refine (zLet_eq (show _ = ρ 0 from rfl)).trans ?_
  refine (zLet_eq (show _ = ρ 1 from rfl)).trans ?_
  refine (if_neg w_0).trans ?_
  refine (if_pos w_1).trans ?_
  refine (zLet_eq (show fn171 [ρ 0] (γ 0) = (1, 0, γ 1) from l0.symm)).trans ?_
  refine (zLet_eq (show _ = γ 1 from rfl)).trans ?_
  refine (if_neg (show ¬ (1 : Nat) = 0 by decide)).trans ?_
  refine (if_pos (show (1 : Nat) = 1 by decide)).trans ?_
  rfl
set_option maxRecDepth 100000 in
theorem vn174_9 {S : Nat → zSpc} (hS171 : ∀ x g o v gz, S 171 x g o v gz → sn171 x g o v gz) (hS173 : ∀ x g o v gz, S 173 x g o v gz → sn173 x g o v gz) {a : List Int} {g : rHp} : ∀ (ρ : Nat → Int) (γ : Nat → rHp), zO 3 S a g q174_9 ρ γ → zGl (fun _ _ _ => True) (sn174 a g) q174_9 ρ γ := by
  intro ρ γ h
  obtain ⟨ha, hg, hr, hf, hm, hc, hl⟩ := h
  have ha : a = [ρ 0, ρ 1, ρ 2] := ha
  subst ha
  subst hg
  obtain ⟨-, r1, -⟩ := hr
  have r1 : (0 : Int) ≤ ρ 1 ∧ ρ 1 ≤ 8 := r1
  obtain ⟨w_0, w_1⟩ : (¬ (ρ 1 < 0)) ∧ (ρ 1 < 9) := ⟨by omega, by omega⟩
  obtain ⟨l0, -⟩ := hl
  have l0 : sn171 [ρ 0, ρ 2] (γ 0) 5 0 (γ 1) := hS171 _ _ _ _ _ l0
  show sn174 [ρ 0, ρ 1, ρ 2] (γ 0) 5 0 (γ 1)
  refine Eq.symm ?_
  show fn174 [ρ 0, ρ 1] (γ 0) = _
  unfold fn174
  refine (zLet_eq (show _ = ρ 0 from rfl)).trans ?_
  refine (zLet_eq (show _ = ρ 1 from rfl)).trans ?_
  refine (if_neg w_0).trans ?_
  refine (if_pos w_1).trans ?_
  refine (zLet_eq (show fn171 [ρ 0] (γ 0) = (5, 0, γ 1) from l0.symm)).trans ?_
  refine (zLet_eq (show _ = γ 1 from rfl)).trans ?_
  refine (if_neg (show ¬ (5 : Nat) = 0 by decide)).trans ?_
  refine (if_neg (show ¬ (5 : Nat) = 1 by decide)).trans ?_
  rfl
set_option maxRecDepth 100000 in
theorem vn174_10 {S : Nat → zSpc} (hS171 : ∀ x g o v gz, S 171 x g o v gz → sn171 x g o v gz) (hS173 : ∀ x g o v gz, S 173 x g o v gz → sn173 x g o v gz) {a : List Int} {g : rHp} : ∀ (ρ : Nat → Int) (γ : Nat → rHp), zO 3 S a g q174_10 ρ γ → zGl (fun _ _ _ => True) (sn174 a g) q174_10 ρ γ := by
  intro ρ γ h
  obtain ⟨ha, hg, hr, hf, hm, hc, hl⟩ := h
  have ha : a = [ρ 0, ρ 1, ρ 2] := ha
  subst ha
  subst hg
  obtain ⟨-, r1, -⟩ := hr
  have r1 : (9 : Int) ≤ ρ 1 ∧ ρ 1 ≤ 2147483647 := r1
  obtain ⟨w_0, w_1⟩ : (¬ (ρ 1 < 0)) ∧ (¬ (ρ 1 < 9)) := ⟨by omega, by omega⟩
  show sn174 [ρ 0, ρ 1, ρ 2] (γ 0) 2 0 (γ 0)
  refine Eq.symm ?_
  show fn174 [ρ 0, ρ 1] (γ 0) = _
  unfold fn174
  refine (zLet_eq (show _ = ρ 0 from rfl)).trans ?_
  refine (zLet_eq (show _ = ρ 1 from rfl)).trans ?_
  refine (if_neg w_0).trans ?_
  refine (if_neg w_1).trans ?_
  rfl
set_option maxRecDepth 100000 in
theorem yn174 {S : Nat → zSpc} (hS171 : ∀ x g o v gz, S 171 x g o v gz → sn171 x g o v gz) (hS173 : ∀ x g o v gz, S 173 x g o v gz → sn173 x g o v gz) : ∀ x g o v gz, zSem uW uT w174_.2.2.2.1 w174_.2.2.1.1.length S q174 (fun i => q174a.getD i []) (zNA a174_) x g o v gz → sn174 x g o v gz := by
  intro a g o v gz h
  exact zSem_all (l0 := q174) (las := q174a) (S := S) (J := (fun _ _ _ => True)) (P := sn174 a g) (fun _ => (show zAll _ [q174_0, q174_1, q174_2, q174_3, q174_4, q174_5, q174_6, q174_7, q174_8, q174_9, q174_10] from (zAll_c (vn174_0 hS171 hS173) (zAll_c (vn174_1 hS171 hS173) (zAll_c (vn174_2 hS171 hS173) (zAll_c (vn174_3 hS171 hS173) (zAll_c (vn174_4 hS171 hS173) (zAll_c (vn174_5 hS171 hS173) (zAll_c (vn174_6 hS171 hS173) (zAll_c (vn174_7 hS171 hS173) (zAll_c (vn174_8 hS171 hS173) (zAll_c (vn174_9 hS171 hS173) (zAll_c (vn174_10 hS171 hS173) zAll_n))))))))))))) (fun _ => (show zAllI _ 0 [] from trivial)) h
set_option maxRecDepth 100000 in
theorem vn175_0 {S : Nat → zSpc} (hS171 : ∀ x g o v gz, S 171 x g o v gz → sn171 x g o v gz) {a : List Int} {g : rHp} : ∀ (ρ : Nat → Int) (γ : Nat → rHp), zO 3 S a g q175_0 ρ γ → zGl (fun _ _ _ => True) (sn175 a g) q175_0 ρ γ := by
  intro ρ γ h
  obtain ⟨ha, hg, hr, hf, hm, hc, hl⟩ := h
  have ha : a = [ρ 0, ρ 1, ρ 2] := ha
  subst ha
  subst hg
  obtain ⟨-, r1, -⟩ := hr
  have r1 : ((-2147483648) : Int) ≤ ρ 1 ∧ ρ 1 ≤ (-1) := r1
  have w_0 : ρ 1 < 0 := by omega
  obtain ⟨l0, -⟩ := hl
  have l0 : sn171 [ρ 0, ρ 2] (γ 0) 0 0 (γ 1) := hS171 _ _ _ _ _ l0
  show sn175 [ρ 0, ρ 1, ρ 2] (γ 0) 1 0 (γ 1)
  refine Eq.symm ?_
  show fn175 [ρ 0, ρ 1] (γ 0) = _
  unfold fn175
  refine (zLet_eq (show _ = ρ 0 from rfl)).trans ?_
  refine (zLet_eq (show _ = ρ 1 from rfl)).trans ?_
  refine (zLet_eq (show fn171 [ρ 0] (γ 0) = (0, 0, γ 1) from l0.symm)).trans ?_
  refine (zLet_eq (show _ = γ 1 from rfl)).trans ?_
  refine (if_pos (show (0 : Nat) = 0 by decide)).trans ?_
  refine (if_pos w_0).trans ?_
  rfl
set_option maxRecDepth 100000 in
theorem vn175_1 {S : Nat → zSpc} (hS171 : ∀ x g o v gz, S 171 x g o v gz → sn171 x g o v gz) {a : List Int} {g : rHp} : ∀ (ρ : Nat → Int) (γ : Nat → rHp), zO 3 S a g q175_1 ρ γ → zGl (fun _ _ _ => True) (sn175 a g) q175_1 ρ γ := by
  intro ρ γ h
  obtain ⟨ha, hg, hr, hf, hm, hc, hl⟩ := h
  have ha : a = [ρ 0, ρ 1, ρ 2] := ha
  subst ha
  subst hg
  obtain ⟨-, r1, -⟩ := hr
  have r1 : (0 : Int) ≤ ρ 1 ∧ ρ 1 ≤ 2147483647 := r1
  obtain ⟨f0, -⟩ := hf
  have f0 : (0 : Int) ≤ ρ 3 + -ρ 1 + (-1) := f0
  obtain ⟨w_0, w_1⟩ : (¬ (ρ 1 < 0)) ∧ (ρ 1 < ρ 3) := ⟨by omega, by omega⟩
  obtain ⟨-, m1, m2, -⟩ := hm
  have m1 : γ 0 32 0 (ρ 0) = ρ 3 := m1
  have m2 : γ 0 31 0 (ρ 1 + 8 * ρ 0) = ρ 4 := m2
  obtain ⟨l0, -⟩ := hl
  have l0 : sn171 [ρ 0, ρ 2] (γ 0) 0 0 (γ 1) := hS171 _ _ _ _ _ l0
  show sn175 [ρ 0, ρ 1, ρ 2] (γ 0) 0 (ρ 4) (γ 1)
  refine Eq.symm ?_
  show fn175 [ρ 0, ρ 1] (γ 0) = _
  unfold fn175
  refine (zLet_eq (show _ = ρ 0 from rfl)).trans ?_
  refine (zLet_eq (show _ = ρ 1 from rfl)).trans ?_
  refine (zLet_eq (show fn171 [ρ 0] (γ 0) = (0, 0, γ 1) from l0.symm)).trans ?_
  refine (zLet_eq (show _ = γ 1 from rfl)).trans ?_
  refine (if_pos (show (0 : Nat) = 0 by decide)).trans ?_
  refine (if_neg w_0).trans ?_
  refine (zLet_eq m1).trans ?_
  refine (if_pos w_1).trans ?_
  refine (zLet_eq m2).trans ?_
  rfl
set_option maxRecDepth 100000 in
theorem vn175_2 {S : Nat → zSpc} (hS171 : ∀ x g o v gz, S 171 x g o v gz → sn171 x g o v gz) {a : List Int} {g : rHp} : ∀ (ρ : Nat → Int) (γ : Nat → rHp), zO 3 S a g q175_2 ρ γ → zGl (fun _ _ _ => True) (sn175 a g) q175_2 ρ γ := by
  intro ρ γ h
  obtain ⟨ha, hg, hr, hf, hm, hc, hl⟩ := h
  have ha : a = [ρ 0, ρ 1, ρ 2] := ha
  subst ha
  subst hg
  obtain ⟨-, r1, -⟩ := hr
  have r1 : (0 : Int) ≤ ρ 1 ∧ ρ 1 ≤ 2147483647 := r1
  obtain ⟨f0, -⟩ := hf
  have f0 : (0 : Int) ≤ -ρ 3 + ρ 1 := f0
  obtain ⟨w_0, w_1⟩ : (¬ (ρ 1 < 0)) ∧ (¬ (ρ 1 < ρ 3)) := ⟨by omega, by omega⟩
  obtain ⟨-, m1, -⟩ := hm
  have m1 : γ 0 32 0 (ρ 0) = ρ 3 := m1
  obtain ⟨l0, -⟩ := hl
  have l0 : sn171 [ρ 0, ρ 2] (γ 0) 0 0 (γ 1) := hS171 _ _ _ _ _ l0
  show sn175 [ρ 0, ρ 1, ρ 2] (γ 0) 1 0 (γ 1)
  refine Eq.symm ?_
  show fn175 [ρ 0, ρ 1] (γ 0) = _
  unfold fn175
  refine (zLet_eq (show _ = ρ 0 from rfl)).trans ?_
  refine (zLet_eq (show _ = ρ 1 from rfl)).trans ?_
  refine (zLet_eq (show fn171 [ρ 0] (γ 0) = (0, 0, γ 1) from l0.symm)).trans ?_
  refine (zLet_eq (show _ = γ 1 from rfl)).trans ?_
  refine (if_pos (show (0 : Nat) = 0 by decide)).trans ?_
  refine (if_neg w_0).trans ?_
  refine (zLet_eq m1).trans ?_
  refine (if_neg w_1).trans ?_
  rfl
set_option maxRecDepth 100000 in
theorem vn175_3 {S : Nat → zSpc} (hS171 : ∀ x g o v gz, S 171 x g o v gz → sn171 x g o v gz) {a : List Int} {g : rHp} : ∀ (ρ : Nat → Int) (γ : Nat → rHp), zO 3 S a g q175_3 ρ γ → zGl (fun _ _ _ => True) (sn175 a g) q175_3 ρ γ := by
  intro ρ γ h
  obtain ⟨ha, hg, hr, hf, hm, hc, hl⟩ := h
  have ha : a = [ρ 0, ρ 1, ρ 2] := ha
  subst ha
  subst hg
  obtain ⟨l0, -⟩ := hl
  have l0 : sn171 [ρ 0, ρ 2] (γ 0) 1 0 (γ 1) := hS171 _ _ _ _ _ l0
  show sn175 [ρ 0, ρ 1, ρ 2] (γ 0) 1 0 (γ 1)
  refine Eq.symm ?_
  show fn175 [ρ 0, ρ 1] (γ 0) = _
  unfold fn175
  refine (zLet_eq (show _ = ρ 0 from rfl)).trans ?_
  refine (zLet_eq (show _ = ρ 1 from rfl)).trans ?_
  refine (zLet_eq (show fn171 [ρ 0] (γ 0) = (1, 0, γ 1) from l0.symm)).trans ?_
  refine (zLet_eq (show _ = γ 1 from rfl)).trans ?_
  refine (if_neg (show ¬ (1 : Nat) = 0 by decide)).trans ?_
  refine (if_pos (show (1 : Nat) = 1 by decide)).trans ?_
  rfl
set_option maxRecDepth 100000 in
theorem vn175_4 {S : Nat → zSpc} (hS171 : ∀ x g o v gz, S 171 x g o v gz → sn171 x g o v gz) {a : List Int} {g : rHp} : ∀ (ρ : Nat → Int) (γ : Nat → rHp), zO 3 S a g q175_4 ρ γ → zGl (fun _ _ _ => True) (sn175 a g) q175_4 ρ γ := by
  intro ρ γ h
  obtain ⟨ha, hg, hr, hf, hm, hc, hl⟩ := h
  have ha : a = [ρ 0, ρ 1, ρ 2] := ha
  subst ha
  subst hg
  obtain ⟨l0, -⟩ := hl
  have l0 : sn171 [ρ 0, ρ 2] (γ 0) 5 0 (γ 1) := hS171 _ _ _ _ _ l0
  show sn175 [ρ 0, ρ 1, ρ 2] (γ 0) 5 0 (γ 1)
  refine Eq.symm ?_
  show fn175 [ρ 0, ρ 1] (γ 0) = _
  unfold fn175
  refine (zLet_eq (show _ = ρ 0 from rfl)).trans ?_
  refine (zLet_eq (show _ = ρ 1 from rfl)).trans ?_
  refine (zLet_eq (show fn171 [ρ 0] (γ 0) = (5, 0, γ 1) from l0.symm)).trans ?_
  refine (zLet_eq (show _ = γ 1 from rfl)).trans ?_
  refine (if_neg (show ¬ (5 : Nat) = 0 by decide)).trans ?_
  refine (if_neg (show ¬ (5 : Nat) = 1 by decide)).trans ?_
  rfl
set_option maxRecDepth 100000 in
theorem yn175 {S : Nat → zSpc} (hS171 : ∀ x g o v gz, S 171 x g o v gz → sn171 x g o v gz) : ∀ x g o v gz, zSem uW uT w175_.2.2.2.1 w175_.2.2.1.1.length S q175 (fun i => q175a.getD i []) (zNA a175_) x g o v gz → sn175 x g o v gz := by
  intro a g o v gz h
  exact zSem_all (l0 := q175) (las := q175a) (S := S) (J := (fun _ _ _ => True)) (P := sn175 a g) (fun _ => (show zAll _ [q175_0, q175_1, q175_2, q175_3, q175_4] from (zAll_c (vn175_0 hS171) (zAll_c (vn175_1 hS171) (zAll_c (vn175_2 hS171) (zAll_c (vn175_3 hS171) (zAll_c (vn175_4 hS171) zAll_n))))))) (fun _ => (show zAllI _ 0 [] from trivial)) h
set_option maxRecDepth 100000 in
theorem vn176_0 {S : Nat → zSpc} (hS100 : ∀ x g o v gz, S 100 x g o v gz → sn100 x g o v gz) (hS173 : ∀ x g o v gz, S 173 x g o v gz → sn173 x g o v gz) {a : List Int} {g : rHp} : ∀ (ρ : Nat → Int) (γ : Nat → rHp), zO 2 S a g q176_0 ρ γ → zGl (fun _ _ _ => True) (sn176 a g) q176_0 ρ γ := by
  intro ρ γ h
  obtain ⟨ha, hg, hr, hf, hm, hc, hl⟩ := h
  have ha : a = [ρ 0, ρ 1] := ha
  subst ha
  subst hg
  obtain ⟨r0, -⟩ := hr
  have r0 : ((-2147483648) : Int) ≤ ρ 0 ∧ ρ 0 ≤ (-1) := r0
  have w_0 : ρ 0 < 0 := by omega
  show sn176 [ρ 0, ρ 1] (γ 0) 1 0 (γ 0)
  refine Eq.symm ?_
  show fn176 [ρ 0, ρ 1] (γ 0) = _
  unfold fn176
  refine (zLet_eq (show _ = ρ 0 from rfl)).trans ?_
  refine (zLet_eq (show _ = ρ 1 from rfl)).trans ?_
  refine (if_pos w_0).trans ?_
  rfl
set_option maxRecDepth 100000 in
theorem vn176_1 {S : Nat → zSpc} (hS100 : ∀ x g o v gz, S 100 x g o v gz → sn100 x g o v gz) (hS173 : ∀ x g o v gz, S 173 x g o v gz → sn173 x g o v gz) {a : List Int} {g : rHp} : ∀ (ρ : Nat → Int) (γ : Nat → rHp), zO 2 S a g q176_1 ρ γ → zGl (fun _ _ _ => True) (sn176 a g) q176_1 ρ γ := by
  intro ρ γ h
  obtain ⟨ha, hg, hr, hf, hm, hc, hl⟩ := h
  have ha : a = [ρ 0, ρ 1] := ha
  subst ha
  subst hg
  obtain ⟨r0, r1, -, r3, -⟩ := hr
  have r0 : (0 : Int) ≤ ρ 0 ∧ ρ 0 ≤ 2147483647 := r0
  have r1 : ((-2147483648) : Int) ≤ ρ 1 ∧ ρ 1 ≤ (-1) := r1
  have r3 : (0 : Int) ≤ ρ 3 ∧ ρ 3 ≤ 100 := r3
  obtain ⟨f0, -⟩ := hf
  have f0 : (0 : Int) ≤ ρ 3 + -ρ 0 + (-1) := f0
  obtain ⟨w_0, w_1, w_2, w_3⟩ : (¬ (ρ 0 < 0)) ∧ (0 ≤ -ρ 3 + 100) ∧ (ρ 0 < ρ 3) ∧ (ρ 1 < 0) := ⟨by omega, by omega, by omega, by omega⟩
  obtain ⟨m0, m1, -⟩ := hm
  have m0 : γ 0 0 0 5 = ρ 2 := m0
  have m1 : γ 0 8 (ρ 2) 1 = ρ 3 := m1
  obtain ⟨l0, -⟩ := hl
  have l0 : sn100 [ρ 3, 100] (γ 0) 0 (ρ 3) (γ 1) := hS100 _ _ _ _ _ l0
  show sn176 [ρ 0, ρ 1] (γ 0) 1 0 (γ 1)
  refine Eq.symm ?_
  show fn176 [ρ 0, ρ 1] (γ 0) = _
  unfold fn176
  refine (zLet_eq (show _ = ρ 0 from rfl)).trans ?_
  refine (zLet_eq (show _ = ρ 1 from rfl)).trans ?_
  refine (if_neg w_0).trans ?_
  refine (zLet_eq m0).trans ?_
  refine (zLet_eq m1).trans ?_
  refine (zLet_eq (show fn100 [ρ 3, 100] (γ 0) = (0, ρ 3, γ 1) from l0.symm)).trans ?_
  refine (zLet_eq (show _ = γ 1 from rfl)).trans ?_
  refine (if_pos w_1).trans ?_
  refine (if_pos w_2).trans ?_
  refine (if_pos w_3).trans ?_
  rfl
set_option maxRecDepth 100000 in
theorem vn176_2 {S : Nat → zSpc} (hS100 : ∀ x g o v gz, S 100 x g o v gz → sn100 x g o v gz) (hS173 : ∀ x g o v gz, S 173 x g o v gz → sn173 x g o v gz) {a : List Int} {g : rHp} : ∀ (ρ : Nat → Int) (γ : Nat → rHp), zO 2 S a g q176_2 ρ γ → zGl (fun _ _ _ => True) (sn176 a g) q176_2 ρ γ := by
  intro ρ γ h
  obtain ⟨ha, hg, hr, hf, hm, hc, hl⟩ := h
  have ha : a = [ρ 0, ρ 1] := ha
  subst ha
  subst hg
  obtain ⟨r0, r1, -, r3, -⟩ := hr
  have r0 : (0 : Int) ≤ ρ 0 ∧ ρ 0 ≤ 2147483647 := r0
  have r1 : (8 : Int) ≤ ρ 1 ∧ ρ 1 ≤ 2147483647 := r1
  have r3 : (0 : Int) ≤ ρ 3 ∧ ρ 3 ≤ 100 := r3
  obtain ⟨f0, -⟩ := hf
  have f0 : (0 : Int) ≤ ρ 3 + -ρ 0 + (-1) := f0
  obtain ⟨w_0, w_1, w_2, w_3, w_4⟩ : (¬ (ρ 0 < 0)) ∧ (0 ≤ -ρ 3 + 100) ∧ (ρ 0 < ρ 3) ∧ (¬ (ρ 1 < 0)) ∧ (ρ 1 ≥ 8) := ⟨by omega, by omega, by omega, by omega, by omega⟩
  obtain ⟨m0, m1, -⟩ := hm
  have m0 : γ 0 0 0 5 = ρ 2 := m0
  have m1 : γ 0 8 (ρ 2) 1 = ρ 3 := m1
  obtain ⟨l0, -⟩ := hl
  have l0 : sn100 [ρ 3, 100] (γ 0) 0 (ρ 3) (γ 1) := hS100 _ _ _ _ _ l0
  show sn176 [ρ 0, ρ 1] (γ 0) 1 0 (γ 1)
  refine Eq.symm ?_
  show fn176 [ρ 0, ρ 1] (γ 0) = _
  unfold fn176
  refine (zLet_eq (show _ = ρ 0 from rfl)).trans ?_
  refine (zLet_eq (show _ = ρ 1 from rfl)).trans ?_
  refine (if_neg w_0).trans ?_
  refine (zLet_eq m0).trans ?_
  refine (zLet_eq m1).trans ?_
  refine (zLet_eq (show fn100 [ρ 3, 100] (γ 0) = (0, ρ 3, γ 1) from l0.symm)).trans ?_
  refine (zLet_eq (show _ = γ 1 from rfl)).trans ?_
  refine (if_pos w_1).trans ?_
  refine (if_pos w_2).trans ?_
  refine (if_neg w_3).trans ?_
  refine (if_pos w_4).trans ?_
  rfl
set_option maxRecDepth 100000 in
theorem vn176_3 {S : Nat → zSpc} (hS100 : ∀ x g o v gz, S 100 x g o v gz → sn100 x g o v gz) (hS173 : ∀ x g o v gz, S 173 x g o v gz → sn173 x g o v gz) {a : List Int} {g : rHp} : ∀ (ρ : Nat → Int) (γ : Nat → rHp), zO 2 S a g q176_3 ρ γ → zGl (fun _ _ _ => True) (sn176 a g) q176_3 ρ γ := by
  intro ρ γ h
  obtain ⟨ha, hg, hr, hf, hm, hc, hl⟩ := h
  have ha : a = [ρ 0, ρ 1] := ha
  subst ha
  subst hg
  obtain ⟨r0, r1, -, r3, -, -, r6, -⟩ := hr
  have r0 : (0 : Int) ≤ ρ 0 ∧ ρ 0 ≤ 2147483647 := r0
  have r1 : (0 : Int) ≤ ρ 1 ∧ ρ 1 ≤ 7 := r1
  have r3 : (0 : Int) ≤ ρ 3 ∧ ρ 3 ≤ 100 := r3
  have r6 : (1 : Int) ≤ ρ 6 ∧ ρ 6 ≤ 1 := r6
  obtain ⟨f0, -⟩ := hf
  have f0 : (0 : Int) ≤ ρ 3 + -ρ 0 + (-1) := f0
  obtain ⟨w_0, w_1, w_2, w_3, w_4, w_5⟩ : (¬ (ρ 0 < 0)) ∧ (0 ≤ -ρ 3 + 100) ∧ (ρ 0 < ρ 3) ∧ (¬ (ρ 1 < 0)) ∧ (¬ (ρ 1 ≥ 8)) ∧ (ρ 6 ≠ 0) := ⟨by omega, by omega, by omega, by omega, by omega, by omega⟩
  obtain ⟨m0, m1, m2, m3, -⟩ := hm
  have m0 : γ 0 0 0 5 = ρ 2 := m0
  have m1 : γ 0 8 (ρ 2) 1 = ρ 3 := m1
  have m2 : γ 0 8 (ρ 2) 2 = ρ 4 := m2
  have m3 : γ 0 41 (ρ 2) (ρ 1 + 8 * ρ 0) = ρ 7 := m3
  obtain ⟨l0, l1, l2, l3, -⟩ := hl
  have l0 : sn100 [ρ 3, 100] (γ 0) 0 (ρ 3) (γ 1) := hS100 _ _ _ _ _ l0
  have l1 : zOpP (.ishr) (γ 0) (γ 1) [ρ 4, ρ 1] (ρ 5) := l1
  have l2 : zOpP (.iand) (γ 0) (γ 1) [ρ 5, 1] (ρ 6) := l2
  have l3 : sn173 [ρ 7] (γ 1) 0 (ρ 8) (γ 2) := hS173 _ _ _ _ _ l3
  show sn176 [ρ 0, ρ 1] (γ 0) 0 (ρ 8) (γ 2)
  refine Eq.symm ?_
  show fn176 [ρ 0, ρ 1] (γ 0) = _
  unfold fn176
  refine (zLet_eq (show _ = ρ 0 from rfl)).trans ?_
  refine (zLet_eq (show _ = ρ 1 from rfl)).trans ?_
  refine (if_neg w_0).trans ?_
  refine (zLet_eq m0).trans ?_
  refine (zLet_eq m1).trans ?_
  refine (zLet_eq (show fn100 [ρ 3, 100] (γ 0) = (0, ρ 3, γ 1) from l0.symm)).trans ?_
  refine (zLet_eq (show _ = γ 1 from rfl)).trans ?_
  refine (if_pos w_1).trans ?_
  refine (if_pos w_2).trans ?_
  refine (if_neg w_3).trans ?_
  refine (if_neg w_4).trans ?_
  refine (zLet_eq m2).trans ?_
  refine (zLet_eq (zF2_ok l1)).trans ?_
  refine (zLet_eq (zF2_ok l2)).trans ?_
  refine (if_pos w_5).trans ?_
  refine (zLet_eq m3).trans ?_
  refine (zLet_eq (show fn173 [ρ 7] (γ 1) = (0, ρ 8, γ 2) from l3.symm)).trans ?_
  refine (zLet_eq (show _ = γ 2 from rfl)).trans ?_
  refine (zLet_eq (show _ = ρ 8 from rfl)).trans ?_
  rfl
set_option maxRecDepth 100000 in
theorem vn176_4 {S : Nat → zSpc} (hS100 : ∀ x g o v gz, S 100 x g o v gz → sn100 x g o v gz) (hS173 : ∀ x g o v gz, S 173 x g o v gz → sn173 x g o v gz) {a : List Int} {g : rHp} : ∀ (ρ : Nat → Int) (γ : Nat → rHp), zO 2 S a g q176_4 ρ γ → zGl (fun _ _ _ => True) (sn176 a g) q176_4 ρ γ := by
  intro ρ γ h
  obtain ⟨ha, hg, hr, hf, hm, hc, hl⟩ := h
  have ha : a = [ρ 0, ρ 1] := ha
  subst ha
  subst hg
  obtain ⟨r0, r1, -, r3, -, -, r6, -⟩ := hr
  have r0 : (0 : Int) ≤ ρ 0 ∧ ρ 0 ≤ 2147483647 := r0
  have r1 : (0 : Int) ≤ ρ 1 ∧ ρ 1 ≤ 7 := r1
  have r3 : (0 : Int) ≤ ρ 3 ∧ ρ 3 ≤ 100 := r3
  have r6 : (0 : Int) ≤ ρ 6 ∧ ρ 6 ≤ 0 := r6
  obtain ⟨f0, -⟩ := hf
  have f0 : (0 : Int) ≤ ρ 3 + -ρ 0 + (-1) := f0
  obtain ⟨w_0, w_1, w_2, w_3, w_4, w_5⟩ : (¬ (ρ 0 < 0)) ∧ (0 ≤ -ρ 3 + 100) ∧ (ρ 0 < ρ 3) ∧ (¬ (ρ 1 < 0)) ∧ (¬ (ρ 1 ≥ 8)) ∧ (¬ (ρ 6 ≠ 0)) := ⟨by omega, by omega, by omega, by omega, by omega, by omega⟩
  obtain ⟨m0, m1, m2, -⟩ := hm
  have m0 : γ 0 0 0 5 = ρ 2 := m0
  have m1 : γ 0 8 (ρ 2) 1 = ρ 3 := m1
  have m2 : γ 0 8 (ρ 2) 2 = ρ 4 := m2
  obtain ⟨l0, l1, l2, -⟩ := hl
  have l0 : sn100 [ρ 3, 100] (γ 0) 0 (ρ 3) (γ 1) := hS100 _ _ _ _ _ l0
  have l1 : zOpP (.ishr) (γ 0) (γ 1) [ρ 4, ρ 1] (ρ 5) := l1
  have l2 : zOpP (.iand) (γ 0) (γ 1) [ρ 5, 1] (ρ 6) := l2
  show sn176 [ρ 0, ρ 1] (γ 0) 1 0 (γ 1)
  refine Eq.symm ?_
  show fn176 [ρ 0, ρ 1] (γ 0) = _
  unfold fn176
  refine (zLet_eq (show _ = ρ 0 from rfl)).trans ?_
  refine (zLet_eq (show _ = ρ 1 from rfl)).trans ?_
  refine (if_neg w_0).trans ?_
  refine (zLet_eq m0).trans ?_
  refine (zLet_eq m1).trans ?_
  refine (zLet_eq (show fn100 [ρ 3, 100] (γ 0) = (0, ρ 3, γ 1) from l0.symm)).trans ?_
  refine (zLet_eq (show _ = γ 1 from rfl)).trans ?_
  refine (if_pos w_1).trans ?_
  refine (if_pos w_2).trans ?_
  refine (if_neg w_3).trans ?_
  refine (if_neg w_4).trans ?_
  refine (zLet_eq m2).trans ?_
  refine (zLet_eq (zF2_ok l1)).trans ?_
  refine (zLet_eq (zF2_ok l2)).trans ?_
  refine (if_neg w_5).trans ?_
  rfl
set_option maxRecDepth 100000 in
theorem vn176_5 {S : Nat → zSpc} (hS100 : ∀ x g o v gz, S 100 x g o v gz → sn100 x g o v gz) (hS173 : ∀ x g o v gz, S 173 x g o v gz → sn173 x g o v gz) {a : List Int} {g : rHp} : ∀ (ρ : Nat → Int) (γ : Nat → rHp), zO 2 S a g q176_5 ρ γ → zGl (fun _ _ _ => True) (sn176 a g) q176_5 ρ γ := by
  intro ρ γ h
  obtain ⟨ha, hg, hr, hf, hm, hc, hl⟩ := h
  have ha : a = [ρ 0, ρ 1] := ha
  subst ha
  subst hg
  obtain ⟨r0, -, -, r3, -⟩ := hr
  have r0 : (0 : Int) ≤ ρ 0 ∧ ρ 0 ≤ 2147483647 := r0
  have r3 : (0 : Int) ≤ ρ 3 ∧ ρ 3 ≤ 100 := r3
  obtain ⟨f0, -⟩ := hf
  have f0 : (0 : Int) ≤ -ρ 3 + ρ 0 := f0
  obtain ⟨w_0, w_1, w_2⟩ : (¬ (ρ 0 < 0)) ∧ (0 ≤ -ρ 3 + 100) ∧ (¬ (ρ 0 < ρ 3)) := ⟨by omega, by omega, by omega⟩
  obtain ⟨m0, m1, -⟩ := hm
  have m0 : γ 0 0 0 5 = ρ 2 := m0
  have m1 : γ 0 8 (ρ 2) 1 = ρ 3 := m1
  obtain ⟨l0, -⟩ := hl
  have l0 : sn100 [ρ 3, 100] (γ 0) 0 (ρ 3) (γ 1) := hS100 _ _ _ _ _ l0
  show sn176 [ρ 0, ρ 1] (γ 0) 1 0 (γ 1)
  refine Eq.symm ?_
  show fn176 [ρ 0, ρ 1] (γ 0) = _
  unfold fn176
  refine (zLet_eq (show _ = ρ 0 from rfl)).trans ?_
  refine (zLet_eq (show _ = ρ 1 from rfl)).trans ?_
  refine (if_neg w_0).trans ?_
  refine (zLet_eq m0).trans ?_
  refine (zLet_eq m1).trans ?_
  refine (zLet_eq (show fn100 [ρ 3, 100] (γ 0) = (0, ρ 3, γ 1) from l0.symm)).trans ?_
  refine (zLet_eq (show _ = γ 1 from rfl)).trans ?_
  refine (if_pos w_1).trans ?_
  refine (if_neg w_2).trans ?_
  rfl
set_option maxRecDepth 100000 in
theorem vn176_6 {S : Nat → zSpc} (hS100 : ∀ x g o v gz, S 100 x g o v gz → sn100 x g o v gz) (hS173 : ∀ x g o v gz, S 173 x g o v gz → sn173 x g o v gz) {a : List Int} {g : rHp} : ∀ (ρ : Nat → Int) (γ : Nat → rHp), zO 2 S a g q176_6 ρ γ → zGl (fun _ _ _ => True) (sn176 a g) q176_6 ρ γ := by
  intro ρ γ h
  obtain ⟨ha, hg, hr, hf, hm, hc, hl⟩ := h
  have ha : a = [ρ 0, ρ 1] := ha
  subst ha
  subst hg
  obtain ⟨r0, r1, -, r3, -⟩ := hr
  have r0 : (0 : Int) ≤ ρ 0 ∧ ρ 0 ≤ 99 := r0
  have r1 : ((-2147483648) : Int) ≤ ρ 1 ∧ ρ 1 ≤ (-1) := r1
  have r3 : (101 : Int) ≤ ρ 3 ∧ ρ 3 ≤ 50001 := r3
  obtain ⟨w_0, w_1, w_2, w_3⟩ : (¬ (ρ 0 < 0)) ∧ (¬ (0 ≤ -ρ 3 + 100)) ∧ (ρ 0 < 100) ∧ (ρ 1 < 0) := ⟨by omega, by omega, by omega, by omega⟩
  obtain ⟨m0, m1, -⟩ := hm
  have m0 : γ 0 0 0 5 = ρ 2 := m0
  have m1 : γ 0 8 (ρ 2) 1 = ρ 3 := m1
  obtain ⟨l0, -⟩ := hl
  have l0 : sn100 [ρ 3, 100] (γ 0) 0 100 (γ 1) := hS100 _ _ _ _ _ l0
  show sn176 [ρ 0, ρ 1] (γ 0) 1 0 (γ 1)
  refine Eq.symm ?_
  show fn176 [ρ 0, ρ 1] (γ 0) = _
  unfold fn176
  refine (zLet_eq (show _ = ρ 0 from rfl)).trans ?_
  refine (zLet_eq (show _ = ρ 1 from rfl)).trans ?_
  refine (if_neg w_0).trans ?_
  refine (zLet_eq m0).trans ?_
  refine (zLet_eq m1).trans ?_
  refine (zLet_eq (show fn100 [ρ 3, 100] (γ 0) = (0, 100, γ 1) from l0.symm)).trans ?_
  refine (zLet_eq (show _ = γ 1 from rfl)).trans ?_
  refine (if_neg w_1).trans ?_
  refine (if_pos w_2).trans ?_
  refine (if_pos w_3).trans ?_
  rfl
set_option maxRecDepth 100000 in
theorem vn176_7 {S : Nat → zSpc} (hS100 : ∀ x g o v gz, S 100 x g o v gz → sn100 x g o v gz) (hS173 : ∀ x g o v gz, S 173 x g o v gz → sn173 x g o v gz) {a : List Int} {g : rHp} : ∀ (ρ : Nat → Int) (γ : Nat → rHp), zO 2 S a g q176_7 ρ γ → zGl (fun _ _ _ => True) (sn176 a g) q176_7 ρ γ := by
  intro ρ γ h
  obtain ⟨ha, hg, hr, hf, hm, hc, hl⟩ := h
  have ha : a = [ρ 0, ρ 1] := ha
  subst ha
  subst hg
  obtain ⟨r0, r1, -, r3, -⟩ := hr
  have r0 : (0 : Int) ≤ ρ 0 ∧ ρ 0 ≤ 99 := r0
  have r1 : (8 : Int) ≤ ρ 1 ∧ ρ 1 ≤ 2147483647 := r1
  have r3 : (101 : Int) ≤ ρ 3 ∧ ρ 3 ≤ 50001 := r3
  obtain ⟨w_0, w_1, w_2, w_3, w_4⟩ : (¬ (ρ 0 < 0)) ∧ (¬ (0 ≤ -ρ 3 + 100)) ∧ (ρ 0 < 100) ∧ (¬ (ρ 1 < 0)) ∧ (ρ 1 ≥ 8) := ⟨by omega, by omega, by omega, by omega, by omega⟩
  obtain ⟨m0, m1, -⟩ := hm
  have m0 : γ 0 0 0 5 = ρ 2 := m0
  have m1 : γ 0 8 (ρ 2) 1 = ρ 3 := m1
  obtain ⟨l0, -⟩ := hl
  have l0 : sn100 [ρ 3, 100] (γ 0) 0 100 (γ 1) := hS100 _ _ _ _ _ l0
  show sn176 [ρ 0, ρ 1] (γ 0) 1 0 (γ 1)
  refine Eq.symm ?_
  show fn176 [ρ 0, ρ 1] (γ 0) = _
  unfold fn176
  refine (zLet_eq (show _ = ρ 0 from rfl)).trans ?_
  refine (zLet_eq (show _ = ρ 1 from rfl)).trans ?_
  refine (if_neg w_0).trans ?_
  refine (zLet_eq m0).trans ?_
  refine (zLet_eq m1).trans ?_
  refine (zLet_eq (show fn100 [ρ 3, 100] (γ 0) = (0, 100, γ 1) from l0.symm)).trans ?_
  refine (zLet_eq (show _ = γ 1 from rfl)).trans ?_
  refine (if_neg w_1).trans ?_
  refine (if_pos w_2).trans ?_
  refine (if_neg w_3).trans ?_
  refine (if_pos w_4).trans ?_
  rfl
set_option maxRecDepth 100000 in
theorem vn176_8 {S : Nat → zSpc} (hS100 : ∀ x g o v gz, S 100 x g o v gz → sn100 x g o v gz) (hS173 : ∀ x g o v gz, S 173 x g o v gz → sn173 x g o v gz) {a : List Int} {g : rHp} : ∀ (ρ : Nat → Int) (γ : Nat → rHp), zO 2 S a g q176_8 ρ γ → zGl (fun _ _ _ => True) (sn176 a g) q176_8 ρ γ := by
  intro ρ γ h
  obtain ⟨ha, hg, hr, hf, hm, hc, hl⟩ := h
  have ha : a = [ρ 0, ρ 1] := ha
  subst ha
  subst hg
  obtain ⟨r0, r1, -, r3, -, -, r6, -⟩ := hr
  have r0 : (0 : Int) ≤ ρ 0 ∧ ρ 0 ≤ 99 := r0
  have r1 : (0 : Int) ≤ ρ 1 ∧ ρ 1 ≤ 7 := r1
  have r3 : (101 : Int) ≤ ρ 3 ∧ ρ 3 ≤ 50001 := r3
  have r6 : (1 : Int) ≤ ρ 6 ∧ ρ 6 ≤ 1 := r6
  obtain ⟨w_0, w_1, w_2, w_3, w_4, w_5⟩ : (¬ (ρ 0 < 0)) ∧ (¬ (0 ≤ -ρ 3 + 100)) ∧ (ρ 0 < 100) ∧ (¬ (ρ 1 < 0)) ∧ (¬ (ρ 1 ≥ 8)) ∧ (ρ 6 ≠ 0) := ⟨by omega, by omega, by omega, by omega, by omega, by omega⟩
  obtain ⟨m0, m1, m2, m3, -⟩ := hm
  have m0 : γ 0 0 0 5 = ρ 2 := m0
  have m1 : γ 0 8 (ρ 2) 1 = ρ 3 := m1
  have m2 : γ 0 8 (ρ 2) 2 = ρ 4 := m2
  have m3 : γ 0 41 (ρ 2) (ρ 1 + 8 * ρ 0) = ρ 7 := m3
  obtain ⟨l0, l1, l2, l3, -⟩ := hl
  have l0 : sn100 [ρ 3, 100] (γ 0) 0 100 (γ 1) := hS100 _ _ _ _ _ l0
  have l1 : zOpP (.ishr) (γ 0) (γ 1) [ρ 4, ρ 1] (ρ 5) := l1
  have l2 : zOpP (.iand) (γ 0) (γ 1) [ρ 5, 1] (ρ 6) := l2
  have l3 : sn173 [ρ 7] (γ 1) 0 (ρ 8) (γ 2) := hS173 _ _ _ _ _ l3
  show sn176 [ρ 0, ρ 1] (γ 0) 0 (ρ 8) (γ 2)
  refine Eq.symm ?_
  show fn176 [ρ 0, ρ 1] (γ 0) = _
  unfold fn176
  refine (zLet_eq (show _ = ρ 0 from rfl)).trans ?_
  refine (zLet_eq (show _ = ρ 1 from rfl)).trans ?_
  refine (if_neg w_0).trans ?_
  refine (zLet_eq m0).trans ?_
  refine (zLet_eq m1).trans ?_
  refine (zLet_eq (show fn100 [ρ 3, 100] (γ 0) = (0, 100, γ 1) from l0.symm)).trans ?_
  refine (zLet_eq (show _ = γ 1 from rfl)).trans ?_
  refine (if_neg w_1).trans ?_
  refine (if_pos w_2).trans ?_
  refine (if_neg w_3).trans ?_
  refine (if_neg w_4).trans ?_
  refine (zLet_eq m2).trans ?_
  refine (zLet_eq (zF2_ok l1)).trans ?_
  refine (zLet_eq (zF2_ok l2)).trans ?_
  refine (if_pos w_5).trans ?_
  refine (zLet_eq m3).trans ?_
  refine (zLet_eq (show fn173 [ρ 7] (γ 1) = (0, ρ 8, γ 2) from l3.symm)).trans ?_
  refine (zLet_eq (show _ = γ 2 from rfl)).trans ?_
  refine (zLet_eq (show _ = ρ 8 from rfl)).trans ?_
  rfl
set_option maxRecDepth 100000 in
theorem vn176_9 {S : Nat → zSpc} (hS100 : ∀ x g o v gz, S 100 x g o v gz → sn100 x g o v gz) (hS173 : ∀ x g o v gz, S 173 x g o v gz → sn173 x g o v gz) {a : List Int} {g : rHp} : ∀ (ρ : Nat → Int) (γ : Nat → rHp), zO 2 S a g q176_9 ρ γ → zGl (fun _ _ _ => True) (sn176 a g) q176_9 ρ γ := by
  intro ρ γ h
  obtain ⟨ha, hg, hr, hf, hm, hc, hl⟩ := h
  have ha : a = [ρ 0, ρ 1] := ha
  subst ha
  subst hg
  obtain ⟨r0, r1, -, r3, -, -, r6, -⟩ := hr
  have r0 : (0 : Int) ≤ ρ 0 ∧ ρ 0 ≤ 99 := r0
  have r1 : (0 : Int) ≤ ρ 1 ∧ ρ 1 ≤ 7 := r1
  have r3 : (101 : Int) ≤ ρ 3 ∧ ρ 3 ≤ 50001 := r3
  have r6 : (0 : Int) ≤ ρ 6 ∧ ρ 6 ≤ 0 := r6
  obtain ⟨w_0, w_1, w_2, w_3, w_4, w_5⟩ : (¬ (ρ 0 < 0)) ∧ (¬ (0 ≤ -ρ 3 + 100)) ∧ (ρ 0 < 100) ∧ (¬ (ρ 1 < 0)) ∧ (¬ (ρ 1 ≥ 8)) ∧ (¬ (ρ 6 ≠ 0)) := ⟨by omega, by omega, by omega, by omega, by omega, by omega⟩
  obtain ⟨m0, m1, m2, -⟩ := hm
  have m0 : γ 0 0 0 5 = ρ 2 := m0
  have m1 : γ 0 8 (ρ 2) 1 = ρ 3 := m1
  have m2 : γ 0 8 (ρ 2) 2 = ρ 4 := m2
  obtain ⟨l0, l1, l2, -⟩ := hl
  have l0 : sn100 [ρ 3, 100] (γ 0) 0 100 (γ 1) := hS100 _ _ _ _ _ l0
  have l1 : zOpP (.ishr) (γ 0) (γ 1) [ρ 4, ρ 1] (ρ 5) := l1
  have l2 : zOpP (.iand) (γ 0) (γ 1) [ρ 5, 1] (ρ 6) := l2
  show sn176 [ρ 0, ρ 1] (γ 0) 1 0 (γ 1)
  refine Eq.symm ?_
  show fn176 [ρ 0, ρ 1] (γ 0) = _
  unfold fn176
  refine (zLet_eq (show _ = ρ 0 from rfl)).trans ?_
  refine (zLet_eq (show _ = ρ 1 from rfl)).trans ?_
  refine (if_neg w_0).trans ?_
  refine (zLet_eq m0).trans ?_
  refine (zLet_eq m1).trans ?_
  refine (zLet_eq (show fn100 [ρ 3, 100] (γ 0) = (0, 100, γ 1) from l0.symm)).trans ?_
  refine (zLet_eq (show _ = γ 1 from rfl)).trans ?_
  refine (if_neg w_1).trans ?_
  refine (if_pos w_2).trans ?_
  refine (if_neg w_3).trans ?_
  refine (if_neg w_4).trans ?_
  refine (zLet_eq m2).trans ?_
  refine (zLet_eq (zF2_ok l1)).trans ?_
  refine (zLet_eq (zF2_ok l2)).trans ?_
  refine (if_neg w_5).trans ?_
  rfl
set_option maxRecDepth 100000 in
theorem vn176_10 {S : Nat → zSpc} (hS100 : ∀ x g o v gz, S 100 x g o v gz → sn100 x g o v gz) (hS173 : ∀ x g o v gz, S 173 x g o v gz → sn173 x g o v gz) {a : List Int} {g : rHp} : ∀ (ρ : Nat → Int) (γ : Nat → rHp), zO 2 S a g q176_10 ρ γ → zGl (fun _ _ _ => True) (sn176 a g) q176_10 ρ γ := by
  intro ρ γ h
  obtain ⟨ha, hg, hr, hf, hm, hc, hl⟩ := h
  have ha : a = [ρ 0, ρ 1] := ha
  subst ha
  subst hg
  obtain ⟨r0, -, -, r3, -⟩ := hr
  have r0 : (100 : Int) ≤ ρ 0 ∧ ρ 0 ≤ 2147483647 := r0
  have r3 : (101 : Int) ≤ ρ 3 ∧ ρ 3 ≤ 50001 := r3
  obtain ⟨w_0, w_1, w_2⟩ : (¬ (ρ 0 < 0)) ∧ (¬ (0 ≤ -ρ 3 + 100)) ∧ (¬ (ρ 0 < 100)) := ⟨by omega, by omega, by omega⟩
  obtain ⟨m0, m1, -⟩ := hm
  have m0 : γ 0 0 0 5 = ρ 2 := m0
  have m1 : γ 0 8 (ρ 2) 1 = ρ 3 := m1
  obtain ⟨l0, -⟩ := hl
  have l0 : sn100 [ρ 3, 100] (γ 0) 0 100 (γ 1) := hS100 _ _ _ _ _ l0
  show sn176 [ρ 0, ρ 1] (γ 0) 1 0 (γ 1)
  refine Eq.symm ?_
  show fn176 [ρ 0, ρ 1] (γ 0) = _
  unfold fn176
  refine (zLet_eq (show _ = ρ 0 from rfl)).trans ?_
  refine (zLet_eq (show _ = ρ 1 from rfl)).trans ?_
  refine (if_neg w_0).trans ?_
  refine (zLet_eq m0).trans ?_
  refine (zLet_eq m1).trans ?_
  refine (zLet_eq (show fn100 [ρ 3, 100] (γ 0) = (0, 100, γ 1) from l0.symm)).trans ?_
  refine (zLet_eq (show _ = γ 1 from rfl)).trans ?_
  refine (if_neg w_1).trans ?_
  refine (if_neg w_2).trans ?_
  rfl
set_option maxRecDepth 100000 in
theorem yn176 {S : Nat → zSpc} (hS100 : ∀ x g o v gz, S 100 x g o v gz → sn100 x g o v gz) (hS173 : ∀ x g o v gz, S 173 x g o v gz → sn173 x g o v gz) : ∀ x g o v gz, zSem uW uT w176_.2.2.2.1 w176_.2.2.1.1.length S q176 (fun i => q176a.getD i []) (zNA a176_) x g o v gz → sn176 x g o v gz := by
  intro a g o v gz h
  exact zSem_all (l0 := q176) (las := q176a) (S := S) (J := (fun _ _ _ => True)) (P := sn176 a g) (fun _ => (show zAll _ [q176_0, q176_1, q176_2, q176_3, q176_4, q176_5, q176_6, q176_7, q176_8, q176_9, q176_10] from (zAll_c (vn176_0 hS100 hS173) (zAll_c (vn176_1 hS100 hS173) (zAll_c (vn176_2 hS100 hS173) (zAll_c (vn176_3 hS100 hS173) (zAll_c (vn176_4 hS100 hS173) (zAll_c (vn176_5 hS100 hS173) (zAll_c (vn176_6 hS100 hS173) (zAll_c (vn176_7 hS100 hS173) (zAll_c (vn176_8 hS100 hS173) (zAll_c (vn176_9 hS100 hS173) (zAll_c (vn176_10 hS100 hS173) zAll_n))))))))))))) (fun _ => (show zAllI _ 0 [] from trivial)) h
set_option maxRecDepth 100000 in
theorem vn177_0 {S : Nat → zSpc} (hS170 : ∀ x g o v gz, S 170 x g o v gz → sn170 x g o v gz) {a : List Int} {g : rHp} : ∀ (ρ : Nat → Int) (γ : Nat → rHp), zO 2 S a g q177_0 ρ γ → zGl (fun _ _ _ => True) (sn177 a g) q177_0 ρ γ := by
  intro ρ γ h
  obtain ⟨ha, hg, hr, hf, hm, hc, hl⟩ := h
  have ha : a = [ρ 0, ρ 1] := ha
  subst ha
  subst hg
  obtain ⟨r0, -⟩ := hr
  have r0 : ((-2147483648) : Int) ≤ ρ 0 ∧ ρ 0 ≤ (-1) := r0
  have w_0 : ρ 0 < 0 := by omega
  obtain ⟨m0, -⟩ := hm
  have m0 : γ 0 1 0 7 = ρ 1 := m0
  obtain ⟨l0, -⟩ := hl
  have l0 : sn170 [] (γ 0) 0 0 (γ 1) := hS170 _ _ _ _ _ l0
  show sn177 [ρ 0, ρ 1] (γ 0) 1 0 (γ 1)
  refine Eq.symm ?_
  show fn177 [ρ 0] (γ 0) = _
  unfold fn177
  refine (zLet_eq (show _ = ρ 0 from rfl)).trans ?_
  refine (zLet_eq m0).trans ?_
  refine (zLet_eq (show fn170 [] (γ 0) = (0, 0, γ 1) from l0.symm)).trans ?_
  refine (zLet_eq (show _ = γ 1 from rfl)).trans ?_
  refine (if_pos (show (0 : Nat) = 0 by decide)).trans ?_
  refine (if_pos w_0).trans ?_
  rfl
set_option maxRecDepth 100000 in
theorem vn177_1 {S : Nat → zSpc} (hS170 : ∀ x g o v gz, S 170 x g o v gz → sn170 x g o v gz) {a : List Int} {g : rHp} : ∀ (ρ : Nat → Int) (γ : Nat → rHp), zO 2 S a g q177_1 ρ γ → zGl (fun _ _ _ => True) (sn177 a g) q177_1 ρ γ := by
  intro ρ γ h
  obtain ⟨ha, hg, hr, hf, hm, hc, hl⟩ := h
  have ha : a = [ρ 0, ρ 1] := ha
  subst ha
  subst hg
  obtain ⟨r0, -⟩ := hr
  have r0 : (0 : Int) ≤ ρ 0 ∧ ρ 0 ≤ 2147483647 := r0
  obtain ⟨f0, -⟩ := hf
  have f0 : (0 : Int) ≤ ρ 1 + -ρ 0 + (-1) := f0
  obtain ⟨w_0, w_1⟩ : (¬ (ρ 0 < 0)) ∧ (ρ 0 < ρ 1) := ⟨by omega, by omega⟩
  obtain ⟨m0, m1, -⟩ := hm
  have m0 : γ 0 1 0 7 = ρ 1 := m0
  have m1 : γ 0 18 0 (ρ 0) = ρ 2 := m1
  obtain ⟨l0, -⟩ := hl
  have l0 : sn170 [] (γ 0) 0 0 (γ 1) := hS170 _ _ _ _ _ l0
  show sn177 [ρ 0, ρ 1] (γ 0) 0 (ρ 2) (γ 1)
  refine Eq.symm ?_
  show fn177 [ρ 0] (γ 0) = _
  unfold fn177
  refine (zLet_eq (show _ = ρ 0 from rfl)).trans ?_
  refine (zLet_eq m0).trans ?_
  refine (zLet_eq (show fn170 [] (γ 0) = (0, 0, γ 1) from l0.symm)).trans ?_
  refine (zLet_eq (show _ = γ 1 from rfl)).trans ?_
  refine (if_pos (show (0 : Nat) = 0 by decide)).trans ?_
  refine (if_neg w_0).trans ?_
  refine (if_pos w_1).trans ?_
  refine (zLet_eq m1).trans ?_
  rfl
set_option maxRecDepth 100000 in
theorem vn177_2 {S : Nat → zSpc} (hS170 : ∀ x g o v gz, S 170 x g o v gz → sn170 x g o v gz) {a : List Int} {g : rHp} : ∀ (ρ : Nat → Int) (γ : Nat → rHp), zO 2 S a g q177_2 ρ γ → zGl (fun _ _ _ => True) (sn177 a g) q177_2 ρ γ := by
  intro ρ γ h
  obtain ⟨ha, hg, hr, hf, hm, hc, hl⟩ := h
  have ha : a = [ρ 0, ρ 1] := ha
  subst ha
  subst hg
  obtain ⟨r0, -⟩ := hr
  have r0 : (0 : Int) ≤ ρ 0 ∧ ρ 0 ≤ 2147483647 := r0
  obtain ⟨f0, -⟩ := hf
  have f0 : (0 : Int) ≤ -ρ 1 + ρ 0 := f0
  obtain ⟨w_0, w_1⟩ : (¬ (ρ 0 < 0)) ∧ (¬ (ρ 0 < ρ 1)) := ⟨by omega, by omega⟩
  obtain ⟨m0, -⟩ := hm
  have m0 : γ 0 1 0 7 = ρ 1 := m0
  obtain ⟨l0, -⟩ := hl
  have l0 : sn170 [] (γ 0) 0 0 (γ 1) := hS170 _ _ _ _ _ l0
  show sn177 [ρ 0, ρ 1] (γ 0) 1 0 (γ 1)
  refine Eq.symm ?_
  show fn177 [ρ 0] (γ 0) = _
  unfold fn177
  refine (zLet_eq (show _ = ρ 0 from rfl)).trans ?_
  refine (zLet_eq m0).trans ?_
  refine (zLet_eq (show fn170 [] (γ 0) = (0, 0, γ 1) from l0.symm)).trans ?_
  refine (zLet_eq (show _ = γ 1 from rfl)).trans ?_
  refine (if_pos (show (0 : Nat) = 0 by decide)).trans ?_
  refine (if_neg w_0).trans ?_
  refine (if_neg w_1).trans ?_
  rfl
set_option maxRecDepth 100000 in
theorem vn177_3 {S : Nat → zSpc} (hS170 : ∀ x g o v gz, S 170 x g o v gz → sn170 x g o v gz) {a : List Int} {g : rHp} : ∀ (ρ : Nat → Int) (γ : Nat → rHp), zO 2 S a g q177_3 ρ γ → zGl (fun _ _ _ => True) (sn177 a g) q177_3 ρ γ := by
  intro ρ γ h
  obtain ⟨ha, hg, hr, hf, hm, hc, hl⟩ := h
  have ha : a = [ρ 0, ρ 1] := ha
  subst ha
  subst hg
  obtain ⟨m0, -⟩ := hm
  have m0 : γ 0 1 0 7 = ρ 1 := m0
  obtain ⟨l0, -⟩ := hl
  have l0 : sn170 [] (γ 0) 5 0 (γ 1) := hS170 _ _ _ _ _ l0
  show sn177 [ρ 0, ρ 1] (γ 0) 5 0 (γ 1)
  refine Eq.symm ?_
  show fn177 [ρ 0] (γ 0) = _
  unfold fn177
  refine (zLet_eq (show _ = ρ 0 from rfl)).trans ?_
  refine (zLet_eq m0).trans ?_
  refine (zLet_eq (show fn170 [] (γ 0) = (5, 0, γ 1) from l0.symm)).trans ?_
  refine (zLet_eq (show _ = γ 1 from rfl)).trans ?_
  refine (if_neg (show ¬ (5 : Nat) = 0 by decide)).trans ?_
  rfl
set_option maxRecDepth 100000 in
theorem yn177 {S : Nat → zSpc} (hS170 : ∀ x g o v gz, S 170 x g o v gz → sn170 x g o v gz) : ∀ x g o v gz, zSem uW uT w177_.2.2.2.1 w177_.2.2.1.1.length S q177 (fun i => q177a.getD i []) (zNA a177_) x g o v gz → sn177 x g o v gz := by
  intro a g o v gz h
  exact zSem_all (l0 := q177) (las := q177a) (S := S) (J := (fun _ _ _ => True)) (P := sn177 a g) (fun _ => (show zAll _ [q177_0, q177_1, q177_2, q177_3] from (zAll_c (vn177_0 hS170) (zAll_c (vn177_1 hS170) (zAll_c (vn177_2 hS170) (zAll_c (vn177_3 hS170) zAll_n)))))) (fun _ => (show zAllI _ 0 [] from trivial)) h
set_option maxRecDepth 100000 in
theorem vn178_0 {S : Nat → zSpc}  {a : List Int} {g : rHp} : ∀ (ρ : Nat → Int) (γ : Nat → rHp), zO 2 S a g q178_0 ρ γ → zGl (fun i vs g1 => jn178 a g i vs g1) (sn178 a g) q178_0 ρ γ := by
  intro ρ γ h
  obtain ⟨ha, hg, hr, hf, hm, hc, hl⟩ := h
  have ha : a = [ρ 0, ρ 1] := ha
  subst ha
  subst hg
  obtain ⟨r0, -⟩ := hr
  have r0 : ((-2147483648) : Int) ≤ ρ 0 ∧ ρ 0 ≤ (-1) := r0
  have w_0 : ρ 0 < 0 := by omega
  obtain ⟨m0, -⟩ := hm
  have m0 : γ 0 7 0 1 = ρ 1 := m0
  show sn178 [ρ 0, ρ 1] (γ 0) 1 0 (γ 0)
  have hD : dn178 [ρ 0] (γ 0) = .inr (1, 0, γ 0) := by
    unfold dn178
    refine (zLet_eq (show _ = ρ 0 from rfl)).trans ?_
    refine (zLet_eq m0).trans ?_
    refine (if_pos w_0).trans ?_
    rfl
  exact zGoo_end hD
set_option maxRecDepth 100000 in
theorem vn178_1 {S : Nat → zSpc}  {a : List Int} {g : rHp} : ∀ (ρ : Nat → Int) (γ : Nat → rHp), zO 2 S a g q178_1 ρ γ → zGl (fun i vs g1 => jn178 a g i vs g1) (sn178 a g) q178_1 ρ γ := by
  intro ρ γ h
  obtain ⟨ha, hg, hr, hf, hm, hc, hl⟩ := h
  have ha : a = [ρ 0, ρ 1] := ha
  subst ha
  subst hg
  obtain ⟨r0, -⟩ := hr
  have r0 : (0 : Int) ≤ ρ 0 ∧ ρ 0 ≤ 2147483647 := r0
  obtain ⟨f0, -⟩ := hf
  have f0 : (0 : Int) ≤ ρ 1 + -ρ 0 + (-1) := f0
  obtain ⟨w_0, w_1⟩ : (¬ (ρ 0 < 0)) ∧ (ρ 0 < ρ 1) := ⟨by omega, by omega⟩
  obtain ⟨m0, -⟩ := hm
  have m0 : γ 0 7 0 1 = ρ 1 := m0
  show jn178 [ρ 0, ρ 1] (γ 0) 0 [ρ 0, ρ 1, 0, 0] (γ 0)
  have hD : dn178 [ρ 0] (γ 0) = .inl (0, [ρ 0, 0, 0], γ 0) := by
    unfold dn178
    refine (zLet_eq (show _ = ρ 0 from rfl)).trans ?_
    refine (zLet_eq m0).trans ?_
    refine (if_neg w_0).trans ?_
    refine (if_pos w_1).trans ?_
    rfl
  exact zGoo_to hD
set_option maxRecDepth 100000 in
theorem vn178_2 {S : Nat → zSpc}  {a : List Int} {g : rHp} : ∀ (ρ : Nat → Int) (γ : Nat → rHp), zO 2 S a g q178_2 ρ γ → zGl (fun i vs g1 => jn178 a g i vs g1) (sn178 a g) q178_2 ρ γ := by
  intro ρ γ h
  obtain ⟨ha, hg, hr, hf, hm, hc, hl⟩ := h
  have ha : a = [ρ 0, ρ 1] := ha
  subst ha
  subst hg
  obtain ⟨r0, -⟩ := hr
  have r0 : (0 : Int) ≤ ρ 0 ∧ ρ 0 ≤ 2147483647 := r0
  obtain ⟨f0, -⟩ := hf
  have f0 : (0 : Int) ≤ -ρ 1 + ρ 0 := f0
  obtain ⟨w_0, w_1⟩ : (¬ (ρ 0 < 0)) ∧ (¬ (ρ 0 < ρ 1)) := ⟨by omega, by omega⟩
  obtain ⟨m0, -⟩ := hm
  have m0 : γ 0 7 0 1 = ρ 1 := m0
  show sn178 [ρ 0, ρ 1] (γ 0) 1 0 (γ 0)
  have hD : dn178 [ρ 0] (γ 0) = .inr (1, 0, γ 0) := by
    unfold dn178
    refine (zLet_eq (show _ = ρ 0 from rfl)).trans ?_
    refine (zLet_eq m0).trans ?_
    refine (if_neg w_0).trans ?_
    refine (if_neg w_1).trans ?_
    rfl
  exact zGoo_end hD
set_option maxRecDepth 100000 in
theorem vn178a0_0 {S : Nat → zSpc}  {a : List Int} {g : rHp} : ∀ (ρ : Nat → Int) (γ : Nat → rHp), jn178 a g 0 (zAg (zNA a178_ 0) ρ) (γ 1) → zO 2 S a g q178a0_0 ρ γ → zGl (fun i vs g1 => jn178 a g i vs g1) (sn178 a g) q178a0_0 ρ γ := by
  intro ρ γ hJ h
  obtain ⟨ha, hg, hr, hf, hm, hc, hl⟩ := h
  have ha : a = [ρ 0, ρ 1] := ha
  subst ha
  subst hg
  have hJ : jn178 [ρ 0, ρ 1] (γ 0) 0 [ρ 0, ρ 1, ρ 2, ρ 3] (γ 1) := hJ
  obtain ⟨-, -, r2, -⟩ := hr
  have r2 : (8 : Int) ≤ ρ 2 ∧ ρ 2 ≤ 8 := r2
  have w_0 : ρ 2 ≥ 8 := by omega
  obtain ⟨m0, -⟩ := hm
  have m0 : γ 0 7 0 1 = ρ 1 := m0
  show sn178 [ρ 0, ρ 1] (γ 0) 0 (ρ 3) (γ 1)
  have hD : en178 (γ 0) (0, [ρ 0, ρ 2, ρ 3], γ 1) = .inr (0, ρ 3, γ 1) := by
    unfold en178
    refine (if_pos (show (0 : Nat) = 0 by decide)).trans ?_
    refine (zLet_eq (show _ = γ 1 from rfl)).trans ?_
    refine (zLet_eq (show _ = ρ 0 from rfl)).trans ?_
    refine (zLet_eq (show _ = ρ 2 from rfl)).trans ?_
    refine (zLet_eq (show _ = ρ 3 from rfl)).trans ?_
    refine (zLet_eq m0).trans ?_
    refine (if_pos w_0).trans ?_
    rfl
  exact zGoo_aend hJ hD
set_option maxRecDepth 100000 in
theorem vn178a0_1 {S : Nat → zSpc}  {a : List Int} {g : rHp} : ∀ (ρ : Nat → Int) (γ : Nat → rHp), jn178 a g 0 (zAg (zNA a178_ 0) ρ) (γ 1) → zO 2 S a g q178a0_1 ρ γ → zGl (fun i vs g1 => jn178 a g i vs g1) (sn178 a g) q178a0_1 ρ γ := by
  intro ρ γ hJ h
  obtain ⟨ha, hg, hr, hf, hm, hc, hl⟩ := h
  have ha : a = [ρ 0, ρ 1] := ha
  subst ha
  subst hg
  have hJ : jn178 [ρ 0, ρ 1] (γ 0) 0 [ρ 0, ρ 1, ρ 2, ρ 3] (γ 1) := hJ
  obtain ⟨-, -, r2, -⟩ := hr
  have r2 : (0 : Int) ≤ ρ 2 ∧ ρ 2 ≤ 7 := r2
  obtain ⟨f0, -⟩ := hf
  have f0 : (0 : Int) ≤ ρ 2 + (-ρ 1 + ρ 0) := f0
  obtain ⟨w_0, w_1⟩ : (¬ (ρ 2 ≥ 8)) ∧ (ρ 2 + ρ 0 ≥ ρ 1) := ⟨by omega, by omega⟩
  obtain ⟨m0, -⟩ := hm
  have m0 : γ 0 7 0 1 = ρ 1 := m0
  obtain ⟨l0, l1, -⟩ := hl
  have l0 : zOpP (.lshl) (γ 0) (γ 1) [ρ 3, 8] (ρ 4) := l0
  have l1 : zOpP (.lor) (γ 0) (γ 1) [ρ 4, 0] (ρ 5) := l1
  show jn178 [ρ 0, ρ 1] (γ 0) 0 [ρ 0, ρ 1, ρ 2 + 1, ρ 5] (γ 1)
  have hD : en178 (γ 0) (0, [ρ 0, ρ 2, ρ 3], γ 1) = .inl (0, [ρ 0, ρ 2 + 1, ρ 5], γ 1) := by
    unfold en178
    refine (if_pos (show (0 : Nat) = 0 by decide)).trans ?_
    refine (zLet_eq (show _ = γ 1 from rfl)).trans ?_
    refine (zLet_eq (show _ = ρ 0 from rfl)).trans ?_
    refine (zLet_eq (show _ = ρ 2 from rfl)).trans ?_
    refine (zLet_eq (show _ = ρ 3 from rfl)).trans ?_
    refine (zLet_eq m0).trans ?_
    refine (if_neg w_0).trans ?_
    refine (zLet_eq (zF2_ok l0)).trans ?_
    refine (if_pos w_1).trans ?_
    refine (zLet_eq (zF2_ok l1)).trans ?_
    rfl
  exact zGoo_ato hJ hD
set_option maxRecDepth 100000 in
theorem vn178a0_2 {S : Nat → zSpc}  {a : List Int} {g : rHp} : ∀ (ρ : Nat → Int) (γ : Nat → rHp), jn178 a g 0 (zAg (zNA a178_ 0) ρ) (γ 1) → zO 2 S a g q178a0_2 ρ γ → zGl (fun i vs g1 => jn178 a g i vs g1) (sn178 a g) q178a0_2 ρ γ := by
  intro ρ γ hJ h
  obtain ⟨ha, hg, hr, hf, hm, hc, hl⟩ := h
  have ha : a = [ρ 0, ρ 1] := ha
  subst ha
  subst hg
  have hJ : jn178 [ρ 0, ρ 1] (γ 0) 0 [ρ 0, ρ 1, ρ 2, ρ 3] (γ 1) := hJ
  obtain ⟨-, -, r2, -⟩ := hr
  have r2 : (0 : Int) ≤ ρ 2 ∧ ρ 2 ≤ 7 := r2
  obtain ⟨f0, -⟩ := hf
  have f0 : (0 : Int) ≤ -ρ 2 + (ρ 1 + -ρ 0) + (-1) := f0
  obtain ⟨w_0, w_1⟩ : (¬ (ρ 2 ≥ 8)) ∧ (¬ (ρ 2 + ρ 0 ≥ ρ 1)) := ⟨by omega, by omega⟩
  obtain ⟨m0, m1, -⟩ := hm
  have m0 : γ 0 7 0 1 = ρ 1 := m0
  have m1 : γ 0 39 0 (ρ 2 + ρ 0) = ρ 5 := m1
  obtain ⟨l0, l1, -⟩ := hl
  have l0 : zOpP (.lshl) (γ 0) (γ 1) [ρ 3, 8] (ρ 4) := l0
  have l1 : zOpP (.lor) (γ 0) (γ 1) [ρ 4, ρ 5] (ρ 6) := l1
  show jn178 [ρ 0, ρ 1] (γ 0) 0 [ρ 0, ρ 1, ρ 2 + 1, ρ 6] (γ 1)
  have hD : en178 (γ 0) (0, [ρ 0, ρ 2, ρ 3], γ 1) = .inl (0, [ρ 0, ρ 2 + 1, ρ 6], γ 1) := by
    unfold en178
    refine (if_pos (show (0 : Nat) = 0 by decide)).trans ?_
    refine (zLet_eq (show _ = γ 1 from rfl)).trans ?_
    refine (zLet_eq (show _ = ρ 0 from rfl)).trans ?_
    refine (zLet_eq (show _ = ρ 2 from rfl)).trans ?_
    refine (zLet_eq (show _ = ρ 3 from rfl)).trans ?_
    refine (zLet_eq m0).trans ?_
    refine (if_neg w_0).trans ?_
    refine (zLet_eq (zF2_ok l0)).trans ?_
    refine (if_neg w_1).trans ?_
    refine (zLet_eq m1).trans ?_
    refine (zLet_eq (zF2_ok l1)).trans ?_
    rfl
  exact zGoo_ato hJ hD
set_option maxRecDepth 100000 in
theorem yn178 {S : Nat → zSpc}  : ∀ x g o v gz, zSem uW uT w178_.2.2.2.1 w178_.2.2.1.1.length S q178 (fun i => q178a.getD i []) (zNA a178_) x g o v gz → sn178 x g o v gz := by
  intro a g o v gz h
  exact zSem_all (l0 := q178) (las := q178a) (S := S) (J := (fun i vs g1 => jn178 a g i vs g1)) (P := sn178 a g) (fun _ => (show zAll _ [q178_0, q178_1, q178_2] from (zAll_c (vn178_0 ) (zAll_c (vn178_1 ) (zAll_c (vn178_2 ) zAll_n))))) (fun _ => (show zAllI _ 0 [q178a0] from ⟨(show zAll _ [q178a0_0, q178a0_1, q178a0_2] from (zAll_c (vn178a0_0 ) (zAll_c (vn178a0_1 ) (zAll_c (vn178a0_2 ) zAll_n)))), trivial⟩)) h
