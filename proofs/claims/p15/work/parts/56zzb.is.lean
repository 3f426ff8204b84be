/-! ===== the runs are the functions ===== -/
set_option maxRecDepth 100000 in
theorem vn88_0 {S : Nat → zSpc} (hS87 : zIm S 87 sn87) {a : List Int} {g : rHp} : ∀ (ρ : Nat → Int) (γ : Nat → rHp), zO 2 S a g q88_0 ρ γ → zGl (fun _ _ _ => True) (sn88 a g) q88_0 ρ γ := by
  intro ρ γ h
  obtain ⟨ha, hg, hr, hf, hm, hc, hl⟩ := h
  have ha : a = [ρ 0, ρ 1] := ha
  subst ha
  subst hg
  have r0 : (0 : Int) ≤ ρ 0 ∧ ρ 0 ≤ 549755813887 := zRnA hr 0
  have r2 : (0 : Int) ≤ ρ 2 ∧ ρ 2 ≤ 9 := zRnA hr 2
  have f0 : (0 : Int) ≤ ρ 3 + -ρ 0 := zAllA hf 0
  have f1 : (0 : Int) ≤ -ρ 3 + ρ 0 := zAllA hf 1
  have f2 : (0 : Int) ≤ ρ 2 + -ρ 0 := zAllA hf 2
  have f3 : (0 : Int) ≤ -ρ 2 + ρ 0 := zAllA hf 3
  obtain ⟨w_0, w_1, w_2, w_3⟩ : (ρ 0 ≥ 0) ∧ ((ρ 0) / 1 = ρ 2) ∧ (ρ 2 ≤ 9) ∧ ((ρ 0) / 1 = ρ 3) := ⟨by omega, by omega, by omega, by omega⟩
  have l0 : zOpP (.lrem) (γ 0) (γ 1) [ρ 3, 10] (ρ 4) := zAllA hl 0
  have l1 : zOpP (.ladd) (γ 0) (γ 1) [48, ρ 4] (ρ 5) := zAllA hl 1
  have l2 : zOpP (.l2i) (γ 0) (γ 1) [ρ 5] (ρ 6) := zAllA hl 2
  have l3 : sn87 [ρ 6, ρ 1] (γ 0) 0 0 (γ 1) := hS87 _ _ _ _ _ (zAllA hl 3)
  show sn88 [ρ 0, ρ 1] (γ 0) 0 0 (γ 1)
  refine Eq.symm ?_
  show fn88 [ρ 0] (γ 0) = _
  unfold fn88
  refine zLV (ρ 0) rfl (zIP w_0 (zLE w_1 (zIP w_2 (zLE w_3 (zLE (zF2_ok l0) (zLE (zF2_ok l1) (zLE (zF1_ok l2) ?_)))))))
  refine zLE (show fn87 [ρ 6] (γ 0) = (0, 0, γ 1) from l3.symm) (zLV (γ 1) rfl ?_)
  rfl
set_option maxRecDepth 100000 in
theorem vn88_1 {S : Nat → zSpc} (hS87 : zIm S 87 sn87) {a : List Int} {g : rHp} : ∀ (ρ : Nat → Int) (γ : Nat → rHp), zO 2 S a g q88_1 ρ γ → zGl (fun _ _ _ => True) (sn88 a g) q88_1 ρ γ := by
  intro ρ γ h
  obtain ⟨ha, hg, hr, hf, hm, hc, hl⟩ := h
  have ha : a = [ρ 0, ρ 1] := ha
  subst ha
  subst hg
  have r0 : (0 : Int) ≤ ρ 0 ∧ ρ 0 ≤ 549755813887 := zRnA hr 0
  have r2 : (10 : Int) ≤ ρ 2 ∧ ρ 2 ≤ 549755813887 := zRnA hr 2
  have r3 : (0 : Int) ≤ ρ 3 ∧ ρ 3 ≤ 9 := zRnA hr 3
  have f0 : (0 : Int) ≤ ρ 8 + -ρ 0 := zAllA hf 0
  have f1 : (0 : Int) ≤ -ρ 8 + ρ 0 := zAllA hf 1
  have f3 : (0 : Int) ≤ 10 * ρ 4 + -ρ 0 + 9 := zAllA hf 3
  have f4 : (0 : Int) ≤ (-10) * ρ 4 + ρ 0 := zAllA hf 4
  have f6 : (0 : Int) ≤ 10 * ρ 3 + -ρ 0 + 9 := zAllA hf 6
  have f7 : (0 : Int) ≤ (-10) * ρ 3 + ρ 0 := zAllA hf 7
  have f8 : (0 : Int) ≤ ρ 2 + -ρ 0 := zAllA hf 8
  have f9 : (0 : Int) ≤ -ρ 2 + ρ 0 := zAllA hf 9
  obtain ⟨w_0, w_1, w_2, w_3, w_4, w_5, w_6⟩ : (ρ 0 ≥ 0) ∧ ((ρ 0) / 1 = ρ 2) ∧ (¬ (ρ 2 ≤ 9)) ∧ ((ρ 0) / 10 = ρ 3) ∧ (ρ 3 ≤ 9) ∧ ((ρ 0) / 10 = ρ 4) ∧ ((ρ 0) / 1 = ρ 8) := ⟨by omega, by omega, by omega, by omega, by omega, by omega, by omega⟩
  have l0 : zOpP (.lrem) (γ 0) (γ 1) [ρ 4, 10] (ρ 5) := zAllA hl 0
  have l1 : zOpP (.ladd) (γ 0) (γ 1) [48, ρ 5] (ρ 6) := zAllA hl 1
  have l2 : zOpP (.l2i) (γ 0) (γ 1) [ρ 6] (ρ 7) := zAllA hl 2
  have l3 : sn87 [ρ 7, ρ 1] (γ 0) 0 0 (γ 1) := hS87 _ _ _ _ _ (zAllA hl 3)
  have l4 : zOpP (.lrem) (γ 0) (γ 1) [ρ 8, 10] (ρ 9) := zAllA hl 4
  have l5 : zOpP (.ladd) (γ 0) (γ 1) [48, ρ 9] (ρ 10) := zAllA hl 5
  have l6 : zOpP (.l2i) (γ 0) (γ 1) [ρ 10] (ρ 11) := zAllA hl 6
  have l7 : sn87 [ρ 11, ρ 1 + 1] (γ 1) 0 0 (γ 2) := hS87 _ _ _ _ _ (zAllA hl 7)
  show sn88 [ρ 0, ρ 1] (γ 0) 0 0 (γ 2)
  refine Eq.symm ?_
  show fn88 [ρ 0] (γ 0) = _
  unfold fn88
  refine zLV (ρ 0) rfl (zIP w_0 (zLE w_1 (zIN w_2 (zLE w_3 (zIP w_4 (zLE w_5 (zLE (zF2_ok l0) ?_)))))))
  refine zLE (zF2_ok l1) (zLE (zF1_ok l2) (zLE (show fn87 [ρ 7] (γ 0) = (0, 0, γ 1) from l3.symm) (zLV (γ 1) rfl (zLE w_6 (zLE (zF2_ok l4) (zLE (zF2_ok l5) (zLE (zF1_ok l6) ?_)))))))
  refine zLE (show fn87 [ρ 11] (γ 1) = (0, 0, γ 2) from l7.symm) (zLV (γ 2) rfl ?_)
  rfl
set_option maxRecDepth 100000 in
theorem vn88_2 {S : Nat → zSpc} (hS87 : zIm S 87 sn87) {a : List Int} {g : rHp} : ∀ (ρ : Nat → Int) (γ : Nat → rHp), zO 2 S a g q88_2 ρ γ → zGl (fun _ _ _ => True) (sn88 a g) q88_2 ρ γ := by
  intro ρ γ h
  obtain ⟨ha, hg, hr, hf, hm, hc, hl⟩ := h
  have ha : a = [ρ 0, ρ 1] := ha
  subst ha
  subst hg
  have r0 : (0 : Int) ≤ ρ 0 ∧ ρ 0 ≤ 549755813887 := zRnA hr 0
  have r2 : (10 : Int) ≤ ρ 2 ∧ ρ 2 ≤ 549755813887 := zRnA hr 2
  have r3 : (10 : Int) ≤ ρ 3 ∧ ρ 3 ≤ 54975581388 := zRnA hr 3
  have r4 : (0 : Int) ≤ ρ 4 ∧ ρ 4 ≤ 9 := zRnA hr 4
  have f0 : (0 : Int) ≤ ρ 13 + -ρ 0 := zAllA hf 0
  have f1 : (0 : Int) ≤ -ρ 13 + ρ 0 := zAllA hf 1
  have f3 : (0 : Int) ≤ 10 * ρ 9 + -ρ 0 + 9 := zAllA hf 3
  have f4 : (0 : Int) ≤ (-10) * ρ 9 + ρ 0 := zAllA hf 4
  have f6 : (0 : Int) ≤ 100 * ρ 5 + -ρ 0 + 99 := zAllA hf 6
  have f7 : (0 : Int) ≤ (-100) * ρ 5 + ρ 0 := zAllA hf 7
  have f9 : (0 : Int) ≤ 100 * ρ 4 + -ρ 0 + 99 := zAllA hf 9
  have f10 : (0 : Int) ≤ (-100) * ρ 4 + ρ 0 := zAllA hf 10
  have f12 : (0 : Int) ≤ 10 * ρ 3 + -ρ 0 + 9 := zAllA hf 12
  have f13 : (0 : Int) ≤ (-10) * ρ 3 + ρ 0 := zAllA hf 13
  have f14 : (0 : Int) ≤ ρ 2 + -ρ 0 := zAllA hf 14
  have f15 : (0 : Int) ≤ -ρ 2 + ρ 0 := zAllA hf 15
  obtain ⟨w_0, w_1, w_2, w_3, w_4, w_5, w_6, w_7, w_8, w_9⟩ : (ρ 0 ≥ 0) ∧ ((ρ 0) / 1 = ρ 2) ∧ (¬ (ρ 2 ≤ 9)) ∧ ((ρ 0) / 10 = ρ 3) ∧ (¬ (ρ 3 ≤ 9)) ∧ ((ρ 0) / 100 = ρ 4) ∧ (ρ 4 ≤ 9) ∧ ((ρ 0) / 100 = ρ 5) ∧ ((ρ 0) / 10 = ρ 9) ∧ ((ρ 0) / 1 = ρ 13) := ⟨by clear r2 r3 r4 f0 f1 f3 f4 f6 f7 f9 f10 f12 f13 f14 f15; omega, by clear r0 r2 r3 r4 f0 f1 f3 f4 f6 f7 f9 f10 f12 f13; omega, by clear r0 r3 r4 f0 f1 f3 f4 f6 f7 f9 f10 f12 f13 f14 f15; omega, by clear r0 r2 r3 r4 f0 f1 f3 f4 f6 f7 f9 f10 f14 f15; omega, by clear r0 r2 r4 f0 f1 f3 f4 f6 f7 f9 f10 f12 f13 f14 f15; omega, by clear r0 r2 r3 r4 f0 f1 f3 f4 f6 f7 f12 f13 f14 f15; omega, by clear r0 r2 r3 f0 f1 f3 f4 f6 f7 f9 f10 f12 f13 f14 f15; omega, by clear r0 r2 r3 r4 f0 f1 f3 f4 f9 f10 f12 f13 f14 f15; omega, by clear r0 r2 r3 r4 f0 f1 f6 f7 f9 f10 f12 f13 f14 f15; omega, by clear r0 r2 r3 r4 f3 f4 f6 f7 f9 f10 f12 f13 f14 f15; omega⟩
  have l0 : zOpP (.lrem) (γ 0) (γ 1) [ρ 5, 10] (ρ 6) := zAllA hl 0
  have l1 : zOpP (.ladd) (γ 0) (γ 1) [48, ρ 6] (ρ 7) := zAllA hl 1
  have l2 : zOpP (.l2i) (γ 0) (γ 1) [ρ 7] (ρ 8) := zAllA hl 2
  have l3 : sn87 [ρ 8, ρ 1] (γ 0) 0 0 (γ 1) := hS87 _ _ _ _ _ (zAllA hl 3)
  have l4 : zOpP (.lrem) (γ 0) (γ 1) [ρ 9, 10] (ρ 10) := zAllA hl 4
  have l5 : zOpP (.ladd) (γ 0) (γ 1) [48, ρ 10] (ρ 11) := zAllA hl 5
  have l6 : zOpP (.l2i) (γ 0) (γ 1) [ρ 11] (ρ 12) := zAllA hl 6
  have l7 : sn87 [ρ 12, ρ 1 + 1] (γ 1) 0 0 (γ 2) := hS87 _ _ _ _ _ (zAllA hl 7)
  have l8 : zOpP (.lrem) (γ 0) (γ 1) [ρ 13, 10] (ρ 14) := zAllA hl 8
  have l9 : zOpP (.ladd) (γ 0) (γ 1) [48, ρ 14] (ρ 15) := zAllA hl 9
  have l10 : zOpP (.l2i) (γ 0) (γ 1) [ρ 15] (ρ 16) := zAllA hl 10
  have l11 : sn87 [ρ 16, ρ 1 + 2] (γ 2) 0 0 (γ 3) := hS87 _ _ _ _ _ (zAllA hl 11)
  show sn88 [ρ 0, ρ 1] (γ 0) 0 0 (γ 3)
  refine Eq.symm ?_
  show fn88 [ρ 0] (γ 0) = _
  unfold fn88
  refine zLV (ρ 0) rfl (zIP w_0 (zLE w_1 (zIN w_2 (zLE w_3 (zIN w_4 (zLE w_5 (zIP w_6 ?_)))))))
  refine zLE w_7 (zLE (zF2_ok l0) (zLE (zF2_ok l1) (zLE (zF1_ok l2) (zLE (show fn87 [ρ 8] (γ 0) = (0, 0, γ 1) from l3.symm) (zLV (γ 1) rfl (zLE w_8 (zLE (zF2_ok l4) ?_)))))))
  refine zLE (zF2_ok l5) (zLE (zF1_ok l6) (zLE (show fn87 [ρ 12] (γ 1) = (0, 0, γ 2) from l7.symm) (zLV (γ 2) rfl (zLE w_9 (zLE (zF2_ok l8) (zLE (zF2_ok l9) (zLE (zF1_ok l10) ?_)))))))
  refine zLE (show fn87 [ρ 16] (γ 2) = (0, 0, γ 3) from l11.symm) (zLV (γ 3) rfl ?_)
  rfl
set_option maxRecDepth 100000 in
theorem vn88_3 {S : Nat → zSpc} (hS87 : zIm S 87 sn87) {a : List Int} {g : rHp} : ∀ (ρ : Nat → Int) (γ : Nat → rHp), zO 2 S a g q88_3 ρ γ → zGl (fun _ _ _ => True) (sn88 a g) q88_3 ρ γ := by
  intro ρ γ h
  obtain ⟨ha, hg, hr, hf, hm, hc, hl⟩ := h
  have ha : a = [ρ 0, ρ 1] := ha
  subst ha
  subst hg
  have r0 : (0 : Int) ≤ ρ 0 ∧ ρ 0 ≤ 549755813887 := zRnA hr 0
  have r2 : (10 : Int) ≤ ρ 2 ∧ ρ 2 ≤ 549755813887 := zRnA hr 2
  have r3 : (10 : Int) ≤ ρ 3 ∧ ρ 3 ≤ 54975581388 := zRnA hr 3
  have r4 : (10 : Int) ≤ ρ 4 ∧ ρ 4 ≤ 5497558138 := zRnA hr 4
  have r5 : (0 : Int) ≤ ρ 5 ∧ ρ 5 ≤ 9 := zRnA hr 5
  have f0 : (0 : Int) ≤ ρ 18 + -ρ 0 := zAllA hf 0
  have f1 : (0 : Int) ≤ -ρ 18 + ρ 0 := zAllA hf 1
  have f3 : (0 : Int) ≤ 10 * ρ 14 + -ρ 0 + 9 := zAllA hf 3
  have f4 : (0 : Int) ≤ (-10) * ρ 14 + ρ 0 := zAllA hf 4
  have f6 : (0 : Int) ≤ 100 * ρ 10 + -ρ 0 + 99 := zAllA hf 6
  have f7 : (0 : Int) ≤ (-100) * ρ 10 + ρ 0 := zAllA hf 7
  have f9 : (0 : Int) ≤ 1000 * ρ 6 + -ρ 0 + 999 := zAllA hf 9
  have f10 : (0 : Int) ≤ (-1000) * ρ 6 + ρ 0 := zAllA hf 10
  have f12 : (0 : Int) ≤ 1000 * ρ 5 + -ρ 0 + 999 := zAllA hf 12
  have f13 : (0 : Int) ≤ (-1000) * ρ 5 + ρ 0 := zAllA hf 13
  have f15 : (0 : Int) ≤ 100 * ρ 4 + -ρ 0 + 99 := zAllA hf 15
  have f16 : (0 : Int) ≤ (-100) * ρ 4 + ρ 0 := zAllA hf 16
  have f18 : (0 : Int) ≤ 10 * ρ 3 + -ρ 0 + 9 := zAllA hf 18
  have f19 : (0 : Int) ≤ (-10) * ρ 3 + ρ 0 := zAllA hf 19
  have f20 : (0 : Int) ≤ ρ 2 + -ρ 0 := zAllA hf 20
  have f21 : (0 : Int) ≤ -ρ 2 + ρ 0 := zAllA hf 21
  obtain ⟨w_0, w_1, w_2, w_3, w_4, w_5, w_6, w_7, w_8, w_9, w_10, w_11, w_12⟩ : (ρ 0 ≥ 0) ∧ ((ρ 0) / 1 = ρ 2) ∧ (¬ (ρ 2 ≤ 9)) ∧ ((ρ 0) / 10 = ρ 3) ∧ (¬ (ρ 3 ≤ 9)) ∧ ((ρ 0) / 100 = ρ 4) ∧ (¬ (ρ 4 ≤ 9)) ∧ ((ρ 0) / 1000 = ρ 5) ∧ (ρ 5 ≤ 9) ∧ ((ρ 0) / 1000 = ρ 6) ∧ ((ρ 0) / 100 = ρ 10) ∧ ((ρ 0) / 10 = ρ 14) ∧ ((ρ 0) / 1 = ρ 18) := ⟨by clear r2 r3 r4 r5 f0 f1 f3 f4 f6 f7 f9 f10 f12 f13 f15 f16 f18 f19 f20 f21; omega, by clear r0 r2 r3 r4 r5 f0 f1 f3 f4 f6 f7 f9 f10 f12 f13 f15 f16 f18 f19; omega, by clear r0 r3 r4 r5 f0 f1 f3 f4 f6 f7 f9 f10 f12 f13 f15 f16 f18 f19 f20 f21; omega, by clear r0 r2 r3 r4 r5 f0 f1 f3 f4 f6 f7 f9 f10 f12 f13 f15 f16 f20 f21; omega, by clear r0 r2 r4 r5 f0 f1 f3 f4 f6 f7 f9 f10 f12 f13 f15 f16 f18 f19 f20 f21; omega, by clear r0 r2 r3 r4 r5 f0 f1 f3 f4 f6 f7 f9 f10 f12 f13 f18 f19 f20 f21; omega, by clear r0 r2 r3 r5 f0 f1 f3 f4 f6 f7 f9 f10 f12 f13 f15 f16 f18 f19 f20 f21; omega, by clear r0 r2 r3 r4 r5 f0 f1 f3 f4 f6 f7 f9 f10 f15 f16 f18 f19 f20 f21; omega, by clear r0 r2 r3 r4 f0 f1 f3 f4 f6 f7 f9 f10 f12 f13 f15 f16 f18 f19 f20 f21; omega, by clear r0 r2 r3 r4 r5 f0 f1 f3 f4 f6 f7 f12 f13 f15 f16 f18 f19 f20 f21; omega, by clear r0 r2 r3 r4 r5 f0 f1 f3 f4 f9 f10 f12 f13 f15 f16 f18 f19 f20 f21; omega, by clear r0 r2 r3 r4 r5 f0 f1 f6 f7 f9 f10 f12 f13 f15 f16 f18 f19 f20 f21; omega, by clear r0 r2 r3 r4 r5 f3 f4 f6 f7 f9 f10 f12 f13 f15 f16 f18 f19 f20 f21; omega⟩
  have l0 : zOpP (.lrem) (γ 0) (γ 1) [ρ 6, 10] (ρ 7) := zAllA hl 0
  have l1 : zOpP (.ladd) (γ 0) (γ 1) [48, ρ 7] (ρ 8) := zAllA hl 1
  have l2 : zOpP (.l2i) (γ 0) (γ 1) [ρ 8] (ρ 9) := zAllA hl 2
  have l3 : sn87 [ρ 9, ρ 1] (γ 0) 0 0 (γ 1) := hS87 _ _ _ _ _ (zAllA hl 3)
  have l4 : zOpP (.lrem) (γ 0) (γ 1) [ρ 10, 10] (ρ 11) := zAllA hl 4
  have l5 : zOpP (.ladd) (γ 0) (γ 1) [48, ρ 11] (ρ 12) := zAllA hl 5
  have l6 : zOpP (.l2i) (γ 0) (γ 1) [ρ 12] (ρ 13) := zAllA hl 6
  have l7 : sn87 [ρ 13, ρ 1 + 1] (γ 1) 0 0 (γ 2) := hS87 _ _ _ _ _ (zAllA hl 7)
  have l8 : zOpP (.lrem) (γ 0) (γ 1) [ρ 14, 10] (ρ 15) := zAllA hl 8
  have l9 : zOpP (.ladd) (γ 0) (γ 1) [48, ρ 15] (ρ 16) := zAllA hl 9
  have l10 : zOpP (.l2i) (γ 0) (γ 1) [ρ 16] (ρ 17) := zAllA hl 10
  have l11 : sn87 [ρ 17, ρ 1 + 2] (γ 2) 0 0 (γ 3) := hS87 _ _ _ _ _ (zAllA hl 11)
  have l12 : zOpP (.lrem) (γ 0) (γ 1) [ρ 18, 10] (ρ 19) := zAllA hl 12
  have l13 : zOpP (.ladd) (γ 0) (γ 1) [48, ρ 19] (ρ 20) := zAllA hl 13
  have l14 : zOpP (.l2i) (γ 0) (γ 1) [ρ 20] (ρ 21) := zAllA hl 14
  have l15 : sn87 [ρ 21, ρ 1 + 3] (γ 3) 0 0 (γ 4) := hS87 _ _ _ _ _ (zAllA hl 15)
  show sn88 [ρ 0, ρ 1] (γ 0) 0 0 (γ 4)
  refine Eq.symm ?_
  show fn88 [ρ 0] (γ 0) = _
  unfold fn88
  refine zLV (ρ 0) rfl (zIP w_0 (zLE w_1 (zIN w_2 (zLE w_3 (zIN w_4 (zLE w_5 (zIN w_6 ?_)))))))
  refine zLE w_7 (zIP w_8 (zLE w_9 (zLE (zF2_ok l0) (zLE (zF2_ok l1) (zLE (zF1_ok l2) (zLE (show fn87 [ρ 9] (γ 0) = (0, 0, γ 1) from l3.symm) (zLV (γ 1) rfl ?_)))))))
  refine zLE w_10 (zLE (zF2_ok l4) (zLE (zF2_ok l5) (zLE (zF1_ok l6) (zLE (show fn87 [ρ 13] (γ 1) = (0, 0, γ 2) from l7.symm) (zLV (γ 2) rfl (zLE w_11 (zLE (zF2_ok l8) ?_)))))))
  refine zLE (zF2_ok l9) (zLE (zF1_ok l10) (zLE (show fn87 [ρ 17] (γ 2) = (0, 0, γ 3) from l11.symm) (zLV (γ 3) rfl (zLE w_12 (zLE (zF2_ok l12) (zLE (zF2_ok l13) (zLE (zF1_ok l14) ?_)))))))
  refine zLE (show fn87 [ρ 21] (γ 3) = (0, 0, γ 4) from l15.symm) (zLV (γ 4) rfl ?_)
  rfl
set_option maxRecDepth 100000 in
theorem vn88_4 {S : Nat → zSpc} (hS87 : zIm S 87 sn87) {a : List Int} {g : rHp} : ∀ (ρ : Nat → Int) (γ : Nat → rHp), zO 2 S a g q88_4 ρ γ → zGl (fun _ _ _ => True) (sn88 a g) q88_4 ρ γ := by
  intro ρ γ h
  obtain ⟨ha, hg, hr, hf, hm, hc, hl⟩ := h
  have ha : a = [ρ 0, ρ 1] := ha
  subst ha
  subst hg
  have r0 : (0 : Int) ≤ ρ 0 ∧ ρ 0 ≤ 549755813887 := zRnA hr 0
  have r2 : (10 : Int) ≤ ρ 2 ∧ ρ 2 ≤ 549755813887 := zRnA hr 2
  have r3 : (10 : Int) ≤ ρ 3 ∧ ρ 3 ≤ 54975581388 := zRnA hr 3
  have r4 : (10 : Int) ≤ ρ 4 ∧ ρ 4 ≤ 5497558138 := zRnA hr 4
  have r5 : (10 : Int) ≤ ρ 5 ∧ ρ 5 ≤ 549755813 := zRnA hr 5
  have r6 : (0 : Int) ≤ ρ 6 ∧ ρ 6 ≤ 9 := zRnA hr 6
  have f0 : (0 : Int) ≤ ρ 23 + -ρ 0 := zAllA hf 0
  have f1 : (0 : Int) ≤ -ρ 23 + ρ 0 := zAllA hf 1
  have f3 : (0 : Int) ≤ 10 * ρ 19 + -ρ 0 + 9 := zAllA hf 3
  have f4 : (0 : Int) ≤ (-10) * ρ 19 + ρ 0 := zAllA hf 4
  have f6 : (0 : Int) ≤ 100 * ρ 15 + -ρ 0 + 99 := zAllA hf 6
  have f7 : (0 : Int) ≤ (-100) * ρ 15 + ρ 0 := zAllA hf 7
  have f9 : (0 : Int) ≤ 1000 * ρ 11 + -ρ 0 + 999 := zAllA hf 9
  have f10 : (0 : Int) ≤ (-1000) * ρ 11 + ρ 0 := zAllA hf 10
  have f12 : (0 : Int) ≤ 10000 * ρ 7 + -ρ 0 + 9999 := zAllA hf 12
  have f13 : (0 : Int) ≤ (-10000) * ρ 7 + ρ 0 := zAllA hf 13
  have f15 : (0 : Int) ≤ 10000 * ρ 6 + -ρ 0 + 9999 := zAllA hf 15
  have f16 : (0 : Int) ≤ (-10000) * ρ 6 + ρ 0 := zAllA hf 16
  have f18 : (0 : Int) ≤ 1000 * ρ 5 + -ρ 0 + 999 := zAllA hf 18
  have f19 : (0 : Int) ≤ (-1000) * ρ 5 + ρ 0 := zAllA hf 19
  have f21 : (0 : Int) ≤ 100 * ρ 4 + -ρ 0 + 99 := zAllA hf 21
  have f22 : (0 : Int) ≤ (-100) * ρ 4 + ρ 0 := zAllA hf 22
  have f24 : (0 : Int) ≤ 10 * ρ 3 + -ρ 0 + 9 := zAllA hf 24
  have f25 : (0 : Int) ≤ (-10) * ρ 3 + ρ 0 := zAllA hf 25
  have f26 : (0 : Int) ≤ ρ 2 + -ρ 0 := zAllA hf 26
  have f27 : (0 : Int) ≤ -ρ 2 + ρ 0 := zAllA hf 27
  obtain ⟨w_0, w_1, w_2, w_3, w_4, w_5, w_6, w_7, w_8, w_9, w_10, w_11, w_12, w_13, w_14, w_15⟩ : (ρ 0 ≥ 0) ∧ ((ρ 0) / 1 = ρ 2) ∧ (¬ (ρ 2 ≤ 9)) ∧ ((ρ 0) / 10 = ρ 3) ∧ (¬ (ρ 3 ≤ 9)) ∧ ((ρ 0) / 100 = ρ 4) ∧ (¬ (ρ 4 ≤ 9)) ∧ ((ρ 0) / 1000 = ρ 5) ∧ (¬ (ρ 5 ≤ 9)) ∧ ((ρ 0) / 10000 = ρ 6) ∧ (ρ 6 ≤ 9) ∧ ((ρ 0) / 10000 = ρ 7) ∧ ((ρ 0) / 1000 = ρ 11) ∧ ((ρ 0) / 100 = ρ 15) ∧ ((ρ 0) / 10 = ρ 19) ∧ ((ρ 0) / 1 = ρ 23) := ⟨by clear r2 r3 r4 r5 r6 f0 f1 f3 f4 f6 f7 f9 f10 f12 f13 f15 f16 f18 f19 f21 f22 f24 f25 f26 f27; omega, by clear r0 r2 r3 r4 r5 r6 f0 f1 f3 f4 f6 f7 f9 f10 f12 f13 f15 f16 f18 f19 f21 f22 f24 f25; omega, by clear r0 r3 r4 r5 r6 f0 f1 f3 f4 f6 f7 f9 f10 f12 f13 f15 f16 f18 f19 f21 f22 f24 f25 f26 f27; omega, by clear r0 r2 r3 r4 r5 r6 f0 f1 f3 f4 f6 f7 f9 f10 f12 f13 f15 f16 f18 f19 f21 f22 f26 f27; omega, by clear r0 r2 r4 r5 r6 f0 f1 f3 f4 f6 f7 f9 f10 f12 f13 f15 f16 f18 f19 f21 f22 f24 f25 f26 f27; omega, by clear r0 r2 r3 r4 r5 r6 f0 f1 f3 f4 f6 f7 f9 f10 f12 f13 f15 f16 f18 f19 f24 f25 f26 f27; omega, by clear r0 r2 r3 r5 r6 f0 f1 f3 f4 f6 f7 f9 f10 f12 f13 f15 f16 f18 f19 f21 f22 f24 f25 f26 f27; omega, by clear r0 r2 r3 r4 r5 r6 f0 f1 f3 f4 f6 f7 f9 f10 f12 f13 f15 f16 f21 f22 f24 f25 f26 f27; omega, by clear r0 r2 r3 r4 r6 f0 f1 f3 f4 f6 f7 f9 f10 f12 f13 f15 f16 f18 f19 f21 f22 f24 f25 f26 f27; omega, by clear r0 r2 r3 r4 r5 r6 f0 f1 f3 f4 f6 f7 f9 f10 f12 f13 f18 f19 f21 f22 f24 f25 f26 f27; omega, by clear r0 r2 r3 r4 r5 f0 f1 f3 f4 f6 f7 f9 f10 f12 f13 f15 f16 f18 f19 f21 f22 f24 f25 f26 f27; omega, by clear r0 r2 r3 r4 r5 r6 f0 f1 f3 f4 f6 f7 f9 f10 f15 f16 f18 f19 f21 f22 f24 f25 f26 f27; omega, by clear r0 r2 r3 r4 r5 r6 f0 f1 f3 f4 f6 f7 f12 f13 f15 f16 f18 f19 f21 f22 f24 f25 f26 f27; omega, by clear r0 r2 r3 r4 r5 r6 f0 f1 f3 f4 f9 f10 f12 f13 f15 f16 f18 f19 f21 f22 f24 f25 f26 f27; omega, by clear r0 r2 r3 r4 r5 r6 f0 f1 f6 f7 f9 f10 f12 f13 f15 f16 f18 f19 f21 f22 f24 f25 f26 f27; omega, by clear r0 r2 r3 r4 r5 r6 f3 f4 f6 f7 f9 f10 f12 f13 f15 f16 f18 f19 f21 f22 f24 f25 f26 f27; omega⟩
  have l0 : zOpP (.lrem) (γ 0) (γ 1) [ρ 7, 10] (ρ 8) := zAllA hl 0
  have l1 : zOpP (.ladd) (γ 0) (γ 1) [48, ρ 8] (ρ 9) := zAllA hl 1
  have l2 : zOpP (.l2i) (γ 0) (γ 1) [ρ 9] (ρ 10) := zAllA hl 2
  have l3 : sn87 [ρ 10, ρ 1] (γ 0) 0 0 (γ 1) := hS87 _ _ _ _ _ (zAllA hl 3)
  have l4 : zOpP (.lrem) (γ 0) (γ 1) [ρ 11, 10] (ρ 12) := zAllA hl 4
  have l5 : zOpP (.ladd) (γ 0) (γ 1) [48, ρ 12] (ρ 13) := zAllA hl 5
  have l6 : zOpP (.l2i) (γ 0) (γ 1) [ρ 13] (ρ 14) := zAllA hl 6
  have l7 : sn87 [ρ 14, ρ 1 + 1] (γ 1) 0 0 (γ 2) := hS87 _ _ _ _ _ (zAllA hl 7)
  have l8 : zOpP (.lrem) (γ 0) (γ 1) [ρ 15, 10] (ρ 16) := zAllA hl 8
  have l9 : zOpP (.ladd) (γ 0) (γ 1) [48, ρ 16] (ρ 17) := zAllA hl 9
  have l10 : zOpP (.l2i) (γ 0) (γ 1) [ρ 17] (ρ 18) := zAllA hl 10
  have l11 : sn87 [ρ 18, ρ 1 + 2] (γ 2) 0 0 (γ 3) := hS87 _ _ _ _ _ (zAllA hl 11)
  have l12 : zOpP (.lrem) (γ 0) (γ 1) [ρ 19, 10] (ρ 20) := zAllA hl 12
  have l13 : zOpP (.ladd) (γ 0) (γ 1) [48, ρ 20] (ρ 21) := zAllA hl 13
  have l14 : zOpP (.l2i) (γ 0) (γ 1) [ρ 21] (ρ 22) := zAllA hl 14
  have l15 : sn87 [ρ 22, ρ 1 + 3] (γ 3) 0 0 (γ 4) := hS87 _ _ _ _ _ (zAllA hl 15)
  have l16 : zOpP (.lrem) (γ 0) (γ 1) [ρ 23, 10] (ρ 24) := zAllA hl 16
  have l17 : zOpP (.ladd) (γ 0) (γ 1) [48, ρ 24] (ρ 25) := zAllA hl 17
  have l18 : zOpP (.l2i) (γ 0) (γ 1) [ρ 25] (ρ 26) := zAllA hl 18
  have l19 : sn87 [ρ 26, ρ 1 + 4] (γ 4) 0 0 (γ 5) := hS87 _ _ _ _ _ (zAllA hl 19)
  show sn88 [ρ 0, ρ 1] (γ 0) 0 0 (γ 5)
  refine Eq.symm ?_
  show fn88 [ρ 0] (γ 0) = _
  unfold fn88
  refine zLV (ρ 0) rfl (zIP w_0 (zLE w_1 (zIN w_2 (zLE w_3 (zIN w_4 (zLE w_5 (zIN w_6 ?_)))))))
  refine zLE w_7 (zIN w_8 (zLE w_9 (zIP w_10 (zLE w_11 (zLE (zF2_ok l0) (zLE (zF2_ok l1) (zLE (zF1_ok l2) ?_)))))))
  refine zLE (show fn87 [ρ 10] (γ 0) = (0, 0, γ 1) from l3.symm) (zLV (γ 1) rfl (zLE w_12 (zLE (zF2_ok l4) (zLE (zF2_ok l5) (zLE (zF1_ok l6) (zLE (show fn87 [ρ 14] (γ 1) = (0, 0, γ 2) from l7.symm) (zLV (γ 2) rfl ?_)))))))
  refine zLE w_13 (zLE (zF2_ok l8) (zLE (zF2_ok l9) (zLE (zF1_ok l10) (zLE (show fn87 [ρ 18] (γ 2) = (0, 0, γ 3) from l11.symm) (zLV (γ 3) rfl (zLE w_14 (zLE (zF2_ok l12) ?_)))))))
  refine zLE (zF2_ok l13) (zLE (zF1_ok l14) (zLE (show fn87 [ρ 22] (γ 3) = (0, 0, γ 4) from l15.symm) (zLV (γ 4) rfl (zLE w_15 (zLE (zF2_ok l16) (zLE (zF2_ok l17) (zLE (zF1_ok l18) ?_)))))))
  refine zLE (show fn87 [ρ 26] (γ 4) = (0, 0, γ 5) from l19.symm) (zLV (γ 5) rfl ?_)
  rfl
set_option maxRecDepth 100000 in
theorem vn88_5 {S : Nat → zSpc} (hS87 : zIm S 87 sn87) {a : List Int} {g : rHp} : ∀ (ρ : Nat → Int) (γ : Nat → rHp), zO 2 S a g q88_5 ρ γ → zGl (fun _ _ _ => True) (sn88 a g) q88_5 ρ γ := by
  intro ρ γ h
  obtain ⟨ha, hg, hr, hf, hm, hc, hl⟩ := h
  have ha : a = [ρ 0, ρ 1] := ha
  subst ha
  subst hg
  have r0 : (0 : Int) ≤ ρ 0 ∧ ρ 0 ≤ 549755813887 := zRnA hr 0
  have r2 : (10 : Int) ≤ ρ 2 ∧ ρ 2 ≤ 549755813887 := zRnA hr 2
  have r3 : (10 : Int) ≤ ρ 3 ∧ ρ 3 ≤ 54975581388 := zRnA hr 3
  have r4 : (10 : Int) ≤ ρ 4 ∧ ρ 4 ≤ 5497558138 := zRnA hr 4
  have r5 : (10 : Int) ≤ ρ 5 ∧ ρ 5 ≤ 549755813 := zRnA hr 5
  have r6 : (10 : Int) ≤ ρ 6 ∧ ρ 6 ≤ 54975581 := zRnA hr 6
  have r7 : (0 : Int) ≤ ρ 7 ∧ ρ 7 ≤ 9 := zRnA hr 7
  have f0 : (0 : Int) ≤ ρ 28 + -ρ 0 := zAllA hf 0
  have f1 : (0 : Int) ≤ -ρ 28 + ρ 0 := zAllA hf 1
  have f3 : (0 : Int) ≤ 10 * ρ 24 + -ρ 0 + 9 := zAllA hf 3
  have f4 : (0 : Int) ≤ (-10) * ρ 24 + ρ 0 := zAllA hf 4
  have f6 : (0 : Int) ≤ 100 * ρ 20 + -ρ 0 + 99 := zAllA hf 6
  have f7 : (0 : Int) ≤ (-100) * ρ 20 + ρ 0 := zAllA hf 7
  have f9 : (0 : Int) ≤ 1000 * ρ 16 + -ρ 0 + 999 := zAllA hf 9
  have f10 : (0 : Int) ≤ (-1000) * ρ 16 + ρ 0 := zAllA hf 10
  have f12 : (0 : Int) ≤ 10000 * ρ 12 + -ρ 0 + 9999 := zAllA hf 12
  have f13 : (0 : Int) ≤ (-10000) * ρ 12 + ρ 0 := zAllA hf 13
  have f15 : (0 : Int) ≤ 100000 * ρ 8 + -ρ 0 + 99999 := zAllA hf 15
  have f16 : (0 : Int) ≤ (-100000) * ρ 8 + ρ 0 := zAllA hf 16
  have f18 : (0 : Int) ≤ 100000 * ρ 7 + -ρ 0 + 99999 := zAllA hf 18
  have f19 : (0 : Int) ≤ (-100000) * ρ 7 + ρ 0 := zAllA hf 19
  have f21 : (0 : Int) ≤ 10000 * ρ 6 + -ρ 0 + 9999 := zAllA hf 21
  have f22 : (0 : Int) ≤ (-10000) * ρ 6 + ρ 0 := zAllA hf 22
  have f24 : (0 : Int) ≤ 1000 * ρ 5 + -ρ 0 + 999 := zAllA hf 24
  have f25 : (0 : Int) ≤ (-1000) * ρ 5 + ρ 0 := zAllA hf 25
  have f27 : (0 : Int) ≤ 100 * ρ 4 + -ρ 0 + 99 := zAllA hf 27
  have f28 : (0 : Int) ≤ (-100) * ρ 4 + ρ 0 := zAllA hf 28
  have f30 : (0 : Int) ≤ 10 * ρ 3 + -ρ 0 + 9 := zAllA hf 30
  have f31 : (0 : Int) ≤ (-10) * ρ 3 + ρ 0 := zAllA hf 31
  have f32 : (0 : Int) ≤ ρ 2 + -ρ 0 := zAllA hf 32
  have f33 : (0 : Int) ≤ -ρ 2 + ρ 0 := zAllA hf 33
  obtain ⟨w_0, w_1, w_2, w_3, w_4, w_5, w_6, w_7, w_8, w_9, w_10, w_11, w_12, w_13, w_14, w_15, w_16, w_17, w_18⟩ : (ρ 0 ≥ 0) ∧ ((ρ 0) / 1 = ρ 2) ∧ (¬ (ρ 2 ≤ 9)) ∧ ((ρ 0) / 10 = ρ 3) ∧ (¬ (ρ 3 ≤ 9)) ∧ ((ρ 0) / 100 = ρ 4) ∧ (¬ (ρ 4 ≤ 9)) ∧ ((ρ 0) / 1000 = ρ 5) ∧ (¬ (ρ 5 ≤ 9)) ∧ ((ρ 0) / 10000 = ρ 6) ∧ (¬ (ρ 6 ≤ 9)) ∧ ((ρ 0) / 100000 = ρ 7) ∧ (ρ 7 ≤ 9) ∧ ((ρ 0) / 100000 = ρ 8) ∧ ((ρ 0) / 10000 = ρ 12) ∧ ((ρ 0) / 1000 = ρ 16) ∧ ((ρ 0) / 100 = ρ 20) ∧ ((ρ 0) / 10 = ρ 24) ∧ ((ρ 0) / 1 = ρ 28) := ⟨by clear r2 r3 r4 r5 r6 r7 f0 f1 f3 f4 f6 f7 f9 f10 f12 f13 f15 f16 f18 f19 f21 f22 f24 f25 f27 f28 f30 f31 f32 f33; omega, by clear r0 r2 r3 r4 r5 r6 r7 f0 f1 f3 f4 f6 f7 f9 f10 f12 f13 f15 f16 f18 f19 f21 f22 f24 f25 f27 f28 f30 f31; omega, by clear r0 r3 r4 r5 r6 r7 f0 f1 f3 f4 f6 f7 f9 f10 f12 f13 f15 f16 f18 f19 f21 f22 f24 f25 f27 f28 f30 f31 f32 f33; omega, by clear r0 r2 r3 r4 r5 r6 r7 f0 f1 f3 f4 f6 f7 f9 f10 f12 f13 f15 f16 f18 f19 f21 f22 f24 f25 f27 f28 f32 f33; omega, by clear r0 r2 r4 r5 r6 r7 f0 f1 f3 f4 f6 f7 f9 f10 f12 f13 f15 f16 f18 f19 f21 f22 f24 f25 f27 f28 f30 f31 f32 f33; omega, by clear r0 r2 r3 r4 r5 r6 r7 f0 f1 f3 f4 f6 f7 f9 f10 f12 f13 f15 f16 f18 f19 f21 f22 f24 f25 f30 f31 f32 f33; omega, by clear r0 r2 r3 r5 r6 r7 f0 f1 f3 f4 f6 f7 f9 f10 f12 f13 f15 f16 f18 f19 f21 f22 f24 f25 f27 f28 f30 f31 f32 f33; omega, by clear r0 r2 r3 r4 r5 r6 r7 f0 f1 f3 f4 f6 f7 f9 f10 f12 f13 f15 f16 f18 f19 f21 f22 f27 f28 f30 f31 f32 f33; omega, by clear r0 r2 r3 r4 r6 r7 f0 f1 f3 f4 f6 f7 f9 f10 f12 f13 f15 f16 f18 f19 f21 f22 f24 f25 f27 f28 f30 f31 f32 f33; omega, by clear r0 r2 r3 r4 r5 r6 r7 f0 f1 f3 f4 f6 f7 f9 f10 f12 f13 f15 f16 f18 f19 f24 f25 f27 f28 f30 f31 f32 f33; omega, by clear r0 r2 r3 r4 r5 r7 f0 f1 f3 f4 f6 f7 f9 f10 f12 f13 f15 f16 f18 f19 f21 f22 f24 f25 f27 f28 f30 f31 f32 f33; omega, by clear r0 r2 r3 r4 r5 r6 r7 f0 f1 f3 f4 f6 f7 f9 f10 f12 f13 f15 f16 f21 f22 f24 f25 f27 f28 f30 f31 f32 f33; omega, by clear r0 r2 r3 r4 r5 r6 f0 f1 f3 f4 f6 f7 f9 f10 f12 f13 f15 f16 f18 f19 f21 f22 f24 f25 f27 f28 f30 f31 f32 f33; omega, by clear r0 r2 r3 r4 r5 r6 r7 f0 f1 f3 f4 f6 f7 f9 f10 f12 f13 f18 f19 f21 f22 f24 f25 f27 f28 f30 f31 f32 f33; omega, by clear r0 r2 r3 r4 r5 r6 r7 f0 f1 f3 f4 f6 f7 f9 f10 f15 f16 f18 f19 f21 f22 f24 f25 f27 f28 f30 f31 f32 f33; omega, by clear r0 r2 r3 r4 r5 r6 r7 f0 f1 f3 f4 f6 f7 f12 f13 f15 f16 f18 f19 f21 f22 f24 f25 f27 f28 f30 f31 f32 f33; omega, by clear r0 r2 r3 r4 r5 r6 r7 f0 f1 f3 f4 f9 f10 f12 f13 f15 f16 f18 f19 f21 f22 f24 f25 f27 f28 f30 f31 f32 f33; omega, by clear r0 r2 r3 r4 r5 r6 r7 f0 f1 f6 f7 f9 f10 f12 f13 f15 f16 f18 f19 f21 f22 f24 f25 f27 f28 f30 f31 f32 f33; omega, by clear r0 r2 r3 r4 r5 r6 r7 f3 f4 f6 f7 f9 f10 f12 f13 f15 f16 f18 f19 f21 f22 f24 f25 f27 f28 f30 f31 f32 f33; omega⟩
  have l0 : zOpP (.lrem) (γ 0) (γ 1) [ρ 8, 10] (ρ 9) := zAllA hl 0
  have l1 : zOpP (.ladd) (γ 0) (γ 1) [48, ρ 9] (ρ 10) := zAllA hl 1
  have l2 : zOpP (.l2i) (γ 0) (γ 1) [ρ 10] (ρ 11) := zAllA hl 2
  have l3 : sn87 [ρ 11, ρ 1] (γ 0) 0 0 (γ 1) := hS87 _ _ _ _ _ (zAllA hl 3)
  have l4 : zOpP (.lrem) (γ 0) (γ 1) [ρ 12, 10] (ρ 13) := zAllA hl 4
  have l5 : zOpP (.ladd) (γ 0) (γ 1) [48, ρ 13] (ρ 14) := zAllA hl 5
  have l6 : zOpP (.l2i) (γ 0) (γ 1) [ρ 14] (ρ 15) := zAllA hl 6
  have l7 : sn87 [ρ 15, ρ 1 + 1] (γ 1) 0 0 (γ 2) := hS87 _ _ _ _ _ (zAllA hl 7)
  have l8 : zOpP (.lrem) (γ 0) (γ 1) [ρ 16, 10] (ρ 17) := zAllA hl 8
  have l9 : zOpP (.ladd) (γ 0) (γ 1) [48, ρ 17] (ρ 18) := zAllA hl 9
  have l10 : zOpP (.l2i) (γ 0) (γ 1) [ρ 18] (ρ 19) := zAllA hl 10
  have l11 : sn87 [ρ 19, ρ 1 + 2] (γ 2) 0 0 (γ 3) := hS87 _ _ _ _ _ (zAllA hl 11)
  have l12 : zOpP (.lrem) (γ 0) (γ 1) [ρ 20, 10] (ρ 21) := zAllA hl 12
  have l13 : zOpP (.ladd) (γ 0) (γ 1) [48, ρ 21] (ρ 22) := zAllA hl 13
  have l14 : zOpP (.l2i) (γ 0) (γ 1) [ρ 22] (ρ 23) := zAllA hl 14
  have l15 : sn87 [ρ 23, ρ 1 + 3] (γ 3) 0 0 (γ 4) := hS87 _ _ _ _ _ (zAllA hl 15)
  have l16 : zOpP (.lrem) (γ 0) (γ 1) [ρ 24, 10] (ρ 25) := zAllA hl 16
  have l17 : zOpP (.ladd) (γ 0) (γ 1) [48, ρ 25] (ρ 26) := zAllA hl 17
  have l18 : zOpP (.l2i) (γ 0) (γ 1) [ρ 26] (ρ 27) := zAllA hl 18
  have l19 : sn87 [ρ 27, ρ 1 + 4] (γ 4) 0 0 (γ 5) := hS87 _ _ _ _ _ (zAllA hl 19)
  have l20 : zOpP (.lrem) (γ 0) (γ 1) [ρ 28, 10] (ρ 29) := zAllA hl 20
  have l21 : zOpP (.ladd) (γ 0) (γ 1) [48, ρ 29] (ρ 30) := zAllA hl 21
  have l22 : zOpP (.l2i) (γ 0) (γ 1) [ρ 30] (ρ 31) := zAllA hl 22
  have l23 : sn87 [ρ 31, ρ 1 + 5] (γ 5) 0 0 (γ 6) := hS87 _ _ _ _ _ (zAllA hl 23)
  show sn88 [ρ 0, ρ 1] (γ 0) 0 0 (γ 6)
  refine Eq.symm ?_
  show fn88 [ρ 0] (γ 0) = _
  unfold fn88
  refine zLV (ρ 0) rfl (zIP w_0 (zLE w_1 (zIN w_2 (zLE w_3 (zIN w_4 (zLE w_5 (zIN w_6 ?_)))))))
  refine zLE w_7 (zIN w_8 (zLE w_9 (zIN w_10 (zLE w_11 (zIP w_12 (zLE w_13 (zLE (zF2_ok l0) ?_)))))))
  refine zLE (zF2_ok l1) (zLE (zF1_ok l2) (zLE (show fn87 [ρ 11] (γ 0) = (0, 0, γ 1) from l3.symm) (zLV (γ 1) rfl (zLE w_14 (zLE (zF2_ok l4) (zLE (zF2_ok l5) (zLE (zF1_ok l6) ?_)))))))
  refine zLE (show fn87 [ρ 15] (γ 1) = (0, 0, γ 2) from l7.symm) (zLV (γ 2) rfl (zLE w_15 (zLE (zF2_ok l8) (zLE (zF2_ok l9) (zLE (zF1_ok l10) (zLE (show fn87 [ρ 19] (γ 2) = (0, 0, γ 3) from l11.symm) (zLV (γ 3) rfl ?_)))))))
  refine zLE w_16 (zLE (zF2_ok l12) (zLE (zF2_ok l13) (zLE (zF1_ok l14) (zLE (show fn87 [ρ 23] (γ 3) = (0, 0, γ 4) from l15.symm) (zLV (γ 4) rfl (zLE w_17 (zLE (zF2_ok l16) ?_)))))))
  refine zLE (zF2_ok l17) (zLE (zF1_ok l18) (zLE (show fn87 [ρ 27] (γ 4) = (0, 0, γ 5) from l19.symm) (zLV (γ 5) rfl (zLE w_18 (zLE (zF2_ok l20) (zLE (zF2_ok l21) (zLE (zF1_ok l22) ?_)))))))
  refine zLE (show fn87 [ρ 31] (γ 5) = (0, 0, γ 6) from l23.symm) (zLV (γ 6) rfl ?_)
  rfl
set_option maxRecDepth 100000 in
theorem vn88_6 {S : Nat → zSpc} (hS87 : zIm S 87 sn87) {a : List Int} {g : rHp} : ∀ (ρ : Nat → Int) (γ : Nat → rHp), zO 2 S a g q88_6 ρ γ → zGl (fun _ _ _ => True) (sn88 a g) q88_6 ρ γ := by
  intro ρ γ h
  obtain ⟨ha, hg, hr, hf, hm, hc, hl⟩ := h
  have ha : a = [ρ 0, ρ 1] := ha
  subst ha
  subst hg
  have r0 : (0 : Int) ≤ ρ 0 ∧ ρ 0 ≤ 549755813887 := zRnA hr 0
  have r2 : (10 : Int) ≤ ρ 2 ∧ ρ 2 ≤ 549755813887 := zRnA hr 2
  have r3 : (10 : Int) ≤ ρ 3 ∧ ρ 3 ≤ 54975581388 := zRnA hr 3
  have r4 : (10 : Int) ≤ ρ 4 ∧ ρ 4 ≤ 5497558138 := zRnA hr 4
  have r5 : (10 : Int) ≤ ρ 5 ∧ ρ 5 ≤ 549755813 := zRnA hr 5
  have r6 : (10 : Int) ≤ ρ 6 ∧ ρ 6 ≤ 54975581 := zRnA hr 6
  have r7 : (10 : Int) ≤ ρ 7 ∧ ρ 7 ≤ 5497558 := zRnA hr 7
  have r8 : (0 : Int) ≤ ρ 8 ∧ ρ 8 ≤ 9 := zRnA hr 8
  have f0 : (0 : Int) ≤ ρ 33 + -ρ 0 := zAllA hf 0
  have f1 : (0 : Int) ≤ -ρ 33 + ρ 0 := zAllA hf 1
  have f3 : (0 : Int) ≤ 10 * ρ 29 + -ρ 0 + 9 := zAllA hf 3
  have f4 : (0 : Int) ≤ (-10) * ρ 29 + ρ 0 := zAllA hf 4
  have f6 : (0 : Int) ≤ 100 * ρ 25 + -ρ 0 + 99 := zAllA hf 6
  have f7 : (0 : Int) ≤ (-100) * ρ 25 + ρ 0 := zAllA hf 7
  have f9 : (0 : Int) ≤ 1000 * ρ 21 + -ρ 0 + 999 := zAllA hf 9
  have f10 : (0 : Int) ≤ (-1000) * ρ 21 + ρ 0 := zAllA hf 10
  have f12 : (0 : Int) ≤ 10000 * ρ 17 + -ρ 0 + 9999 := zAllA hf 12
  have f13 : (0 : Int) ≤ (-10000) * ρ 17 + ρ 0 := zAllA hf 13
  have f15 : (0 : Int) ≤ 100000 * ρ 13 + -ρ 0 + 99999 := zAllA hf 15
  have f16 : (0 : Int) ≤ (-100000) * ρ 13 + ρ 0 := zAllA hf 16
  have f18 : (0 : Int) ≤ 1000000 * ρ 9 + -ρ 0 + 999999 := zAllA hf 18
  have f19 : (0 : Int) ≤ (-1000000) * ρ 9 + ρ 0 := zAllA hf 19
  have f21 : (0 : Int) ≤ 1000000 * ρ 8 + -ρ 0 + 999999 := zAllA hf 21
  have f22 : (0 : Int) ≤ (-1000000) * ρ 8 + ρ 0 := zAllA hf 22
  have f24 : (0 : Int) ≤ 100000 * ρ 7 + -ρ 0 + 99999 := zAllA hf 24
  have f25 : (0 : Int) ≤ (-100000) * ρ 7 + ρ 0 := zAllA hf 25
  have f27 : (0 : Int) ≤ 10000 * ρ 6 + -ρ 0 + 9999 := zAllA hf 27
  have f28 : (0 : Int) ≤ (-10000) * ρ 6 + ρ 0 := zAllA hf 28
  have f30 : (0 : Int) ≤ 1000 * ρ 5 + -ρ 0 + 999 := zAllA hf 30
  have f31 : (0 : Int) ≤ (-1000) * ρ 5 + ρ 0 := zAllA hf 31
  have f33 : (0 : Int) ≤ 100 * ρ 4 + -ρ 0 + 99 := zAllA hf 33
  have f34 : (0 : Int) ≤ (-100) * ρ 4 + ρ 0 := zAllA hf 34
  have f36 : (0 : Int) ≤ 10 * ρ 3 + -ρ 0 + 9 := zAllA hf 36
  have f37 : (0 : Int) ≤ (-10) * ρ 3 + ρ 0 := zAllA hf 37
  have f38 : (0 : Int) ≤ ρ 2 + -ρ 0 := zAllA hf 38
  have f39 : (0 : Int) ≤ -ρ 2 + ρ 0 := zAllA hf 39
  obtain ⟨w_0, w_1, w_2, w_3, w_4, w_5, w_6, w_7, w_8, w_9, w_10, w_11, w_12, w_13, w_14, w_15, w_16, w_17, w_18, w_19, w_20, w_21⟩ : (ρ 0 ≥ 0) ∧ ((ρ 0) / 1 = ρ 2) ∧ (¬ (ρ 2 ≤ 9)) ∧ ((ρ 0) / 10 = ρ 3) ∧ (¬ (ρ 3 ≤ 9)) ∧ ((ρ 0) / 100 = ρ 4) ∧ (¬ (ρ 4 ≤ 9)) ∧ ((ρ 0) / 1000 = ρ 5) ∧ (¬ (ρ 5 ≤ 9)) ∧ ((ρ 0) / 10000 = ρ 6) ∧ (¬ (ρ 6 ≤ 9)) ∧ ((ρ 0) / 100000 = ρ 7) ∧ (¬ (ρ 7 ≤ 9)) ∧ ((ρ 0) / 1000000 = ρ 8) ∧ (ρ 8 ≤ 9) ∧ ((ρ 0) / 1000000 = ρ 9) ∧ ((ρ 0) / 100000 = ρ 13) ∧ ((ρ 0) / 10000 = ρ 17) ∧ ((ρ 0) / 1000 = ρ 21) ∧ ((ρ 0) / 100 = ρ 25) ∧ ((ρ 0) / 10 = ρ 29) ∧ ((ρ 0) / 1 = ρ 33) := ⟨by clear r2 r3 r4 r5 r6 r7 r8 f0 f1 f3 f4 f6 f7 f9 f10 f12 f13 f15 f16 f18 f19 f21 f22 f24 f25 f27 f28 f30 f31 f33 f34 f36 f37 f38 f39; omega, by clear r0 r2 r3 r4 r5 r6 r7 r8 f0 f1 f3 f4 f6 f7 f9 f10 f12 f13 f15 f16 f18 f19 f21 f22 f24 f25 f27 f28 f30 f31 f33 f34 f36 f37; omega, by clear r0 r3 r4 r5 r6 r7 r8 f0 f1 f3 f4 f6 f7 f9 f10 f12 f13 f15 f16 f18 f19 f21 f22 f24 f25 f27 f28 f30 f31 f33 f34 f36 f37 f38 f39; omega, by clear r0 r2 r3 r4 r5 r6 r7 r8 f0 f1 f3 f4 f6 f7 f9 f10 f12 f13 f15 f16 f18 f19 f21 f22 f24 f25 f27 f28 f30 f31 f33 f34 f38 f39; omega, by clear r0 r2 r4 r5 r6 r7 r8 f0 f1 f3 f4 f6 f7 f9 f10 f12 f13 f15 f16 f18 f19 f21 f22 f24 f25 f27 f28 f30 f31 f33 f34 f36 f37 f38 f39; omega, by clear r0 r2 r3 r4 r5 r6 r7 r8 f0 f1 f3 f4 f6 f7 f9 f10 f12 f13 f15 f16 f18 f19 f21 f22 f24 f25 f27 f28 f30 f31 f36 f37 f38 f39; omega, by clear r0 r2 r3 r5 r6 r7 r8 f0 f1 f3 f4 f6 f7 f9 f10 f12 f13 f15 f16 f18 f19 f21 f22 f24 f25 f27 f28 f30 f31 f33 f34 f36 f37 f38 f39; omega, by clear r0 r2 r3 r4 r5 r6 r7 r8 f0 f1 f3 f4 f6 f7 f9 f10 f12 f13 f15 f16 f18 f19 f21 f22 f24 f25 f27 f28 f33 f34 f36 f37 f38 f39; omega, by clear r0 r2 r3 r4 r6 r7 r8 f0 f1 f3 f4 f6 f7 f9 f10 f12 f13 f15 f16 f18 f19 f21 f22 f24 f25 f27 f28 f30 f31 f33 f34 f36 f37 f38 f39; omega, by clear r0 r2 r3 r4 r5 r6 r7 r8 f0 f1 f3 f4 f6 f7 f9 f10 f12 f13 f15 f16 f18 f19 f21 f22 f24 f25 f30 f31 f33 f34 f36 f37 f38 f39; omega, by clear r0 r2 r3 r4 r5 r7 r8 f0 f1 f3 f4 f6 f7 f9 f10 f12 f13 f15 f16 f18 f19 f21 f22 f24 f25 f27 f28 f30 f31 f33 f34 f36 f37 f38 f39; omega, by clear r0 r2 r3 r4 r5 r6 r7 r8 f0 f1 f3 f4 f6 f7 f9 f10 f12 f13 f15 f16 f18 f19 f21 f22 f27 f28 f30 f31 f33 f34 f36 f37 f38 f39; omega, by clear r0 r2 r3 r4 r5 r6 r8 f0 f1 f3 f4 f6 f7 f9 f10 f12 f13 f15 f16 f18 f19 f21 f22 f24 f25 f27 f28 f30 f31 f33 f34 f36 f37 f38 f39; omega, by clear r0 r2 r3 r4 r5 r6 r7 r8 f0 f1 f3 f4 f6 f7 f9 f10 f12 f13 f15 f16 f18 f19 f24 f25 f27 f28 f30 f31 f33 f34 f36 f37 f38 f39; omega, by clear r0 r2 r3 r4 r5 r6 r7 f0 f1 f3 f4 f6 f7 f9 f10 f12 f13 f15 f16 f18 f19 f21 f22 f24 f25 f27 f28 f30 f31 f33 f34 f36 f37 f38 f39; omega, by clear r0 r2 r3 r4 r5 r6 r7 r8 f0 f1 f3 f4 f6 f7 f9 f10 f12 f13 f15 f16 f21 f22 f24 f25 f27 f28 f30 f31 f33 f34 f36 f37 f38 f39; omega, by clear r0 r2 r3 r4 r5 r6 r7 r8 f0 f1 f3 f4 f6 f7 f9 f10 f12 f13 f18 f19 f21 f22 f24 f25 f27 f28 f30 f31 f33 f34 f36 f37 f38 f39; omega, by clear r0 r2 r3 r4 r5 r6 r7 r8 f0 f1 f3 f4 f6 f7 f9 f10 f15 f16 f18 f19 f21 f22 f24 f25 f27 f28 f30 f31 f33 f34 f36 f37 f38 f39; omega, by clear r0 r2 r3 r4 r5 r6 r7 r8 f0 f1 f3 f4 f6 f7 f12 f13 f15 f16 f18 f19 f21 f22 f24 f25 f27 f28 f30 f31 f33 f34 f36 f37 f38 f39; omega, by clear r0 r2 r3 r4 r5 r6 r7 r8 f0 f1 f3 f4 f9 f10 f12 f13 f15 f16 f18 f19 f21 f22 f24 f25 f27 f28 f30 f31 f33 f34 f36 f37 f38 f39; omega, by clear r0 r2 r3 r4 r5 r6 r7 r8 f0 f1 f6 f7 f9 f10 f12 f13 f15 f16 f18 f19 f21 f22 f24 f25 f27 f28 f30 f31 f33 f34 f36 f37 f38 f39; omega, by clear r0 r2 r3 r4 r5 r6 r7 r8 f3 f4 f6 f7 f9 f10 f12 f13 f15 f16 f18 f19 f21 f22 f24 f25 f27 f28 f30 f31 f33 f34 f36 f37 f38 f39; omega⟩
  have l0 : zOpP (.lrem) (γ 0) (γ 1) [ρ 9, 10] (ρ 10) := zAllA hl 0
  have l1 : zOpP (.ladd) (γ 0) (γ 1) [48, ρ 10] (ρ 11) := zAllA hl 1
  have l2 : zOpP (.l2i) (γ 0) (γ 1) [ρ 11] (ρ 12) := zAllA hl 2
  have l3 : sn87 [ρ 12, ρ 1] (γ 0) 0 0 (γ 1) := hS87 _ _ _ _ _ (zAllA hl 3)
  have l4 : zOpP (.lrem) (γ 0) (γ 1) [ρ 13, 10] (ρ 14) := zAllA hl 4
  have l5 : zOpP (.ladd) (γ 0) (γ 1) [48, ρ 14] (ρ 15) := zAllA hl 5
  have l6 : zOpP (.l2i) (γ 0) (γ 1) [ρ 15] (ρ 16) := zAllA hl 6
  have l7 : sn87 [ρ 16, ρ 1 + 1] (γ 1) 0 0 (γ 2) := hS87 _ _ _ _ _ (zAllA hl 7)
  have l8 : zOpP (.lrem) (γ 0) (γ 1) [ρ 17, 10] (ρ 18) := zAllA hl 8
  have l9 : zOpP (.ladd) (γ 0) (γ 1) [48, ρ 18] (ρ 19) := zAllA hl 9
  have l10 : zOpP (.l2i) (γ 0) (γ 1) [ρ 19] (ρ 20) := zAllA hl 10
  have l11 : sn87 [ρ 20, ρ 1 + 2] (γ 2) 0 0 (γ 3) := hS87 _ _ _ _ _ (zAllA hl 11)
  have l12 : zOpP (.lrem) (γ 0) (γ 1) [ρ 21, 10] (ρ 22) := zAllA hl 12
  have l13 : zOpP (.ladd) (γ 0) (γ 1) [48, ρ 22] (ρ 23) := zAllA hl 13
  have l14 : zOpP (.l2i) (γ 0) (γ 1) [ρ 23] (ρ 24) := zAllA hl 14
  have l15 : sn87 [ρ 24, ρ 1 + 3] (γ 3) 0 0 (γ 4) := hS87 _ _ _ _ _ (zAllA hl 15)
  have l16 : zOpP (.lrem) (γ 0) (γ 1) [ρ 25, 10] (ρ 26) := zAllA hl 16
  have l17 : zOpP (.ladd) (γ 0) (γ 1) [48, ρ 26] (ρ 27) := zAllA hl 17
  have l18 : zOpP (.l2i) (γ 0) (γ 1) [ρ 27] (ρ 28) := zAllA hl 18
  have l19 : sn87 [ρ 28, ρ 1 + 4] (γ 4) 0 0 (γ 5) := hS87 _ _ _ _ _ (zAllA hl 19)
  have l20 : zOpP (.lrem) (γ 0) (γ 1) [ρ 29, 10] (ρ 30) := zAllA hl 20
  have l21 : zOpP (.ladd) (γ 0) (γ 1) [48, ρ 30] (ρ 31) := zAllA hl 21
  have l22 : zOpP (.l2i) (γ 0) (γ 1) [ρ 31] (ρ 32) := zAllA hl 22
  have l23 : sn87 [ρ 32, ρ 1 + 5] (γ 5) 0 0 (γ 6) := hS87 _ _ _ _ _ (zAllA hl 23)
  have l24 : zOpP (.lrem) (γ 0) (γ 1) [ρ 33, 10] (ρ 34) := zAllA hl 24
  have l25 : zOpP (.ladd) (γ 0) (γ 1) [48, ρ 34] (ρ 35) := zAllA hl 25
  have l26 : zOpP (.l2i) (γ 0) (γ 1) [ρ 35] (ρ 36) := zAllA hl 26
  have l27 : sn87 [ρ 36, ρ 1 + 6] (γ 6) 0 0 (γ 7) := hS87 _ _ _ _ _ (zAllA hl 27)
  show sn88 [ρ 0, ρ 1] (γ 0) 0 0 (γ 7)
  refine Eq.symm ?_
  show fn88 [ρ 0] (γ 0) = _
  unfold fn88
  refine zLV (ρ 0) rfl (zIP w_0 (zLE w_1 (zIN w_2 (zLE w_3 (zIN w_4 (zLE w_5 (zIN w_6 ?_)))))))
  refine zLE w_7 (zIN w_8 (zLE w_9 (zIN w_10 (zLE w_11 (zIN w_12 (zLE w_13 (zIP w_14 ?_)))))))
  refine zLE w_15 (zLE (zF2_ok l0) (zLE (zF2_ok l1) (zLE (zF1_ok l2) (zLE (show fn87 [ρ 12] (γ 0) = (0, 0, γ 1) from l3.symm) (zLV (γ 1) rfl (zLE w_16 (zLE (zF2_ok l4) ?_)))))))
  refine zLE (zF2_ok l5) (zLE (zF1_ok l6) (zLE (show fn87 [ρ 16] (γ 1) = (0, 0, γ 2) from l7.symm) (zLV (γ 2) rfl (zLE w_17 (zLE (zF2_ok l8) (zLE (zF2_ok l9) (zLE (zF1_ok l10) ?_)))))))
  refine zLE (show fn87 [ρ 20] (γ 2) = (0, 0, γ 3) from l11.symm) (zLV (γ 3) rfl (zLE w_18 (zLE (zF2_ok l12) (zLE (zF2_ok l13) (zLE (zF1_ok l14) (zLE (show fn87 [ρ 24] (γ 3) = (0, 0, γ 4) from l15.symm) (zLV (γ 4) rfl ?_)))))))
  refine zLE w_19 (zLE (zF2_ok l16) (zLE (zF2_ok l17) (zLE (zF1_ok l18) (zLE (show fn87 [ρ 28] (γ 4) = (0, 0, γ 5) from l19.symm) (zLV (γ 5) rfl (zLE w_20 (zLE (zF2_ok l20) ?_)))))))
  refine zLE (zF2_ok l21) (zLE (zF1_ok l22) (zLE (show fn87 [ρ 32] (γ 5) = (0, 0, γ 6) from l23.symm) (zLV (γ 6) rfl (zLE w_21 (zLE (zF2_ok l24) (zLE (zF2_ok l25) (zLE (zF1_ok l26) ?_)))))))
  refine zLE (show fn87 [ρ 36] (γ 6) = (0, 0, γ 7) from l27.symm) (zLV (γ 7) rfl ?_)
  rfl
set_option maxRecDepth 100000 in
theorem vn88_7 {S : Nat → zSpc} (hS87 : zIm S 87 sn87) {a : List Int} {g : rHp} : ∀ (ρ : Nat → Int) (γ : Nat → rHp), zO 2 S a g q88_7 ρ γ → zGl (fun _ _ _ => True) (sn88 a g) q88_7 ρ γ := by
  intro ρ γ h
  obtain ⟨ha, hg, hr, hf, hm, hc, hl⟩ := h
  have ha : a = [ρ 0, ρ 1] := ha
  subst ha
  subst hg
  have r0 : (0 : Int) ≤ ρ 0 ∧ ρ 0 ≤ 549755813887 := zRnA hr 0
  have r2 : (10 : Int) ≤ ρ 2 ∧ ρ 2 ≤ 549755813887 := zRnA hr 2
  have r3 : (10 : Int) ≤ ρ 3 ∧ ρ 3 ≤ 54975581388 := zRnA hr 3
  have r4 : (10 : Int) ≤ ρ 4 ∧ ρ 4 ≤ 5497558138 := zRnA hr 4
  have r5 : (10 : Int) ≤ ρ 5 ∧ ρ 5 ≤ 549755813 := zRnA hr 5
  have r6 : (10 : Int) ≤ ρ 6 ∧ ρ 6 ≤ 54975581 := zRnA hr 6
  have r7 : (10 : Int) ≤ ρ 7 ∧ ρ 7 ≤ 5497558 := zRnA hr 7
  have r8 : (10 : Int) ≤ ρ 8 ∧ ρ 8 ≤ 549755 := zRnA hr 8
  have r9 : (0 : Int) ≤ ρ 9 ∧ ρ 9 ≤ 9 := zRnA hr 9
  have f0 : (0 : Int) ≤ ρ 38 + -ρ 0 := zAllA hf 0
  have f1 : (0 : Int) ≤ -ρ 38 + ρ 0 := zAllA hf 1
  have f3 : (0 : Int) ≤ 10 * ρ 34 + -ρ 0 + 9 := zAllA hf 3
  have f4 : (0 : Int) ≤ (-10) * ρ 34 + ρ 0 := zAllA hf 4
  have f6 : (0 : Int) ≤ 100 * ρ 30 + -ρ 0 + 99 := zAllA hf 6
  have f7 : (0 : Int) ≤ (-100) * ρ 30 + ρ 0 := zAllA hf 7
  have f9 : (0 : Int) ≤ 1000 * ρ 26 + -ρ 0 + 999 := zAllA hf 9
  have f10 : (0 : Int) ≤ (-1000) * ρ 26 + ρ 0 := zAllA hf 10
  have f12 : (0 : Int) ≤ 10000 * ρ 22 + -ρ 0 + 9999 := zAllA hf 12
  have f13 : (0 : Int) ≤ (-10000) * ρ 22 + ρ 0 := zAllA hf 13
  have f15 : (0 : Int) ≤ 100000 * ρ 18 + -ρ 0 + 99999 := zAllA hf 15
  have f16 : (0 : Int) ≤ (-100000) * ρ 18 + ρ 0 := zAllA hf 16
  have f18 : (0 : Int) ≤ 1000000 * ρ 14 + -ρ 0 + 999999 := zAllA hf 18
  have f19 : (0 : Int) ≤ (-1000000) * ρ 14 + ρ 0 := zAllA hf 19
  have f21 : (0 : Int) ≤ 10000000 * ρ 10 + -ρ 0 + 9999999 := zAllA hf 21
  have f22 : (0 : Int) ≤ (-10000000) * ρ 10 + ρ 0 := zAllA hf 22
  have f24 : (0 : Int) ≤ 10000000 * ρ 9 + -ρ 0 + 9999999 := zAllA hf 24
  have f25 : (0 : Int) ≤ (-10000000) * ρ 9 + ρ 0 := zAllA hf 25
  have f27 : (0 : Int) ≤ 1000000 * ρ 8 + -ρ 0 + 999999 := zAllA hf 27
  have f28 : (0 : Int) ≤ (-1000000) * ρ 8 + ρ 0 := zAllA hf 28
  have f30 : (0 : Int) ≤ 100000 * ρ 7 + -ρ 0 + 99999 := zAllA hf 30
  have f31 : (0 : Int) ≤ (-100000) * ρ 7 + ρ 0 := zAllA hf 31
  have f33 : (0 : Int) ≤ 10000 * ρ 6 + -ρ 0 + 9999 := zAllA hf 33
  have f34 : (0 : Int) ≤ (-10000) * ρ 6 + ρ 0 := zAllA hf 34
  have f36 : (0 : Int) ≤ 1000 * ρ 5 + -ρ 0 + 999 := zAllA hf 36
  have f37 : (0 : Int) ≤ (-1000) * ρ 5 + ρ 0 := zAllA hf 37
  have f39 : (0 : Int) ≤ 100 * ρ 4 + -ρ 0 + 99 := zAllA hf 39
  have f40 : (0 : Int) ≤ (-100) * ρ 4 + ρ 0 := zAllA hf 40
  have f42 : (0 : Int) ≤ 10 * ρ 3 + -ρ 0 + 9 := zAllA hf 42
  have f43 : (0 : Int) ≤ (-10) * ρ 3 + ρ 0 := zAllA hf 43
  have f44 : (0 : Int) ≤ ρ 2 + -ρ 0 := zAllA hf 44
  have f45 : (0 : Int) ≤ -ρ 2 + ρ 0 := zAllA hf 45
  obtain ⟨w_0, w_1, w_2, w_3, w_4, w_5, w_6, w_7, w_8, w_9, w_10, w_11, w_12, w_13, w_14, w_15, w_16, w_17, w_18, w_19, w_20, w_21, w_22, w_23, w_24⟩ : (ρ 0 ≥ 0) ∧ ((ρ 0) / 1 = ρ 2) ∧ (¬ (ρ 2 ≤ 9)) ∧ ((ρ 0) / 10 = ρ 3) ∧ (¬ (ρ 3 ≤ 9)) ∧ ((ρ 0) / 100 = ρ 4) ∧ (¬ (ρ 4 ≤ 9)) ∧ ((ρ 0) / 1000 = ρ 5) ∧ (¬ (ρ 5 ≤ 9)) ∧ ((ρ 0) / 10000 = ρ 6) ∧ (¬ (ρ 6 ≤ 9)) ∧ ((ρ 0) / 100000 = ρ 7) ∧ (¬ (ρ 7 ≤ 9)) ∧ ((ρ 0) / 1000000 = ρ 8) ∧ (¬ (ρ 8 ≤ 9)) ∧ ((ρ 0) / 10000000 = ρ 9) ∧ (ρ 9 ≤ 9) ∧ ((ρ 0) / 10000000 = ρ 10) ∧ ((ρ 0) / 1000000 = ρ 14) ∧ ((ρ 0) / 100000 = ρ 18) ∧ ((ρ 0) / 10000 = ρ 22) ∧ ((ρ 0) / 1000 = ρ 26) ∧ ((ρ 0) / 100 = ρ 30) ∧ ((ρ 0) / 10 = ρ 34) ∧ ((ρ 0) / 1 = ρ 38) := ⟨by clear r2 r3 r4 r5 r6 r7 r8 r9 f0 f1 f3 f4 f6 f7 f9 f10 f12 f13 f15 f16 f18 f19 f21 f22 f24 f25 f27 f28 f30 f31 f33 f34 f36 f37 f39 f40 f42 f43 f44 f45; omega, by clear r0 r2 r3 r4 r5 r6 r7 r8 r9 f0 f1 f3 f4 f6 f7 f9 f10 f12 f13 f15 f16 f18 f19 f21 f22 f24 f25 f27 f28 f30 f31 f33 f34 f36 f37 f39 f40 f42 f43; omega, by clear r0 r3 r4 r5 r6 r7 r8 r9 f0 f1 f3 f4 f6 f7 f9 f10 f12 f13 f15 f16 f18 f19 f21 f22 f24 f25 f27 f28 f30 f31 f33 f34 f36 f37 f39 f40 f42 f43 f44 f45; omega, by clear r0 r2 r3 r4 r5 r6 r7 r8 r9 f0 f1 f3 f4 f6 f7 f9 f10 f12 f13 f15 f16 f18 f19 f21 f22 f24 f25 f27 f28 f30 f31 f33 f34 f36 f37 f39 f40 f44 f45; omega, by clear r0 r2 r4 r5 r6 r7 r8 r9 f0 f1 f3 f4 f6 f7 f9 f10 f12 f13 f15 f16 f18 f19 f21 f22 f24 f25 f27 f28 f30 f31 f33 f34 f36 f37 f39 f40 f42 f43 f44 f45; omega, by clear r0 r2 r3 r4 r5 r6 r7 r8 r9 f0 f1 f3 f4 f6 f7 f9 f10 f12 f13 f15 f16 f18 f19 f21 f22 f24 f25 f27 f28 f30 f31 f33 f34 f36 f37 f42 f43 f44 f45; omega, by clear r0 r2 r3 r5 r6 r7 r8 r9 f0 f1 f3 f4 f6 f7 f9 f10 f12 f13 f15 f16 f18 f19 f21 f22 f24 f25 f27 f28 f30 f31 f33 f34 f36 f37 f39 f40 f42 f43 f44 f45; omega, by clear r0 r2 r3 r4 r5 r6 r7 r8 r9 f0 f1 f3 f4 f6 f7 f9 f10 f12 f13 f15 f16 f18 f19 f21 f22 f24 f25 f27 f28 f30 f31 f33 f34 f39 f40 f42 f43 f44 f45; omega, by clear r0 r2 r3 r4 r6 r7 r8 r9 f0 f1 f3 f4 f6 f7 f9 f10 f12 f13 f15 f16 f18 f19 f21 f22 f24 f25 f27 f28 f30 f31 f33 f34 f36 f37 f39 f40 f42 f43 f44 f45; omega, by clear r0 r2 r3 r4 r5 r6 r7 r8 r9 f0 f1 f3 f4 f6 f7 f9 f10 f12 f13 f15 f16 f18 f19 f21 f22 f24 f25 f27 f28 f30 f31 f36 f37 f39 f40 f42 f43 f44 f45; omega, by clear r0 r2 r3 r4 r5 r7 r8 r9 f0 f1 f3 f4 f6 f7 f9 f10 f12 f13 f15 f16 f18 f19 f21 f22 f24 f25 f27 f28 f30 f31 f33 f34 f36 f37 f39 f40 f42 f43 f44 f45; omega, by clear r0 r2 r3 r4 r5 r6 r7 r8 r9 f0 f1 f3 f4 f6 f7 f9 f10 f12 f13 f15 f16 f18 f19 f21 f22 f24 f25 f27 f28 f33 f34 f36 f37 f39 f40 f42 f43 f44 f45; omega, by clear r0 r2 r3 r4 r5 r6 r8 r9 f0 f1 f3 f4 f6 f7 f9 f10 f12 f13 f15 f16 f18 f19 f21 f22 f24 f25 f27 f28 f30 f31 f33 f34 f36 f37 f39 f40 f42 f43 f44 f45; omega, by clear r0 r2 r3 r4 r5 r6 r7 r8 r9 f0 f1 f3 f4 f6 f7 f9 f10 f12 f13 f15 f16 f18 f19 f21 f22 f24 f25 f30 f31 f33 f34 f36 f37 f39 f40 f42 f43 f44 f45; omega, by clear r0 r2 r3 r4 r5 r6 r7 r9 f0 f1 f3 f4 f6 f7 f9 f10 f12 f13 f15 f16 f18 f19 f21 f22 f24 f25 f27 f28 f30 f31 f33 f34 f36 f37 f39 f40 f42 f43 f44 f45; omega, by clear r0 r2 r3 r4 r5 r6 r7 r8 r9 f0 f1 f3 f4 f6 f7 f9 f10 f12 f13 f15 f16 f18 f19 f21 f22 f27 f28 f30 f31 f33 f34 f36 f37 f39 f40 f42 f43 f44 f45; omega, by clear r0 r2 r3 r4 r5 r6 r7 r8 f0 f1 f3 f4 f6 f7 f9 f10 f12 f13 f15 f16 f18 f19 f21 f22 f24 f25 f27 f28 f30 f31 f33 f34 f36 f37 f39 f40 f42 f43 f44 f45; omega, by clear r0 r2 r3 r4 r5 r6 r7 r8 r9 f0 f1 f3 f4 f6 f7 f9 f10 f12 f13 f15 f16 f18 f19 f24 f25 f27 f28 f30 f31 f33 f34 f36 f37 f39 f40 f42 f43 f44 f45; omega, by clear r0 r2 r3 r4 r5 r6 r7 r8 r9 f0 f1 f3 f4 f6 f7 f9 f10 f12 f13 f15 f16 f21 f22 f24 f25 f27 f28 f30 f31 f33 f34 f36 f37 f39 f40 f42 f43 f44 f45; omega, by clear r0 r2 r3 r4 r5 r6 r7 r8 r9 f0 f1 f3 f4 f6 f7 f9 f10 f12 f13 f18 f19 f21 f22 f24 f25 f27 f28 f30 f31 f33 f34 f36 f37 f39 f40 f42 f43 f44 f45; omega, by clear r0 r2 r3 r4 r5 r6 r7 r8 r9 f0 f1 f3 f4 f6 f7 f9 f10 f15 f16 f18 f19 f21 f22 f24 f25 f27 f28 f30 f31 f33 f34 f36 f37 f39 f40 f42 f43 f44 f45; omega, by clear r0 r2 r3 r4 r5 r6 r7 r8 r9 f0 f1 f3 f4 f6 f7 f12 f13 f15 f16 f18 f19 f21 f22 f24 f25 f27 f28 f30 f31 f33 f34 f36 f37 f39 f40 f42 f43 f44 f45; omega, by clear r0 r2 r3 r4 r5 r6 r7 r8 r9 f0 f1 f3 f4 f9 f10 f12 f13 f15 f16 f18 f19 f21 f22 f24 f25 f27 f28 f30 f31 f33 f34 f36 f37 f39 f40 f42 f43 f44 f45; omega, by clear r0 r2 r3 r4 r5 r6 r7 r8 r9 f0 f1 f6 f7 f9 f10 f12 f13 f15 f16 f18 f19 f21 f22 f24 f25 f27 f28 f30 f31 f33 f34 f36 f37 f39 f40 f42 f43 f44 f45; omega, by clear r0 r2 r3 r4 r5 r6 r7 r8 r9 f3 f4 f6 f7 f9 f10 f12 f13 f15 f16 f18 f19 f21 f22 f24 f25 f27 f28 f30 f31 f33 f34 f36 f37 f39 f40 f42 f43 f44 f45; omega⟩
  have l0 : zOpP (.lrem) (γ 0) (γ 1) [ρ 10, 10] (ρ 11) := zAllA hl 0
  have l1 : zOpP (.ladd) (γ 0) (γ 1) [48, ρ 11] (ρ 12) := zAllA hl 1
  have l2 : zOpP (.l2i) (γ 0) (γ 1) [ρ 12] (ρ 13) := zAllA hl 2
  have l3 : sn87 [ρ 13, ρ 1] (γ 0) 0 0 (γ 1) := hS87 _ _ _ _ _ (zAllA hl 3)
  have l4 : zOpP (.lrem) (γ 0) (γ 1) [ρ 14, 10] (ρ 15) := zAllA hl 4
  have l5 : zOpP (.ladd) (γ 0) (γ 1) [48, ρ 15] (ρ 16) := zAllA hl 5
  have l6 : zOpP (.l2i) (γ 0) (γ 1) [ρ 16] (ρ 17) := zAllA hl 6
  have l7 : sn87 [ρ 17, ρ 1 + 1] (γ 1) 0 0 (γ 2) := hS87 _ _ _ _ _ (zAllA hl 7)
  have l8 : zOpP (.lrem) (γ 0) (γ 1) [ρ 18, 10] (ρ 19) := zAllA hl 8
  have l9 : zOpP (.ladd) (γ 0) (γ 1) [48, ρ 19] (ρ 20) := zAllA hl 9
  have l10 : zOpP (.l2i) (γ 0) (γ 1) [ρ 20] (ρ 21) := zAllA hl 10
  have l11 : sn87 [ρ 21, ρ 1 + 2] (γ 2) 0 0 (γ 3) := hS87 _ _ _ _ _ (zAllA hl 11)
  have l12 : zOpP (.lrem) (γ 0) (γ 1) [ρ 22, 10] (ρ 23) := zAllA hl 12
  have l13 : zOpP (.ladd) (γ 0) (γ 1) [48, ρ 23] (ρ 24) := zAllA hl 13
  have l14 : zOpP (.l2i) (γ 0) (γ 1) [ρ 24] (ρ 25) := zAllA hl 14
  have l15 : sn87 [ρ 25, ρ 1 + 3] (γ 3) 0 0 (γ 4) := hS87 _ _ _ _ _ (zAllA hl 15)
  have l16 : zOpP (.lrem) (γ 0) (γ 1) [ρ 26, 10] (ρ 27) := zAllA hl 16
  have l17 : zOpP (.ladd) (γ 0) (γ 1) [48, ρ 27] (ρ 28) := zAllA hl 17
  have l18 : zOpP (.l2i) (γ 0) (γ 1) [ρ 28] (ρ 29) := zAllA hl 18
  have l19 : sn87 [ρ 29, ρ 1 + 4] (γ 4) 0 0 (γ 5) := hS87 _ _ _ _ _ (zAllA hl 19)
  have l20 : zOpP (.lrem) (γ 0) (γ 1) [ρ 30, 10] (ρ 31) := zAllA hl 20
  have l21 : zOpP (.ladd) (γ 0) (γ 1) [48, ρ 31] (ρ 32) := zAllA hl 21
  have l22 : zOpP (.l2i) (γ 0) (γ 1) [ρ 32] (ρ 33) := zAllA hl 22
  have l23 : sn87 [ρ 33, ρ 1 + 5] (γ 5) 0 0 (γ 6) := hS87 _ _ _ _ _ (zAllA hl 23)
  have l24 : zOpP (.lrem) (γ 0) (γ 1) [ρ 34, 10] (ρ 35) := zAllA hl 24
  have l25 : zOpP (.ladd) (γ 0) (γ 1) [48, ρ 35] (ρ 36) := zAllA hl 25
  have l26 : zOpP (.l2i) (γ 0) (γ 1) [ρ 36] (ρ 37) := zAllA hl 26
  have l27 : sn87 [ρ 37, ρ 1 + 6] (γ 6) 0 0 (γ 7) := hS87 _ _ _ _ _ (zAllA hl 27)
  have l28 : zOpP (.lrem) (γ 0) (γ 1) [ρ 38, 10] (ρ 39) := zAllA hl 28
  have l29 : zOpP (.ladd) (γ 0) (γ 1) [48, ρ 39] (ρ 40) := zAllA hl 29
  have l30 : zOpP (.l2i) (γ 0) (γ 1) [ρ 40] (ρ 41) := zAllA hl 30
  have l31 : sn87 [ρ 41, ρ 1 + 7] (γ 7) 0 0 (γ 8) := hS87 _ _ _ _ _ (zAllA hl 31)
  show sn88 [ρ 0, ρ 1] (γ 0) 0 0 (γ 8)
  refine Eq.symm ?_
  show fn88 [ρ 0] (γ 0) = _
  unfold fn88
  refine zLV (ρ 0) rfl (zIP w_0 (zLE w_1 (zIN w_2 (zLE w_3 (zIN w_4 (zLE w_5 (zIN w_6 ?_)))))))
  refine zLE w_7 (zIN w_8 (zLE w_9 (zIN w_10 (zLE w_11 (zIN w_12 (zLE w_13 (zIN w_14 ?_)))))))
  refine zLE w_15 (zIP w_16 (zLE w_17 (zLE (zF2_ok l0) (zLE (zF2_ok l1) (zLE (zF1_ok l2) (zLE (show fn87 [ρ 13] (γ 0) = (0, 0, γ 1) from l3.symm) (zLV (γ 1) rfl ?_)))))))
  refine zLE w_18 (zLE (zF2_ok l4) (zLE (zF2_ok l5) (zLE (zF1_ok l6) (zLE (show fn87 [ρ 17] (γ 1) = (0, 0, γ 2) from l7.symm) (zLV (γ 2) rfl (zLE w_19 (zLE (zF2_ok l8) ?_)))))))
  refine zLE (zF2_ok l9) (zLE (zF1_ok l10) (zLE (show fn87 [ρ 21] (γ 2) = (0, 0, γ 3) from l11.symm) (zLV (γ 3) rfl (zLE w_20 (zLE (zF2_ok l12) (zLE (zF2_ok l13) (zLE (zF1_ok l14) ?_)))))))
  refine zLE (show fn87 [ρ 25] (γ 3) = (0, 0, γ 4) from l15.symm) (zLV (γ 4) rfl (zLE w_21 (zLE (zF2_ok l16) (zLE (zF2_ok l17) (zLE (zF1_ok l18) (zLE (show fn87 [ρ 29] (γ 4) = (0, 0, γ 5) from l19.symm) (zLV (γ 5) rfl ?_)))))))
  refine zLE w_22 (zLE (zF2_ok l20) (zLE (zF2_ok l21) (zLE (zF1_ok l22) (zLE (show fn87 [ρ 33] (γ 5) = (0, 0, γ 6) from l23.symm) (zLV (γ 6) rfl (zLE w_23 (zLE (zF2_ok l24) ?_)))))))
  refine zLE (zF2_ok l25) (zLE (zF1_ok l26) (zLE (show fn87 [ρ 37] (γ 6) = (0, 0, γ 7) from l27.symm) (zLV (γ 7) rfl (zLE w_24 (zLE (zF2_ok l28) (zLE (zF2_ok l29) (zLE (zF1_ok l30) ?_)))))))
  refine zLE (show fn87 [ρ 41] (γ 7) = (0, 0, γ 8) from l31.symm) (zLV (γ 8) rfl ?_)
  rfl
set_option maxRecDepth 100000 in
theorem vn88_8 {S : Nat → zSpc} (hS87 : zIm S 87 sn87) {a : List Int} {g : rHp} : ∀ (ρ : Nat → Int) (γ : Nat → rHp), zO 2 S a g q88_8 ρ γ → zGl (fun _ _ _ => True) (sn88 a g) q88_8 ρ γ := by
  intro ρ γ h
  obtain ⟨ha, hg, hr, hf, hm, hc, hl⟩ := h
  have ha : a = [ρ 0, ρ 1] := ha
  subst ha
  subst hg
  have r0 : (0 : Int) ≤ ρ 0 ∧ ρ 0 ≤ 549755813887 := zRnA hr 0
  have r2 : (10 : Int) ≤ ρ 2 ∧ ρ 2 ≤ 549755813887 := zRnA hr 2
  have r3 : (10 : Int) ≤ ρ 3 ∧ ρ 3 ≤ 54975581388 := zRnA hr 3
  have r4 : (10 : Int) ≤ ρ 4 ∧ ρ 4 ≤ 5497558138 := zRnA hr 4
  have r5 : (10 : Int) ≤ ρ 5 ∧ ρ 5 ≤ 549755813 := zRnA hr 5
  have r6 : (10 : Int) ≤ ρ 6 ∧ ρ 6 ≤ 54975581 := zRnA hr 6
  have r7 : (10 : Int) ≤ ρ 7 ∧ ρ 7 ≤ 5497558 := zRnA hr 7
  have r8 : (10 : Int) ≤ ρ 8 ∧ ρ 8 ≤ 549755 := zRnA hr 8
  have r9 : (10 : Int) ≤ ρ 9 ∧ ρ 9 ≤ 54975 := zRnA hr 9
  have r10 : (0 : Int) ≤ ρ 10 ∧ ρ 10 ≤ 9 := zRnA hr 10
  have f0 : (0 : Int) ≤ ρ 43 + -ρ 0 := zAllA hf 0
  have f1 : (0 : Int) ≤ -ρ 43 + ρ 0 := zAllA hf 1
  have f3 : (0 : Int) ≤ 10 * ρ 39 + -ρ 0 + 9 := zAllA hf 3
  have f4 : (0 : Int) ≤ (-10) * ρ 39 + ρ 0 := zAllA hf 4
  have f6 : (0 : Int) ≤ 100 * ρ 35 + -ρ 0 + 99 := zAllA hf 6
  have f7 : (0 : Int) ≤ (-100) * ρ 35 + ρ 0 := zAllA hf 7
  have f9 : (0 : Int) ≤ 1000 * ρ 31 + -ρ 0 + 999 := zAllA hf 9
  have f10 : (0 : Int) ≤ (-1000) * ρ 31 + ρ 0 := zAllA hf 10
  have f12 : (0 : Int) ≤ 10000 * ρ 27 + -ρ 0 + 9999 := zAllA hf 12
  have f13 : (0 : Int) ≤ (-10000) * ρ 27 + ρ 0 := zAllA hf 13
  have f15 : (0 : Int) ≤ 100000 * ρ 23 + -ρ 0 + 99999 := zAllA hf 15
  have f16 : (0 : Int) ≤ (-100000) * ρ 23 + ρ 0 := zAllA hf 16
  have f18 : (0 : Int) ≤ 1000000 * ρ 19 + -ρ 0 + 999999 := zAllA hf 18
  have f19 : (0 : Int) ≤ (-1000000) * ρ 19 + ρ 0 := zAllA hf 19
  have f21 : (0 : Int) ≤ 10000000 * ρ 15 + -ρ 0 + 9999999 := zAllA hf 21
  have f22 : (0 : Int) ≤ (-10000000) * ρ 15 + ρ 0 := zAllA hf 22
  have f24 : (0 : Int) ≤ 100000000 * ρ 11 + -ρ 0 + 99999999 := zAllA hf 24
  have f25 : (0 : Int) ≤ (-100000000) * ρ 11 + ρ 0 := zAllA hf 25
  have f27 : (0 : Int) ≤ 100000000 * ρ 10 + -ρ 0 + 99999999 := zAllA hf 27
  have f28 : (0 : Int) ≤ (-100000000) * ρ 10 + ρ 0 := zAllA hf 28
  have f30 : (0 : Int) ≤ 10000000 * ρ 9 + -ρ 0 + 9999999 := zAllA hf 30
  have f31 : (0 : Int) ≤ (-10000000) * ρ 9 + ρ 0 := zAllA hf 31
  have f33 : (0 : Int) ≤ 1000000 * ρ 8 + -ρ 0 + 999999 := zAllA hf 33
  have f34 : (0 : Int) ≤ (-1000000) * ρ 8 + ρ 0 := zAllA hf 34
  have f36 : (0 : Int) ≤ 100000 * ρ 7 + -ρ 0 + 99999 := zAllA hf 36
  have f37 : (0 : Int) ≤ (-100000) * ρ 7 + ρ 0 := zAllA hf 37
  have f39 : (0 : Int) ≤ 10000 * ρ 6 + -ρ 0 + 9999 := zAllA hf 39
  have f40 : (0 : Int) ≤ (-10000) * ρ 6 + ρ 0 := zAllA hf 40
  have f42 : (0 : Int) ≤ 1000 * ρ 5 + -ρ 0 + 999 := zAllA hf 42
  have f43 : (0 : Int) ≤ (-1000) * ρ 5 + ρ 0 := zAllA hf 43
  have f45 : (0 : Int) ≤ 100 * ρ 4 + -ρ 0 + 99 := zAllA hf 45
  have f46 : (0 : Int) ≤ (-100) * ρ 4 + ρ 0 := zAllA hf 46
  have f48 : (0 : Int) ≤ 10 * ρ 3 + -ρ 0 + 9 := zAllA hf 48
  have f49 : (0 : Int) ≤ (-10) * ρ 3 + ρ 0 := zAllA hf 49
  have f50 : (0 : Int) ≤ ρ 2 + -ρ 0 := zAllA hf 50
  have f51 : (0 : Int) ≤ -ρ 2 + ρ 0 := zAllA hf 51
  obtain ⟨w_0, w_1, w_2, w_3, w_4, w_5, w_6, w_7, w_8, w_9, w_10, w_11, w_12, w_13, w_14, w_15, w_16, w_17, w_18, w_19, w_20, w_21, w_22, w_23, w_24, w_25, w_26, w_27⟩ : (ρ 0 ≥ 0) ∧ ((ρ 0) / 1 = ρ 2) ∧ (¬ (ρ 2 ≤ 9)) ∧ ((ρ 0) / 10 = ρ 3) ∧ (¬ (ρ 3 ≤ 9)) ∧ ((ρ 0) / 100 = ρ 4) ∧ (¬ (ρ 4 ≤ 9)) ∧ ((ρ 0) / 1000 = ρ 5) ∧ (¬ (ρ 5 ≤ 9)) ∧ ((ρ 0) / 10000 = ρ 6) ∧ (¬ (ρ 6 ≤ 9)) ∧ ((ρ 0) / 100000 = ρ 7) ∧ (¬ (ρ 7 ≤ 9)) ∧ ((ρ 0) / 1000000 = ρ 8) ∧ (¬ (ρ 8 ≤ 9)) ∧ ((ρ 0) / 10000000 = ρ 9) ∧ (¬ (ρ 9 ≤ 9)) ∧ ((ρ 0) / 100000000 = ρ 10) ∧ (ρ 10 ≤ 9) ∧ ((ρ 0) / 100000000 = ρ 11) ∧ ((ρ 0) / 10000000 = ρ 15) ∧ ((ρ 0) / 1000000 = ρ 19) ∧ ((ρ 0) / 100000 = ρ 23) ∧ ((ρ 0) / 10000 = ρ 27) ∧ ((ρ 0) / 1000 = ρ 31) ∧ ((ρ 0) / 100 = ρ 35) ∧ ((ρ 0) / 10 = ρ 39) ∧ ((ρ 0) / 1 = ρ 43) := ⟨by clear r2 r3 r4 r5 r6 r7 r8 r9 r10 f0 f1 f3 f4 f6 f7 f9 f10 f12 f13 f15 f16 f18 f19 f21 f22 f24 f25 f27 f28 f30 f31 f33 f34 f36 f37 f39 f40 f42 f43 f45 f46 f48 f49 f50 f51; omega, by clear r0 r2 r3 r4 r5 r6 r7 r8 r9 r10 f0 f1 f3 f4 f6 f7 f9 f10 f12 f13 f15 f16 f18 f19 f21 f22 f24 f25 f27 f28 f30 f31 f33 f34 f36 f37 f39 f40 f42 f43 f45 f46 f48 f49; omega, by clear r0 r3 r4 r5 r6 r7 r8 r9 r10 f0 f1 f3 f4 f6 f7 f9 f10 f12 f13 f15 f16 f18 f19 f21 f22 f24 f25 f27 f28 f30 f31 f33 f34 f36 f37 f39 f40 f42 f43 f45 f46 f48 f49 f50 f51; omega, by clear r0 r2 r3 r4 r5 r6 r7 r8 r9 r10 f0 f1 f3 f4 f6 f7 f9 f10 f12 f13 f15 f16 f18 f19 f21 f22 f24 f25 f27 f28 f30 f31 f33 f34 f36 f37 f39 f40 f42 f43 f45 f46 f50 f51; omega, by clear r0 r2 r4 r5 r6 r7 r8 r9 r10 f0 f1 f3 f4 f6 f7 f9 f10 f12 f13 f15 f16 f18 f19 f21 f22 f24 f25 f27 f28 f30 f31 f33 f34 f36 f37 f39 f40 f42 f43 f45 f46 f48 f49 f50 f51; omega, by clear r0 r2 r3 r4 r5 r6 r7 r8 r9 r10 f0 f1 f3 f4 f6 f7 f9 f10 f12 f13 f15 f16 f18 f19 f21 f22 f24 f25 f27 f28 f30 f31 f33 f34 f36 f37 f39 f40 f42 f43 f48 f49 f50 f51; omega, by clear r0 r2 r3 r5 r6 r7 r8 r9 r10 f0 f1 f3 f4 f6 f7 f9 f10 f12 f13 f15 f16 f18 f19 f21 f22 f24 f25 f27 f28 f30 f31 f33 f34 f36 f37 f39 f40 f42 f43 f45 f46 f48 f49 f50 f51; omega, by clear r0 r2 r3 r4 r5 r6 r7 r8 r9 r10 f0 f1 f3 f4 f6 f7 f9 f10 f12 f13 f15 f16 f18 f19 f21 f22 f24 f25 f27 f28 f30 f31 f33 f34 f36 f37 f39 f40 f45 f46 f48 f49 f50 f51; omega, by clear r0 r2 r3 r4 r6 r7 r8 r9 r10 f0 f1 f3 f4 f6 f7 f9 f10 f12 f13 f15 f16 f18 f19 f21 f22 f24 f25 f27 f28 f30 f31 f33 f34 f36 f37 f39 f40 f42 f43 f45 f46 f48 f49 f50 f51; omega, by clear r0 r2 r3 r4 r5 r6 r7 r8 r9 r10 f0 f1 f3 f4 f6 f7 f9 f10 f12 f13 f15 f16 f18 f19 f21 f22 f24 f25 f27 f28 f30 f31 f33 f34 f36 f37 f42 f43 f45 f46 f48 f49 f50 f51; omega, by clear r0 r2 r3 r4 r5 r7 r8 r9 r10 f0 f1 f3 f4 f6 f7 f9 f10 f12 f13 f15 f16 f18 f19 f21 f22 f24 f25 f27 f28 f30 f31 f33 f34 f36 f37 f39 f40 f42 f43 f45 f46 f48 f49 f50 f51; omega, by clear r0 r2 r3 r4 r5 r6 r7 r8 r9 r10 f0 f1 f3 f4 f6 f7 f9 f10 f12 f13 f15 f16 f18 f19 f21 f22 f24 f25 f27 f28 f30 f31 f33 f34 f39 f40 f42 f43 f45 f46 f48 f49 f50 f51; omega, by clear r0 r2 r3 r4 r5 r6 r8 r9 r10 f0 f1 f3 f4 f6 f7 f9 f10 f12 f13 f15 f16 f18 f19 f21 f22 f24 f25 f27 f28 f30 f31 f33 f34 f36 f37 f39 f40 f42 f43 f45 f46 f48 f49 f50 f51; omega, by clear r0 r2 r3 r4 r5 r6 r7 r8 r9 r10 f0 f1 f3 f4 f6 f7 f9 f10 f12 f13 f15 f16 f18 f19 f21 f22 f24 f25 f27 f28 f30 f31 f36 f37 f39 f40 f42 f43 f45 f46 f48 f49 f50 f51; omega, by clear r0 r2 r3 r4 r5 r6 r7 r9 r10 f0 f1 f3 f4 f6 f7 f9 f10 f12 f13 f15 f16 f18 f19 f21 f22 f24 f25 f27 f28 f30 f31 f33 f34 f36 f37 f39 f40 f42 f43 f45 f46 f48 f49 f50 f51; omega, by clear r0 r2 r3 r4 r5 r6 r7 r8 r9 r10 f0 f1 f3 f4 f6 f7 f9 f10 f12 f13 f15 f16 f18 f19 f21 f22 f24 f25 f27 f28 f33 f34 f36 f37 f39 f40 f42 f43 f45 f46 f48 f49 f50 f51; omega, by clear r0 r2 r3 r4 r5 r6 r7 r8 r10 f0 f1 f3 f4 f6 f7 f9 f10 f12 f13 f15 f16 f18 f19 f21 f22 f24 f25 f27 f28 f30 f31 f33 f34 f36 f37 f39 f40 f42 f43 f45 f46 f48 f49 f50 f51; omega, by clear r0 r2 r3 r4 r5 r6 r7 r8 r9 r10 f0 f1 f3 f4 f6 f7 f9 f10 f12 f13 f15 f16 f18 f19 f21 f22 f24 f25 f30 f31 f33 f34 f36 f37 f39 f40 f42 f43 f45 f46 f48 f49 f50 f51; omega, by clear r0 r2 r3 r4 r5 r6 r7 r8 r9 f0 f1 f3 f4 f6 f7 f9 f10 f12 f13 f15 f16 f18 f19 f21 f22 f24 f25 f27 f28 f30 f31 f33 f34 f36 f37 f39 f40 f42 f43 f45 f46 f48 f49 f50 f51; omega, by clear r0 r2 r3 r4 r5 r6 r7 r8 r9 r10 f0 f1 f3 f4 f6 f7 f9 f10 f12 f13 f15 f16 f18 f19 f21 f22 f27 f28 f30 f31 f33 f34 f36 f37 f39 f40 f42 f43 f45 f46 f48 f49 f50 f51; omega, by clear r0 r2 r3 r4 r5 r6 r7 r8 r9 r10 f0 f1 f3 f4 f6 f7 f9 f10 f12 f13 f15 f16 f18 f19 f24 f25 f27 f28 f30 f31 f33 f34 f36 f37 f39 f40 f42 f43 f45 f46 f48 f49 f50 f51; omega, by clear r0 r2 r3 r4 r5 r6 r7 r8 r9 r10 f0 f1 f3 f4 f6 f7 f9 f10 f12 f13 f15 f16 f21 f22 f24 f25 f27 f28 f30 f31 f33 f34 f36 f37 f39 f40 f42 f43 f45 f46 f48 f49 f50 f51; omega, by clear r0 r2 r3 r4 r5 r6 r7 r8 r9 r10 f0 f1 f3 f4 f6 f7 f9 f10 f12 f13 f18 f19 f21 f22 f24 f25 f27 f28 f30 f31 f33 f34 f36 f37 f39 f40 f42 f43 f45 f46 f48 f49 f50 f51; omega, by clear r0 r2 r3 r4 r5 r6 r7 r8 r9 r10 f0 f1 f3 f4 f6 f7 f9 f10 f15 f16 f18 f19 f21 f22 f24 f25 f27 f28 f30 f31 f33 f34 f36 f37 f39 f40 f42 f43 f45 f46 f48 f49 f50 f51; omega, by clear r0 r2 r3 r4 r5 r6 r7 r8 r9 r10 f0 f1 f3 f4 f6 f7 f12 f13 f15 f16 f18 f19 f21 f22 f24 f25 f27 f28 f30 f31 f33 f34 f36 f37 f39 f40 f42 f43 f45 f46 f48 f49 f50 f51; omega, by clear r0 r2 r3 r4 r5 r6 r7 r8 r9 r10 f0 f1 f3 f4 f9 f10 f12 f13 f15 f16 f18 f19 f21 f22 f24 f25 f27 f28 f30 f31 f33 f34 f36 f37 f39 f40 f42 f43 f45 f46 f48 f49 f50 f51; omega, by clear r0 r2 r3 r4 r5 r6 r7 r8 r9 r10 f0 f1 f6 f7 f9 f10 f12 f13 f15 f16 f18 f19 f21 f22 f24 f25 f27 f28 f30 f31 f33 f34 f36 f37 f39 f40 f42 f43 f45 f46 f48 f49 f50 f51; omega, by clear r0 r2 r3 r4 r5 r6 r7 r8 r9 r10 f3 f4 f6 f7 f9 f10 f12 f13 f15 f16 f18 f19 f21 f22 f24 f25 f27 f28 f30 f31 f33 f34 f36 f37 f39 f40 f42 f43 f45 f46 f48 f49 f50 f51; omega⟩
  have l0 : zOpP (.lrem) (γ 0) (γ 1) [ρ 11, 10] (ρ 12) := zAllA hl 0
  have l1 : zOpP (.ladd) (γ 0) (γ 1) [48, ρ 12] (ρ 13) := zAllA hl 1
  have l2 : zOpP (.l2i) (γ 0) (γ 1) [ρ 13] (ρ 14) := zAllA hl 2
  have l3 : sn87 [ρ 14, ρ 1] (γ 0) 0 0 (γ 1) := hS87 _ _ _ _ _ (zAllA hl 3)
  have l4 : zOpP (.lrem) (γ 0) (γ 1) [ρ 15, 10] (ρ 16) := zAllA hl 4
  have l5 : zOpP (.ladd) (γ 0) (γ 1) [48, ρ 16] (ρ 17) := zAllA hl 5
  have l6 : zOpP (.l2i) (γ 0) (γ 1) [ρ 17] (ρ 18) := zAllA hl 6
  have l7 : sn87 [ρ 18, ρ 1 + 1] (γ 1) 0 0 (γ 2) := hS87 _ _ _ _ _ (zAllA hl 7)
  have l8 : zOpP (.lrem) (γ 0) (γ 1) [ρ 19, 10] (ρ 20) := zAllA hl 8
  have l9 : zOpP (.ladd) (γ 0) (γ 1) [48, ρ 20] (ρ 21) := zAllA hl 9
  have l10 : zOpP (.l2i) (γ 0) (γ 1) [ρ 21] (ρ 22) := zAllA hl 10
  have l11 : sn87 [ρ 22, ρ 1 + 2] (γ 2) 0 0 (γ 3) := hS87 _ _ _ _ _ (zAllA hl 11)
  have l12 : zOpP (.lrem) (γ 0) (γ 1) [ρ 23, 10] (ρ 24) := zAllA hl 12
  have l13 : zOpP (.ladd) (γ 0) (γ 1) [48, ρ 24] (ρ 25) := zAllA hl 13
  have l14 : zOpP (.l2i) (γ 0) (γ 1) [ρ 25] (ρ 26) := zAllA hl 14
  have l15 : sn87 [ρ 26, ρ 1 + 3] (γ 3) 0 0 (γ 4) := hS87 _ _ _ _ _ (zAllA hl 15)
  have l16 : zOpP (.lrem) (γ 0) (γ 1) [ρ 27, 10] (ρ 28) := zAllA hl 16
  have l17 : zOpP (.ladd) (γ 0) (γ 1) [48, ρ 28] (ρ 29) := zAllA hl 17
  have l18 : zOpP (.l2i) (γ 0) (γ 1) [ρ 29] (ρ 30) := zAllA hl 18
  have l19 : sn87 [ρ 30, ρ 1 + 4] (γ 4) 0 0 (γ 5) := hS87 _ _ _ _ _ (zAllA hl 19)
  have l20 : zOpP (.lrem) (γ 0) (γ 1) [ρ 31, 10] (ρ 32) := zAllA hl 20
  have l21 : zOpP (.ladd) (γ 0) (γ 1) [48, ρ 32] (ρ 33) := zAllA hl 21
  have l22 : zOpP (.l2i) (γ 0) (γ 1) [ρ 33] (ρ 34) := zAllA hl 22
  have l23 : sn87 [ρ 34, ρ 1 + 5] (γ 5) 0 0 (γ 6) := hS87 _ _ _ _ _ (zAllA hl 23)
  have l24 : zOpP (.lrem) (γ 0) (γ 1) [ρ 35, 10] (ρ 36) := zAllA hl 24
  have l25 : zOpP (.ladd) (γ 0) (γ 1) [48, ρ 36] (ρ 37) := zAllA hl 25
  have l26 : zOpP (.l2i) (γ 0) (γ 1) [ρ 37] (ρ 38) := zAllA hl 26
  have l27 : sn87 [ρ 38, ρ 1 + 6] (γ 6) 0 0 (γ 7) := hS87 _ _ _ _ _ (zAllA hl 27)
  have l28 : zOpP (.lrem) (γ 0) (γ 1) [ρ 39, 10] (ρ 40) := zAllA hl 28
  have l29 : zOpP (.ladd) (γ 0) (γ 1) [48, ρ 40] (ρ 41) := zAllA hl 29
  have l30 : zOpP (.l2i) (γ 0) (γ 1) [ρ 41] (ρ 42) := zAllA hl 30
  have l31 : sn87 [ρ 42, ρ 1 + 7] (γ 7) 0 0 (γ 8) := hS87 _ _ _ _ _ (zAllA hl 31)
  have l32 : zOpP (.lrem) (γ 0) (γ 1) [ρ 43, 10] (ρ 44) := zAllA hl 32
  have l33 : zOpP (.ladd) (γ 0) (γ 1) [48, ρ 44] (ρ 45) := zAllA hl 33
  have l34 : zOpP (.l2i) (γ 0) (γ 1) [ρ 45] (ρ 46) := zAllA hl 34
  have l35 : sn87 [ρ 46, ρ 1 + 8] (γ 8) 0 0 (γ 9) := hS87 _ _ _ _ _ (zAllA hl 35)
  show sn88 [ρ 0, ρ 1] (γ 0) 0 0 (γ 9)
  refine Eq.symm ?_
  show fn88 [ρ 0] (γ 0) = _
  unfold fn88
  refine zLV (ρ 0) rfl (zIP w_0 (zLE w_1 (zIN w_2 (zLE w_3 (zIN w_4 (zLE w_5 (zIN w_6 ?_)))))))
  refine zLE w_7 (zIN w_8 (zLE w_9 (zIN w_10 (zLE w_11 (zIN w_12 (zLE w_13 (zIN w_14 ?_)))))))
  refine zLE w_15 (zIN w_16 (zLE w_17 (zIP w_18 (zLE w_19 (zLE (zF2_ok l0) (zLE (zF2_ok l1) (zLE (zF1_ok l2) ?_)))))))
  refine zLE (show fn87 [ρ 14] (γ 0) = (0, 0, γ 1) from l3.symm) (zLV (γ 1) rfl (zLE w_20 (zLE (zF2_ok l4) (zLE (zF2_ok l5) (zLE (zF1_ok l6) (zLE (show fn87 [ρ 18] (γ 1) = (0, 0, γ 2) from l7.symm) (zLV (γ 2) rfl ?_)))))))
  refine zLE w_21 (zLE (zF2_ok l8) (zLE (zF2_ok l9) (zLE (zF1_ok l10) (zLE (show fn87 [ρ 22] (γ 2) = (0, 0, γ 3) from l11.symm) (zLV (γ 3) rfl (zLE w_22 (zLE (zF2_ok l12) ?_)))))))
  refine zLE (zF2_ok l13) (zLE (zF1_ok l14) (zLE (show fn87 [ρ 26] (γ 3) = (0, 0, γ 4) from l15.symm) (zLV (γ 4) rfl (zLE w_23 (zLE (zF2_ok l16) (zLE (zF2_ok l17) (zLE (zF1_ok l18) ?_)))))))
  refine zLE (show fn87 [ρ 30] (γ 4) = (0, 0, γ 5) from l19.symm) (zLV (γ 5) rfl (zLE w_24 (zLE (zF2_ok l20) (zLE (zF2_ok l21) (zLE (zF1_ok l22) (zLE (show fn87 [ρ 34] (γ 5) = (0, 0, γ 6) from l23.symm) (zLV (γ 6) rfl ?_)))))))
  refine zLE w_25 (zLE (zF2_ok l24) (zLE (zF2_ok l25) (zLE (zF1_ok l26) (zLE (show fn87 [ρ 38] (γ 6) = (0, 0, γ 7) from l27.symm) (zLV (γ 7) rfl (zLE w_26 (zLE (zF2_ok l28) ?_)))))))
  refine zLE (zF2_ok l29) (zLE (zF1_ok l30) (zLE (show fn87 [ρ 42] (γ 7) = (0, 0, γ 8) from l31.symm) (zLV (γ 8) rfl (zLE w_27 (zLE (zF2_ok l32) (zLE (zF2_ok l33) (zLE (zF1_ok l34) ?_)))))))
  refine zLE (show fn87 [ρ 46] (γ 8) = (0, 0, γ 9) from l35.symm) (zLV (γ 9) rfl ?_)
  rfl
set_option maxRecDepth 100000 in
theorem vn88_9 {S : Nat → zSpc} (hS87 : zIm S 87 sn87) {a : List Int} {g : rHp} : ∀ (ρ : Nat → Int) (γ : Nat → rHp), zO 2 S a g q88_9 ρ γ → zGl (fun _ _ _ => True) (sn88 a g) q88_9 ρ γ := by
  intro ρ γ h
  obtain ⟨ha, hg, hr, hf, hm, hc, hl⟩ := h
  have ha : a = [ρ 0, ρ 1] := ha
  subst ha
  subst hg
  have r0 : (0 : Int) ≤ ρ 0 ∧ ρ 0 ≤ 549755813887 := zRnA hr 0
  have r2 : (10 : Int) ≤ ρ 2 ∧ ρ 2 ≤ 549755813887 := zRnA hr 2
  have r3 : (10 : Int) ≤ ρ 3 ∧ ρ 3 ≤ 54975581388 := zRnA hr 3
  have r4 : (10 : Int) ≤ ρ 4 ∧ ρ 4 ≤ 5497558138 := zRnA hr 4
  have r5 : (10 : Int) ≤ ρ 5 ∧ ρ 5 ≤ 549755813 := zRnA hr 5
  have r6 : (10 : Int) ≤ ρ 6 ∧ ρ 6 ≤ 54975581 := zRnA hr 6
  have r7 : (10 : Int) ≤ ρ 7 ∧ ρ 7 ≤ 5497558 := zRnA hr 7
  have r8 : (10 : Int) ≤ ρ 8 ∧ ρ 8 ≤ 549755 := zRnA hr 8
  have r9 : (10 : Int) ≤ ρ 9 ∧ ρ 9 ≤ 54975 := zRnA hr 9
  have r10 : (10 : Int) ≤ ρ 10 ∧ ρ 10 ≤ 5497 := zRnA hr 10
  have r11 : (0 : Int) ≤ ρ 11 ∧ ρ 11 ≤ 9 := zRnA hr 11
  have f0 : (0 : Int) ≤ ρ 48 + -ρ 0 := zAllA hf 0
  have f1 : (0 : Int) ≤ -ρ 48 + ρ 0 := zAllA hf 1
  have f3 : (0 : Int) ≤ 10 * ρ 44 + -ρ 0 + 9 := zAllA hf 3
  have f4 : (0 : Int) ≤ (-10) * ρ 44 + ρ 0 := zAllA hf 4
  have f6 : (0 : Int) ≤ 100 * ρ 40 + -ρ 0 + 99 := zAllA hf 6
  have f7 : (0 : Int) ≤ (-100) * ρ 40 + ρ 0 := zAllA hf 7
  have f9 : (0 : Int) ≤ 1000 * ρ 36 + -ρ 0 + 999 := zAllA hf 9
  have f10 : (0 : Int) ≤ (-1000) * ρ 36 + ρ 0 := zAllA hf 10
  have f12 : (0 : Int) ≤ 10000 * ρ 32 + -ρ 0 + 9999 := zAllA hf 12
  have f13 : (0 : Int) ≤ (-10000) * ρ 32 + ρ 0 := zAllA hf 13
  have f15 : (0 : Int) ≤ 100000 * ρ 28 + -ρ 0 + 99999 := zAllA hf 15
  have f16 : (0 : Int) ≤ (-100000) * ρ 28 + ρ 0 := zAllA hf 16
  have f18 : (0 : Int) ≤ 1000000 * ρ 24 + -ρ 0 + 999999 := zAllA hf 18
  have f19 : (0 : Int) ≤ (-1000000) * ρ 24 + ρ 0 := zAllA hf 19
  have f21 : (0 : Int) ≤ 10000000 * ρ 20 + -ρ 0 + 9999999 := zAllA hf 21
  have f22 : (0 : Int) ≤ (-10000000) * ρ 20 + ρ 0 := zAllA hf 22
  have f24 : (0 : Int) ≤ 100000000 * ρ 16 + -ρ 0 + 99999999 := zAllA hf 24
  have f25 : (0 : Int) ≤ (-100000000) * ρ 16 + ρ 0 := zAllA hf 25
  have f27 : (0 : Int) ≤ 1000000000 * ρ 12 + -ρ 0 + 999999999 := zAllA hf 27
  have f28 : (0 : Int) ≤ (-1000000000) * ρ 12 + ρ 0 := zAllA hf 28
  have f30 : (0 : Int) ≤ 1000000000 * ρ 11 + -ρ 0 + 999999999 := zAllA hf 30
  have f31 : (0 : Int) ≤ (-1000000000) * ρ 11 + ρ 0 := zAllA hf 31
  have f33 : (0 : Int) ≤ 100000000 * ρ 10 + -ρ 0 + 99999999 := zAllA hf 33
  have f34 : (0 : Int) ≤ (-100000000) * ρ 10 + ρ 0 := zAllA hf 34
  have f36 : (0 : Int) ≤ 10000000 * ρ 9 + -ρ 0 + 9999999 := zAllA hf 36
  have f37 : (0 : Int) ≤ (-10000000) * ρ 9 + ρ 0 := zAllA hf 37
  have f39 : (0 : Int) ≤ 1000000 * ρ 8 + -ρ 0 + 999999 := zAllA hf 39
  have f40 : (0 : Int) ≤ (-1000000) * ρ 8 + ρ 0 := zAllA hf 40
  have f42 : (0 : Int) ≤ 100000 * ρ 7 + -ρ 0 + 99999 := zAllA hf 42
  have f43 : (0 : Int) ≤ (-100000) * ρ 7 + ρ 0 := zAllA hf 43
  have f45 : (0 : Int) ≤ 10000 * ρ 6 + -ρ 0 + 9999 := zAllA hf 45
  have f46 : (0 : Int) ≤ (-10000) * ρ 6 + ρ 0 := zAllA hf 46
  have f48 : (0 : Int) ≤ 1000 * ρ 5 + -ρ 0 + 999 := zAllA hf 48
  have f49 : (0 : Int) ≤ (-1000) * ρ 5 + ρ 0 := zAllA hf 49
  have f51 : (0 : Int) ≤ 100 * ρ 4 + -ρ 0 + 99 := zAllA hf 51
  have f52 : (0 : Int) ≤ (-100) * ρ 4 + ρ 0 := zAllA hf 52
  have f54 : (0 : Int) ≤ 10 * ρ 3 + -ρ 0 + 9 := zAllA hf 54
  have f55 : (0 : Int) ≤ (-10) * ρ 3 + ρ 0 := zAllA hf 55
  have f56 : (0 : Int) ≤ ρ 2 + -ρ 0 := zAllA hf 56
  have f57 : (0 : Int) ≤ -ρ 2 + ρ 0 := zAllA hf 57
  obtain ⟨w_0, w_1, w_2, w_3, w_4, w_5, w_6, w_7, w_8, w_9, w_10, w_11, w_12, w_13, w_14, w_15, w_16, w_17, w_18, w_19, w_20, w_21, w_22, w_23, w_24, w_25, w_26, w_27, w_28, w_29, w_30⟩ : (ρ 0 ≥ 0) ∧ ((ρ 0) / 1 = ρ 2) ∧ (¬ (ρ 2 ≤ 9)) ∧ ((ρ 0) / 10 = ρ 3) ∧ (¬ (ρ 3 ≤ 9)) ∧ ((ρ 0) / 100 = ρ 4) ∧ (¬ (ρ 4 ≤ 9)) ∧ ((ρ 0) / 1000 = ρ 5) ∧ (¬ (ρ 5 ≤ 9)) ∧ ((ρ 0) / 10000 = ρ 6) ∧ (¬ (ρ 6 ≤ 9)) ∧ ((ρ 0) / 100000 = ρ 7) ∧ (¬ (ρ 7 ≤ 9)) ∧ ((ρ 0) / 1000000 = ρ 8) ∧ (¬ (ρ 8 ≤ 9)) ∧ ((ρ 0) / 10000000 = ρ 9) ∧ (¬ (ρ 9 ≤ 9)) ∧ ((ρ 0) / 100000000 = ρ 10) ∧ (¬ (ρ 10 ≤ 9)) ∧ ((ρ 0) / 1000000000 = ρ 11) ∧ (ρ 11 ≤ 9) ∧ ((ρ 0) / 1000000000 = ρ 12) ∧ ((ρ 0) / 100000000 = ρ 16) ∧ ((ρ 0) / 10000000 = ρ 20) ∧ ((ρ 0) / 1000000 = ρ 24) ∧ ((ρ 0) / 100000 = ρ 28) ∧ ((ρ 0) / 10000 = ρ 32) ∧ ((ρ 0) / 1000 = ρ 36) ∧ ((ρ 0) / 100 = ρ 40) ∧ ((ρ 0) / 10 = ρ 44) ∧ ((ρ 0) / 1 = ρ 48) := ⟨by clear r2 r3 r4 r5 r6 r7 r8 r9 r10 r11 f0 f1 f3 f4 f6 f7 f9 f10 f12 f13 f15 f16 f18 f19 f21 f22 f24 f25 f27 f28 f30 f31 f33 f34 f36 f37 f39 f40 f42 f43 f45 f46 f48 f49 f51 f52 f54 f55 f56 f57; omega, by clear r0 r2 r3 r4 r5 r6 r7 r8 r9 r10 r11 f0 f1 f3 f4 f6 f7 f9 f10 f12 f13 f15 f16 f18 f19 f21 f22 f24 f25 f27 f28 f30 f31 f33 f34 f36 f37 f39 f40 f42 f43 f45 f46 f48 f49 f51 f52 f54 f55; omega, by clear r0 r3 r4 r5 r6 r7 r8 r9 r10 r11 f0 f1 f3 f4 f6 f7 f9 f10 f12 f13 f15 f16 f18 f19 f21 f22 f24 f25 f27 f28 f30 f31 f33 f34 f36 f37 f39 f40 f42 f43 f45 f46 f48 f49 f51 f52 f54 f55 f56 f57; omega, by clear r0 r2 r3 r4 r5 r6 r7 r8 r9 r10 r11 f0 f1 f3 f4 f6 f7 f9 f10 f12 f13 f15 f16 f18 f19 f21 f22 f24 f25 f27 f28 f30 f31 f33 f34 f36 f37 f39 f40 f42 f43 f45 f46 f48 f49 f51 f52 f56 f57; omega, by clear r0 r2 r4 r5 r6 r7 r8 r9 r10 r11 f0 f1 f3 f4 f6 f7 f9 f10 f12 f13 f15 f16 f18 f19 f21 f22 f24 f25 f27 f28 f30 f31 f33 f34 f36 f37 f39 f40 f42 f43 f45 f46 f48 f49 f51 f52 f54 f55 f56 f57; omega, by clear r0 r2 r3 r4 r5 r6 r7 r8 r9 r10 r11 f0 f1 f3 f4 f6 f7 f9 f10 f12 f13 f15 f16 f18 f19 f21 f22 f24 f25 f27 f28 f30 f31 f33 f34 f36 f37 f39 f40 f42 f43 f45 f46 f48 f49 f54 f55 f56 f57; omega, by clear r0 r2 r3 r5 r6 r7 r8 r9 r10 r11 f0 f1 f3 f4 f6 f7 f9 f10 f12 f13 f15 f16 f18 f19 f21 f22 f24 f25 f27 f28 f30 f31 f33 f34 f36 f37 f39 f40 f42 f43 f45 f46 f48 f49 f51 f52 f54 f55 f56 f57; omega, by clear r0 r2 r3 r4 r5 r6 r7 r8 r9 r10 r11 f0 f1 f3 f4 f6 f7 f9 f10 f12 f13 f15 f16 f18 f19 f21 f22 f24 f25 f27 f28 f30 f31 f33 f34 f36 f37 f39 f40 f42 f43 f45 f46 f51 f52 f54 f55 f56 f57; omega, by clear r0 r2 r3 r4 r6 r7 r8 r9 r10 r11 f0 f1 f3 f4 f6 f7 f9 f10 f12 f13 f15 f16 f18 f19 f21 f22 f24 f25 f27 f28 f30 f31 f33 f34 f36 f37 f39 f40 f42 f43 f45 f46 f48 f49 f51 f52 f54 f55 f56 f57; omega, by clear r0 r2 r3 r4 r5 r6 r7 r8 r9 r10 r11 f0 f1 f3 f4 f6 f7 f9 f10 f12 f13 f15 f16 f18 f19 f21 f22 f24 f25 f27 f28 f30 f31 f33 f34 f36 f37 f39 f40 f42 f43 f48 f49 f51 f52 f54 f55 f56 f57; omega, by clear r0 r2 r3 r4 r5 r7 r8 r9 r10 r11 f0 f1 f3 f4 f6 f7 f9 f10 f12 f13 f15 f16 f18 f19 f21 f22 f24 f25 f27 f28 f30 f31 f33 f34 f36 f37 f39 f40 f42 f43 f45 f46 f48 f49 f51 f52 f54 f55 f56 f57; omega, by clear r0 r2 r3 r4 r5 r6 r7 r8 r9 r10 r11 f0 f1 f3 f4 f6 f7 f9 f10 f12 f13 f15 f16 f18 f19 f21 f22 f24 f25 f27 f28 f30 f31 f33 f34 f36 f37 f39 f40 f45 f46 f48 f49 f51 f52 f54 f55 f56 f57; omega, by clear r0 r2 r3 r4 r5 r6 r8 r9 r10 r11 f0 f1 f3 f4 f6 f7 f9 f10 f12 f13 f15 f16 f18 f19 f21 f22 f24 f25 f27 f28 f30 f31 f33 f34 f36 f37 f39 f40 f42 f43 f45 f46 f48 f49 f51 f52 f54 f55 f56 f57; omega, by clear r0 r2 r3 r4 r5 r6 r7 r8 r9 r10 r11 f0 f1 f3 f4 f6 f7 f9 f10 f12 f13 f15 f16 f18 f19 f21 f22 f24 f25 f27 f28 f30 f31 f33 f34 f36 f37 f42 f43 f45 f46 f48 f49 f51 f52 f54 f55 f56 f57; omega, by clear r0 r2 r3 r4 r5 r6 r7 r9 r10 r11 f0 f1 f3 f4 f6 f7 f9 f10 f12 f13 f15 f16 f18 f19 f21 f22 f24 f25 f27 f28 f30 f31 f33 f34 f36 f37 f39 f40 f42 f43 f45 f46 f48 f49 f51 f52 f54 f55 f56 f57; omega, by clear r0 r2 r3 r4 r5 r6 r7 r8 r9 r10 r11 f0 f1 f3 f4 f6 f7 f9 f10 f12 f13 f15 f16 f18 f19 f21 f22 f24 f25 f27 f28 f30 f31 f33 f34 f39 f40 f42 f43 f45 f46 f48 f49 f51 f52 f54 f55 f56 f57; omega, by clear r0 r2 r3 r4 r5 r6 r7 r8 r10 r11 f0 f1 f3 f4 f6 f7 f9 f10 f12 f13 f15 f16 f18 f19 f21 f22 f24 f25 f27 f28 f30 f31 f33 f34 f36 f37 f39 f40 f42 f43 f45 f46 f48 f49 f51 f52 f54 f55 f56 f57; omega, by clear r0 r2 r3 r4 r5 r6 r7 r8 r9 r10 r11 f0 f1 f3 f4 f6 f7 f9 f10 f12 f13 f15 f16 f18 f19 f21 f22 f24 f25 f27 f28 f30 f31 f36 f37 f39 f40 f42 f43 f45 f46 f48 f49 f51 f52 f54 f55 f56 f57; omega, by clear r0 r2 r3 r4 r5 r6 r7 r8 r9 r11 f0 f1 f3 f4 f6 f7 f9 f10 f12 f13 f15 f16 f18 f19 f21 f22 f24 f25 f27 f28 f30 f31 f33 f34 f36 f37 f39 f40 f42 f43 f45 f46 f48 f49 f51 f52 f54 f55 f56 f57; omega, by clear r0 r2 r3 r4 r5 r6 r7 r8 r9 r10 r11 f0 f1 f3 f4 f6 f7 f9 f10 f12 f13 f15 f16 f18 f19 f21 f22 f24 f25 f27 f28 f33 f34 f36 f37 f39 f40 f42 f43 f45 f46 f48 f49 f51 f52 f54 f55 f56 f57; omega, by clear r0 r2 r3 r4 r5 r6 r7 r8 r9 r10 f0 f1 f3 f4 f6 f7 f9 f10 f12 f13 f15 f16 f18 f19 f21 f22 f24 f25 f27 f28 f30 f31 f33 f34 f36 f37 f39 f40 f42 f43 f45 f46 f48 f49 f51 f52 f54 f55 f56 f57; omega, by clear r0 r2 r3 r4 r5 r6 r7 r8 r9 r10 r11 f0 f1 f3 f4 f6 f7 f9 f10 f12 f13 f15 f16 f18 f19 f21 f22 f24 f25 f30 f31 f33 f34 f36 f37 f39 f40 f42 f43 f45 f46 f48 f49 f51 f52 f54 f55 f56 f57; omega, by clear r0 r2 r3 r4 r5 r6 r7 r8 r9 r10 r11 f0 f1 f3 f4 f6 f7 f9 f10 f12 f13 f15 f16 f18 f19 f21 f22 f27 f28 f30 f31 f33 f34 f36 f37 f39 f40 f42 f43 f45 f46 f48 f49 f51 f52 f54 f55 f56 f57; omega, by clear r0 r2 r3 r4 r5 r6 r7 r8 r9 r10 r11 f0 f1 f3 f4 f6 f7 f9 f10 f12 f13 f15 f16 f18 f19 f24 f25 f27 f28 f30 f31 f33 f34 f36 f37 f39 f40 f42 f43 f45 f46 f48 f49 f51 f52 f54 f55 f56 f57; omega, by clear r0 r2 r3 r4 r5 r6 r7 r8 r9 r10 r11 f0 f1 f3 f4 f6 f7 f9 f10 f12 f13 f15 f16 f21 f22 f24 f25 f27 f28 f30 f31 f33 f34 f36 f37 f39 f40 f42 f43 f45 f46 f48 f49 f51 f52 f54 f55 f56 f57; omega, by clear r0 r2 r3 r4 r5 r6 r7 r8 r9 r10 r11 f0 f1 f3 f4 f6 f7 f9 f10 f12 f13 f18 f19 f21 f22 f24 f25 f27 f28 f30 f31 f33 f34 f36 f37 f39 f40 f42 f43 f45 f46 f48 f49 f51 f52 f54 f55 f56 f57; omega, by clear r0 r2 r3 r4 r5 r6 r7 r8 r9 r10 r11 f0 f1 f3 f4 f6 f7 f9 f10 f15 f16 f18 f19 f21 f22 f24 f25 f27 f28 f30 f31 f33 f34 f36 f37 f39 f40 f42 f43 f45 f46 f48 f49 f51 f52 f54 f55 f56 f57; omega, by clear r0 r2 r3 r4 r5 r6 r7 r8 r9 r10 r11 f0 f1 f3 f4 f6 f7 f12 f13 f15 f16 f18 f19 f21 f22 f24 f25 f27 f28 f30 f31 f33 f34 f36 f37 f39 f40 f42 f43 f45 f46 f48 f49 f51 f52 f54 f55 f56 f57; omega, by clear r0 r2 r3 r4 r5 r6 r7 r8 r9 r10 r11 f0 f1 f3 f4 f9 f10 f12 f13 f15 f16 f18 f19 f21 f22 f24 f25 f27 f28 f30 f31 f33 f34 f36 f37 f39 f40 f42 f43 f45 f46 f48 f49 f51 f52 f54 f55 f56 f57; omega, by clear r0 r2 r3 r4 r5 r6 r7 r8 r9 r10 r11 f0 f1 f6 f7 f9 f10 f12 f13 f15 f16 f18 f19 f21 f22 f24 f25 f27 f28 f30 f31 f33 f34 f36 f37 f39 f40 f42 f43 f45 f46 f48 f49 f51 f52 f54 f55 f56 f57; omega, by clear r0 r2 r3 r4 r5 r6 r7 r8 r9 r10 r11 f3 f4 f6 f7 f9 f10 f12 f13 f15 f16 f18 f19 f21 f22 f24 f25 f27 f28 f30 f31 f33 f34 f36 f37 f39 f40 f42 f43 f45 f46 f48 f49 f51 f52 f54 f55 f56 f57; omega⟩
  have l0 : zOpP (.lrem) (γ 0) (γ 1) [ρ 12, 10] (ρ 13) := zAllA hl 0
  have l1 : zOpP (.ladd) (γ 0) (γ 1) [48, ρ 13] (ρ 14) := zAllA hl 1
  have l2 : zOpP (.l2i) (γ 0) (γ 1) [ρ 14] (ρ 15) := zAllA hl 2
  have l3 : sn87 [ρ 15, ρ 1] (γ 0) 0 0 (γ 1) := hS87 _ _ _ _ _ (zAllA hl 3)
  have l4 : zOpP (.lrem) (γ 0) (γ 1) [ρ 16, 10] (ρ 17) := zAllA hl 4
  have l5 : zOpP (.ladd) (γ 0) (γ 1) [48, ρ 17] (ρ 18) := zAllA hl 5
  have l6 : zOpP (.l2i) (γ 0) (γ 1) [ρ 18] (ρ 19) := zAllA hl 6
  have l7 : sn87 [ρ 19, ρ 1 + 1] (γ 1) 0 0 (γ 2) := hS87 _ _ _ _ _ (zAllA hl 7)
  have l8 : zOpP (.lrem) (γ 0) (γ 1) [ρ 20, 10] (ρ 21) := zAllA hl 8
  have l9 : zOpP (.ladd) (γ 0) (γ 1) [48, ρ 21] (ρ 22) := zAllA hl 9
  have l10 : zOpP (.l2i) (γ 0) (γ 1) [ρ 22] (ρ 23) := zAllA hl 10
  have l11 : sn87 [ρ 23, ρ 1 + 2] (γ 2) 0 0 (γ 3) := hS87 _ _ _ _ _ (zAllA hl 11)
  have l12 : zOpP (.lrem) (γ 0) (γ 1) [ρ 24, 10] (ρ 25) := zAllA hl 12
  have l13 : zOpP (.ladd) (γ 0) (γ 1) [48, ρ 25] (ρ 26) := zAllA hl 13
  have l14 : zOpP (.l2i) (γ 0) (γ 1) [ρ 26] (ρ 27) := zAllA hl 14
  have l15 : sn87 [ρ 27, ρ 1 + 3] (γ 3) 0 0 (γ 4) := hS87 _ _ _ _ _ (zAllA hl 15)
  have l16 : zOpP (.lrem) (γ 0) (γ 1) [ρ 28, 10] (ρ 29) := zAllA hl 16
  have l17 : zOpP (.ladd) (γ 0) (γ 1) [48, ρ 29] (ρ 30) := zAllA hl 17
  have l18 : zOpP (.l2i) (γ 0) (γ 1) [ρ 30] (ρ 31) := zAllA hl 18
  have l19 : sn87 [ρ 31, ρ 1 + 4] (γ 4) 0 0 (γ 5) := hS87 _ _ _ _ _ (zAllA hl 19)
  have l20 : zOpP (.lrem) (γ 0) (γ 1) [ρ 32, 10] (ρ 33) := zAllA hl 20
  have l21 : zOpP (.ladd) (γ 0) (γ 1) [48, ρ 33] (ρ 34) := zAllA hl 21
  have l22 : zOpP (.l2i) (γ 0) (γ 1) [ρ 34] (ρ 35) := zAllA hl 22
  have l23 : sn87 [ρ 35, ρ 1 + 5] (γ 5) 0 0 (γ 6) := hS87 _ _ _ _ _ (zAllA hl 23)
  have l24 : zOpP (.lrem) (γ 0) (γ 1) [ρ 36, 10] (ρ 37) := zAllA hl 24
  have l25 : zOpP (.ladd) (γ 0) (γ 1) [48, ρ 37] (ρ 38) := zAllA hl 25
  have l26 : zOpP (.l2i) (γ 0) (γ 1) [ρ 38] (ρ 39) := zAllA hl 26
  have l27 : sn87 [ρ 39, ρ 1 + 6] (γ 6) 0 0 (γ 7) := hS87 _ _ _ _ _ (zAllA hl 27)
  have l28 : zOpP (.lrem) (γ 0) (γ 1) [ρ 40, 10] (ρ 41) := zAllA hl 28
  have l29 : zOpP (.ladd) (γ 0) (γ 1) [48, ρ 41] (ρ 42) := zAllA hl 29
  have l30 : zOpP (.l2i) (γ 0) (γ 1) [ρ 42] (ρ 43) := zAllA hl 30
  have l31 : sn87 [ρ 43, ρ 1 + 7] (γ 7) 0 0 (γ 8) := hS87 _ _ _ _ _ (zAllA hl 31)
  have l32 : zOpP (.lrem) (γ 0) (γ 1) [ρ 44, 10] (ρ 45) := zAllA hl 32
  have l33 : zOpP (.ladd) (γ 0) (γ 1) [48, ρ 45] (ρ 46) := zAllA hl 33
  have l34 : zOpP (.l2i) (γ 0) (γ 1) [ρ 46] (ρ 47) := zAllA hl 34
  have l35 : sn87 [ρ 47, ρ 1 + 8] (γ 8) 0 0 (γ 9) := hS87 _ _ _ _ _ (zAllA hl 35)
  have l36 : zOpP (.lrem) (γ 0) (γ 1) [ρ 48, 10] (ρ 49) := zAllA hl 36
  have l37 : zOpP (.ladd) (γ 0) (γ 1) [48, ρ 49] (ρ 50) := zAllA hl 37
  have l38 : zOpP (.l2i) (γ 0) (γ 1) [ρ 50] (ρ 51) := zAllA hl 38
  have l39 : sn87 [ρ 51, ρ 1 + 9] (γ 9) 0 0 (γ 10) := hS87 _ _ _ _ _ (zAllA hl 39)
  show sn88 [ρ 0, ρ 1] (γ 0) 0 0 (γ 10)
  refine Eq.symm ?_
  show fn88 [ρ 0] (γ 0) = _
  unfold fn88
  refine zLV (ρ 0) rfl (zIP w_0 (zLE w_1 (zIN w_2 (zLE w_3 (zIN w_4 (zLE w_5 (zIN w_6 ?_)))))))
  refine zLE w_7 (zIN w_8 (zLE w_9 (zIN w_10 (zLE w_11 (zIN w_12 (zLE w_13 (zIN w_14 ?_)))))))
  refine zLE w_15 (zIN w_16 (zLE w_17 (zIN w_18 (zLE w_19 (zIP w_20 (zLE w_21 (zLE (zF2_ok l0) ?_)))))))
  refine zLE (zF2_ok l1) (zLE (zF1_ok l2) (zLE (show fn87 [ρ 15] (γ 0) = (0, 0, γ 1) from l3.symm) (zLV (γ 1) rfl (zLE w_22 (zLE (zF2_ok l4) (zLE (zF2_ok l5) (zLE (zF1_ok l6) ?_)))))))
  refine zLE (show fn87 [ρ 19] (γ 1) = (0, 0, γ 2) from l7.symm) (zLV (γ 2) rfl (zLE w_23 (zLE (zF2_ok l8) (zLE (zF2_ok l9) (zLE (zF1_ok l10) (zLE (show fn87 [ρ 23] (γ 2) = (0, 0, γ 3) from l11.symm) (zLV (γ 3) rfl ?_)))))))
  refine zLE w_24 (zLE (zF2_ok l12) (zLE (zF2_ok l13) (zLE (zF1_ok l14) (zLE (show fn87 [ρ 27] (γ 3) = (0, 0, γ 4) from l15.symm) (zLV (γ 4) rfl (zLE w_25 (zLE (zF2_ok l16) ?_)))))))
  refine zLE (zF2_ok l17) (zLE (zF1_ok l18) (zLE (show fn87 [ρ 31] (γ 4) = (0, 0, γ 5) from l19.symm) (zLV (γ 5) rfl (zLE w_26 (zLE (zF2_ok l20) (zLE (zF2_ok l21) (zLE (zF1_ok l22) ?_)))))))
  refine zLE (show fn87 [ρ 35] (γ 5) = (0, 0, γ 6) from l23.symm) (zLV (γ 6) rfl (zLE w_27 (zLE (zF2_ok l24) (zLE (zF2_ok l25) (zLE (zF1_ok l26) (zLE (show fn87 [ρ 39] (γ 6) = (0, 0, γ 7) from l27.symm) (zLV (γ 7) rfl ?_)))))))
  refine zLE w_28 (zLE (zF2_ok l28) (zLE (zF2_ok l29) (zLE (zF1_ok l30) (zLE (show fn87 [ρ 43] (γ 7) = (0, 0, γ 8) from l31.symm) (zLV (γ 8) rfl (zLE w_29 (zLE (zF2_ok l32) ?_)))))))
  refine zLE (zF2_ok l33) (zLE (zF1_ok l34) (zLE (show fn87 [ρ 47] (γ 8) = (0, 0, γ 9) from l35.symm) (zLV (γ 9) rfl (zLE w_30 (zLE (zF2_ok l36) (zLE (zF2_ok l37) (zLE (zF1_ok l38) ?_)))))))
  refine zLE (show fn87 [ρ 51] (γ 9) = (0, 0, γ 10) from l39.symm) (zLV (γ 10) rfl ?_)
  rfl
set_option maxRecDepth 100000 in
theorem vn88_10 {S : Nat → zSpc} (hS87 : zIm S 87 sn87) {a : List Int} {g : rHp} : ∀ (ρ : Nat → Int) (γ : Nat → rHp), zO 2 S a g q88_10 ρ γ → zGl (fun _ _ _ => True) (sn88 a g) q88_10 ρ γ := by
  intro ρ γ h
  obtain ⟨ha, hg, hr, hf, hm, hc, hl⟩ := h
  have ha : a = [ρ 0, ρ 1] := ha
  subst ha
  subst hg
  have r0 : (0 : Int) ≤ ρ 0 ∧ ρ 0 ≤ 549755813887 := zRnA hr 0
  have r2 : (10 : Int) ≤ ρ 2 ∧ ρ 2 ≤ 549755813887 := zRnA hr 2
  have r3 : (10 : Int) ≤ ρ 3 ∧ ρ 3 ≤ 54975581388 := zRnA hr 3
  have r4 : (10 : Int) ≤ ρ 4 ∧ ρ 4 ≤ 5497558138 := zRnA hr 4
  have r5 : (10 : Int) ≤ ρ 5 ∧ ρ 5 ≤ 549755813 := zRnA hr 5
  have r6 : (10 : Int) ≤ ρ 6 ∧ ρ 6 ≤ 54975581 := zRnA hr 6
  have r7 : (10 : Int) ≤ ρ 7 ∧ ρ 7 ≤ 5497558 := zRnA hr 7
  have r8 : (10 : Int) ≤ ρ 8 ∧ ρ 8 ≤ 549755 := zRnA hr 8
  have r9 : (10 : Int) ≤ ρ 9 ∧ ρ 9 ≤ 54975 := zRnA hr 9
  have r10 : (10 : Int) ≤ ρ 10 ∧ ρ 10 ≤ 5497 := zRnA hr 10
  have r11 : (10 : Int) ≤ ρ 11 ∧ ρ 11 ≤ 549 := zRnA hr 11
  have r12 : (0 : Int) ≤ ρ 12 ∧ ρ 12 ≤ 9 := zRnA hr 12
  have f0 : (0 : Int) ≤ ρ 53 + -ρ 0 := zAllA hf 0
  have f1 : (0 : Int) ≤ -ρ 53 + ρ 0 := zAllA hf 1
  have f3 : (0 : Int) ≤ 10 * ρ 49 + -ρ 0 + 9 := zAllA hf 3
  have f4 : (0 : Int) ≤ (-10) * ρ 49 + ρ 0 := zAllA hf 4
  have f6 : (0 : Int) ≤ 100 * ρ 45 + -ρ 0 + 99 := zAllA hf 6
  have f7 : (0 : Int) ≤ (-100) * ρ 45 + ρ 0 := zAllA hf 7
  have f9 : (0 : Int) ≤ 1000 * ρ 41 + -ρ 0 + 999 := zAllA hf 9
  have f10 : (0 : Int) ≤ (-1000) * ρ 41 + ρ 0 := zAllA hf 10
  have f12 : (0 : Int) ≤ 10000 * ρ 37 + -ρ 0 + 9999 := zAllA hf 12
  have f13 : (0 : Int) ≤ (-10000) * ρ 37 + ρ 0 := zAllA hf 13
  have f15 : (0 : Int) ≤ 100000 * ρ 33 + -ρ 0 + 99999 := zAllA hf 15
  have f16 : (0 : Int) ≤ (-100000) * ρ 33 + ρ 0 := zAllA hf 16
  have f18 : (0 : Int) ≤ 1000000 * ρ 29 + -ρ 0 + 999999 := zAllA hf 18
  have f19 : (0 : Int) ≤ (-1000000) * ρ 29 + ρ 0 := zAllA hf 19
  have f21 : (0 : Int) ≤ 10000000 * ρ 25 + -ρ 0 + 9999999 := zAllA hf 21
  have f22 : (0 : Int) ≤ (-10000000) * ρ 25 + ρ 0 := zAllA hf 22
  have f24 : (0 : Int) ≤ 100000000 * ρ 21 + -ρ 0 + 99999999 := zAllA hf 24
  have f25 : (0 : Int) ≤ (-100000000) * ρ 21 + ρ 0 := zAllA hf 25
  have f27 : (0 : Int) ≤ 1000000000 * ρ 17 + -ρ 0 + 999999999 := zAllA hf 27
  have f28 : (0 : Int) ≤ (-1000000000) * ρ 17 + ρ 0 := zAllA hf 28
  have f30 : (0 : Int) ≤ 10000000000 * ρ 13 + -ρ 0 + 9999999999 := zAllA hf 30
  have f31 : (0 : Int) ≤ (-10000000000) * ρ 13 + ρ 0 := zAllA hf 31
  have f33 : (0 : Int) ≤ 10000000000 * ρ 12 + -ρ 0 + 9999999999 := zAllA hf 33
  have f34 : (0 : Int) ≤ (-10000000000) * ρ 12 + ρ 0 := zAllA hf 34
  have f36 : (0 : Int) ≤ 1000000000 * ρ 11 + -ρ 0 + 999999999 := zAllA hf 36
  have f37 : (0 : Int) ≤ (-1000000000) * ρ 11 + ρ 0 := zAllA hf 37
  have f39 : (0 : Int) ≤ 100000000 * ρ 10 + -ρ 0 + 99999999 := zAllA hf 39
  have f40 : (0 : Int) ≤ (-100000000) * ρ 10 + ρ 0 := zAllA hf 40
  have f42 : (0 : Int) ≤ 10000000 * ρ 9 + -ρ 0 + 9999999 := zAllA hf 42
  have f43 : (0 : Int) ≤ (-10000000) * ρ 9 + ρ 0 := zAllA hf 43
  have f45 : (0 : Int) ≤ 1000000 * ρ 8 + -ρ 0 + 999999 := zAllA hf 45
  have f46 : (0 : Int) ≤ (-1000000) * ρ 8 + ρ 0 := zAllA hf 46
  have f48 : (0 : Int) ≤ 100000 * ρ 7 + -ρ 0 + 99999 := zAllA hf 48
  have f49 : (0 : Int) ≤ (-100000) * ρ 7 + ρ 0 := zAllA hf 49
  have f51 : (0 : Int) ≤ 10000 * ρ 6 + -ρ 0 + 9999 := zAllA hf 51
  have f52 : (0 : Int) ≤ (-10000) * ρ 6 + ρ 0 := zAllA hf 52
  have f54 : (0 : Int) ≤ 1000 * ρ 5 + -ρ 0 + 999 := zAllA hf 54
  have f55 : (0 : Int) ≤ (-1000) * ρ 5 + ρ 0 := zAllA hf 55
  have f57 : (0 : Int) ≤ 100 * ρ 4 + -ρ 0 + 99 := zAllA hf 57
  have f58 : (0 : Int) ≤ (-100) * ρ 4 + ρ 0 := zAllA hf 58
  have f60 : (0 : Int) ≤ 10 * ρ 3 + -ρ 0 + 9 := zAllA hf 60
  have f61 : (0 : Int) ≤ (-10) * ρ 3 + ρ 0 := zAllA hf 61
  have f62 : (0 : Int) ≤ ρ 2 + -ρ 0 := zAllA hf 62
  have f63 : (0 : Int) ≤ -ρ 2 + ρ 0 := zAllA hf 63
  obtain ⟨w_0, w_1, w_2, w_3, w_4, w_5, w_6, w_7, w_8, w_9, w_10, w_11, w_12, w_13, w_14, w_15, w_16, w_17, w_18, w_19, w_20, w_21, w_22, w_23, w_24, w_25, w_26, w_27, w_28, w_29, w_30, w_31, w_32, w_33⟩ : (ρ 0 ≥ 0) ∧ ((ρ 0) / 1 = ρ 2) ∧ (¬ (ρ 2 ≤ 9)) ∧ ((ρ 0) / 10 = ρ 3) ∧ (¬ (ρ 3 ≤ 9)) ∧ ((ρ 0) / 100 = ρ 4) ∧ (¬ (ρ 4 ≤ 9)) ∧ ((ρ 0) / 1000 = ρ 5) ∧ (¬ (ρ 5 ≤ 9)) ∧ ((ρ 0) / 10000 = ρ 6) ∧ (¬ (ρ 6 ≤ 9)) ∧ ((ρ 0) / 100000 = ρ 7) ∧ (¬ (ρ 7 ≤ 9)) ∧ ((ρ 0) / 1000000 = ρ 8) ∧ (¬ (ρ 8 ≤ 9)) ∧ ((ρ 0) / 10000000 = ρ 9) ∧ (¬ (ρ 9 ≤ 9)) ∧ ((ρ 0) / 100000000 = ρ 10) ∧ (¬ (ρ 10 ≤ 9)) ∧ ((ρ 0) / 1000000000 = ρ 11) ∧ (¬ (ρ 11 ≤ 9)) ∧ ((ρ 0) / 10000000000 = ρ 12) ∧ (ρ 12 ≤ 9) ∧ ((ρ 0) / 10000000000 = ρ 13) ∧ ((ρ 0) / 1000000000 = ρ 17) ∧ ((ρ 0) / 100000000 = ρ 21) ∧ ((ρ 0) / 10000000 = ρ 25) ∧ ((ρ 0) / 1000000 = ρ 29) ∧ ((ρ 0) / 100000 = ρ 33) ∧ ((ρ 0) / 10000 = ρ 37) ∧ ((ρ 0) / 1000 = ρ 41) ∧ ((ρ 0) / 100 = ρ 45) ∧ ((ρ 0) / 10 = ρ 49) ∧ ((ρ 0) / 1 = ρ 53) := ⟨by clear r2 r3 r4 r5 r6 r7 r8 r9 r10 r11 r12 f0 f1 f3 f4 f6 f7 f9 f10 f12 f13 f15 f16 f18 f19 f21 f22 f24 f25 f27 f28 f30 f31 f33 f34 f36 f37 f39 f40 f42 f43 f45 f46 f48 f49 f51 f52 f54 f55 f57 f58 f60 f61 f62 f63; omega, by clear r0 r2 r3 r4 r5 r6 r7 r8 r9 r10 r11 r12 f0 f1 f3 f4 f6 f7 f9 f10 f12 f13 f15 f16 f18 f19 f21 f22 f24 f25 f27 f28 f30 f31 f33 f34 f36 f37 f39 f40 f42 f43 f45 f46 f48 f49 f51 f52 f54 f55 f57 f58 f60 f61; omega, by clear r0 r3 r4 r5 r6 r7 r8 r9 r10 r11 r12 f0 f1 f3 f4 f6 f7 f9 f10 f12 f13 f15 f16 f18 f19 f21 f22 f24 f25 f27 f28 f30 f31 f33 f34 f36 f37 f39 f40 f42 f43 f45 f46 f48 f49 f51 f52 f54 f55 f57 f58 f60 f61 f62 f63; omega, by clear r0 r2 r3 r4 r5 r6 r7 r8 r9 r10 r11 r12 f0 f1 f3 f4 f6 f7 f9 f10 f12 f13 f15 f16 f18 f19 f21 f22 f24 f25 f27 f28 f30 f31 f33 f34 f36 f37 f39 f40 f42 f43 f45 f46 f48 f49 f51 f52 f54 f55 f57 f58 f62 f63; omega, by clear r0 r2 r4 r5 r6 r7 r8 r9 r10 r11 r12 f0 f1 f3 f4 f6 f7 f9 f10 f12 f13 f15 f16 f18 f19 f21 f22 f24 f25 f27 f28 f30 f31 f33 f34 f36 f37 f39 f40 f42 f43 f45 f46 f48 f49 f51 f52 f54 f55 f57 f58 f60 f61 f62 f63; omega, by clear r0 r2 r3 r4 r5 r6 r7 r8 r9 r10 r11 r12 f0 f1 f3 f4 f6 f7 f9 f10 f12 f13 f15 f16 f18 f19 f21 f22 f24 f25 f27 f28 f30 f31 f33 f34 f36 f37 f39 f40 f42 f43 f45 f46 f48 f49 f51 f52 f54 f55 f60 f61 f62 f63; omega, by clear r0 r2 r3 r5 r6 r7 r8 r9 r10 r11 r12 f0 f1 f3 f4 f6 f7 f9 f10 f12 f13 f15 f16 f18 f19 f21 f22 f24 f25 f27 f28 f30 f31 f33 f34 f36 f37 f39 f40 f42 f43 f45 f46 f48 f49 f51 f52 f54 f55 f57 f58 f60 f61 f62 f63; omega, by clear r0 r2 r3 r4 r5 r6 r7 r8 r9 r10 r11 r12 f0 f1 f3 f4 f6 f7 f9 f10 f12 f13 f15 f16 f18 f19 f21 f22 f24 f25 f27 f28 f30 f31 f33 f34 f36 f37 f39 f40 f42 f43 f45 f46 f48 f49 f51 f52 f57 f58 f60 f61 f62 f63; omega, by clear r0 r2 r3 r4 r6 r7 r8 r9 r10 r11 r12 f0 f1 f3 f4 f6 f7 f9 f10 f12 f13 f15 f16 f18 f19 f21 f22 f24 f25 f27 f28 f30 f31 f33 f34 f36 f37 f39 f40 f42 f43 f45 f46 f48 f49 f51 f52 f54 f55 f57 f58 f60 f61 f62 f63; omega, by clear r0 r2 r3 r4 r5 r6 r7 r8 r9 r10 r11 r12 f0 f1 f3 f4 f6 f7 f9 f10 f12 f13 f15 f16 f18 f19 f21 f22 f24 f25 f27 f28 f30 f31 f33 f34 f36 f37 f39 f40 f42 f43 f45 f46 f48 f49 f54 f55 f57 f58 f60 f61 f62 f63; omega, by clear r0 r2 r3 r4 r5 r7 r8 r9 r10 r11 r12 f0 f1 f3 f4 f6 f7 f9 f10 f12 f13 f15 f16 f18 f19 f21 f22 f24 f25 f27 f28 f30 f31 f33 f34 f36 f37 f39 f40 f42 f43 f45 f46 f48 f49 f51 f52 f54 f55 f57 f58 f60 f61 f62 f63; omega, by clear r0 r2 r3 r4 r5 r6 r7 r8 r9 r10 r11 r12 f0 f1 f3 f4 f6 f7 f9 f10 f12 f13 f15 f16 f18 f19 f21 f22 f24 f25 f27 f28 f30 f31 f33 f34 f36 f37 f39 f40 f42 f43 f45 f46 f51 f52 f54 f55 f57 f58 f60 f61 f62 f63; omega, by clear r0 r2 r3 r4 r5 r6 r8 r9 r10 r11 r12 f0 f1 f3 f4 f6 f7 f9 f10 f12 f13 f15 f16 f18 f19 f21 f22 f24 f25 f27 f28 f30 f31 f33 f34 f36 f37 f39 f40 f42 f43 f45 f46 f48 f49 f51 f52 f54 f55 f57 f58 f60 f61 f62 f63; omega, by clear r0 r2 r3 r4 r5 r6 r7 r8 r9 r10 r11 r12 f0 f1 f3 f4 f6 f7 f9 f10 f12 f13 f15 f16 f18 f19 f21 f22 f24 f25 f27 f28 f30 f31 f33 f34 f36 f37 f39 f40 f42 f43 f48 f49 f51 f52 f54 f55 f57 f58 f60 f61 f62 f63; omega, by clear r0 r2 r3 r4 r5 r6 r7 r9 r10 r11 r12 f0 f1 f3 f4 f6 f7 f9 f10 f12 f13 f15 f16 f18 f19 f21 f22 f24 f25 f27 f28 f30 f31 f33 f34 f36 f37 f39 f40 f42 f43 f45 f46 f48 f49 f51 f52 f54 f55 f57 f58 f60 f61 f62 f63; omega, by clear r0 r2 r3 r4 r5 r6 r7 r8 r9 r10 r11 r12 f0 f1 f3 f4 f6 f7 f9 f10 f12 f13 f15 f16 f18 f19 f21 f22 f24 f25 f27 f28 f30 f31 f33 f34 f36 f37 f39 f40 f45 f46 f48 f49 f51 f52 f54 f55 f57 f58 f60 f61 f62 f63; omega, by clear r0 r2 r3 r4 r5 r6 r7 r8 r10 r11 r12 f0 f1 f3 f4 f6 f7 f9 f10 f12 f13 f15 f16 f18 f19 f21 f22 f24 f25 f27 f28 f30 f31 f33 f34 f36 f37 f39 f40 f42 f43 f45 f46 f48 f49 f51 f52 f54 f55 f57 f58 f60 f61 f62 f63; omega, by clear r0 r2 r3 r4 r5 r6 r7 r8 r9 r10 r11 r12 f0 f1 f3 f4 f6 f7 f9 f10 f12 f13 f15 f16 f18 f19 f21 f22 f24 f25 f27 f28 f30 f31 f33 f34 f36 f37 f42 f43 f45 f46 f48 f49 f51 f52 f54 f55 f57 f58 f60 f61 f62 f63; omega, by clear r0 r2 r3 r4 r5 r6 r7 r8 r9 r11 r12 f0 f1 f3 f4 f6 f7 f9 f10 f12 f13 f15 f16 f18 f19 f21 f22 f24 f25 f27 f28 f30 f31 f33 f34 f36 f37 f39 f40 f42 f43 f45 f46 f48 f49 f51 f52 f54 f55 f57 f58 f60 f61 f62 f63; omega, by clear r0 r2 r3 r4 r5 r6 r7 r8 r9 r10 r11 r12 f0 f1 f3 f4 f6 f7 f9 f10 f12 f13 f15 f16 f18 f19 f21 f22 f24 f25 f27 f28 f30 f31 f33 f34 f39 f40 f42 f43 f45 f46 f48 f49 f51 f52 f54 f55 f57 f58 f60 f61 f62 f63; omega, by clear r0 r2 r3 r4 r5 r6 r7 r8 r9 r10 r12 f0 f1 f3 f4 f6 f7 f9 f10 f12 f13 f15 f16 f18 f19 f21 f22 f24 f25 f27 f28 f30 f31 f33 f34 f36 f37 f39 f40 f42 f43 f45 f46 f48 f49 f51 f52 f54 f55 f57 f58 f60 f61 f62 f63; omega, by clear r0 r2 r3 r4 r5 r6 r7 r8 r9 r10 r11 r12 f0 f1 f3 f4 f6 f7 f9 f10 f12 f13 f15 f16 f18 f19 f21 f22 f24 f25 f27 f28 f30 f31 f36 f37 f39 f40 f42 f43 f45 f46 f48 f49 f51 f52 f54 f55 f57 f58 f60 f61 f62 f63; omega, by clear r0 r2 r3 r4 r5 r6 r7 r8 r9 r10 r11 f0 f1 f3 f4 f6 f7 f9 f10 f12 f13 f15 f16 f18 f19 f21 f22 f24 f25 f27 f28 f30 f31 f33 f34 f36 f37 f39 f40 f42 f43 f45 f46 f48 f49 f51 f52 f54 f55 f57 f58 f60 f61 f62 f63; omega, by clear r0 r2 r3 r4 r5 r6 r7 r8 r9 r10 r11 r12 f0 f1 f3 f4 f6 f7 f9 f10 f12 f13 f15 f16 f18 f19 f21 f22 f24 f25 f27 f28 f33 f34 f36 f37 f39 f40 f42 f43 f45 f46 f48 f49 f51 f52 f54 f55 f57 f58 f60 f61 f62 f63; omega, by clear r0 r2 r3 r4 r5 r6 r7 r8 r9 r10 r11 r12 f0 f1 f3 f4 f6 f7 f9 f10 f12 f13 f15 f16 f18 f19 f21 f22 f24 f25 f30 f31 f33 f34 f36 f37 f39 f40 f42 f43 f45 f46 f48 f49 f51 f52 f54 f55 f57 f58 f60 f61 f62 f63; omega, by clear r0 r2 r3 r4 r5 r6 r7 r8 r9 r10 r11 r12 f0 f1 f3 f4 f6 f7 f9 f10 f12 f13 f15 f16 f18 f19 f21 f22 f27 f28 f30 f31 f33 f34 f36 f37 f39 f40 f42 f43 f45 f46 f48 f49 f51 f52 f54 f55 f57 f58 f60 f61 f62 f63; omega, by clear r0 r2 r3 r4 r5 r6 r7 r8 r9 r10 r11 r12 f0 f1 f3 f4 f6 f7 f9 f10 f12 f13 f15 f16 f18 f19 f24 f25 f27 f28 f30 f31 f33 f34 f36 f37 f39 f40 f42 f43 f45 f46 f48 f49 f51 f52 f54 f55 f57 f58 f60 f61 f62 f63; omega, by clear r0 r2 r3 r4 r5 r6 r7 r8 r9 r10 r11 r12 f0 f1 f3 f4 f6 f7 f9 f10 f12 f13 f15 f16 f21 f22 f24 f25 f27 f28 f30 f31 f33 f34 f36 f37 f39 f40 f42 f43 f45 f46 f48 f49 f51 f52 f54 f55 f57 f58 f60 f61 f62 f63; omega, by clear r0 r2 r3 r4 r5 r6 r7 r8 r9 r10 r11 r12 f0 f1 f3 f4 f6 f7 f9 f10 f12 f13 f18 f19 f21 f22 f24 f25 f27 f28 f30 f31 f33 f34 f36 f37 f39 f40 f42 f43 f45 f46 f48 f49 f51 f52 f54 f55 f57 f58 f60 f61 f62 f63; omega, by clear r0 r2 r3 r4 r5 r6 r7 r8 r9 r10 r11 r12 f0 f1 f3 f4 f6 f7 f9 f10 f15 f16 f18 f19 f21 f22 f24 f25 f27 f28 f30 f31 f33 f34 f36 f37 f39 f40 f42 f43 f45 f46 f48 f49 f51 f52 f54 f55 f57 f58 f60 f61 f62 f63; omega, by clear r0 r2 r3 r4 r5 r6 r7 r8 r9 r10 r11 r12 f0 f1 f3 f4 f6 f7 f12 f13 f15 f16 f18 f19 f21 f22 f24 f25 f27 f28 f30 f31 f33 f34 f36 f37 f39 f40 f42 f43 f45 f46 f48 f49 f51 f52 f54 f55 f57 f58 f60 f61 f62 f63; omega, by clear r0 r2 r3 r4 r5 r6 r7 r8 r9 r10 r11 r12 f0 f1 f3 f4 f9 f10 f12 f13 f15 f16 f18 f19 f21 f22 f24 f25 f27 f28 f30 f31 f33 f34 f36 f37 f39 f40 f42 f43 f45 f46 f48 f49 f51 f52 f54 f55 f57 f58 f60 f61 f62 f63; omega, by clear r0 r2 r3 r4 r5 r6 r7 r8 r9 r10 r11 r12 f0 f1 f6 f7 f9 f10 f12 f13 f15 f16 f18 f19 f21 f22 f24 f25 f27 f28 f30 f31 f33 f34 f36 f37 f39 f40 f42 f43 f45 f46 f48 f49 f51 f52 f54 f55 f57 f58 f60 f61 f62 f63; omega, by clear r0 r2 r3 r4 r5 r6 r7 r8 r9 r10 r11 r12 f3 f4 f6 f7 f9 f10 f12 f13 f15 f16 f18 f19 f21 f22 f24 f25 f27 f28 f30 f31 f33 f34 f36 f37 f39 f40 f42 f43 f45 f46 f48 f49 f51 f52 f54 f55 f57 f58 f60 f61 f62 f63; omega⟩
  have l0 : zOpP (.lrem) (γ 0) (γ 1) [ρ 13, 10] (ρ 14) := zAllA hl 0
  have l1 : zOpP (.ladd) (γ 0) (γ 1) [48, ρ 14] (ρ 15) := zAllA hl 1
  have l2 : zOpP (.l2i) (γ 0) (γ 1) [ρ 15] (ρ 16) := zAllA hl 2
  have l3 : sn87 [ρ 16, ρ 1] (γ 0) 0 0 (γ 1) := hS87 _ _ _ _ _ (zAllA hl 3)
  have l4 : zOpP (.lrem) (γ 0) (γ 1) [ρ 17, 10] (ρ 18) := zAllA hl 4
  have l5 : zOpP (.ladd) (γ 0) (γ 1) [48, ρ 18] (ρ 19) := zAllA hl 5
  have l6 : zOpP (.l2i) (γ 0) (γ 1) [ρ 19] (ρ 20) := zAllA hl 6
  have l7 : sn87 [ρ 20, ρ 1 + 1] (γ 1) 0 0 (γ 2) := hS87 _ _ _ _ _ (zAllA hl 7)
  have l8 : zOpP (.lrem) (γ 0) (γ 1) [ρ 21, 10] (ρ 22) := zAllA hl 8
  have l9 : zOpP (.ladd) (γ 0) (γ 1) [48, ρ 22] (ρ 23) := zAllA hl 9
  have l10 : zOpP (.l2i) (γ 0) (γ 1) [ρ 23] (ρ 24) := zAllA hl 10
  have l11 : sn87 [ρ 24, ρ 1 + 2] (γ 2) 0 0 (γ 3) := hS87 _ _ _ _ _ (zAllA hl 11)
  have l12 : zOpP (.lrem) (γ 0) (γ 1) [ρ 25, 10] (ρ 26) := zAllA hl 12
  have l13 : zOpP (.ladd) (γ 0) (γ 1) [48, ρ 26] (ρ 27) := zAllA hl 13
  have l14 : zOpP (.l2i) (γ 0) (γ 1) [ρ 27] (ρ 28) := zAllA hl 14
  have l15 : sn87 [ρ 28, ρ 1 + 3] (γ 3) 0 0 (γ 4) := hS87 _ _ _ _ _ (zAllA hl 15)
  have l16 : zOpP (.lrem) (γ 0) (γ 1) [ρ 29, 10] (ρ 30) := zAllA hl 16
  have l17 : zOpP (.ladd) (γ 0) (γ 1) [48, ρ 30] (ρ 31) := zAllA hl 17
  have l18 : zOpP (.l2i) (γ 0) (γ 1) [ρ 31] (ρ 32) := zAllA hl 18
  have l19 : sn87 [ρ 32, ρ 1 + 4] (γ 4) 0 0 (γ 5) := hS87 _ _ _ _ _ (zAllA hl 19)
  have l20 : zOpP (.lrem) (γ 0) (γ 1) [ρ 33, 10] (ρ 34) := zAllA hl 20
  have l21 : zOpP (.ladd) (γ 0) (γ 1) [48, ρ 34] (ρ 35) := zAllA hl 21
  have l22 : zOpP (.l2i) (γ 0) (γ 1) [ρ 35] (ρ 36) := zAllA hl 22
  have l23 : sn87 [ρ 36, ρ 1 + 5] (γ 5) 0 0 (γ 6) := hS87 _ _ _ _ _ (zAllA hl 23)
  have l24 : zOpP (.lrem) (γ 0) (γ 1) [ρ 37, 10] (ρ 38) := zAllA hl 24
  have l25 : zOpP (.ladd) (γ 0) (γ 1) [48, ρ 38] (ρ 39) := zAllA hl 25
  have l26 : zOpP (.l2i) (γ 0) (γ 1) [ρ 39] (ρ 40) := zAllA hl 26
  have l27 : sn87 [ρ 40, ρ 1 + 6] (γ 6) 0 0 (γ 7) := hS87 _ _ _ _ _ (zAllA hl 27)
  have l28 : zOpP (.lrem) (γ 0) (γ 1) [ρ 41, 10] (ρ 42) := zAllA hl 28
  have l29 : zOpP (.ladd) (γ 0) (γ 1) [48, ρ 42] (ρ 43) := zAllA hl 29
  have l30 : zOpP (.l2i) (γ 0) (γ 1) [ρ 43] (ρ 44) := zAllA hl 30
  have l31 : sn87 [ρ 44, ρ 1 + 7] (γ 7) 0 0 (γ 8) := hS87 _ _ _ _ _ (zAllA hl 31)
  have l32 : zOpP (.lrem) (γ 0) (γ 1) [ρ 45, 10] (ρ 46) := zAllA hl 32
  have l33 : zOpP (.ladd) (γ 0) (γ 1) [48, ρ 46] (ρ 47) := zAllA hl 33
  have l34 : zOpP (.l2i) (γ 0) (γ 1) [ρ 47] (ρ 48) := zAllA hl 34
  have l35 : sn87 [ρ 48, ρ 1 + 8] (γ 8) 0 0 (γ 9) := hS87 _ _ _ _ _ (zAllA hl 35)
  have l36 : zOpP (.lrem) (γ 0) (γ 1) [ρ 49, 10] (ρ 50) := zAllA hl 36
  have l37 : zOpP (.ladd) (γ 0) (γ 1) [48, ρ 50] (ρ 51) := zAllA hl 37
  have l38 : zOpP (.l2i) (γ 0) (γ 1) [ρ 51] (ρ 52) := zAllA hl 38
  have l39 : sn87 [ρ 52, ρ 1 + 9] (γ 9) 0 0 (γ 10) := hS87 _ _ _ _ _ (zAllA hl 39)
  have l40 : zOpP (.lrem) (γ 0) (γ 1) [ρ 53, 10] (ρ 54) := zAllA hl 40
  have l41 : zOpP (.ladd) (γ 0) (γ 1) [48, ρ 54] (ρ 55) := zAllA hl 41
  have l42 : zOpP (.l2i) (γ 0) (γ 1) [ρ 55] (ρ 56) := zAllA hl 42
  have l43 : sn87 [ρ 56, ρ 1 + 10] (γ 10) 0 0 (γ 11) := hS87 _ _ _ _ _ (zAllA hl 43)
  show sn88 [ρ 0, ρ 1] (γ 0) 0 0 (γ 11)
  refine Eq.symm ?_
  show fn88 [ρ 0] (γ 0) = _
  unfold fn88
  refine zLV (ρ 0) rfl (zIP w_0 (zLE w_1 (zIN w_2 (zLE w_3 (zIN w_4 (zLE w_5 (zIN w_6 ?_)))))))
  refine zLE w_7 (zIN w_8 (zLE w_9 (zIN w_10 (zLE w_11 (zIN w_12 (zLE w_13 (zIN w_14 ?_)))))))
  refine zLE w_15 (zIN w_16 (zLE w_17 (zIN w_18 (zLE w_19 (zIN w_20 (zLE w_21 (zIP w_22 ?_)))))))
  refine zLE w_23 (zLE (zF2_ok l0) (zLE (zF2_ok l1) (zLE (zF1_ok l2) (zLE (show fn87 [ρ 16] (γ 0) = (0, 0, γ 1) from l3.symm) (zLV (γ 1) rfl (zLE w_24 (zLE (zF2_ok l4) ?_)))))))
  refine zLE (zF2_ok l5) (zLE (zF1_ok l6) (zLE (show fn87 [ρ 20] (γ 1) = (0, 0, γ 2) from l7.symm) (zLV (γ 2) rfl (zLE w_25 (zLE (zF2_ok l8) (zLE (zF2_ok l9) (zLE (zF1_ok l10) ?_)))))))
  refine zLE (show fn87 [ρ 24] (γ 2) = (0, 0, γ 3) from l11.symm) (zLV (γ 3) rfl (zLE w_26 (zLE (zF2_ok l12) (zLE (zF2_ok l13) (zLE (zF1_ok l14) (zLE (show fn87 [ρ 28] (γ 3) = (0, 0, γ 4) from l15.symm) (zLV (γ 4) rfl ?_)))))))
  refine zLE w_27 (zLE (zF2_ok l16) (zLE (zF2_ok l17) (zLE (zF1_ok l18) (zLE (show fn87 [ρ 32] (γ 4) = (0, 0, γ 5) from l19.symm) (zLV (γ 5) rfl (zLE w_28 (zLE (zF2_ok l20) ?_)))))))
  refine zLE (zF2_ok l21) (zLE (zF1_ok l22) (zLE (show fn87 [ρ 36] (γ 5) = (0, 0, γ 6) from l23.symm) (zLV (γ 6) rfl (zLE w_29 (zLE (zF2_ok l24) (zLE (zF2_ok l25) (zLE (zF1_ok l26) ?_)))))))
  refine zLE (show fn87 [ρ 40] (γ 6) = (0, 0, γ 7) from l27.symm) (zLV (γ 7) rfl (zLE w_30 (zLE (zF2_ok l28) (zLE (zF2_ok l29) (zLE (zF1_ok l30) (zLE (show fn87 [ρ 44] (γ 7) = (0, 0, γ 8) from l31.symm) (zLV (γ 8) rfl ?_)))))))
  refine zLE w_31 (zLE (zF2_ok l32) (zLE (zF2_ok l33) (zLE (zF1_ok l34) (zLE (show fn87 [ρ 48] (γ 8) = (0, 0, γ 9) from l35.symm) (zLV (γ 9) rfl (zLE w_32 (zLE (zF2_ok l36) ?_)))))))
  refine zLE (zF2_ok l37) (zLE (zF1_ok l38) (zLE (show fn87 [ρ 52] (γ 9) = (0, 0, γ 10) from l39.symm) (zLV (γ 10) rfl (zLE w_33 (zLE (zF2_ok l40) (zLE (zF2_ok l41) (zLE (zF1_ok l42) ?_)))))))
  refine zLE (show fn87 [ρ 56] (γ 10) = (0, 0, γ 11) from l43.symm) (zLV (γ 11) rfl ?_)
  rfl
set_option maxRecDepth 100000 in
theorem vn88_11 {S : Nat → zSpc} (hS87 : zIm S 87 sn87) {a : List Int} {g : rHp} : ∀ (ρ : Nat → Int) (γ : Nat → rHp), zO 2 S a g q88_11 ρ γ → zGl (fun _ _ _ => True) (sn88 a g) q88_11 ρ γ := by
  intro ρ γ h
  obtain ⟨ha, hg, hr, hf, hm, hc, hl⟩ := h
  have ha : a = [ρ 0, ρ 1] := ha
  subst ha
  subst hg
  have r0 : (0 : Int) ≤ ρ 0 ∧ ρ 0 ≤ 549755813887 := zRnA hr 0
  have r2 : (10 : Int) ≤ ρ 2 ∧ ρ 2 ≤ 549755813887 := zRnA hr 2
  have r3 : (10 : Int) ≤ ρ 3 ∧ ρ 3 ≤ 54975581388 := zRnA hr 3
  have r4 : (10 : Int) ≤ ρ 4 ∧ ρ 4 ≤ 5497558138 := zRnA hr 4
  have r5 : (10 : Int) ≤ ρ 5 ∧ ρ 5 ≤ 549755813 := zRnA hr 5
  have r6 : (10 : Int) ≤ ρ 6 ∧ ρ 6 ≤ 54975581 := zRnA hr 6
  have r7 : (10 : Int) ≤ ρ 7 ∧ ρ 7 ≤ 5497558 := zRnA hr 7
  have r8 : (10 : Int) ≤ ρ 8 ∧ ρ 8 ≤ 549755 := zRnA hr 8
  have r9 : (10 : Int) ≤ ρ 9 ∧ ρ 9 ≤ 54975 := zRnA hr 9
  have r10 : (10 : Int) ≤ ρ 10 ∧ ρ 10 ≤ 5497 := zRnA hr 10
  have r11 : (10 : Int) ≤ ρ 11 ∧ ρ 11 ≤ 549 := zRnA hr 11
  have r12 : (10 : Int) ≤ ρ 12 ∧ ρ 12 ≤ 54 := zRnA hr 12
  have f0 : (0 : Int) ≤ ρ 58 + -ρ 0 := zAllA hf 0
  have f1 : (0 : Int) ≤ -ρ 58 + ρ 0 := zAllA hf 1
  have f3 : (0 : Int) ≤ 10 * ρ 54 + -ρ 0 + 9 := zAllA hf 3
  have f4 : (0 : Int) ≤ (-10) * ρ 54 + ρ 0 := zAllA hf 4
  have f6 : (0 : Int) ≤ 100 * ρ 50 + -ρ 0 + 99 := zAllA hf 6
  have f7 : (0 : Int) ≤ (-100) * ρ 50 + ρ 0 := zAllA hf 7
  have f9 : (0 : Int) ≤ 1000 * ρ 46 + -ρ 0 + 999 := zAllA hf 9
  have f10 : (0 : Int) ≤ (-1000) * ρ 46 + ρ 0 := zAllA hf 10
  have f12 : (0 : Int) ≤ 10000 * ρ 42 + -ρ 0 + 9999 := zAllA hf 12
  have f13 : (0 : Int) ≤ (-10000) * ρ 42 + ρ 0 := zAllA hf 13
  have f15 : (0 : Int) ≤ 100000 * ρ 38 + -ρ 0 + 99999 := zAllA hf 15
  have f16 : (0 : Int) ≤ (-100000) * ρ 38 + ρ 0 := zAllA hf 16
  have f18 : (0 : Int) ≤ 1000000 * ρ 34 + -ρ 0 + 999999 := zAllA hf 18
  have f19 : (0 : Int) ≤ (-1000000) * ρ 34 + ρ 0 := zAllA hf 19
  have f21 : (0 : Int) ≤ 10000000 * ρ 30 + -ρ 0 + 9999999 := zAllA hf 21
  have f22 : (0 : Int) ≤ (-10000000) * ρ 30 + ρ 0 := zAllA hf 22
  have f24 : (0 : Int) ≤ 100000000 * ρ 26 + -ρ 0 + 99999999 := zAllA hf 24
  have f25 : (0 : Int) ≤ (-100000000) * ρ 26 + ρ 0 := zAllA hf 25
  have f27 : (0 : Int) ≤ 1000000000 * ρ 22 + -ρ 0 + 999999999 := zAllA hf 27
  have f28 : (0 : Int) ≤ (-1000000000) * ρ 22 + ρ 0 := zAllA hf 28
  have f30 : (0 : Int) ≤ 10000000000 * ρ 18 + -ρ 0 + 9999999999 := zAllA hf 30
  have f31 : (0 : Int) ≤ (-10000000000) * ρ 18 + ρ 0 := zAllA hf 31
  have f33 : (0 : Int) ≤ 100000000000 * ρ 14 + -ρ 0 + 99999999999 := zAllA hf 33
  have f34 : (0 : Int) ≤ (-100000000000) * ρ 14 + ρ 0 := zAllA hf 34
  have f39 : (0 : Int) ≤ 10000000000 * ρ 12 + -ρ 0 + 9999999999 := zAllA hf 39
  have f40 : (0 : Int) ≤ (-10000000000) * ρ 12 + ρ 0 := zAllA hf 40
  have f42 : (0 : Int) ≤ 1000000000 * ρ 11 + -ρ 0 + 999999999 := zAllA hf 42
  have f43 : (0 : Int) ≤ (-1000000000) * ρ 11 + ρ 0 := zAllA hf 43
  have f45 : (0 : Int) ≤ 100000000 * ρ 10 + -ρ 0 + 99999999 := zAllA hf 45
  have f46 : (0 : Int) ≤ (-100000000) * ρ 10 + ρ 0 := zAllA hf 46
  have f48 : (0 : Int) ≤ 10000000 * ρ 9 + -ρ 0 + 9999999 := zAllA hf 48
  have f49 : (0 : Int) ≤ (-10000000) * ρ 9 + ρ 0 := zAllA hf 49
  have f51 : (0 : Int) ≤ 1000000 * ρ 8 + -ρ 0 + 999999 := zAllA hf 51
  have f52 : (0 : Int) ≤ (-1000000) * ρ 8 + ρ 0 := zAllA hf 52
  have f54 : (0 : Int) ≤ 100000 * ρ 7 + -ρ 0 + 99999 := zAllA hf 54
  have f55 : (0 : Int) ≤ (-100000) * ρ 7 + ρ 0 := zAllA hf 55
  have f57 : (0 : Int) ≤ 10000 * ρ 6 + -ρ 0 + 9999 := zAllA hf 57
  have f58 : (0 : Int) ≤ (-10000) * ρ 6 + ρ 0 := zAllA hf 58
  have f60 : (0 : Int) ≤ 1000 * ρ 5 + -ρ 0 + 999 := zAllA hf 60
  have f61 : (0 : Int) ≤ (-1000) * ρ 5 + ρ 0 := zAllA hf 61
  have f63 : (0 : Int) ≤ 100 * ρ 4 + -ρ 0 + 99 := zAllA hf 63
  have f64 : (0 : Int) ≤ (-100) * ρ 4 + ρ 0 := zAllA hf 64
  have f66 : (0 : Int) ≤ 10 * ρ 3 + -ρ 0 + 9 := zAllA hf 66
  have f67 : (0 : Int) ≤ (-10) * ρ 3 + ρ 0 := zAllA hf 67
  have f68 : (0 : Int) ≤ ρ 2 + -ρ 0 := zAllA hf 68
  have f69 : (0 : Int) ≤ -ρ 2 + ρ 0 := zAllA hf 69
  obtain ⟨w_0, w_1, w_2, w_3, w_4, w_5, w_6, w_7, w_8, w_9, w_10, w_11, w_12, w_13, w_14, w_15, w_16, w_17, w_18, w_19, w_20, w_21, w_22, w_23, w_24, w_25, w_26, w_27, w_28, w_29, w_30, w_31, w_32, w_33, w_34⟩ : (ρ 0 ≥ 0) ∧ ((ρ 0) / 1 = ρ 2) ∧ (¬ (ρ 2 ≤ 9)) ∧ ((ρ 0) / 10 = ρ 3) ∧ (¬ (ρ 3 ≤ 9)) ∧ ((ρ 0) / 100 = ρ 4) ∧ (¬ (ρ 4 ≤ 9)) ∧ ((ρ 0) / 1000 = ρ 5) ∧ (¬ (ρ 5 ≤ 9)) ∧ ((ρ 0) / 10000 = ρ 6) ∧ (¬ (ρ 6 ≤ 9)) ∧ ((ρ 0) / 100000 = ρ 7) ∧ (¬ (ρ 7 ≤ 9)) ∧ ((ρ 0) / 1000000 = ρ 8) ∧ (¬ (ρ 8 ≤ 9)) ∧ ((ρ 0) / 10000000 = ρ 9) ∧ (¬ (ρ 9 ≤ 9)) ∧ ((ρ 0) / 100000000 = ρ 10) ∧ (¬ (ρ 10 ≤ 9)) ∧ ((ρ 0) / 1000000000 = ρ 11) ∧ (¬ (ρ 11 ≤ 9)) ∧ ((ρ 0) / 10000000000 = ρ 12) ∧ (¬ (ρ 12 ≤ 9)) ∧ ((ρ 0) / 100000000000 = ρ 14) ∧ ((ρ 0) / 10000000000 = ρ 18) ∧ ((ρ 0) / 1000000000 = ρ 22) ∧ ((ρ 0) / 100000000 = ρ 26) ∧ ((ρ 0) / 10000000 = ρ 30) ∧ ((ρ 0) / 1000000 = ρ 34) ∧ ((ρ 0) / 100000 = ρ 38) ∧ ((ρ 0) / 10000 = ρ 42) ∧ ((ρ 0) / 1000 = ρ 46) ∧ ((ρ 0) / 100 = ρ 50) ∧ ((ρ 0) / 10 = ρ 54) ∧ ((ρ 0) / 1 = ρ 58) := ⟨by clear r2 r3 r4 r5 r6 r7 r8 r9 r10 r11 r12 f0 f1 f3 f4 f6 f7 f9 f10 f12 f13 f15 f16 f18 f19 f21 f22 f24 f25 f27 f28 f30 f31 f33 f34 f39 f40 f42 f43 f45 f46 f48 f49 f51 f52 f54 f55 f57 f58 f60 f61 f63 f64 f66 f67 f68 f69; omega, by clear r0 r2 r3 r4 r5 r6 r7 r8 r9 r10 r11 r12 f0 f1 f3 f4 f6 f7 f9 f10 f12 f13 f15 f16 f18 f19 f21 f22 f24 f25 f27 f28 f30 f31 f33 f34 f39 f40 f42 f43 f45 f46 f48 f49 f51 f52 f54 f55 f57 f58 f60 f61 f63 f64 f66 f67; omega, by clear r0 r3 r4 r5 r6 r7 r8 r9 r10 r11 r12 f0 f1 f3 f4 f6 f7 f9 f10 f12 f13 f15 f16 f18 f19 f21 f22 f24 f25 f27 f28 f30 f31 f33 f34 f39 f40 f42 f43 f45 f46 f48 f49 f51 f52 f54 f55 f57 f58 f60 f61 f63 f64 f66 f67 f68 f69; omega, by clear r0 r2 r3 r4 r5 r6 r7 r8 r9 r10 r11 r12 f0 f1 f3 f4 f6 f7 f9 f10 f12 f13 f15 f16 f18 f19 f21 f22 f24 f25 f27 f28 f30 f31 f33 f34 f39 f40 f42 f43 f45 f46 f48 f49 f51 f52 f54 f55 f57 f58 f60 f61 f63 f64 f68 f69; omega, by clear r0 r2 r4 r5 r6 r7 r8 r9 r10 r11 r12 f0 f1 f3 f4 f6 f7 f9 f10 f12 f13 f15 f16 f18 f19 f21 f22 f24 f25 f27 f28 f30 f31 f33 f34 f39 f40 f42 f43 f45 f46 f48 f49 f51 f52 f54 f55 f57 f58 f60 f61 f63 f64 f66 f67 f68 f69; omega, by clear r0 r2 r3 r4 r5 r6 r7 r8 r9 r10 r11 r12 f0 f1 f3 f4 f6 f7 f9 f10 f12 f13 f15 f16 f18 f19 f21 f22 f24 f25 f27 f28 f30 f31 f33 f34 f39 f40 f42 f43 f45 f46 f48 f49 f51 f52 f54 f55 f57 f58 f60 f61 f66 f67 f68 f69; omega, by clear r0 r2 r3 r5 r6 r7 r8 r9 r10 r11 r12 f0 f1 f3 f4 f6 f7 f9 f10 f12 f13 f15 f16 f18 f19 f21 f22 f24 f25 f27 f28 f30 f31 f33 f34 f39 f40 f42 f43 f45 f46 f48 f49 f51 f52 f54 f55 f57 f58 f60 f61 f63 f64 f66 f67 f68 f69; omega, by clear r0 r2 r3 r4 r5 r6 r7 r8 r9 r10 r11 r12 f0 f1 f3 f4 f6 f7 f9 f10 f12 f13 f15 f16 f18 f19 f21 f22 f24 f25 f27 f28 f30 f31 f33 f34 f39 f40 f42 f43 f45 f46 f48 f49 f51 f52 f54 f55 f57 f58 f63 f64 f66 f67 f68 f69; omega, by clear r0 r2 r3 r4 r6 r7 r8 r9 r10 r11 r12 f0 f1 f3 f4 f6 f7 f9 f10 f12 f13 f15 f16 f18 f19 f21 f22 f24 f25 f27 f28 f30 f31 f33 f34 f39 f40 f42 f43 f45 f46 f48 f49 f51 f52 f54 f55 f57 f58 f60 f61 f63 f64 f66 f67 f68 f69; omega, by clear r0 r2 r3 r4 r5 r6 r7 r8 r9 r10 r11 r12 f0 f1 f3 f4 f6 f7 f9 f10 f12 f13 f15 f16 f18 f19 f21 f22 f24 f25 f27 f28 f30 f31 f33 f34 f39 f40 f42 f43 f45 f46 f48 f49 f51 f52 f54 f55 f60 f61 f63 f64 f66 f67 f68 f69; omega, by clear r0 r2 r3 r4 r5 r7 r8 r9 r10 r11 r12 f0 f1 f3 f4 f6 f7 f9 f10 f12 f13 f15 f16 f18 f19 f21 f22 f24 f25 f27 f28 f30 f31 f33 f34 f39 f40 f42 f43 f45 f46 f48 f49 f51 f52 f54 f55 f57 f58 f60 f61 f63 f64 f66 f67 f68 f69; omega, by clear r0 r2 r3 r4 r5 r6 r7 r8 r9 r10 r11 r12 f0 f1 f3 f4 f6 f7 f9 f10 f12 f13 f15 f16 f18 f19 f21 f22 f24 f25 f27 f28 f30 f31 f33 f34 f39 f40 f42 f43 f45 f46 f48 f49 f51 f52 f57 f58 f60 f61 f63 f64 f66 f67 f68 f69; omega, by clear r0 r2 r3 r4 r5 r6 r8 r9 r10 r11 r12 f0 f1 f3 f4 f6 f7 f9 f10 f12 f13 f15 f16 f18 f19 f21 f22 f24 f25 f27 f28 f30 f31 f33 f34 f39 f40 f42 f43 f45 f46 f48 f49 f51 f52 f54 f55 f57 f58 f60 f61 f63 f64 f66 f67 f68 f69; omega, by clear r0 r2 r3 r4 r5 r6 r7 r8 r9 r10 r11 r12 f0 f1 f3 f4 f6 f7 f9 f10 f12 f13 f15 f16 f18 f19 f21 f22 f24 f25 f27 f28 f30 f31 f33 f34 f39 f40 f42 f43 f45 f46 f48 f49 f54 f55 f57 f58 f60 f61 f63 f64 f66 f67 f68 f69; omega, by clear r0 r2 r3 r4 r5 r6 r7 r9 r10 r11 r12 f0 f1 f3 f4 f6 f7 f9 f10 f12 f13 f15 f16 f18 f19 f21 f22 f24 f25 f27 f28 f30 f31 f33 f34 f39 f40 f42 f43 f45 f46 f48 f49 f51 f52 f54 f55 f57 f58 f60 f61 f63 f64 f66 f67 f68 f69; omega, by clear r0 r2 r3 r4 r5 r6 r7 r8 r9 r10 r11 r12 f0 f1 f3 f4 f6 f7 f9 f10 f12 f13 f15 f16 f18 f19 f21 f22 f24 f25 f27 f28 f30 f31 f33 f34 f39 f40 f42 f43 f45 f46 f51 f52 f54 f55 f57 f58 f60 f61 f63 f64 f66 f67 f68 f69; omega, by clear r0 r2 r3 r4 r5 r6 r7 r8 r10 r11 r12 f0 f1 f3 f4 f6 f7 f9 f10 f12 f13 f15 f16 f18 f19 f21 f22 f24 f25 f27 f28 f30 f31 f33 f34 f39 f40 f42 f43 f45 f46 f48 f49 f51 f52 f54 f55 f57 f58 f60 f61 f63 f64 f66 f67 f68 f69; omega, by clear r0 r2 r3 r4 r5 r6 r7 r8 r9 r10 r11 r12 f0 f1 f3 f4 f6 f7 f9 f10 f12 f13 f15 f16 f18 f19 f21 f22 f24 f25 f27 f28 f30 f31 f33 f34 f39 f40 f42 f43 f48 f49 f51 f52 f54 f55 f57 f58 f60 f61 f63 f64 f66 f67 f68 f69; omega, by clear r0 r2 r3 r4 r5 r6 r7 r8 r9 r11 r12 f0 f1 f3 f4 f6 f7 f9 f10 f12 f13 f15 f16 f18 f19 f21 f22 f24 f25 f27 f28 f30 f31 f33 f34 f39 f40 f42 f43 f45 f46 f48 f49 f51 f52 f54 f55 f57 f58 f60 f61 f63 f64 f66 f67 f68 f69; omega, by clear r0 r2 r3 r4 r5 r6 r7 r8 r9 r10 r11 r12 f0 f1 f3 f4 f6 f7 f9 f10 f12 f13 f15 f16 f18 f19 f21 f22 f24 f25 f27 f28 f30 f31 f33 f34 f39 f40 f45 f46 f48 f49 f51 f52 f54 f55 f57 f58 f60 f61 f63 f64 f66 f67 f68 f69; omega, by clear r0 r2 r3 r4 r5 r6 r7 r8 r9 r10 r12 f0 f1 f3 f4 f6 f7 f9 f10 f12 f13 f15 f16 f18 f19 f21 f22 f24 f25 f27 f28 f30 f31 f33 f34 f39 f40 f42 f43 f45 f46 f48 f49 f51 f52 f54 f55 f57 f58 f60 f61 f63 f64 f66 f67 f68 f69; omega, by clear r0 r2 r3 r4 r5 r6 r7 r8 r9 r10 r11 r12 f0 f1 f3 f4 f6 f7 f9 f10 f12 f13 f15 f16 f18 f19 f21 f22 f24 f25 f27 f28 f30 f31 f33 f34 f42 f43 f45 f46 f48 f49 f51 f52 f54 f55 f57 f58 f60 f61 f63 f64 f66 f67 f68 f69; omega, by clear r0 r2 r3 r4 r5 r6 r7 r8 r9 r10 r11 f0 f1 f3 f4 f6 f7 f9 f10 f12 f13 f15 f16 f18 f19 f21 f22 f24 f25 f27 f28 f30 f31 f33 f34 f39 f40 f42 f43 f45 f46 f48 f49 f51 f52 f54 f55 f57 f58 f60 f61 f63 f64 f66 f67 f68 f69; omega, by clear r0 r2 r3 r4 r5 r6 r7 r8 r9 r10 r11 r12 f0 f1 f3 f4 f6 f7 f9 f10 f12 f13 f15 f16 f18 f19 f21 f22 f24 f25 f27 f28 f30 f31 f39 f40 f42 f43 f45 f46 f48 f49 f51 f52 f54 f55 f57 f58 f60 f61 f63 f64 f66 f67 f68 f69; omega, by clear r0 r2 r3 r4 r5 r6 r7 r8 r9 r10 r11 r12 f0 f1 f3 f4 f6 f7 f9 f10 f12 f13 f15 f16 f18 f19 f21 f22 f24 f25 f27 f28 f33 f34 f39 f40 f42 f43 f45 f46 f48 f49 f51 f52 f54 f55 f57 f58 f60 f61 f63 f64 f66 f67 f68 f69; omega, by clear r0 r2 r3 r4 r5 r6 r7 r8 r9 r10 r11 r12 f0 f1 f3 f4 f6 f7 f9 f10 f12 f13 f15 f16 f18 f19 f21 f22 f24 f25 f30 f31 f33 f34 f39 f40 f42 f43 f45 f46 f48 f49 f51 f52 f54 f55 f57 f58 f60 f61 f63 f64 f66 f67 f68 f69; omega, by clear r0 r2 r3 r4 r5 r6 r7 r8 r9 r10 r11 r12 f0 f1 f3 f4 f6 f7 f9 f10 f12 f13 f15 f16 f18 f19 f21 f22 f27 f28 f30 f31 f33 f34 f39 f40 f42 f43 f45 f46 f48 f49 f51 f52 f54 f55 f57 f58 f60 f61 f63 f64 f66 f67 f68 f69; omega, by clear r0 r2 r3 r4 r5 r6 r7 r8 r9 r10 r11 r12 f0 f1 f3 f4 f6 f7 f9 f10 f12 f13 f15 f16 f18 f19 f24 f25 f27 f28 f30 f31 f33 f34 f39 f40 f42 f43 f45 f46 f48 f49 f51 f52 f54 f55 f57 f58 f60 f61 f63 f64 f66 f67 f68 f69; omega, by clear r0 r2 r3 r4 r5 r6 r7 r8 r9 r10 r11 r12 f0 f1 f3 f4 f6 f7 f9 f10 f12 f13 f15 f16 f21 f22 f24 f25 f27 f28 f30 f31 f33 f34 f39 f40 f42 f43 f45 f46 f48 f49 f51 f52 f54 f55 f57 f58 f60 f61 f63 f64 f66 f67 f68 f69; omega, by clear r0 r2 r3 r4 r5 r6 r7 r8 r9 r10 r11 r12 f0 f1 f3 f4 f6 f7 f9 f10 f12 f13 f18 f19 f21 f22 f24 f25 f27 f28 f30 f31 f33 f34 f39 f40 f42 f43 f45 f46 f48 f49 f51 f52 f54 f55 f57 f58 f60 f61 f63 f64 f66 f67 f68 f69; omega, by clear r0 r2 r3 r4 r5 r6 r7 r8 r9 r10 r11 r12 f0 f1 f3 f4 f6 f7 f9 f10 f15 f16 f18 f19 f21 f22 f24 f25 f27 f28 f30 f31 f33 f34 f39 f40 f42 f43 f45 f46 f48 f49 f51 f52 f54 f55 f57 f58 f60 f61 f63 f64 f66 f67 f68 f69; omega, by clear r0 r2 r3 r4 r5 r6 r7 r8 r9 r10 r11 r12 f0 f1 f3 f4 f6 f7 f12 f13 f15 f16 f18 f19 f21 f22 f24 f25 f27 f28 f30 f31 f33 f34 f39 f40 f42 f43 f45 f46 f48 f49 f51 f52 f54 f55 f57 f58 f60 f61 f63 f64 f66 f67 f68 f69; omega, by clear r0 r2 r3 r4 r5 r6 r7 r8 r9 r10 r11 r12 f0 f1 f3 f4 f9 f10 f12 f13 f15 f16 f18 f19 f21 f22 f24 f25 f27 f28 f30 f31 f33 f34 f39 f40 f42 f43 f45 f46 f48 f49 f51 f52 f54 f55 f57 f58 f60 f61 f63 f64 f66 f67 f68 f69; omega, by clear r0 r2 r3 r4 r5 r6 r7 r8 r9 r10 r11 r12 f0 f1 f6 f7 f9 f10 f12 f13 f15 f16 f18 f19 f21 f22 f24 f25 f27 f28 f30 f31 f33 f34 f39 f40 f42 f43 f45 f46 f48 f49 f51 f52 f54 f55 f57 f58 f60 f61 f63 f64 f66 f67 f68 f69; omega, by clear r0 r2 r3 r4 r5 r6 r7 r8 r9 r10 r11 r12 f3 f4 f6 f7 f9 f10 f12 f13 f15 f16 f18 f19 f21 f22 f24 f25 f27 f28 f30 f31 f33 f34 f39 f40 f42 f43 f45 f46 f48 f49 f51 f52 f54 f55 f57 f58 f60 f61 f63 f64 f66 f67 f68 f69; omega⟩
  have l0 : zOpP (.lrem) (γ 0) (γ 1) [ρ 14, 10] (ρ 15) := zAllA hl 0
  have l1 : zOpP (.ladd) (γ 0) (γ 1) [48, ρ 15] (ρ 16) := zAllA hl 1
  have l2 : zOpP (.l2i) (γ 0) (γ 1) [ρ 16] (ρ 17) := zAllA hl 2
  have l3 : sn87 [ρ 17, ρ 1] (γ 0) 0 0 (γ 1) := hS87 _ _ _ _ _ (zAllA hl 3)
  have l4 : zOpP (.lrem) (γ 0) (γ 1) [ρ 18, 10] (ρ 19) := zAllA hl 4
  have l5 : zOpP (.ladd) (γ 0) (γ 1) [48, ρ 19] (ρ 20) := zAllA hl 5
  have l6 : zOpP (.l2i) (γ 0) (γ 1) [ρ 20] (ρ 21) := zAllA hl 6
  have l7 : sn87 [ρ 21, ρ 1 + 1] (γ 1) 0 0 (γ 2) := hS87 _ _ _ _ _ (zAllA hl 7)
  have l8 : zOpP (.lrem) (γ 0) (γ 1) [ρ 22, 10] (ρ 23) := zAllA hl 8
  have l9 : zOpP (.ladd) (γ 0) (γ 1) [48, ρ 23] (ρ 24) := zAllA hl 9
  have l10 : zOpP (.l2i) (γ 0) (γ 1) [ρ 24] (ρ 25) := zAllA hl 10
  have l11 : sn87 [ρ 25, ρ 1 + 2] (γ 2) 0 0 (γ 3) := hS87 _ _ _ _ _ (zAllA hl 11)
  have l12 : zOpP (.lrem) (γ 0) (γ 1) [ρ 26, 10] (ρ 27) := zAllA hl 12
  have l13 : zOpP (.ladd) (γ 0) (γ 1) [48, ρ 27] (ρ 28) := zAllA hl 13
  have l14 : zOpP (.l2i) (γ 0) (γ 1) [ρ 28] (ρ 29) := zAllA hl 14
  have l15 : sn87 [ρ 29, ρ 1 + 3] (γ 3) 0 0 (γ 4) := hS87 _ _ _ _ _ (zAllA hl 15)
  have l16 : zOpP (.lrem) (γ 0) (γ 1) [ρ 30, 10] (ρ 31) := zAllA hl 16
  have l17 : zOpP (.ladd) (γ 0) (γ 1) [48, ρ 31] (ρ 32) := zAllA hl 17
  have l18 : zOpP (.l2i) (γ 0) (γ 1) [ρ 32] (ρ 33) := zAllA hl 18
  have l19 : sn87 [ρ 33, ρ 1 + 4] (γ 4) 0 0 (γ 5) := hS87 _ _ _ _ _ (zAllA hl 19)
  have l20 : zOpP (.lrem) (γ 0) (γ 1) [ρ 34, 10] (ρ 35) := zAllA hl 20
  have l21 : zOpP (.ladd) (γ 0) (γ 1) [48, ρ 35] (ρ 36) := zAllA hl 21
  have l22 : zOpP (.l2i) (γ 0) (γ 1) [ρ 36] (ρ 37) := zAllA hl 22
  have l23 : sn87 [ρ 37, ρ 1 + 5] (γ 5) 0 0 (γ 6) := hS87 _ _ _ _ _ (zAllA hl 23)
  have l24 : zOpP (.lrem) (γ 0) (γ 1) [ρ 38, 10] (ρ 39) := zAllA hl 24
  have l25 : zOpP (.ladd) (γ 0) (γ 1) [48, ρ 39] (ρ 40) := zAllA hl 25
  have l26 : zOpP (.l2i) (γ 0) (γ 1) [ρ 40] (ρ 41) := zAllA hl 26
  have l27 : sn87 [ρ 41, ρ 1 + 6] (γ 6) 0 0 (γ 7) := hS87 _ _ _ _ _ (zAllA hl 27)
  have l28 : zOpP (.lrem) (γ 0) (γ 1) [ρ 42, 10] (ρ 43) := zAllA hl 28
  have l29 : zOpP (.ladd) (γ 0) (γ 1) [48, ρ 43] (ρ 44) := zAllA hl 29
  have l30 : zOpP (.l2i) (γ 0) (γ 1) [ρ 44] (ρ 45) := zAllA hl 30
  have l31 : sn87 [ρ 45, ρ 1 + 7] (γ 7) 0 0 (γ 8) := hS87 _ _ _ _ _ (zAllA hl 31)
  have l32 : zOpP (.lrem) (γ 0) (γ 1) [ρ 46, 10] (ρ 47) := zAllA hl 32
  have l33 : zOpP (.ladd) (γ 0) (γ 1) [48, ρ 47] (ρ 48) := zAllA hl 33
  have l34 : zOpP (.l2i) (γ 0) (γ 1) [ρ 48] (ρ 49) := zAllA hl 34
  have l35 : sn87 [ρ 49, ρ 1 + 8] (γ 8) 0 0 (γ 9) := hS87 _ _ _ _ _ (zAllA hl 35)
  have l36 : zOpP (.lrem) (γ 0) (γ 1) [ρ 50, 10] (ρ 51) := zAllA hl 36
  have l37 : zOpP (.ladd) (γ 0) (γ 1) [48, ρ 51] (ρ 52) := zAllA hl 37
  have l38 : zOpP (.l2i) (γ 0) (γ 1) [ρ 52] (ρ 53) := zAllA hl 38
  have l39 : sn87 [ρ 53, ρ 1 + 9] (γ 9) 0 0 (γ 10) := hS87 _ _ _ _ _ (zAllA hl 39)
  have l40 : zOpP (.lrem) (γ 0) (γ 1) [ρ 54, 10] (ρ 55) := zAllA hl 40
  have l41 : zOpP (.ladd) (γ 0) (γ 1) [48, ρ 55] (ρ 56) := zAllA hl 41
  have l42 : zOpP (.l2i) (γ 0) (γ 1) [ρ 56] (ρ 57) := zAllA hl 42
  have l43 : sn87 [ρ 57, ρ 1 + 10] (γ 10) 0 0 (γ 11) := hS87 _ _ _ _ _ (zAllA hl 43)
  have l44 : zOpP (.lrem) (γ 0) (γ 1) [ρ 58, 10] (ρ 59) := zAllA hl 44
  have l45 : zOpP (.ladd) (γ 0) (γ 1) [48, ρ 59] (ρ 60) := zAllA hl 45
  have l46 : zOpP (.l2i) (γ 0) (γ 1) [ρ 60] (ρ 61) := zAllA hl 46
  have l47 : sn87 [ρ 61, ρ 1 + 11] (γ 11) 0 0 (γ 12) := hS87 _ _ _ _ _ (zAllA hl 47)
  show sn88 [ρ 0, ρ 1] (γ 0) 0 0 (γ 12)
  refine Eq.symm ?_
  show fn88 [ρ 0] (γ 0) = _
  unfold fn88
  refine zLV (ρ 0) rfl (zIP w_0 (zLE w_1 (zIN w_2 (zLE w_3 (zIN w_4 (zLE w_5 (zIN w_6 ?_)))))))
  refine zLE w_7 (zIN w_8 (zLE w_9 (zIN w_10 (zLE w_11 (zIN w_12 (zLE w_13 (zIN w_14 ?_)))))))
  refine zLE w_15 (zIN w_16 (zLE w_17 (zIN w_18 (zLE w_19 (zIN w_20 (zLE w_21 (zIN w_22 ?_)))))))
  refine zLE w_23 (zLE (zF2_ok l0) (zLE (zF2_ok l1) (zLE (zF1_ok l2) (zLE (show fn87 [ρ 17] (γ 0) = (0, 0, γ 1) from l3.symm) (zLV (γ 1) rfl (zLE w_24 (zLE (zF2_ok l4) ?_)))))))
  refine zLE (zF2_ok l5) (zLE (zF1_ok l6) (zLE (show fn87 [ρ 21] (γ 1) = (0, 0, γ 2) from l7.symm) (zLV (γ 2) rfl (zLE w_25 (zLE (zF2_ok l8) (zLE (zF2_ok l9) (zLE (zF1_ok l10) ?_)))))))
  refine zLE (show fn87 [ρ 25] (γ 2) = (0, 0, γ 3) from l11.symm) (zLV (γ 3) rfl (zLE w_26 (zLE (zF2_ok l12) (zLE (zF2_ok l13) (zLE (zF1_ok l14) (zLE (show fn87 [ρ 29] (γ 3) = (0, 0, γ 4) from l15.symm) (zLV (γ 4) rfl ?_)))))))
  refine zLE w_27 (zLE (zF2_ok l16) (zLE (zF2_ok l17) (zLE (zF1_ok l18) (zLE (show fn87 [ρ 33] (γ 4) = (0, 0, γ 5) from l19.symm) (zLV (γ 5) rfl (zLE w_28 (zLE (zF2_ok l20) ?_)))))))
  refine zLE (zF2_ok l21) (zLE (zF1_ok l22) (zLE (show fn87 [ρ 37] (γ 5) = (0, 0, γ 6) from l23.symm) (zLV (γ 6) rfl (zLE w_29 (zLE (zF2_ok l24) (zLE (zF2_ok l25) (zLE (zF1_ok l26) ?_)))))))
  refine zLE (show fn87 [ρ 41] (γ 6) = (0, 0, γ 7) from l27.symm) (zLV (γ 7) rfl (zLE w_30 (zLE (zF2_ok l28) (zLE (zF2_ok l29) (zLE (zF1_ok l30) (zLE (show fn87 [ρ 45] (γ 7) = (0, 0, γ 8) from l31.symm) (zLV (γ 8) rfl ?_)))))))
  refine zLE w_31 (zLE (zF2_ok l32) (zLE (zF2_ok l33) (zLE (zF1_ok l34) (zLE (show fn87 [ρ 49] (γ 8) = (0, 0, γ 9) from l35.symm) (zLV (γ 9) rfl (zLE w_32 (zLE (zF2_ok l36) ?_)))))))
  refine zLE (zF2_ok l37) (zLE (zF1_ok l38) (zLE (show fn87 [ρ 53] (γ 9) = (0, 0, γ 10) from l39.symm) (zLV (γ 10) rfl (zLE w_33 (zLE (zF2_ok l40) (zLE (zF2_ok l41) (zLE (zF1_ok l42) ?_)))))))
  refine zLE (show fn87 [ρ 57] (γ 10) = (0, 0, γ 11) from l43.symm) (zLV (γ 11) rfl (zLE w_34 (zLE (zF2_ok l44) (zLE (zF2_ok l45) (zLE (zF1_ok l46) (zLE (show fn87 [ρ 61] (γ 11) = (0, 0, γ 12) from l47.symm) (zLV (γ 12) rfl ?_)))))))
  rfl
set_option maxRecDepth 100000 in
theorem vn88_12 {S : Nat → zSpc} (hS87 : zIm S 87 sn87) {a : List Int} {g : rHp} : ∀ (ρ : Nat → Int) (γ : Nat → rHp), zO 2 S a g q88_12 ρ γ → zGl (fun _ _ _ => True) (sn88 a g) q88_12 ρ γ := by
  intro ρ γ h
  obtain ⟨ha, hg, hr, hf, hm, hc, hl⟩ := h
  have ha : a = [ρ 0, ρ 1] := ha
  subst ha
  subst hg
  have r0 : ((-2147483648) : Int) ≤ ρ 0 ∧ ρ 0 ≤ (-1) := zRnA hr 0
  have r3 : (0 : Int) ≤ ρ 3 ∧ ρ 3 ≤ 9 := zRnA hr 3
  have f0 : (0 : Int) ≤ ρ 4 + -ρ 2 := zAllA hf 0
  have f1 : (0 : Int) ≤ -ρ 4 + ρ 2 := zAllA hf 1
  have f2 : (0 : Int) ≤ ρ 3 + -ρ 2 := zAllA hf 2
  have f3 : (0 : Int) ≤ -ρ 3 + ρ 2 := zAllA hf 3
  obtain ⟨w_0, w_1, w_2, w_3⟩ : (¬ (ρ 0 ≥ 0)) ∧ ((ρ 2) / 1 = ρ 3) ∧ (ρ 3 ≤ 9) ∧ ((ρ 2) / 1 = ρ 4) := ⟨by omega, by omega, by omega, by omega⟩
  have l0 : sn87 [45, ρ 1] (γ 0) 0 0 (γ 1) := hS87 _ _ _ _ _ (zAllA hl 0)
  have l1 : zOpP (.lneg) (γ 0) (γ 1) [ρ 0] (ρ 2) := zAllA hl 1
  have l2 : zOpP (.lrem) (γ 0) (γ 1) [ρ 4, 10] (ρ 5) := zAllA hl 2
  have l3 : zOpP (.ladd) (γ 0) (γ 1) [48, ρ 5] (ρ 6) := zAllA hl 3
  have l4 : zOpP (.l2i) (γ 0) (γ 1) [ρ 6] (ρ 7) := zAllA hl 4
  have l5 : sn87 [ρ 7, ρ 1 + 1] (γ 1) 0 0 (γ 2) := hS87 _ _ _ _ _ (zAllA hl 5)
  show sn88 [ρ 0, ρ 1] (γ 0) 0 0 (γ 2)
  refine Eq.symm ?_
  show fn88 [ρ 0] (γ 0) = _
  unfold fn88
  refine zLV (ρ 0) rfl (zIN w_0 (zLE (show fn87 [45] (γ 0) = (0, 0, γ 1) from l0.symm) (zLV (γ 1) rfl (zLE (zF1_ok l1) (zLE w_1 (zIP w_2 (zLE w_3 ?_)))))))
  refine zLE (zF2_ok l2) (zLE (zF2_ok l3) (zLE (zF1_ok l4) (zLE (show fn87 [ρ 7] (γ 1) = (0, 0, γ 2) from l5.symm) (zLV (γ 2) rfl ?_))))
  rfl
set_option maxRecDepth 100000 in
theorem vn88_13 {S : Nat → zSpc} (hS87 : zIm S 87 sn87) {a : List Int} {g : rHp} : ∀ (ρ : Nat → Int) (γ : Nat → rHp), zO 2 S a g q88_13 ρ γ → zGl (fun _ _ _ => True) (sn88 a g) q88_13 ρ γ := by
  intro ρ γ h
  obtain ⟨ha, hg, hr, hf, hm, hc, hl⟩ := h
  have ha : a = [ρ 0, ρ 1] := ha
  subst ha
  subst hg
  have r0 : ((-2147483648) : Int) ≤ ρ 0 ∧ ρ 0 ≤ (-1) := zRnA hr 0
  have r3 : (10 : Int) ≤ ρ 3 ∧ ρ 3 ≤ 2147483648 := zRnA hr 3
  have r4 : (0 : Int) ≤ ρ 4 ∧ ρ 4 ≤ 9 := zRnA hr 4
  have f0 : (0 : Int) ≤ ρ 9 + -ρ 2 := zAllA hf 0
  have f1 : (0 : Int) ≤ -ρ 9 + ρ 2 := zAllA hf 1
  have f3 : (0 : Int) ≤ 10 * ρ 5 + -ρ 2 + 9 := zAllA hf 3
  have f4 : (0 : Int) ≤ (-10) * ρ 5 + ρ 2 := zAllA hf 4
  have f6 : (0 : Int) ≤ 10 * ρ 4 + -ρ 2 + 9 := zAllA hf 6
  have f7 : (0 : Int) ≤ (-10) * ρ 4 + ρ 2 := zAllA hf 7
  have f8 : (0 : Int) ≤ ρ 3 + -ρ 2 := zAllA hf 8
  have f9 : (0 : Int) ≤ -ρ 3 + ρ 2 := zAllA hf 9
  obtain ⟨w_0, w_1, w_2, w_3, w_4, w_5, w_6⟩ : (¬ (ρ 0 ≥ 0)) ∧ ((ρ 2) / 1 = ρ 3) ∧ (¬ (ρ 3 ≤ 9)) ∧ ((ρ 2) / 10 = ρ 4) ∧ (ρ 4 ≤ 9) ∧ ((ρ 2) / 10 = ρ 5) ∧ ((ρ 2) / 1 = ρ 9) := ⟨by omega, by omega, by omega, by omega, by omega, by omega, by omega⟩
  have l0 : sn87 [45, ρ 1] (γ 0) 0 0 (γ 1) := hS87 _ _ _ _ _ (zAllA hl 0)
  have l1 : zOpP (.lneg) (γ 0) (γ 1) [ρ 0] (ρ 2) := zAllA hl 1
  have l2 : zOpP (.lrem) (γ 0) (γ 1) [ρ 5, 10] (ρ 6) := zAllA hl 2
  have l3 : zOpP (.ladd) (γ 0) (γ 1) [48, ρ 6] (ρ 7) := zAllA hl 3
  have l4 : zOpP (.l2i) (γ 0) (γ 1) [ρ 7] (ρ 8) := zAllA hl 4
  have l5 : sn87 [ρ 8, ρ 1 + 1] (γ 1) 0 0 (γ 2) := hS87 _ _ _ _ _ (zAllA hl 5)
  have l6 : zOpP (.lrem) (γ 0) (γ 1) [ρ 9, 10] (ρ 10) := zAllA hl 6
  have l7 : zOpP (.ladd) (γ 0) (γ 1) [48, ρ 10] (ρ 11) := zAllA hl 7
  have l8 : zOpP (.l2i) (γ 0) (γ 1) [ρ 11] (ρ 12) := zAllA hl 8
  have l9 : sn87 [ρ 12, ρ 1 + 2] (γ 2) 0 0 (γ 3) := hS87 _ _ _ _ _ (zAllA hl 9)
  show sn88 [ρ 0, ρ 1] (γ 0) 0 0 (γ 3)
  refine Eq.symm ?_
  show fn88 [ρ 0] (γ 0) = _
  unfold fn88
  refine zLV (ρ 0) rfl (zIN w_0 (zLE (show fn87 [45] (γ 0) = (0, 0, γ 1) from l0.symm) (zLV (γ 1) rfl (zLE (zF1_ok l1) (zLE w_1 (zIN w_2 (zLE w_3 ?_)))))))
  refine zIP w_4 (zLE w_5 (zLE (zF2_ok l2) (zLE (zF2_ok l3) (zLE (zF1_ok l4) (zLE (show fn87 [ρ 8] (γ 1) = (0, 0, γ 2) from l5.symm) (zLV (γ 2) rfl (zLE w_6 ?_)))))))
  refine zLE (zF2_ok l6) (zLE (zF2_ok l7) (zLE (zF1_ok l8) (zLE (show fn87 [ρ 12] (γ 2) = (0, 0, γ 3) from l9.symm) (zLV (γ 3) rfl ?_))))
  rfl
set_option maxRecDepth 100000 in
theorem vn88_14 {S : Nat → zSpc} (hS87 : zIm S 87 sn87) {a : List Int} {g : rHp} : ∀ (ρ : Nat → Int) (γ : Nat → rHp), zO 2 S a g q88_14 ρ γ → zGl (fun _ _ _ => True) (sn88 a g) q88_14 ρ γ := by
  intro ρ γ h
  obtain ⟨ha, hg, hr, hf, hm, hc, hl⟩ := h
  have ha : a = [ρ 0, ρ 1] := ha
  subst ha
  subst hg
  have r0 : ((-2147483648) : Int) ≤ ρ 0 ∧ ρ 0 ≤ (-1) := zRnA hr 0
  have r3 : (10 : Int) ≤ ρ 3 ∧ ρ 3 ≤ 2147483648 := zRnA hr 3
  have r4 : (10 : Int) ≤ ρ 4 ∧ ρ 4 ≤ 214748364 := zRnA hr 4
  have r5 : (0 : Int) ≤ ρ 5 ∧ ρ 5 ≤ 9 := zRnA hr 5
  have f0 : (0 : Int) ≤ ρ 14 + -ρ 2 := zAllA hf 0
  have f1 : (0 : Int) ≤ -ρ 14 + ρ 2 := zAllA hf 1
  have f3 : (0 : Int) ≤ 10 * ρ 10 + -ρ 2 + 9 := zAllA hf 3
  have f4 : (0 : Int) ≤ (-10) * ρ 10 + ρ 2 := zAllA hf 4
  have f6 : (0 : Int) ≤ 100 * ρ 6 + -ρ 2 + 99 := zAllA hf 6
  have f7 : (0 : Int) ≤ (-100) * ρ 6 + ρ 2 := zAllA hf 7
  have f9 : (0 : Int) ≤ 100 * ρ 5 + -ρ 2 + 99 := zAllA hf 9
  have f10 : (0 : Int) ≤ (-100) * ρ 5 + ρ 2 := zAllA hf 10
  have f12 : (0 : Int) ≤ 10 * ρ 4 + -ρ 2 + 9 := zAllA hf 12
  have f13 : (0 : Int) ≤ (-10) * ρ 4 + ρ 2 := zAllA hf 13
  have f14 : (0 : Int) ≤ ρ 3 + -ρ 2 := zAllA hf 14
  have f15 : (0 : Int) ≤ -ρ 3 + ρ 2 := zAllA hf 15
  obtain ⟨w_0, w_1, w_2, w_3, w_4, w_5, w_6, w_7, w_8, w_9⟩ : (¬ (ρ 0 ≥ 0)) ∧ ((ρ 2) / 1 = ρ 3) ∧ (¬ (ρ 3 ≤ 9)) ∧ ((ρ 2) / 10 = ρ 4) ∧ (¬ (ρ 4 ≤ 9)) ∧ ((ρ 2) / 100 = ρ 5) ∧ (ρ 5 ≤ 9) ∧ ((ρ 2) / 100 = ρ 6) ∧ ((ρ 2) / 10 = ρ 10) ∧ ((ρ 2) / 1 = ρ 14) := ⟨by clear r3 r4 r5 f0 f1 f3 f4 f6 f7 f9 f10 f12 f13 f14 f15; omega, by clear r0 r3 r4 r5 f0 f1 f3 f4 f6 f7 f9 f10 f12 f13; omega, by clear r0 r4 r5 f0 f1 f3 f4 f6 f7 f9 f10 f12 f13 f14 f15; omega, by clear r0 r3 r4 r5 f0 f1 f3 f4 f6 f7 f9 f10 f14 f15; omega, by clear r0 r3 r5 f0 f1 f3 f4 f6 f7 f9 f10 f12 f13 f14 f15; omega, by clear r0 r3 r4 r5 f0 f1 f3 f4 f6 f7 f12 f13 f14 f15; omega, by clear r0 r3 r4 f0 f1 f3 f4 f6 f7 f9 f10 f12 f13 f14 f15; omega, by clear r0 r3 r4 r5 f0 f1 f3 f4 f9 f10 f12 f13 f14 f15; omega, by clear r0 r3 r4 r5 f0 f1 f6 f7 f9 f10 f12 f13 f14 f15; omega, by clear r0 r3 r4 r5 f3 f4 f6 f7 f9 f10 f12 f13 f14 f15; omega⟩
  have l0 : sn87 [45, ρ 1] (γ 0) 0 0 (γ 1) := hS87 _ _ _ _ _ (zAllA hl 0)
  have l1 : zOpP (.lneg) (γ 0) (γ 1) [ρ 0] (ρ 2) := zAllA hl 1
  have l2 : zOpP (.lrem) (γ 0) (γ 1) [ρ 6, 10] (ρ 7) := zAllA hl 2
  have l3 : zOpP (.ladd) (γ 0) (γ 1) [48, ρ 7] (ρ 8) := zAllA hl 3
  have l4 : zOpP (.l2i) (γ 0) (γ 1) [ρ 8] (ρ 9) := zAllA hl 4
  have l5 : sn87 [ρ 9, ρ 1 + 1] (γ 1) 0 0 (γ 2) := hS87 _ _ _ _ _ (zAllA hl 5)
  have l6 : zOpP (.lrem) (γ 0) (γ 1) [ρ 10, 10] (ρ 11) := zAllA hl 6
  have l7 : zOpP (.ladd) (γ 0) (γ 1) [48, ρ 11] (ρ 12) := zAllA hl 7
  have l8 : zOpP (.l2i) (γ 0) (γ 1) [ρ 12] (ρ 13) := zAllA hl 8
  have l9 : sn87 [ρ 13, ρ 1 + 2] (γ 2) 0 0 (γ 3) := hS87 _ _ _ _ _ (zAllA hl 9)
  have l10 : zOpP (.lrem) (γ 0) (γ 1) [ρ 14, 10] (ρ 15) := zAllA hl 10
  have l11 : zOpP (.ladd) (γ 0) (γ 1) [48, ρ 15] (ρ 16) := zAllA hl 11
  have l12 : zOpP (.l2i) (γ 0) (γ 1) [ρ 16] (ρ 17) := zAllA hl 12
  have l13 : sn87 [ρ 17, ρ 1 + 3] (γ 3) 0 0 (γ 4) := hS87 _ _ _ _ _ (zAllA hl 13)
  show sn88 [ρ 0, ρ 1] (γ 0) 0 0 (γ 4)
  refine Eq.symm ?_
  show fn88 [ρ 0] (γ 0) = _
  unfold fn88
  refine zLV (ρ 0) rfl (zIN w_0 (zLE (show fn87 [45] (γ 0) = (0, 0, γ 1) from l0.symm) (zLV (γ 1) rfl (zLE (zF1_ok l1) (zLE w_1 (zIN w_2 (zLE w_3 ?_)))))))
  refine zIN w_4 (zLE w_5 (zIP w_6 (zLE w_7 (zLE (zF2_ok l2) (zLE (zF2_ok l3) (zLE (zF1_ok l4) (zLE (show fn87 [ρ 9] (γ 1) = (0, 0, γ 2) from l5.symm) ?_)))))))
  refine zLV (γ 2) rfl (zLE w_8 (zLE (zF2_ok l6) (zLE (zF2_ok l7) (zLE (zF1_ok l8) (zLE (show fn87 [ρ 13] (γ 2) = (0, 0, γ 3) from l9.symm) (zLV (γ 3) rfl (zLE w_9 ?_)))))))
  refine zLE (zF2_ok l10) (zLE (zF2_ok l11) (zLE (zF1_ok l12) (zLE (show fn87 [ρ 17] (γ 3) = (0, 0, γ 4) from l13.symm) (zLV (γ 4) rfl ?_))))
  rfl
set_option maxRecDepth 100000 in
theorem vn88_15 {S : Nat → zSpc} (hS87 : zIm S 87 sn87) {a : List Int} {g : rHp} : ∀ (ρ : Nat → Int) (γ : Nat → rHp), zO 2 S a g q88_15 ρ γ → zGl (fun _ _ _ => True) (sn88 a g) q88_15 ρ γ := by
  intro ρ γ h
  obtain ⟨ha, hg, hr, hf, hm, hc, hl⟩ := h
  have ha : a = [ρ 0, ρ 1] := ha
  subst ha
  subst hg
  have r0 : ((-2147483648) : Int) ≤ ρ 0 ∧ ρ 0 ≤ (-1) := zRnA hr 0
  have r3 : (10 : Int) ≤ ρ 3 ∧ ρ 3 ≤ 2147483648 := zRnA hr 3
  have r4 : (10 : Int) ≤ ρ 4 ∧ ρ 4 ≤ 214748364 := zRnA hr 4
  have r5 : (10 : Int) ≤ ρ 5 ∧ ρ 5 ≤ 21474836 := zRnA hr 5
  have r6 : (0 : Int) ≤ ρ 6 ∧ ρ 6 ≤ 9 := zRnA hr 6
  have f0 : (0 : Int) ≤ ρ 19 + -ρ 2 := zAllA hf 0
  have f1 : (0 : Int) ≤ -ρ 19 + ρ 2 := zAllA hf 1
  have f3 : (0 : Int) ≤ 10 * ρ 15 + -ρ 2 + 9 := zAllA hf 3
  have f4 : (0 : Int) ≤ (-10) * ρ 15 + ρ 2 := zAllA hf 4
  have f6 : (0 : Int) ≤ 100 * ρ 11 + -ρ 2 + 99 := zAllA hf 6
  have f7 : (0 : Int) ≤ (-100) * ρ 11 + ρ 2 := zAllA hf 7
  have f9 : (0 : Int) ≤ 1000 * ρ 7 + -ρ 2 + 999 := zAllA hf 9
  have f10 : (0 : Int) ≤ (-1000) * ρ 7 + ρ 2 := zAllA hf 10
  have f12 : (0 : Int) ≤ 1000 * ρ 6 + -ρ 2 + 999 := zAllA hf 12
  have f13 : (0 : Int) ≤ (-1000) * ρ 6 + ρ 2 := zAllA hf 13
  have f15 : (0 : Int) ≤ 100 * ρ 5 + -ρ 2 + 99 := zAllA hf 15
  have f16 : (0 : Int) ≤ (-100) * ρ 5 + ρ 2 := zAllA hf 16
  have f18 : (0 : Int) ≤ 10 * ρ 4 + -ρ 2 + 9 := zAllA hf 18
  have f19 : (0 : Int) ≤ (-10) * ρ 4 + ρ 2 := zAllA hf 19
  have f20 : (0 : Int) ≤ ρ 3 + -ρ 2 := zAllA hf 20
  have f21 : (0 : Int) ≤ -ρ 3 + ρ 2 := zAllA hf 21
  obtain ⟨w_0, w_1, w_2, w_3, w_4, w_5, w_6, w_7, w_8, w_9, w_10, w_11, w_12⟩ : (¬ (ρ 0 ≥ 0)) ∧ ((ρ 2) / 1 = ρ 3) ∧ (¬ (ρ 3 ≤ 9)) ∧ ((ρ 2) / 10 = ρ 4) ∧ (¬ (ρ 4 ≤ 9)) ∧ ((ρ 2) / 100 = ρ 5) ∧ (¬ (ρ 5 ≤ 9)) ∧ ((ρ 2) / 1000 = ρ 6) ∧ (ρ 6 ≤ 9) ∧ ((ρ 2) / 1000 = ρ 7) ∧ ((ρ 2) / 100 = ρ 11) ∧ ((ρ 2) / 10 = ρ 15) ∧ ((ρ 2) / 1 = ρ 19) := ⟨by clear r3 r4 r5 r6 f0 f1 f3 f4 f6 f7 f9 f10 f12 f13 f15 f16 f18 f19 f20 f21; omega, by clear r0 r3 r4 r5 r6 f0 f1 f3 f4 f6 f7 f9 f10 f12 f13 f15 f16 f18 f19; omega, by clear r0 r4 r5 r6 f0 f1 f3 f4 f6 f7 f9 f10 f12 f13 f15 f16 f18 f19 f20 f21; omega, by clear r0 r3 r4 r5 r6 f0 f1 f3 f4 f6 f7 f9 f10 f12 f13 f15 f16 f20 f21; omega, by clear r0 r3 r5 r6 f0 f1 f3 f4 f6 f7 f9 f10 f12 f13 f15 f16 f18 f19 f20 f21; omega, by clear r0 r3 r4 r5 r6 f0 f1 f3 f4 f6 f7 f9 f10 f12 f13 f18 f19 f20 f21; omega, by clear r0 r3 r4 r6 f0 f1 f3 f4 f6 f7 f9 f10 f12 f13 f15 f16 f18 f19 f20 f21; omega, by clear r0 r3 r4 r5 r6 f0 f1 f3 f4 f6 f7 f9 f10 f15 f16 f18 f19 f20 f21; omega, by clear r0 r3 r4 r5 f0 f1 f3 f4 f6 f7 f9 f10 f12 f13 f15 f16 f18 f19 f20 f21; omega, by clear r0 r3 r4 r5 r6 f0 f1 f3 f4 f6 f7 f12 f13 f15 f16 f18 f19 f20 f21; omega, by clear r0 r3 r4 r5 r6 f0 f1 f3 f4 f9 f10 f12 f13 f15 f16 f18 f19 f20 f21; omega, by clear r0 r3 r4 r5 r6 f0 f1 f6 f7 f9 f10 f12 f13 f15 f16 f18 f19 f20 f21; omega, by clear r0 r3 r4 r5 r6 f3 f4 f6 f7 f9 f10 f12 f13 f15 f16 f18 f19 f20 f21; omega⟩
  have l0 : sn87 [45, ρ 1] (γ 0) 0 0 (γ 1) := hS87 _ _ _ _ _ (zAllA hl 0)
  have l1 : zOpP (.lneg) (γ 0) (γ 1) [ρ 0] (ρ 2) := zAllA hl 1
  have l2 : zOpP (.lrem) (γ 0) (γ 1) [ρ 7, 10] (ρ 8) := zAllA hl 2
  have l3 : zOpP (.ladd) (γ 0) (γ 1) [48, ρ 8] (ρ 9) := zAllA hl 3
  have l4 : zOpP (.l2i) (γ 0) (γ 1) [ρ 9] (ρ 10) := zAllA hl 4
  have l5 : sn87 [ρ 10, ρ 1 + 1] (γ 1) 0 0 (γ 2) := hS87 _ _ _ _ _ (zAllA hl 5)
  have l6 : zOpP (.lrem) (γ 0) (γ 1) [ρ 11, 10] (ρ 12) := zAllA hl 6
  have l7 : zOpP (.ladd) (γ 0) (γ 1) [48, ρ 12] (ρ 13) := zAllA hl 7
  have l8 : zOpP (.l2i) (γ 0) (γ 1) [ρ 13] (ρ 14) := zAllA hl 8
  have l9 : sn87 [ρ 14, ρ 1 + 2] (γ 2) 0 0 (γ 3) := hS87 _ _ _ _ _ (zAllA hl 9)
  have l10 : zOpP (.lrem) (γ 0) (γ 1) [ρ 15, 10] (ρ 16) := zAllA hl 10
  have l11 : zOpP (.ladd) (γ 0) (γ 1) [48, ρ 16] (ρ 17) := zAllA hl 11
  have l12 : zOpP (.l2i) (γ 0) (γ 1) [ρ 17] (ρ 18) := zAllA hl 12
  have l13 : sn87 [ρ 18, ρ 1 + 3] (γ 3) 0 0 (γ 4) := hS87 _ _ _ _ _ (zAllA hl 13)
  have l14 : zOpP (.lrem) (γ 0) (γ 1) [ρ 19, 10] (ρ 20) := zAllA hl 14
  have l15 : zOpP (.ladd) (γ 0) (γ 1) [48, ρ 20] (ρ 21) := zAllA hl 15
  have l16 : zOpP (.l2i) (γ 0) (γ 1) [ρ 21] (ρ 22) := zAllA hl 16
  have l17 : sn87 [ρ 22, ρ 1 + 4] (γ 4) 0 0 (γ 5) := hS87 _ _ _ _ _ (zAllA hl 17)
  show sn88 [ρ 0, ρ 1] (γ 0) 0 0 (γ 5)
  refine Eq.symm ?_
  show fn88 [ρ 0] (γ 0) = _
  unfold fn88
  refine zLV (ρ 0) rfl (zIN w_0 (zLE (show fn87 [45] (γ 0) = (0, 0, γ 1) from l0.symm) (zLV (γ 1) rfl (zLE (zF1_ok l1) (zLE w_1 (zIN w_2 (zLE w_3 ?_)))))))
  refine zIN w_4 (zLE w_5 (zIN w_6 (zLE w_7 (zIP w_8 (zLE w_9 (zLE (zF2_ok l2) (zLE (zF2_ok l3) ?_)))))))
  refine zLE (zF1_ok l4) (zLE (show fn87 [ρ 10] (γ 1) = (0, 0, γ 2) from l5.symm) (zLV (γ 2) rfl (zLE w_10 (zLE (zF2_ok l6) (zLE (zF2_ok l7) (zLE (zF1_ok l8) (zLE (show fn87 [ρ 14] (γ 2) = (0, 0, γ 3) from l9.symm) ?_)))))))
  refine zLV (γ 3) rfl (zLE w_11 (zLE (zF2_ok l10) (zLE (zF2_ok l11) (zLE (zF1_ok l12) (zLE (show fn87 [ρ 18] (γ 3) = (0, 0, γ 4) from l13.symm) (zLV (γ 4) rfl (zLE w_12 ?_)))))))
  refine zLE (zF2_ok l14) (zLE (zF2_ok l15) (zLE (zF1_ok l16) (zLE (show fn87 [ρ 22] (γ 4) = (0, 0, γ 5) from l17.symm) (zLV (γ 5) rfl ?_))))
  rfl
set_option maxRecDepth 100000 in
theorem vn88_16 {S : Nat → zSpc} (hS87 : zIm S 87 sn87) {a : List Int} {g : rHp} : ∀ (ρ : Nat → Int) (γ : Nat → rHp), zO 2 S a g q88_16 ρ γ → zGl (fun _ _ _ => True) (sn88 a g) q88_16 ρ γ := by
  intro ρ γ h
  obtain ⟨ha, hg, hr, hf, hm, hc, hl⟩ := h
  have ha : a = [ρ 0, ρ 1] := ha
  subst ha
  subst hg
  have r0 : ((-2147483648) : Int) ≤ ρ 0 ∧ ρ 0 ≤ (-1) := zRnA hr 0
  have r3 : (10 : Int) ≤ ρ 3 ∧ ρ 3 ≤ 2147483648 := zRnA hr 3
  have r4 : (10 : Int) ≤ ρ 4 ∧ ρ 4 ≤ 214748364 := zRnA hr 4
  have r5 : (10 : Int) ≤ ρ 5 ∧ ρ 5 ≤ 21474836 := zRnA hr 5
  have r6 : (10 : Int) ≤ ρ 6 ∧ ρ 6 ≤ 2147483 := zRnA hr 6
  have r7 : (0 : Int) ≤ ρ 7 ∧ ρ 7 ≤ 9 := zRnA hr 7
  have f0 : (0 : Int) ≤ ρ 24 + -ρ 2 := zAllA hf 0
  have f1 : (0 : Int) ≤ -ρ 24 + ρ 2 := zAllA hf 1
  have f3 : (0 : Int) ≤ 10 * ρ 20 + -ρ 2 + 9 := zAllA hf 3
  have f4 : (0 : Int) ≤ (-10) * ρ 20 + ρ 2 := zAllA hf 4
  have f6 : (0 : Int) ≤ 100 * ρ 16 + -ρ 2 + 99 := zAllA hf 6
  have f7 : (0 : Int) ≤ (-100) * ρ 16 + ρ 2 := zAllA hf 7
  have f9 : (0 : Int) ≤ 1000 * ρ 12 + -ρ 2 + 999 := zAllA hf 9
  have f10 : (0 : Int) ≤ (-1000) * ρ 12 + ρ 2 := zAllA hf 10
  have f12 : (0 : Int) ≤ 10000 * ρ 8 + -ρ 2 + 9999 := zAllA hf 12
  have f13 : (0 : Int) ≤ (-10000) * ρ 8 + ρ 2 := zAllA hf 13
  have f15 : (0 : Int) ≤ 10000 * ρ 7 + -ρ 2 + 9999 := zAllA hf 15
  have f16 : (0 : Int) ≤ (-10000) * ρ 7 + ρ 2 := zAllA hf 16
  have f18 : (0 : Int) ≤ 1000 * ρ 6 + -ρ 2 + 999 := zAllA hf 18
  have f19 : (0 : Int) ≤ (-1000) * ρ 6 + ρ 2 := zAllA hf 19
  have f21 : (0 : Int) ≤ 100 * ρ 5 + -ρ 2 + 99 := zAllA hf 21
  have f22 : (0 : Int) ≤ (-100) * ρ 5 + ρ 2 := zAllA hf 22
  have f24 : (0 : Int) ≤ 10 * ρ 4 + -ρ 2 + 9 := zAllA hf 24
  have f25 : (0 : Int) ≤ (-10) * ρ 4 + ρ 2 := zAllA hf 25
  have f26 : (0 : Int) ≤ ρ 3 + -ρ 2 := zAllA hf 26
  have f27 : (0 : Int) ≤ -ρ 3 + ρ 2 := zAllA hf 27
  obtain ⟨w_0, w_1, w_2, w_3, w_4, w_5, w_6, w_7, w_8, w_9, w_10, w_11, w_12, w_13, w_14, w_15⟩ : (¬ (ρ 0 ≥ 0)) ∧ ((ρ 2) / 1 = ρ 3) ∧ (¬ (ρ 3 ≤ 9)) ∧ ((ρ 2) / 10 = ρ 4) ∧ (¬ (ρ 4 ≤ 9)) ∧ ((ρ 2) / 100 = ρ 5) ∧ (¬ (ρ 5 ≤ 9)) ∧ ((ρ 2) / 1000 = ρ 6) ∧ (¬ (ρ 6 ≤ 9)) ∧ ((ρ 2) / 10000 = ρ 7) ∧ (ρ 7 ≤ 9) ∧ ((ρ 2) / 10000 = ρ 8) ∧ ((ρ 2) / 1000 = ρ 12) ∧ ((ρ 2) / 100 = ρ 16) ∧ ((ρ 2) / 10 = ρ 20) ∧ ((ρ 2) / 1 = ρ 24) := ⟨by clear r3 r4 r5 r6 r7 f0 f1 f3 f4 f6 f7 f9 f10 f12 f13 f15 f16 f18 f19 f21 f22 f24 f25 f26 f27; omega, by clear r0 r3 r4 r5 r6 r7 f0 f1 f3 f4 f6 f7 f9 f10 f12 f13 f15 f16 f18 f19 f21 f22 f24 f25; omega, by clear r0 r4 r5 r6 r7 f0 f1 f3 f4 f6 f7 f9 f10 f12 f13 f15 f16 f18 f19 f21 f22 f24 f25 f26 f27; omega, by clear r0 r3 r4 r5 r6 r7 f0 f1 f3 f4 f6 f7 f9 f10 f12 f13 f15 f16 f18 f19 f21 f22 f26 f27; omega, by clear r0 r3 r5 r6 r7 f0 f1 f3 f4 f6 f7 f9 f10 f12 f13 f15 f16 f18 f19 f21 f22 f24 f25 f26 f27; omega, by clear r0 r3 r4 r5 r6 r7 f0 f1 f3 f4 f6 f7 f9 f10 f12 f13 f15 f16 f18 f19 f24 f25 f26 f27; omega, by clear r0 r3 r4 r6 r7 f0 f1 f3 f4 f6 f7 f9 f10 f12 f13 f15 f16 f18 f19 f21 f22 f24 f25 f26 f27; omega, by clear r0 r3 r4 r5 r6 r7 f0 f1 f3 f4 f6 f7 f9 f10 f12 f13 f15 f16 f21 f22 f24 f25 f26 f27; omega, by clear r0 r3 r4 r5 r7 f0 f1 f3 f4 f6 f7 f9 f10 f12 f13 f15 f16 f18 f19 f21 f22 f24 f25 f26 f27; omega, by clear r0 r3 r4 r5 r6 r7 f0 f1 f3 f4 f6 f7 f9 f10 f12 f13 f18 f19 f21 f22 f24 f25 f26 f27; omega, by clear r0 r3 r4 r5 r6 f0 f1 f3 f4 f6 f7 f9 f10 f12 f13 f15 f16 f18 f19 f21 f22 f24 f25 f26 f27; omega, by clear r0 r3 r4 r5 r6 r7 f0 f1 f3 f4 f6 f7 f9 f10 f15 f16 f18 f19 f21 f22 f24 f25 f26 f27; omega, by clear r0 r3 r4 r5 r6 r7 f0 f1 f3 f4 f6 f7 f12 f13 f15 f16 f18 f19 f21 f22 f24 f25 f26 f27; omega, by clear r0 r3 r4 r5 r6 r7 f0 f1 f3 f4 f9 f10 f12 f13 f15 f16 f18 f19 f21 f22 f24 f25 f26 f27; omega, by clear r0 r3 r4 r5 r6 r7 f0 f1 f6 f7 f9 f10 f12 f13 f15 f16 f18 f19 f21 f22 f24 f25 f26 f27; omega, by clear r0 r3 r4 r5 r6 r7 f3 f4 f6 f7 f9 f10 f12 f13 f15 f16 f18 f19 f21 f22 f24 f25 f26 f27; omega⟩
  have l0 : sn87 [45, ρ 1] (γ 0) 0 0 (γ 1) := hS87 _ _ _ _ _ (zAllA hl 0)
  have l1 : zOpP (.lneg) (γ 0) (γ 1) [ρ 0] (ρ 2) := zAllA hl 1
  have l2 : zOpP (.lrem) (γ 0) (γ 1) [ρ 8, 10] (ρ 9) := zAllA hl 2
  have l3 : zOpP (.ladd) (γ 0) (γ 1) [48, ρ 9] (ρ 10) := zAllA hl 3
  have l4 : zOpP (.l2i) (γ 0) (γ 1) [ρ 10] (ρ 11) := zAllA hl 4
  have l5 : sn87 [ρ 11, ρ 1 + 1] (γ 1) 0 0 (γ 2) := hS87 _ _ _ _ _ (zAllA hl 5)
  have l6 : zOpP (.lrem) (γ 0) (γ 1) [ρ 12, 10] (ρ 13) := zAllA hl 6
  have l7 : zOpP (.ladd) (γ 0) (γ 1) [48, ρ 13] (ρ 14) := zAllA hl 7
  have l8 : zOpP (.l2i) (γ 0) (γ 1) [ρ 14] (ρ 15) := zAllA hl 8
  have l9 : sn87 [ρ 15, ρ 1 + 2] (γ 2) 0 0 (γ 3) := hS87 _ _ _ _ _ (zAllA hl 9)
  have l10 : zOpP (.lrem) (γ 0) (γ 1) [ρ 16, 10] (ρ 17) := zAllA hl 10
  have l11 : zOpP (.ladd) (γ 0) (γ 1) [48, ρ 17] (ρ 18) := zAllA hl 11
  have l12 : zOpP (.l2i) (γ 0) (γ 1) [ρ 18] (ρ 19) := zAllA hl 12
  have l13 : sn87 [ρ 19, ρ 1 + 3] (γ 3) 0 0 (γ 4) := hS87 _ _ _ _ _ (zAllA hl 13)
  have l14 : zOpP (.lrem) (γ 0) (γ 1) [ρ 20, 10] (ρ 21) := zAllA hl 14
  have l15 : zOpP (.ladd) (γ 0) (γ 1) [48, ρ 21] (ρ 22) := zAllA hl 15
  have l16 : zOpP (.l2i) (γ 0) (γ 1) [ρ 22] (ρ 23) := zAllA hl 16
  have l17 : sn87 [ρ 23, ρ 1 + 4] (γ 4) 0 0 (γ 5) := hS87 _ _ _ _ _ (zAllA hl 17)
  have l18 : zOpP (.lrem) (γ 0) (γ 1) [ρ 24, 10] (ρ 25) := zAllA hl 18
  have l19 : zOpP (.ladd) (γ 0) (γ 1) [48, ρ 25] (ρ 26) := zAllA hl 19
  have l20 : zOpP (.l2i) (γ 0) (γ 1) [ρ 26] (ρ 27) := zAllA hl 20
  have l21 : sn87 [ρ 27, ρ 1 + 5] (γ 5) 0 0 (γ 6) := hS87 _ _ _ _ _ (zAllA hl 21)
  show sn88 [ρ 0, ρ 1] (γ 0) 0 0 (γ 6)
  refine Eq.symm ?_
  show fn88 [ρ 0] (γ 0) = _
  unfold fn88
  refine zLV (ρ 0) rfl (zIN w_0 (zLE (show fn87 [45] (γ 0) = (0, 0, γ 1) from l0.symm) (zLV (γ 1) rfl (zLE (zF1_ok l1) (zLE w_1 (zIN w_2 (zLE w_3 ?_)))))))
  refine zIN w_4 (zLE w_5 (zIN w_6 (zLE w_7 (zIN w_8 (zLE w_9 (zIP w_10 (zLE w_11 ?_)))))))
  refine zLE (zF2_ok l2) (zLE (zF2_ok l3) (zLE (zF1_ok l4) (zLE (show fn87 [ρ 11] (γ 1) = (0, 0, γ 2) from l5.symm) (zLV (γ 2) rfl (zLE w_12 (zLE (zF2_ok l6) (zLE (zF2_ok l7) ?_)))))))
  refine zLE (zF1_ok l8) (zLE (show fn87 [ρ 15] (γ 2) = (0, 0, γ 3) from l9.symm) (zLV (γ 3) rfl (zLE w_13 (zLE (zF2_ok l10) (zLE (zF2_ok l11) (zLE (zF1_ok l12) (zLE (show fn87 [ρ 19] (γ 3) = (0, 0, γ 4) from l13.symm) ?_)))))))
  refine zLV (γ 4) rfl (zLE w_14 (zLE (zF2_ok l14) (zLE (zF2_ok l15) (zLE (zF1_ok l16) (zLE (show fn87 [ρ 23] (γ 4) = (0, 0, γ 5) from l17.symm) (zLV (γ 5) rfl (zLE w_15 ?_)))))))
  refine zLE (zF2_ok l18) (zLE (zF2_ok l19) (zLE (zF1_ok l20) (zLE (show fn87 [ρ 27] (γ 5) = (0, 0, γ 6) from l21.symm) (zLV (γ 6) rfl ?_))))
  rfl
set_option maxRecDepth 100000 in
theorem vn88_17 {S : Nat → zSpc} (hS87 : zIm S 87 sn87) {a : List Int} {g : rHp} : ∀ (ρ : Nat → Int) (γ : Nat → rHp), zO 2 S a g q88_17 ρ γ → zGl (fun _ _ _ => True) (sn88 a g) q88_17 ρ γ := by
  intro ρ γ h
  obtain ⟨ha, hg, hr, hf, hm, hc, hl⟩ := h
  have ha : a = [ρ 0, ρ 1] := ha
  subst ha
  subst hg
  have r0 : ((-2147483648) : Int) ≤ ρ 0 ∧ ρ 0 ≤ (-1) := zRnA hr 0
  have r3 : (10 : Int) ≤ ρ 3 ∧ ρ 3 ≤ 2147483648 := zRnA hr 3
  have r4 : (10 : Int) ≤ ρ 4 ∧ ρ 4 ≤ 214748364 := zRnA hr 4
  have r5 : (10 : Int) ≤ ρ 5 ∧ ρ 5 ≤ 21474836 := zRnA hr 5
  have r6 : (10 : Int) ≤ ρ 6 ∧ ρ 6 ≤ 2147483 := zRnA hr 6
  have r7 : (10 : Int) ≤ ρ 7 ∧ ρ 7 ≤ 214748 := zRnA hr 7
  have r8 : (0 : Int) ≤ ρ 8 ∧ ρ 8 ≤ 9 := zRnA hr 8
  have f0 : (0 : Int) ≤ ρ 29 + -ρ 2 := zAllA hf 0
  have f1 : (0 : Int) ≤ -ρ 29 + ρ 2 := zAllA hf 1
  have f3 : (0 : Int) ≤ 10 * ρ 25 + -ρ 2 + 9 := zAllA hf 3
  have f4 : (0 : Int) ≤ (-10) * ρ 25 + ρ 2 := zAllA hf 4
  have f6 : (0 : Int) ≤ 100 * ρ 21 + -ρ 2 + 99 := zAllA hf 6
  have f7 : (0 : Int) ≤ (-100) * ρ 21 + ρ 2 := zAllA hf 7
  have f9 : (0 : Int) ≤ 1000 * ρ 17 + -ρ 2 + 999 := zAllA hf 9
  have f10 : (0 : Int) ≤ (-1000) * ρ 17 + ρ 2 := zAllA hf 10
  have f12 : (0 : Int) ≤ 10000 * ρ 13 + -ρ 2 + 9999 := zAllA hf 12
  have f13 : (0 : Int) ≤ (-10000) * ρ 13 + ρ 2 := zAllA hf 13
  have f15 : (0 : Int) ≤ 100000 * ρ 9 + -ρ 2 + 99999 := zAllA hf 15
  have f16 : (0 : Int) ≤ (-100000) * ρ 9 + ρ 2 := zAllA hf 16
  have f18 : (0 : Int) ≤ 100000 * ρ 8 + -ρ 2 + 99999 := zAllA hf 18
  have f19 : (0 : Int) ≤ (-100000) * ρ 8 + ρ 2 := zAllA hf 19
  have f21 : (0 : Int) ≤ 10000 * ρ 7 + -ρ 2 + 9999 := zAllA hf 21
  have f22 : (0 : Int) ≤ (-10000) * ρ 7 + ρ 2 := zAllA hf 22
  have f24 : (0 : Int) ≤ 1000 * ρ 6 + -ρ 2 + 999 := zAllA hf 24
  have f25 : (0 : Int) ≤ (-1000) * ρ 6 + ρ 2 := zAllA hf 25
  have f27 : (0 : Int) ≤ 100 * ρ 5 + -ρ 2 + 99 := zAllA hf 27
  have f28 : (0 : Int) ≤ (-100) * ρ 5 + ρ 2 := zAllA hf 28
  have f30 : (0 : Int) ≤ 10 * ρ 4 + -ρ 2 + 9 := zAllA hf 30
  have f31 : (0 : Int) ≤ (-10) * ρ 4 + ρ 2 := zAllA hf 31
  have f32 : (0 : Int) ≤ ρ 3 + -ρ 2 := zAllA hf 32
  have f33 : (0 : Int) ≤ -ρ 3 + ρ 2 := zAllA hf 33
  obtain ⟨w_0, w_1, w_2, w_3, w_4, w_5, w_6, w_7, w_8, w_9, w_10, w_11, w_12, w_13, w_14, w_15, w_16, w_17, w_18⟩ : (¬ (ρ 0 ≥ 0)) ∧ ((ρ 2) / 1 = ρ 3) ∧ (¬ (ρ 3 ≤ 9)) ∧ ((ρ 2) / 10 = ρ 4) ∧ (¬ (ρ 4 ≤ 9)) ∧ ((ρ 2) / 100 = ρ 5) ∧ (¬ (ρ 5 ≤ 9)) ∧ ((ρ 2) / 1000 = ρ 6) ∧ (¬ (ρ 6 ≤ 9)) ∧ ((ρ 2) / 10000 = ρ 7) ∧ (¬ (ρ 7 ≤ 9)) ∧ ((ρ 2) / 100000 = ρ 8) ∧ (ρ 8 ≤ 9) ∧ ((ρ 2) / 100000 = ρ 9) ∧ ((ρ 2) / 10000 = ρ 13) ∧ ((ρ 2) / 1000 = ρ 17) ∧ ((ρ 2) / 100 = ρ 21) ∧ ((ρ 2) / 10 = ρ 25) ∧ ((ρ 2) / 1 = ρ 29) := ⟨by clear r3 r4 r5 r6 r7 r8 f0 f1 f3 f4 f6 f7 f9 f10 f12 f13 f15 f16 f18 f19 f21 f22 f24 f25 f27 f28 f30 f31 f32 f33; omega, by clear r0 r3 r4 r5 r6 r7 r8 f0 f1 f3 f4 f6 f7 f9 f10 f12 f13 f15 f16 f18 f19 f21 f22 f24 f25 f27 f28 f30 f31; omega, by clear r0 r4 r5 r6 r7 r8 f0 f1 f3 f4 f6 f7 f9 f10 f12 f13 f15 f16 f18 f19 f21 f22 f24 f25 f27 f28 f30 f31 f32 f33; omega, by clear r0 r3 r4 r5 r6 r7 r8 f0 f1 f3 f4 f6 f7 f9 f10 f12 f13 f15 f16 f18 f19 f21 f22 f24 f25 f27 f28 f32 f33; omega, by clear r0 r3 r5 r6 r7 r8 f0 f1 f3 f4 f6 f7 f9 f10 f12 f13 f15 f16 f18 f19 f21 f22 f24 f25 f27 f28 f30 f31 f32 f33; omega, by clear r0 r3 r4 r5 r6 r7 r8 f0 f1 f3 f4 f6 f7 f9 f10 f12 f13 f15 f16 f18 f19 f21 f22 f24 f25 f30 f31 f32 f33; omega, by clear r0 r3 r4 r6 r7 r8 f0 f1 f3 f4 f6 f7 f9 f10 f12 f13 f15 f16 f18 f19 f21 f22 f24 f25 f27 f28 f30 f31 f32 f33; omega, by clear r0 r3 r4 r5 r6 r7 r8 f0 f1 f3 f4 f6 f7 f9 f10 f12 f13 f15 f16 f18 f19 f21 f22 f27 f28 f30 f31 f32 f33; omega, by clear r0 r3 r4 r5 r7 r8 f0 f1 f3 f4 f6 f7 f9 f10 f12 f13 f15 f16 f18 f19 f21 f22 f24 f25 f27 f28 f30 f31 f32 f33; omega, by clear r0 r3 r4 r5 r6 r7 r8 f0 f1 f3 f4 f6 f7 f9 f10 f12 f13 f15 f16 f18 f19 f24 f25 f27 f28 f30 f31 f32 f33; omega, by clear r0 r3 r4 r5 r6 r8 f0 f1 f3 f4 f6 f7 f9 f10 f12 f13 f15 f16 f18 f19 f21 f22 f24 f25 f27 f28 f30 f31 f32 f33; omega, by clear r0 r3 r4 r5 r6 r7 r8 f0 f1 f3 f4 f6 f7 f9 f10 f12 f13 f15 f16 f21 f22 f24 f25 f27 f28 f30 f31 f32 f33; omega, by clear r0 r3 r4 r5 r6 r7 f0 f1 f3 f4 f6 f7 f9 f10 f12 f13 f15 f16 f18 f19 f21 f22 f24 f25 f27 f28 f30 f31 f32 f33; omega, by clear r0 r3 r4 r5 r6 r7 r8 f0 f1 f3 f4 f6 f7 f9 f10 f12 f13 f18 f19 f21 f22 f24 f25 f27 f28 f30 f31 f32 f33; omega, by clear r0 r3 r4 r5 r6 r7 r8 f0 f1 f3 f4 f6 f7 f9 f10 f15 f16 f18 f19 f21 f22 f24 f25 f27 f28 f30 f31 f32 f33; omega, by clear r0 r3 r4 r5 r6 r7 r8 f0 f1 f3 f4 f6 f7 f12 f13 f15 f16 f18 f19 f21 f22 f24 f25 f27 f28 f30 f31 f32 f33; omega, by clear r0 r3 r4 r5 r6 r7 r8 f0 f1 f3 f4 f9 f10 f12 f13 f15 f16 f18 f19 f21 f22 f24 f25 f27 f28 f30 f31 f32 f33; omega, by clear r0 r3 r4 r5 r6 r7 r8 f0 f1 f6 f7 f9 f10 f12 f13 f15 f16 f18 f19 f21 f22 f24 f25 f27 f28 f30 f31 f32 f33; omega, by clear r0 r3 r4 r5 r6 r7 r8 f3 f4 f6 f7 f9 f10 f12 f13 f15 f16 f18 f19 f21 f22 f24 f25 f27 f28 f30 f31 f32 f33; omega⟩
  have l0 : sn87 [45, ρ 1] (γ 0) 0 0 (γ 1) := hS87 _ _ _ _ _ (zAllA hl 0)
  have l1 : zOpP (.lneg) (γ 0) (γ 1) [ρ 0] (ρ 2) := zAllA hl 1
  have l2 : zOpP (.lrem) (γ 0) (γ 1) [ρ 9, 10] (ρ 10) := zAllA hl 2
  have l3 : zOpP (.ladd) (γ 0) (γ 1) [48, ρ 10] (ρ 11) := zAllA hl 3
  have l4 : zOpP (.l2i) (γ 0) (γ 1) [ρ 11] (ρ 12) := zAllA hl 4
  have l5 : sn87 [ρ 12, ρ 1 + 1] (γ 1) 0 0 (γ 2) := hS87 _ _ _ _ _ (zAllA hl 5)
  have l6 : zOpP (.lrem) (γ 0) (γ 1) [ρ 13, 10] (ρ 14) := zAllA hl 6
  have l7 : zOpP (.ladd) (γ 0) (γ 1) [48, ρ 14] (ρ 15) := zAllA hl 7
  have l8 : zOpP (.l2i) (γ 0) (γ 1) [ρ 15] (ρ 16) := zAllA hl 8
  have l9 : sn87 [ρ 16, ρ 1 + 2] (γ 2) 0 0 (γ 3) := hS87 _ _ _ _ _ (zAllA hl 9)
  have l10 : zOpP (.lrem) (γ 0) (γ 1) [ρ 17, 10] (ρ 18) := zAllA hl 10
  have l11 : zOpP (.ladd) (γ 0) (γ 1) [48, ρ 18] (ρ 19) := zAllA hl 11
  have l12 : zOpP (.l2i) (γ 0) (γ 1) [ρ 19] (ρ 20) := zAllA hl 12
  have l13 : sn87 [ρ 20, ρ 1 + 3] (γ 3) 0 0 (γ 4) := hS87 _ _ _ _ _ (zAllA hl 13)
  have l14 : zOpP (.lrem) (γ 0) (γ 1) [ρ 21, 10] (ρ 22) := zAllA hl 14
  have l15 : zOpP (.ladd) (γ 0) (γ 1) [48, ρ 22] (ρ 23) := zAllA hl 15
  have l16 : zOpP (.l2i) (γ 0) (γ 1) [ρ 23] (ρ 24) := zAllA hl 16
  have l17 : sn87 [ρ 24, ρ 1 + 4] (γ 4) 0 0 (γ 5) := hS87 _ _ _ _ _ (zAllA hl 17)
  have l18 : zOpP (.lrem) (γ 0) (γ 1) [ρ 25, 10] (ρ 26) := zAllA hl 18
  have l19 : zOpP (.ladd) (γ 0) (γ 1) [48, ρ 26] (ρ 27) := zAllA hl 19
  have l20 : zOpP (.l2i) (γ 0) (γ 1) [ρ 27] (ρ 28) := zAllA hl 20
  have l21 : sn87 [ρ 28, ρ 1 + 5] (γ 5) 0 0 (γ 6) := hS87 _ _ _ _ _ (zAllA hl 21)
  have l22 : zOpP (.lrem) (γ 0) (γ 1) [ρ 29, 10] (ρ 30) := zAllA hl 22
  have l23 : zOpP (.ladd) (γ 0) (γ 1) [48, ρ 30] (ρ 31) := zAllA hl 23
  have l24 : zOpP (.l2i) (γ 0) (γ 1) [ρ 31] (ρ 32) := zAllA hl 24
  have l25 : sn87 [ρ 32, ρ 1 + 6] (γ 6) 0 0 (γ 7) := hS87 _ _ _ _ _ (zAllA hl 25)
  show sn88 [ρ 0, ρ 1] (γ 0) 0 0 (γ 7)
  refine Eq.symm ?_
  show fn88 [ρ 0] (γ 0) = _
  unfold fn88
  refine zLV (ρ 0) rfl (zIN w_0 (zLE (show fn87 [45] (γ 0) = (0, 0, γ 1) from l0.symm) (zLV (γ 1) rfl (zLE (zF1_ok l1) (zLE w_1 (zIN w_2 (zLE w_3 ?_)))))))
  refine zIN w_4 (zLE w_5 (zIN w_6 (zLE w_7 (zIN w_8 (zLE w_9 (zIN w_10 (zLE w_11 ?_)))))))
  refine zIP w_12 (zLE w_13 (zLE (zF2_ok l2) (zLE (zF2_ok l3) (zLE (zF1_ok l4) (zLE (show fn87 [ρ 12] (γ 1) = (0, 0, γ 2) from l5.symm) (zLV (γ 2) rfl (zLE w_14 ?_)))))))
  refine zLE (zF2_ok l6) (zLE (zF2_ok l7) (zLE (zF1_ok l8) (zLE (show fn87 [ρ 16] (γ 2) = (0, 0, γ 3) from l9.symm) (zLV (γ 3) rfl (zLE w_15 (zLE (zF2_ok l10) (zLE (zF2_ok l11) ?_)))))))
  refine zLE (zF1_ok l12) (zLE (show fn87 [ρ 20] (γ 3) = (0, 0, γ 4) from l13.symm) (zLV (γ 4) rfl (zLE w_16 (zLE (zF2_ok l14) (zLE (zF2_ok l15) (zLE (zF1_ok l16) (zLE (show fn87 [ρ 24] (γ 4) = (0, 0, γ 5) from l17.symm) ?_)))))))
  refine zLV (γ 5) rfl (zLE w_17 (zLE (zF2_ok l18) (zLE (zF2_ok l19) (zLE (zF1_ok l20) (zLE (show fn87 [ρ 28] (γ 5) = (0, 0, γ 6) from l21.symm) (zLV (γ 6) rfl (zLE w_18 ?_)))))))
  refine zLE (zF2_ok l22) (zLE (zF2_ok l23) (zLE (zF1_ok l24) (zLE (show fn87 [ρ 32] (γ 6) = (0, 0, γ 7) from l25.symm) (zLV (γ 7) rfl ?_))))
  rfl
set_option maxRecDepth 100000 in
theorem vn88_18 {S : Nat → zSpc} (hS87 : zIm S 87 sn87) {a : List Int} {g : rHp} : ∀ (ρ : Nat → Int) (γ : Nat → rHp), zO 2 S a g q88_18 ρ γ → zGl (fun _ _ _ => True) (sn88 a g) q88_18 ρ γ := by
  intro ρ γ h
  obtain ⟨ha, hg, hr, hf, hm, hc, hl⟩ := h
  have ha : a = [ρ 0, ρ 1] := ha
  subst ha
  subst hg
  have r0 : ((-2147483648) : Int) ≤ ρ 0 ∧ ρ 0 ≤ (-1) := zRnA hr 0
  have r3 : (10 : Int) ≤ ρ 3 ∧ ρ 3 ≤ 2147483648 := zRnA hr 3
  have r4 : (10 : Int) ≤ ρ 4 ∧ ρ 4 ≤ 214748364 := zRnA hr 4
  have r5 : (10 : Int) ≤ ρ 5 ∧ ρ 5 ≤ 21474836 := zRnA hr 5
  have r6 : (10 : Int) ≤ ρ 6 ∧ ρ 6 ≤ 2147483 := zRnA hr 6
  have r7 : (10 : Int) ≤ ρ 7 ∧ ρ 7 ≤ 214748 := zRnA hr 7
  have r8 : (10 : Int) ≤ ρ 8 ∧ ρ 8 ≤ 21474 := zRnA hr 8
  have r9 : (0 : Int) ≤ ρ 9 ∧ ρ 9 ≤ 9 := zRnA hr 9
  have f0 : (0 : Int) ≤ ρ 34 + -ρ 2 := zAllA hf 0
  have f1 : (0 : Int) ≤ -ρ 34 + ρ 2 := zAllA hf 1
  have f3 : (0 : Int) ≤ 10 * ρ 30 + -ρ 2 + 9 := zAllA hf 3
  have f4 : (0 : Int) ≤ (-10) * ρ 30 + ρ 2 := zAllA hf 4
  have f6 : (0 : Int) ≤ 100 * ρ 26 + -ρ 2 + 99 := zAllA hf 6
  have f7 : (0 : Int) ≤ (-100) * ρ 26 + ρ 2 := zAllA hf 7
  have f9 : (0 : Int) ≤ 1000 * ρ 22 + -ρ 2 + 999 := zAllA hf 9
  have f10 : (0 : Int) ≤ (-1000) * ρ 22 + ρ 2 := zAllA hf 10
  have f12 : (0 : Int) ≤ 10000 * ρ 18 + -ρ 2 + 9999 := zAllA hf 12
  have f13 : (0 : Int) ≤ (-10000) * ρ 18 + ρ 2 := zAllA hf 13
  have f15 : (0 : Int) ≤ 100000 * ρ 14 + -ρ 2 + 99999 := zAllA hf 15
  have f16 : (0 : Int) ≤ (-100000) * ρ 14 + ρ 2 := zAllA hf 16
  have f18 : (0 : Int) ≤ 1000000 * ρ 10 + -ρ 2 + 999999 := zAllA hf 18
  have f19 : (0 : Int) ≤ (-1000000) * ρ 10 + ρ 2 := zAllA hf 19
  have f21 : (0 : Int) ≤ 1000000 * ρ 9 + -ρ 2 + 999999 := zAllA hf 21
  have f22 : (0 : Int) ≤ (-1000000) * ρ 9 + ρ 2 := zAllA hf 22
  have f24 : (0 : Int) ≤ 100000 * ρ 8 + -ρ 2 + 99999 := zAllA hf 24
  have f25 : (0 : Int) ≤ (-100000) * ρ 8 + ρ 2 := zAllA hf 25
  have f27 : (0 : Int) ≤ 10000 * ρ 7 + -ρ 2 + 9999 := zAllA hf 27
  have f28 : (0 : Int) ≤ (-10000) * ρ 7 + ρ 2 := zAllA hf 28
  have f30 : (0 : Int) ≤ 1000 * ρ 6 + -ρ 2 + 999 := zAllA hf 30
  have f31 : (0 : Int) ≤ (-1000) * ρ 6 + ρ 2 := zAllA hf 31
  have f33 : (0 : Int) ≤ 100 * ρ 5 + -ρ 2 + 99 := zAllA hf 33
  have f34 : (0 : Int) ≤ (-100) * ρ 5 + ρ 2 := zAllA hf 34
  have f36 : (0 : Int) ≤ 10 * ρ 4 + -ρ 2 + 9 := zAllA hf 36
  have f37 : (0 : Int) ≤ (-10) * ρ 4 + ρ 2 := zAllA hf 37
  have f38 : (0 : Int) ≤ ρ 3 + -ρ 2 := zAllA hf 38
  have f39 : (0 : Int) ≤ -ρ 3 + ρ 2 := zAllA hf 39
  obtain ⟨w_0, w_1, w_2, w_3, w_4, w_5, w_6, w_7, w_8, w_9, w_10, w_11, w_12, w_13, w_14, w_15, w_16, w_17, w_18, w_19, w_20, w_21⟩ : (¬ (ρ 0 ≥ 0)) ∧ ((ρ 2) / 1 = ρ 3) ∧ (¬ (ρ 3 ≤ 9)) ∧ ((ρ 2) / 10 = ρ 4) ∧ (¬ (ρ 4 ≤ 9)) ∧ ((ρ 2) / 100 = ρ 5) ∧ (¬ (ρ 5 ≤ 9)) ∧ ((ρ 2) / 1000 = ρ 6) ∧ (¬ (ρ 6 ≤ 9)) ∧ ((ρ 2) / 10000 = ρ 7) ∧ (¬ (ρ 7 ≤ 9)) ∧ ((ρ 2) / 100000 = ρ 8) ∧ (¬ (ρ 8 ≤ 9)) ∧ ((ρ 2) / 1000000 = ρ 9) ∧ (ρ 9 ≤ 9) ∧ ((ρ 2) / 1000000 = ρ 10) ∧ ((ρ 2) / 100000 = ρ 14) ∧ ((ρ 2) / 10000 = ρ 18) ∧ ((ρ 2) / 1000 = ρ 22) ∧ ((ρ 2) / 100 = ρ 26) ∧ ((ρ 2) / 10 = ρ 30) ∧ ((ρ 2) / 1 = ρ 34) := ⟨by clear r3 r4 r5 r6 r7 r8 r9 f0 f1 f3 f4 f6 f7 f9 f10 f12 f13 f15 f16 f18 f19 f21 f22 f24 f25 f27 f28 f30 f31 f33 f34 f36 f37 f38 f39; omega, by clear r0 r3 r4 r5 r6 r7 r8 r9 f0 f1 f3 f4 f6 f7 f9 f10 f12 f13 f15 f16 f18 f19 f21 f22 f24 f25 f27 f28 f30 f31 f33 f34 f36 f37; omega, by clear r0 r4 r5 r6 r7 r8 r9 f0 f1 f3 f4 f6 f7 f9 f10 f12 f13 f15 f16 f18 f19 f21 f22 f24 f25 f27 f28 f30 f31 f33 f34 f36 f37 f38 f39; omega, by clear r0 r3 r4 r5 r6 r7 r8 r9 f0 f1 f3 f4 f6 f7 f9 f10 f12 f13 f15 f16 f18 f19 f21 f22 f24 f25 f27 f28 f30 f31 f33 f34 f38 f39; omega, by clear r0 r3 r5 r6 r7 r8 r9 f0 f1 f3 f4 f6 f7 f9 f10 f12 f13 f15 f16 f18 f19 f21 f22 f24 f25 f27 f28 f30 f31 f33 f34 f36 f37 f38 f39; omega, by clear r0 r3 r4 r5 r6 r7 r8 r9 f0 f1 f3 f4 f6 f7 f9 f10 f12 f13 f15 f16 f18 f19 f21 f22 f24 f25 f27 f28 f30 f31 f36 f37 f38 f39; omega, by clear r0 r3 r4 r6 r7 r8 r9 f0 f1 f3 f4 f6 f7 f9 f10 f12 f13 f15 f16 f18 f19 f21 f22 f24 f25 f27 f28 f30 f31 f33 f34 f36 f37 f38 f39; omega, by clear r0 r3 r4 r5 r6 r7 r8 r9 f0 f1 f3 f4 f6 f7 f9 f10 f12 f13 f15 f16 f18 f19 f21 f22 f24 f25 f27 f28 f33 f34 f36 f37 f38 f39; omega, by clear r0 r3 r4 r5 r7 r8 r9 f0 f1 f3 f4 f6 f7 f9 f10 f12 f13 f15 f16 f18 f19 f21 f22 f24 f25 f27 f28 f30 f31 f33 f34 f36 f37 f38 f39; omega, by clear r0 r3 r4 r5 r6 r7 r8 r9 f0 f1 f3 f4 f6 f7 f9 f10 f12 f13 f15 f16 f18 f19 f21 f22 f24 f25 f30 f31 f33 f34 f36 f37 f38 f39; omega, by clear r0 r3 r4 r5 r6 r8 r9 f0 f1 f3 f4 f6 f7 f9 f10 f12 f13 f15 f16 f18 f19 f21 f22 f24 f25 f27 f28 f30 f31 f33 f34 f36 f37 f38 f39; omega, by clear r0 r3 r4 r5 r6 r7 r8 r9 f0 f1 f3 f4 f6 f7 f9 f10 f12 f13 f15 f16 f18 f19 f21 f22 f27 f28 f30 f31 f33 f34 f36 f37 f38 f39; omega, by clear r0 r3 r4 r5 r6 r7 r9 f0 f1 f3 f4 f6 f7 f9 f10 f12 f13 f15 f16 f18 f19 f21 f22 f24 f25 f27 f28 f30 f31 f33 f34 f36 f37 f38 f39; omega, by clear r0 r3 r4 r5 r6 r7 r8 r9 f0 f1 f3 f4 f6 f7 f9 f10 f12 f13 f15 f16 f18 f19 f24 f25 f27 f28 f30 f31 f33 f34 f36 f37 f38 f39; omega, by clear r0 r3 r4 r5 r6 r7 r8 f0 f1 f3 f4 f6 f7 f9 f10 f12 f13 f15 f16 f18 f19 f21 f22 f24 f25 f27 f28 f30 f31 f33 f34 f36 f37 f38 f39; omega, by clear r0 r3 r4 r5 r6 r7 r8 r9 f0 f1 f3 f4 f6 f7 f9 f10 f12 f13 f15 f16 f21 f22 f24 f25 f27 f28 f30 f31 f33 f34 f36 f37 f38 f39; omega, by clear r0 r3 r4 r5 r6 r7 r8 r9 f0 f1 f3 f4 f6 f7 f9 f10 f12 f13 f18 f19 f21 f22 f24 f25 f27 f28 f30 f31 f33 f34 f36 f37 f38 f39; omega, by clear r0 r3 r4 r5 r6 r7 r8 r9 f0 f1 f3 f4 f6 f7 f9 f10 f15 f16 f18 f19 f21 f22 f24 f25 f27 f28 f30 f31 f33 f34 f36 f37 f38 f39; omega, by clear r0 r3 r4 r5 r6 r7 r8 r9 f0 f1 f3 f4 f6 f7 f12 f13 f15 f16 f18 f19 f21 f22 f24 f25 f27 f28 f30 f31 f33 f34 f36 f37 f38 f39; omega, by clear r0 r3 r4 r5 r6 r7 r8 r9 f0 f1 f3 f4 f9 f10 f12 f13 f15 f16 f18 f19 f21 f22 f24 f25 f27 f28 f30 f31 f33 f34 f36 f37 f38 f39; omega, by clear r0 r3 r4 r5 r6 r7 r8 r9 f0 f1 f6 f7 f9 f10 f12 f13 f15 f16 f18 f19 f21 f22 f24 f25 f27 f28 f30 f31 f33 f34 f36 f37 f38 f39; omega, by clear r0 r3 r4 r5 r6 r7 r8 r9 f3 f4 f6 f7 f9 f10 f12 f13 f15 f16 f18 f19 f21 f22 f24 f25 f27 f28 f30 f31 f33 f34 f36 f37 f38 f39; omega⟩
  have l0 : sn87 [45, ρ 1] (γ 0) 0 0 (γ 1) := hS87 _ _ _ _ _ (zAllA hl 0)
  have l1 : zOpP (.lneg) (γ 0) (γ 1) [ρ 0] (ρ 2) := zAllA hl 1
  have l2 : zOpP (.lrem) (γ 0) (γ 1) [ρ 10, 10] (ρ 11) := zAllA hl 2
  have l3 : zOpP (.ladd) (γ 0) (γ 1) [48, ρ 11] (ρ 12) := zAllA hl 3
  have l4 : zOpP (.l2i) (γ 0) (γ 1) [ρ 12] (ρ 13) := zAllA hl 4
  have l5 : sn87 [ρ 13, ρ 1 + 1] (γ 1) 0 0 (γ 2) := hS87 _ _ _ _ _ (zAllA hl 5)
  have l6 : zOpP (.lrem) (γ 0) (γ 1) [ρ 14, 10] (ρ 15) := zAllA hl 6
  have l7 : zOpP (.ladd) (γ 0) (γ 1) [48, ρ 15] (ρ 16) := zAllA hl 7
  have l8 : zOpP (.l2i) (γ 0) (γ 1) [ρ 16] (ρ 17) := zAllA hl 8
  have l9 : sn87 [ρ 17, ρ 1 + 2] (γ 2) 0 0 (γ 3) := hS87 _ _ _ _ _ (zAllA hl 9)
  have l10 : zOpP (.lrem) (γ 0) (γ 1) [ρ 18, 10] (ρ 19) := zAllA hl 10
  have l11 : zOpP (.ladd) (γ 0) (γ 1) [48, ρ 19] (ρ 20) := zAllA hl 11
  have l12 : zOpP (.l2i) (γ 0) (γ 1) [ρ 20] (ρ 21) := zAllA hl 12
  have l13 : sn87 [ρ 21, ρ 1 + 3] (γ 3) 0 0 (γ 4) := hS87 _ _ _ _ _ (zAllA hl 13)
  have l14 : zOpP (.lrem) (γ 0) (γ 1) [ρ 22, 10] (ρ 23) := zAllA hl 14
  have l15 : zOpP (.ladd) (γ 0) (γ 1) [48, ρ 23] (ρ 24) := zAllA hl 15
  have l16 : zOpP (.l2i) (γ 0) (γ 1) [ρ 24] (ρ 25) := zAllA hl 16
  have l17 : sn87 [ρ 25, ρ 1 + 4] (γ 4) 0 0 (γ 5) := hS87 _ _ _ _ _ (zAllA hl 17)
  have l18 : zOpP (.lrem) (γ 0) (γ 1) [ρ 26, 10] (ρ 27) := zAllA hl 18
  have l19 : zOpP (.ladd) (γ 0) (γ 1) [48, ρ 27] (ρ 28) := zAllA hl 19
  have l20 : zOpP (.l2i) (γ 0) (γ 1) [ρ 28] (ρ 29) := zAllA hl 20
  have l21 : sn87 [ρ 29, ρ 1 + 5] (γ 5) 0 0 (γ 6) := hS87 _ _ _ _ _ (zAllA hl 21)
  have l22 : zOpP (.lrem) (γ 0) (γ 1) [ρ 30, 10] (ρ 31) := zAllA hl 22
  have l23 : zOpP (.ladd) (γ 0) (γ 1) [48, ρ 31] (ρ 32) := zAllA hl 23
  have l24 : zOpP (.l2i) (γ 0) (γ 1) [ρ 32] (ρ 33) := zAllA hl 24
  have l25 : sn87 [ρ 33, ρ 1 + 6] (γ 6) 0 0 (γ 7) := hS87 _ _ _ _ _ (zAllA hl 25)
  have l26 : zOpP (.lrem) (γ 0) (γ 1) [ρ 34, 10] (ρ 35) := zAllA hl 26
  have l27 : zOpP (.ladd) (γ 0) (γ 1) [48, ρ 35] (ρ 36) := zAllA hl 27
  have l28 : zOpP (.l2i) (γ 0) (γ 1) [ρ 36] (ρ 37) := zAllA hl 28
  have l29 : sn87 [ρ 37, ρ 1 + 7] (γ 7) 0 0 (γ 8) := hS87 _ _ _ _ _ (zAllA hl 29)
  show sn88 [ρ 0, ρ 1] (γ 0) 0 0 (γ 8)
  refine Eq.symm ?_
  show fn88 [ρ 0] (γ 0) = _
  unfold fn88
  refine zLV (ρ 0) rfl (zIN w_0 (zLE (show fn87 [45] (γ 0) = (0, 0, γ 1) from l0.symm) (zLV (γ 1) rfl (zLE (zF1_ok l1) (zLE w_1 (zIN w_2 (zLE w_3 ?_)))))))
  refine zIN w_4 (zLE w_5 (zIN w_6 (zLE w_7 (zIN w_8 (zLE w_9 (zIN w_10 (zLE w_11 ?_)))))))
  refine zIN w_12 (zLE w_13 (zIP w_14 (zLE w_15 (zLE (zF2_ok l2) (zLE (zF2_ok l3) (zLE (zF1_ok l4) (zLE (show fn87 [ρ 13] (γ 1) = (0, 0, γ 2) from l5.symm) ?_)))))))
  refine zLV (γ 2) rfl (zLE w_16 (zLE (zF2_ok l6) (zLE (zF2_ok l7) (zLE (zF1_ok l8) (zLE (show fn87 [ρ 17] (γ 2) = (0, 0, γ 3) from l9.symm) (zLV (γ 3) rfl (zLE w_17 ?_)))))))
  refine zLE (zF2_ok l10) (zLE (zF2_ok l11) (zLE (zF1_ok l12) (zLE (show fn87 [ρ 21] (γ 3) = (0, 0, γ 4) from l13.symm) (zLV (γ 4) rfl (zLE w_18 (zLE (zF2_ok l14) (zLE (zF2_ok l15) ?_)))))))
  refine zLE (zF1_ok l16) (zLE (show fn87 [ρ 25] (γ 4) = (0, 0, γ 5) from l17.symm) (zLV (γ 5) rfl (zLE w_19 (zLE (zF2_ok l18) (zLE (zF2_ok l19) (zLE (zF1_ok l20) (zLE (show fn87 [ρ 29] (γ 5) = (0, 0, γ 6) from l21.symm) ?_)))))))
  refine zLV (γ 6) rfl (zLE w_20 (zLE (zF2_ok l22) (zLE (zF2_ok l23) (zLE (zF1_ok l24) (zLE (show fn87 [ρ 33] (γ 6) = (0, 0, γ 7) from l25.symm) (zLV (γ 7) rfl (zLE w_21 ?_)))))))
  refine zLE (zF2_ok l26) (zLE (zF2_ok l27) (zLE (zF1_ok l28) (zLE (show fn87 [ρ 37] (γ 7) = (0, 0, γ 8) from l29.symm) (zLV (γ 8) rfl ?_))))
  rfl
set_option maxRecDepth 100000 in
theorem vn88_19 {S : Nat → zSpc} (hS87 : zIm S 87 sn87) {a : List Int} {g : rHp} : ∀ (ρ : Nat → Int) (γ : Nat → rHp), zO 2 S a g q88_19 ρ γ → zGl (fun _ _ _ => True) (sn88 a g) q88_19 ρ γ := by
  intro ρ γ h
  obtain ⟨ha, hg, hr, hf, hm, hc, hl⟩ := h
  have ha : a = [ρ 0, ρ 1] := ha
  subst ha
  subst hg
  have r0 : ((-2147483648) : Int) ≤ ρ 0 ∧ ρ 0 ≤ (-1) := zRnA hr 0
  have r3 : (10 : Int) ≤ ρ 3 ∧ ρ 3 ≤ 2147483648 := zRnA hr 3
  have r4 : (10 : Int) ≤ ρ 4 ∧ ρ 4 ≤ 214748364 := zRnA hr 4
  have r5 : (10 : Int) ≤ ρ 5 ∧ ρ 5 ≤ 21474836 := zRnA hr 5
  have r6 : (10 : Int) ≤ ρ 6 ∧ ρ 6 ≤ 2147483 := zRnA hr 6
  have r7 : (10 : Int) ≤ ρ 7 ∧ ρ 7 ≤ 214748 := zRnA hr 7
  have r8 : (10 : Int) ≤ ρ 8 ∧ ρ 8 ≤ 21474 := zRnA hr 8
  have r9 : (10 : Int) ≤ ρ 9 ∧ ρ 9 ≤ 2147 := zRnA hr 9
  have r10 : (0 : Int) ≤ ρ 10 ∧ ρ 10 ≤ 9 := zRnA hr 10
  have f0 : (0 : Int) ≤ ρ 39 + -ρ 2 := zAllA hf 0
  have f1 : (0 : Int) ≤ -ρ 39 + ρ 2 := zAllA hf 1
  have f3 : (0 : Int) ≤ 10 * ρ 35 + -ρ 2 + 9 := zAllA hf 3
  have f4 : (0 : Int) ≤ (-10) * ρ 35 + ρ 2 := zAllA hf 4
  have f6 : (0 : Int) ≤ 100 * ρ 31 + -ρ 2 + 99 := zAllA hf 6
  have f7 : (0 : Int) ≤ (-100) * ρ 31 + ρ 2 := zAllA hf 7
  have f9 : (0 : Int) ≤ 1000 * ρ 27 + -ρ 2 + 999 := zAllA hf 9
  have f10 : (0 : Int) ≤ (-1000) * ρ 27 + ρ 2 := zAllA hf 10
  have f12 : (0 : Int) ≤ 10000 * ρ 23 + -ρ 2 + 9999 := zAllA hf 12
  have f13 : (0 : Int) ≤ (-10000) * ρ 23 + ρ 2 := zAllA hf 13
  have f15 : (0 : Int) ≤ 100000 * ρ 19 + -ρ 2 + 99999 := zAllA hf 15
  have f16 : (0 : Int) ≤ (-100000) * ρ 19 + ρ 2 := zAllA hf 16
  have f18 : (0 : Int) ≤ 1000000 * ρ 15 + -ρ 2 + 999999 := zAllA hf 18
  have f19 : (0 : Int) ≤ (-1000000) * ρ 15 + ρ 2 := zAllA hf 19
  have f21 : (0 : Int) ≤ 10000000 * ρ 11 + -ρ 2 + 9999999 := zAllA hf 21
  have f22 : (0 : Int) ≤ (-10000000) * ρ 11 + ρ 2 := zAllA hf 22
  have f24 : (0 : Int) ≤ 10000000 * ρ 10 + -ρ 2 + 9999999 := zAllA hf 24
  have f25 : (0 : Int) ≤ (-10000000) * ρ 10 + ρ 2 := zAllA hf 25
  have f27 : (0 : Int) ≤ 1000000 * ρ 9 + -ρ 2 + 999999 := zAllA hf 27
  have f28 : (0 : Int) ≤ (-1000000) * ρ 9 + ρ 2 := zAllA hf 28
  have f30 : (0 : Int) ≤ 100000 * ρ 8 + -ρ 2 + 99999 := zAllA hf 30
  have f31 : (0 : Int) ≤ (-100000) * ρ 8 + ρ 2 := zAllA hf 31
  have f33 : (0 : Int) ≤ 10000 * ρ 7 + -ρ 2 + 9999 := zAllA hf 33
  have f34 : (0 : Int) ≤ (-10000) * ρ 7 + ρ 2 := zAllA hf 34
  have f36 : (0 : Int) ≤ 1000 * ρ 6 + -ρ 2 + 999 := zAllA hf 36
  have f37 : (0 : Int) ≤ (-1000) * ρ 6 + ρ 2 := zAllA hf 37
  have f39 : (0 : Int) ≤ 100 * ρ 5 + -ρ 2 + 99 := zAllA hf 39
  have f40 : (0 : Int) ≤ (-100) * ρ 5 + ρ 2 := zAllA hf 40
  have f42 : (0 : Int) ≤ 10 * ρ 4 + -ρ 2 + 9 := zAllA hf 42
  have f43 : (0 : Int) ≤ (-10) * ρ 4 + ρ 2 := zAllA hf 43
  have f44 : (0 : Int) ≤ ρ 3 + -ρ 2 := zAllA hf 44
  have f45 : (0 : Int) ≤ -ρ 3 + ρ 2 := zAllA hf 45
  obtain ⟨w_0, w_1, w_2, w_3, w_4, w_5, w_6, w_7, w_8, w_9, w_10, w_11, w_12, w_13, w_14, w_15, w_16, w_17, w_18, w_19, w_20, w_21, w_22, w_23, w_24⟩ : (¬ (ρ 0 ≥ 0)) ∧ ((ρ 2) / 1 = ρ 3) ∧ (¬ (ρ 3 ≤ 9)) ∧ ((ρ 2) / 10 = ρ 4) ∧ (¬ (ρ 4 ≤ 9)) ∧ ((ρ 2) / 100 = ρ 5) ∧ (¬ (ρ 5 ≤ 9)) ∧ ((ρ 2) / 1000 = ρ 6) ∧ (¬ (ρ 6 ≤ 9)) ∧ ((ρ 2) / 10000 = ρ 7) ∧ (¬ (ρ 7 ≤ 9)) ∧ ((ρ 2) / 100000 = ρ 8) ∧ (¬ (ρ 8 ≤ 9)) ∧ ((ρ 2) / 1000000 = ρ 9) ∧ (¬ (ρ 9 ≤ 9)) ∧ ((ρ 2) / 10000000 = ρ 10) ∧ (ρ 10 ≤ 9) ∧ ((ρ 2) / 10000000 = ρ 11) ∧ ((ρ 2) / 1000000 = ρ 15) ∧ ((ρ 2) / 100000 = ρ 19) ∧ ((ρ 2) / 10000 = ρ 23) ∧ ((ρ 2) / 1000 = ρ 27) ∧ ((ρ 2) / 100 = ρ 31) ∧ ((ρ 2) / 10 = ρ 35) ∧ ((ρ 2) / 1 = ρ 39) := ⟨by clear r3 r4 r5 r6 r7 r8 r9 r10 f0 f1 f3 f4 f6 f7 f9 f10 f12 f13 f15 f16 f18 f19 f21 f22 f24 f25 f27 f28 f30 f31 f33 f34 f36 f37 f39 f40 f42 f43 f44 f45; omega, by clear r0 r3 r4 r5 r6 r7 r8 r9 r10 f0 f1 f3 f4 f6 f7 f9 f10 f12 f13 f15 f16 f18 f19 f21 f22 f24 f25 f27 f28 f30 f31 f33 f34 f36 f37 f39 f40 f42 f43; omega, by clear r0 r4 r5 r6 r7 r8 r9 r10 f0 f1 f3 f4 f6 f7 f9 f10 f12 f13 f15 f16 f18 f19 f21 f22 f24 f25 f27 f28 f30 f31 f33 f34 f36 f37 f39 f40 f42 f43 f44 f45; omega, by clear r0 r3 r4 r5 r6 r7 r8 r9 r10 f0 f1 f3 f4 f6 f7 f9 f10 f12 f13 f15 f16 f18 f19 f21 f22 f24 f25 f27 f28 f30 f31 f33 f34 f36 f37 f39 f40 f44 f45; omega, by clear r0 r3 r5 r6 r7 r8 r9 r10 f0 f1 f3 f4 f6 f7 f9 f10 f12 f13 f15 f16 f18 f19 f21 f22 f24 f25 f27 f28 f30 f31 f33 f34 f36 f37 f39 f40 f42 f43 f44 f45; omega, by clear r0 r3 r4 r5 r6 r7 r8 r9 r10 f0 f1 f3 f4 f6 f7 f9 f10 f12 f13 f15 f16 f18 f19 f21 f22 f24 f25 f27 f28 f30 f31 f33 f34 f36 f37 f42 f43 f44 f45; omega, by clear r0 r3 r4 r6 r7 r8 r9 r10 f0 f1 f3 f4 f6 f7 f9 f10 f12 f13 f15 f16 f18 f19 f21 f22 f24 f25 f27 f28 f30 f31 f33 f34 f36 f37 f39 f40 f42 f43 f44 f45; omega, by clear r0 r3 r4 r5 r6 r7 r8 r9 r10 f0 f1 f3 f4 f6 f7 f9 f10 f12 f13 f15 f16 f18 f19 f21 f22 f24 f25 f27 f28 f30 f31 f33 f34 f39 f40 f42 f43 f44 f45; omega, by clear r0 r3 r4 r5 r7 r8 r9 r10 f0 f1 f3 f4 f6 f7 f9 f10 f12 f13 f15 f16 f18 f19 f21 f22 f24 f25 f27 f28 f30 f31 f33 f34 f36 f37 f39 f40 f42 f43 f44 f45; omega, by clear r0 r3 r4 r5 r6 r7 r8 r9 r10 f0 f1 f3 f4 f6 f7 f9 f10 f12 f13 f15 f16 f18 f19 f21 f22 f24 f25 f27 f28 f30 f31 f36 f37 f39 f40 f42 f43 f44 f45; omega, by clear r0 r3 r4 r5 r6 r8 r9 r10 f0 f1 f3 f4 f6 f7 f9 f10 f12 f13 f15 f16 f18 f19 f21 f22 f24 f25 f27 f28 f30 f31 f33 f34 f36 f37 f39 f40 f42 f43 f44 f45; omega, by clear r0 r3 r4 r5 r6 r7 r8 r9 r10 f0 f1 f3 f4 f6 f7 f9 f10 f12 f13 f15 f16 f18 f19 f21 f22 f24 f25 f27 f28 f33 f34 f36 f37 f39 f40 f42 f43 f44 f45; omega, by clear r0 r3 r4 r5 r6 r7 r9 r10 f0 f1 f3 f4 f6 f7 f9 f10 f12 f13 f15 f16 f18 f19 f21 f22 f24 f25 f27 f28 f30 f31 f33 f34 f36 f37 f39 f40 f42 f43 f44 f45; omega, by clear r0 r3 r4 r5 r6 r7 r8 r9 r10 f0 f1 f3 f4 f6 f7 f9 f10 f12 f13 f15 f16 f18 f19 f21 f22 f24 f25 f30 f31 f33 f34 f36 f37 f39 f40 f42 f43 f44 f45; omega, by clear r0 r3 r4 r5 r6 r7 r8 r10 f0 f1 f3 f4 f6 f7 f9 f10 f12 f13 f15 f16 f18 f19 f21 f22 f24 f25 f27 f28 f30 f31 f33 f34 f36 f37 f39 f40 f42 f43 f44 f45; omega, by clear r0 r3 r4 r5 r6 r7 r8 r9 r10 f0 f1 f3 f4 f6 f7 f9 f10 f12 f13 f15 f16 f18 f19 f21 f22 f27 f28 f30 f31 f33 f34 f36 f37 f39 f40 f42 f43 f44 f45; omega, by clear r0 r3 r4 r5 r6 r7 r8 r9 f0 f1 f3 f4 f6 f7 f9 f10 f12 f13 f15 f16 f18 f19 f21 f22 f24 f25 f27 f28 f30 f31 f33 f34 f36 f37 f39 f40 f42 f43 f44 f45; omega, by clear r0 r3 r4 r5 r6 r7 r8 r9 r10 f0 f1 f3 f4 f6 f7 f9 f10 f12 f13 f15 f16 f18 f19 f24 f25 f27 f28 f30 f31 f33 f34 f36 f37 f39 f40 f42 f43 f44 f45; omega, by clear r0 r3 r4 r5 r6 r7 r8 r9 r10 f0 f1 f3 f4 f6 f7 f9 f10 f12 f13 f15 f16 f21 f22 f24 f25 f27 f28 f30 f31 f33 f34 f36 f37 f39 f40 f42 f43 f44 f45; omega, by clear r0 r3 r4 r5 r6 r7 r8 r9 r10 f0 f1 f3 f4 f6 f7 f9 f10 f12 f13 f18 f19 f21 f22 f24 f25 f27 f28 f30 f31 f33 f34 f36 f37 f39 f40 f42 f43 f44 f45; omega, by clear r0 r3 r4 r5 r6 r7 r8 r9 r10 f0 f1 f3 f4 f6 f7 f9 f10 f15 f16 f18 f19 f21 f22 f24 f25 f27 f28 f30 f31 f33 f34 f36 f37 f39 f40 f42 f43 f44 f45; omega, by clear r0 r3 r4 r5 r6 r7 r8 r9 r10 f0 f1 f3 f4 f6 f7 f12 f13 f15 f16 f18 f19 f21 f22 f24 f25 f27 f28 f30 f31 f33 f34 f36 f37 f39 f40 f42 f43 f44 f45; omega, by clear r0 r3 r4 r5 r6 r7 r8 r9 r10 f0 f1 f3 f4 f9 f10 f12 f13 f15 f16 f18 f19 f21 f22 f24 f25 f27 f28 f30 f31 f33 f34 f36 f37 f39 f40 f42 f43 f44 f45; omega, by clear r0 r3 r4 r5 r6 r7 r8 r9 r10 f0 f1 f6 f7 f9 f10 f12 f13 f15 f16 f18 f19 f21 f22 f24 f25 f27 f28 f30 f31 f33 f34 f36 f37 f39 f40 f42 f43 f44 f45; omega, by clear r0 r3 r4 r5 r6 r7 r8 r9 r10 f3 f4 f6 f7 f9 f10 f12 f13 f15 f16 f18 f19 f21 f22 f24 f25 f27 f28 f30 f31 f33 f34 f36 f37 f39 f40 f42 f43 f44 f45; omega⟩
  have l0 : sn87 [45, ρ 1] (γ 0) 0 0 (γ 1) := hS87 _ _ _ _ _ (zAllA hl 0)
  have l1 : zOpP (.lneg) (γ 0) (γ 1) [ρ 0] (ρ 2) := zAllA hl 1
  have l2 : zOpP (.lrem) (γ 0) (γ 1) [ρ 11, 10] (ρ 12) := zAllA hl 2
  have l3 : zOpP (.ladd) (γ 0) (γ 1) [48, ρ 12] (ρ 13) := zAllA hl 3
  have l4 : zOpP (.l2i) (γ 0) (γ 1) [ρ 13] (ρ 14) := zAllA hl 4
  have l5 : sn87 [ρ 14, ρ 1 + 1] (γ 1) 0 0 (γ 2) := hS87 _ _ _ _ _ (zAllA hl 5)
  have l6 : zOpP (.lrem) (γ 0) (γ 1) [ρ 15, 10] (ρ 16) := zAllA hl 6
  have l7 : zOpP (.ladd) (γ 0) (γ 1) [48, ρ 16] (ρ 17) := zAllA hl 7
  have l8 : zOpP (.l2i) (γ 0) (γ 1) [ρ 17] (ρ 18) := zAllA hl 8
  have l9 : sn87 [ρ 18, ρ 1 + 2] (γ 2) 0 0 (γ 3) := hS87 _ _ _ _ _ (zAllA hl 9)
  have l10 : zOpP (.lrem) (γ 0) (γ 1) [ρ 19, 10] (ρ 20) := zAllA hl 10
  have l11 : zOpP (.ladd) (γ 0) (γ 1) [48, ρ 20] (ρ 21) := zAllA hl 11
  have l12 : zOpP (.l2i) (γ 0) (γ 1) [ρ 21] (ρ 22) := zAllA hl 12
  have l13 : sn87 [ρ 22, ρ 1 + 3] (γ 3) 0 0 (γ 4) := hS87 _ _ _ _ _ (zAllA hl 13)
  have l14 : zOpP (.lrem) (γ 0) (γ 1) [ρ 23, 10] (ρ 24) := zAllA hl 14
  have l15 : zOpP (.ladd) (γ 0) (γ 1) [48, ρ 24] (ρ 25) := zAllA hl 15
  have l16 : zOpP (.l2i) (γ 0) (γ 1) [ρ 25] (ρ 26) := zAllA hl 16
  have l17 : sn87 [ρ 26, ρ 1 + 4] (γ 4) 0 0 (γ 5) := hS87 _ _ _ _ _ (zAllA hl 17)
  have l18 : zOpP (.lrem) (γ 0) (γ 1) [ρ 27, 10] (ρ 28) := zAllA hl 18
  have l19 : zOpP (.ladd) (γ 0) (γ 1) [48, ρ 28] (ρ 29) := zAllA hl 19
  have l20 : zOpP (.l2i) (γ 0) (γ 1) [ρ 29] (ρ 30) := zAllA hl 20
  have l21 : sn87 [ρ 30, ρ 1 + 5] (γ 5) 0 0 (γ 6) := hS87 _ _ _ _ _ (zAllA hl 21)
  have l22 : zOpP (.lrem) (γ 0) (γ 1) [ρ 31, 10] (ρ 32) := zAllA hl 22
  have l23 : zOpP (.ladd) (γ 0) (γ 1) [48, ρ 32] (ρ 33) := zAllA hl 23
  have l24 : zOpP (.l2i) (γ 0) (γ 1) [ρ 33] (ρ 34) := zAllA hl 24
  have l25 : sn87 [ρ 34, ρ 1 + 6] (γ 6) 0 0 (γ 7) := hS87 _ _ _ _ _ (zAllA hl 25)
  have l26 : zOpP (.lrem) (γ 0) (γ 1) [ρ 35, 10] (ρ 36) := zAllA hl 26
  have l27 : zOpP (.ladd) (γ 0) (γ 1) [48, ρ 36] (ρ 37) := zAllA hl 27
  have l28 : zOpP (.l2i) (γ 0) (γ 1) [ρ 37] (ρ 38) := zAllA hl 28
  have l29 : sn87 [ρ 38, ρ 1 + 7] (γ 7) 0 0 (γ 8) := hS87 _ _ _ _ _ (zAllA hl 29)
  have l30 : zOpP (.lrem) (γ 0) (γ 1) [ρ 39, 10] (ρ 40) := zAllA hl 30
  have l31 : zOpP (.ladd) (γ 0) (γ 1) [48, ρ 40] (ρ 41) := zAllA hl 31
  have l32 : zOpP (.l2i) (γ 0) (γ 1) [ρ 41] (ρ 42) := zAllA hl 32
  have l33 : sn87 [ρ 42, ρ 1 + 8] (γ 8) 0 0 (γ 9) := hS87 _ _ _ _ _ (zAllA hl 33)
  show sn88 [ρ 0, ρ 1] (γ 0) 0 0 (γ 9)
  refine Eq.symm ?_
  show fn88 [ρ 0] (γ 0) = _
  unfold fn88
  refine zLV (ρ 0) rfl (zIN w_0 (zLE (show fn87 [45] (γ 0) = (0, 0, γ 1) from l0.symm) (zLV (γ 1) rfl (zLE (zF1_ok l1) (zLE w_1 (zIN w_2 (zLE w_3 ?_)))))))
  refine zIN w_4 (zLE w_5 (zIN w_6 (zLE w_7 (zIN w_8 (zLE w_9 (zIN w_10 (zLE w_11 ?_)))))))
  refine zIN w_12 (zLE w_13 (zIN w_14 (zLE w_15 (zIP w_16 (zLE w_17 (zLE (zF2_ok l2) (zLE (zF2_ok l3) ?_)))))))
  refine zLE (zF1_ok l4) (zLE (show fn87 [ρ 14] (γ 1) = (0, 0, γ 2) from l5.symm) (zLV (γ 2) rfl (zLE w_18 (zLE (zF2_ok l6) (zLE (zF2_ok l7) (zLE (zF1_ok l8) (zLE (show fn87 [ρ 18] (γ 2) = (0, 0, γ 3) from l9.symm) ?_)))))))
  refine zLV (γ 3) rfl (zLE w_19 (zLE (zF2_ok l10) (zLE (zF2_ok l11) (zLE (zF1_ok l12) (zLE (show fn87 [ρ 22] (γ 3) = (0, 0, γ 4) from l13.symm) (zLV (γ 4) rfl (zLE w_20 ?_)))))))
  refine zLE (zF2_ok l14) (zLE (zF2_ok l15) (zLE (zF1_ok l16) (zLE (show fn87 [ρ 26] (γ 4) = (0, 0, γ 5) from l17.symm) (zLV (γ 5) rfl (zLE w_21 (zLE (zF2_ok l18) (zLE (zF2_ok l19) ?_)))))))
  refine zLE (zF1_ok l20) (zLE (show fn87 [ρ 30] (γ 5) = (0, 0, γ 6) from l21.symm) (zLV (γ 6) rfl (zLE w_22 (zLE (zF2_ok l22) (zLE (zF2_ok l23) (zLE (zF1_ok l24) (zLE (show fn87 [ρ 34] (γ 6) = (0, 0, γ 7) from l25.symm) ?_)))))))
  refine zLV (γ 7) rfl (zLE w_23 (zLE (zF2_ok l26) (zLE (zF2_ok l27) (zLE (zF1_ok l28) (zLE (show fn87 [ρ 38] (γ 7) = (0, 0, γ 8) from l29.symm) (zLV (γ 8) rfl (zLE w_24 ?_)))))))
  refine zLE (zF2_ok l30) (zLE (zF2_ok l31) (zLE (zF1_ok l32) (zLE (show fn87 [ρ 42] (γ 8) = (0, 0, γ 9) from l33.symm) (zLV (γ 9) rfl ?_))))
  rfl
set_option maxRecDepth 100000 in
theorem vn88_20 {S : Nat → zSpc} (hS87 : zIm S 87 sn87) {a : List Int} {g : rHp} : ∀ (ρ : Nat → Int) (γ : Nat → rHp), zO 2 S a g q88_20 ρ γ → zGl (fun _ _ _ => True) (sn88 a g) q88_20 ρ γ := by
  intro ρ γ h
  obtain ⟨ha, hg, hr, hf, hm, hc, hl⟩ := h
  have ha : a = [ρ 0, ρ 1] := ha
  subst ha
  subst hg
  have r0 : ((-2147483648) : Int) ≤ ρ 0 ∧ ρ 0 ≤ (-1) := zRnA hr 0
  have r3 : (10 : Int) ≤ ρ 3 ∧ ρ 3 ≤ 2147483648 := zRnA hr 3
  have r4 : (10 : Int) ≤ ρ 4 ∧ ρ 4 ≤ 214748364 := zRnA hr 4
  have r5 : (10 : Int) ≤ ρ 5 ∧ ρ 5 ≤ 21474836 := zRnA hr 5
  have r6 : (10 : Int) ≤ ρ 6 ∧ ρ 6 ≤ 2147483 := zRnA hr 6
  have r7 : (10 : Int) ≤ ρ 7 ∧ ρ 7 ≤ 214748 := zRnA hr 7
  have r8 : (10 : Int) ≤ ρ 8 ∧ ρ 8 ≤ 21474 := zRnA hr 8
  have r9 : (10 : Int) ≤ ρ 9 ∧ ρ 9 ≤ 2147 := zRnA hr 9
  have r10 : (10 : Int) ≤ ρ 10 ∧ ρ 10 ≤ 214 := zRnA hr 10
  have r11 : (0 : Int) ≤ ρ 11 ∧ ρ 11 ≤ 9 := zRnA hr 11
  have f0 : (0 : Int) ≤ ρ 44 + -ρ 2 := zAllA hf 0
  have f1 : (0 : Int) ≤ -ρ 44 + ρ 2 := zAllA hf 1
  have f3 : (0 : Int) ≤ 10 * ρ 40 + -ρ 2 + 9 := zAllA hf 3
  have f4 : (0 : Int) ≤ (-10) * ρ 40 + ρ 2 := zAllA hf 4
  have f6 : (0 : Int) ≤ 100 * ρ 36 + -ρ 2 + 99 := zAllA hf 6
  have f7 : (0 : Int) ≤ (-100) * ρ 36 + ρ 2 := zAllA hf 7
  have f9 : (0 : Int) ≤ 1000 * ρ 32 + -ρ 2 + 999 := zAllA hf 9
  have f10 : (0 : Int) ≤ (-1000) * ρ 32 + ρ 2 := zAllA hf 10
  have f12 : (0 : Int) ≤ 10000 * ρ 28 + -ρ 2 + 9999 := zAllA hf 12
  have f13 : (0 : Int) ≤ (-10000) * ρ 28 + ρ 2 := zAllA hf 13
  have f15 : (0 : Int) ≤ 100000 * ρ 24 + -ρ 2 + 99999 := zAllA hf 15
  have f16 : (0 : Int) ≤ (-100000) * ρ 24 + ρ 2 := zAllA hf 16
  have f18 : (0 : Int) ≤ 1000000 * ρ 20 + -ρ 2 + 999999 := zAllA hf 18
  have f19 : (0 : Int) ≤ (-1000000) * ρ 20 + ρ 2 := zAllA hf 19
  have f21 : (0 : Int) ≤ 10000000 * ρ 16 + -ρ 2 + 9999999 := zAllA hf 21
  have f22 : (0 : Int) ≤ (-10000000) * ρ 16 + ρ 2 := zAllA hf 22
  have f24 : (0 : Int) ≤ 100000000 * ρ 12 + -ρ 2 + 99999999 := zAllA hf 24
  have f25 : (0 : Int) ≤ (-100000000) * ρ 12 + ρ 2 := zAllA hf 25
  have f27 : (0 : Int) ≤ 100000000 * ρ 11 + -ρ 2 + 99999999 := zAllA hf 27
  have f28 : (0 : Int) ≤ (-100000000) * ρ 11 + ρ 2 := zAllA hf 28
  have f30 : (0 : Int) ≤ 10000000 * ρ 10 + -ρ 2 + 9999999 := zAllA hf 30
  have f31 : (0 : Int) ≤ (-10000000) * ρ 10 + ρ 2 := zAllA hf 31
  have f33 : (0 : Int) ≤ 1000000 * ρ 9 + -ρ 2 + 999999 := zAllA hf 33
  have f34 : (0 : Int) ≤ (-1000000) * ρ 9 + ρ 2 := zAllA hf 34
  have f36 : (0 : Int) ≤ 100000 * ρ 8 + -ρ 2 + 99999 := zAllA hf 36
  have f37 : (0 : Int) ≤ (-100000) * ρ 8 + ρ 2 := zAllA hf 37
  have f39 : (0 : Int) ≤ 10000 * ρ 7 + -ρ 2 + 9999 := zAllA hf 39
  have f40 : (0 : Int) ≤ (-10000) * ρ 7 + ρ 2 := zAllA hf 40
  have f42 : (0 : Int) ≤ 1000 * ρ 6 + -ρ 2 + 999 := zAllA hf 42
  have f43 : (0 : Int) ≤ (-1000) * ρ 6 + ρ 2 := zAllA hf 43
  have f45 : (0 : Int) ≤ 100 * ρ 5 + -ρ 2 + 99 := zAllA hf 45
  have f46 : (0 : Int) ≤ (-100) * ρ 5 + ρ 2 := zAllA hf 46
  have f48 : (0 : Int) ≤ 10 * ρ 4 + -ρ 2 + 9 := zAllA hf 48
  have f49 : (0 : Int) ≤ (-10) * ρ 4 + ρ 2 := zAllA hf 49
  have f50 : (0 : Int) ≤ ρ 3 + -ρ 2 := zAllA hf 50
  have f51 : (0 : Int) ≤ -ρ 3 + ρ 2 := zAllA hf 51
  obtain ⟨w_0, w_1, w_2, w_3, w_4, w_5, w_6, w_7, w_8, w_9, w_10, w_11, w_12, w_13, w_14, w_15, w_16, w_17, w_18, w_19, w_20, w_21, w_22, w_23, w_24, w_25, w_26, w_27⟩ : (¬ (ρ 0 ≥ 0)) ∧ ((ρ 2) / 1 = ρ 3) ∧ (¬ (ρ 3 ≤ 9)) ∧ ((ρ 2) / 10 = ρ 4) ∧ (¬ (ρ 4 ≤ 9)) ∧ ((ρ 2) / 100 = ρ 5) ∧ (¬ (ρ 5 ≤ 9)) ∧ ((ρ 2) / 1000 = ρ 6) ∧ (¬ (ρ 6 ≤ 9)) ∧ ((ρ 2) / 10000 = ρ 7) ∧ (¬ (ρ 7 ≤ 9)) ∧ ((ρ 2) / 100000 = ρ 8) ∧ (¬ (ρ 8 ≤ 9)) ∧ ((ρ 2) / 1000000 = ρ 9) ∧ (¬ (ρ 9 ≤ 9)) ∧ ((ρ 2) / 10000000 = ρ 10) ∧ (¬ (ρ 10 ≤ 9)) ∧ ((ρ 2) / 100000000 = ρ 11) ∧ (ρ 11 ≤ 9) ∧ ((ρ 2) / 100000000 = ρ 12) ∧ ((ρ 2) / 10000000 = ρ 16) ∧ ((ρ 2) / 1000000 = ρ 20) ∧ ((ρ 2) / 100000 = ρ 24) ∧ ((ρ 2) / 10000 = ρ 28) ∧ ((ρ 2) / 1000 = ρ 32) ∧ ((ρ 2) / 100 = ρ 36) ∧ ((ρ 2) / 10 = ρ 40) ∧ ((ρ 2) / 1 = ρ 44) := ⟨by clear r3 r4 r5 r6 r7 r8 r9 r10 r11 f0 f1 f3 f4 f6 f7 f9 f10 f12 f13 f15 f16 f18 f19 f21 f22 f24 f25 f27 f28 f30 f31 f33 f34 f36 f37 f39 f40 f42 f43 f45 f46 f48 f49 f50 f51; omega, by clear r0 r3 r4 r5 r6 r7 r8 r9 r10 r11 f0 f1 f3 f4 f6 f7 f9 f10 f12 f13 f15 f16 f18 f19 f21 f22 f24 f25 f27 f28 f30 f31 f33 f34 f36 f37 f39 f40 f42 f43 f45 f46 f48 f49; omega, by clear r0 r4 r5 r6 r7 r8 r9 r10 r11 f0 f1 f3 f4 f6 f7 f9 f10 f12 f13 f15 f16 f18 f19 f21 f22 f24 f25 f27 f28 f30 f31 f33 f34 f36 f37 f39 f40 f42 f43 f45 f46 f48 f49 f50 f51; omega, by clear r0 r3 r4 r5 r6 r7 r8 r9 r10 r11 f0 f1 f3 f4 f6 f7 f9 f10 f12 f13 f15 f16 f18 f19 f21 f22 f24 f25 f27 f28 f30 f31 f33 f34 f36 f37 f39 f40 f42 f43 f45 f46 f50 f51; omega, by clear r0 r3 r5 r6 r7 r8 r9 r10 r11 f0 f1 f3 f4 f6 f7 f9 f10 f12 f13 f15 f16 f18 f19 f21 f22 f24 f25 f27 f28 f30 f31 f33 f34 f36 f37 f39 f40 f42 f43 f45 f46 f48 f49 f50 f51; omega, by clear r0 r3 r4 r5 r6 r7 r8 r9 r10 r11 f0 f1 f3 f4 f6 f7 f9 f10 f12 f13 f15 f16 f18 f19 f21 f22 f24 f25 f27 f28 f30 f31 f33 f34 f36 f37 f39 f40 f42 f43 f48 f49 f50 f51; omega, by clear r0 r3 r4 r6 r7 r8 r9 r10 r11 f0 f1 f3 f4 f6 f7 f9 f10 f12 f13 f15 f16 f18 f19 f21 f22 f24 f25 f27 f28 f30 f31 f33 f34 f36 f37 f39 f40 f42 f43 f45 f46 f48 f49 f50 f51; omega, by clear r0 r3 r4 r5 r6 r7 r8 r9 r10 r11 f0 f1 f3 f4 f6 f7 f9 f10 f12 f13 f15 f16 f18 f19 f21 f22 f24 f25 f27 f28 f30 f31 f33 f34 f36 f37 f39 f40 f45 f46 f48 f49 f50 f51; omega, by clear r0 r3 r4 r5 r7 r8 r9 r10 r11 f0 f1 f3 f4 f6 f7 f9 f10 f12 f13 f15 f16 f18 f19 f21 f22 f24 f25 f27 f28 f30 f31 f33 f34 f36 f37 f39 f40 f42 f43 f45 f46 f48 f49 f50 f51; omega, by clear r0 r3 r4 r5 r6 r7 r8 r9 r10 r11 f0 f1 f3 f4 f6 f7 f9 f10 f12 f13 f15 f16 f18 f19 f21 f22 f24 f25 f27 f28 f30 f31 f33 f34 f36 f37 f42 f43 f45 f46 f48 f49 f50 f51; omega, by clear r0 r3 r4 r5 r6 r8 r9 r10 r11 f0 f1 f3 f4 f6 f7 f9 f10 f12 f13 f15 f16 f18 f19 f21 f22 f24 f25 f27 f28 f30 f31 f33 f34 f36 f37 f39 f40 f42 f43 f45 f46 f48 f49 f50 f51; omega, by clear r0 r3 r4 r5 r6 r7 r8 r9 r10 r11 f0 f1 f3 f4 f6 f7 f9 f10 f12 f13 f15 f16 f18 f19 f21 f22 f24 f25 f27 f28 f30 f31 f33 f34 f39 f40 f42 f43 f45 f46 f48 f49 f50 f51; omega, by clear r0 r3 r4 r5 r6 r7 r9 r10 r11 f0 f1 f3 f4 f6 f7 f9 f10 f12 f13 f15 f16 f18 f19 f21 f22 f24 f25 f27 f28 f30 f31 f33 f34 f36 f37 f39 f40 f42 f43 f45 f46 f48 f49 f50 f51; omega, by clear r0 r3 r4 r5 r6 r7 r8 r9 r10 r11 f0 f1 f3 f4 f6 f7 f9 f10 f12 f13 f15 f16 f18 f19 f21 f22 f24 f25 f27 f28 f30 f31 f36 f37 f39 f40 f42 f43 f45 f46 f48 f49 f50 f51; omega, by clear r0 r3 r4 r5 r6 r7 r8 r10 r11 f0 f1 f3 f4 f6 f7 f9 f10 f12 f13 f15 f16 f18 f19 f21 f22 f24 f25 f27 f28 f30 f31 f33 f34 f36 f37 f39 f40 f42 f43 f45 f46 f48 f49 f50 f51; omega, by clear r0 r3 r4 r5 r6 r7 r8 r9 r10 r11 f0 f1 f3 f4 f6 f7 f9 f10 f12 f13 f15 f16 f18 f19 f21 f22 f24 f25 f27 f28 f33 f34 f36 f37 f39 f40 f42 f43 f45 f46 f48 f49 f50 f51; omega, by clear r0 r3 r4 r5 r6 r7 r8 r9 r11 f0 f1 f3 f4 f6 f7 f9 f10 f12 f13 f15 f16 f18 f19 f21 f22 f24 f25 f27 f28 f30 f31 f33 f34 f36 f37 f39 f40 f42 f43 f45 f46 f48 f49 f50 f51; omega, by clear r0 r3 r4 r5 r6 r7 r8 r9 r10 r11 f0 f1 f3 f4 f6 f7 f9 f10 f12 f13 f15 f16 f18 f19 f21 f22 f24 f25 f30 f31 f33 f34 f36 f37 f39 f40 f42 f43 f45 f46 f48 f49 f50 f51; omega, by clear r0 r3 r4 r5 r6 r7 r8 r9 r10 f0 f1 f3 f4 f6 f7 f9 f10 f12 f13 f15 f16 f18 f19 f21 f22 f24 f25 f27 f28 f30 f31 f33 f34 f36 f37 f39 f40 f42 f43 f45 f46 f48 f49 f50 f51; omega, by clear r0 r3 r4 r5 r6 r7 r8 r9 r10 r11 f0 f1 f3 f4 f6 f7 f9 f10 f12 f13 f15 f16 f18 f19 f21 f22 f27 f28 f30 f31 f33 f34 f36 f37 f39 f40 f42 f43 f45 f46 f48 f49 f50 f51; omega, by clear r0 r3 r4 r5 r6 r7 r8 r9 r10 r11 f0 f1 f3 f4 f6 f7 f9 f10 f12 f13 f15 f16 f18 f19 f24 f25 f27 f28 f30 f31 f33 f34 f36 f37 f39 f40 f42 f43 f45 f46 f48 f49 f50 f51; omega, by clear r0 r3 r4 r5 r6 r7 r8 r9 r10 r11 f0 f1 f3 f4 f6 f7 f9 f10 f12 f13 f15 f16 f21 f22 f24 f25 f27 f28 f30 f31 f33 f34 f36 f37 f39 f40 f42 f43 f45 f46 f48 f49 f50 f51; omega, by clear r0 r3 r4 r5 r6 r7 r8 r9 r10 r11 f0 f1 f3 f4 f6 f7 f9 f10 f12 f13 f18 f19 f21 f22 f24 f25 f27 f28 f30 f31 f33 f34 f36 f37 f39 f40 f42 f43 f45 f46 f48 f49 f50 f51; omega, by clear r0 r3 r4 r5 r6 r7 r8 r9 r10 r11 f0 f1 f3 f4 f6 f7 f9 f10 f15 f16 f18 f19 f21 f22 f24 f25 f27 f28 f30 f31 f33 f34 f36 f37 f39 f40 f42 f43 f45 f46 f48 f49 f50 f51; omega, by clear r0 r3 r4 r5 r6 r7 r8 r9 r10 r11 f0 f1 f3 f4 f6 f7 f12 f13 f15 f16 f18 f19 f21 f22 f24 f25 f27 f28 f30 f31 f33 f34 f36 f37 f39 f40 f42 f43 f45 f46 f48 f49 f50 f51; omega, by clear r0 r3 r4 r5 r6 r7 r8 r9 r10 r11 f0 f1 f3 f4 f9 f10 f12 f13 f15 f16 f18 f19 f21 f22 f24 f25 f27 f28 f30 f31 f33 f34 f36 f37 f39 f40 f42 f43 f45 f46 f48 f49 f50 f51; omega, by clear r0 r3 r4 r5 r6 r7 r8 r9 r10 r11 f0 f1 f6 f7 f9 f10 f12 f13 f15 f16 f18 f19 f21 f22 f24 f25 f27 f28 f30 f31 f33 f34 f36 f37 f39 f40 f42 f43 f45 f46 f48 f49 f50 f51; omega, by clear r0 r3 r4 r5 r6 r7 r8 r9 r10 r11 f3 f4 f6 f7 f9 f10 f12 f13 f15 f16 f18 f19 f21 f22 f24 f25 f27 f28 f30 f31 f33 f34 f36 f37 f39 f40 f42 f43 f45 f46 f48 f49 f50 f51; omega⟩
  have l0 : sn87 [45, ρ 1] (γ 0) 0 0 (γ 1) := hS87 _ _ _ _ _ (zAllA hl 0)
  have l1 : zOpP (.lneg) (γ 0) (γ 1) [ρ 0] (ρ 2) := zAllA hl 1
  have l2 : zOpP (.lrem) (γ 0) (γ 1) [ρ 12, 10] (ρ 13) := zAllA hl 2
  have l3 : zOpP (.ladd) (γ 0) (γ 1) [48, ρ 13] (ρ 14) := zAllA hl 3
  have l4 : zOpP (.l2i) (γ 0) (γ 1) [ρ 14] (ρ 15) := zAllA hl 4
  have l5 : sn87 [ρ 15, ρ 1 + 1] (γ 1) 0 0 (γ 2) := hS87 _ _ _ _ _ (zAllA hl 5)
  have l6 : zOpP (.lrem) (γ 0) (γ 1) [ρ 16, 10] (ρ 17) := zAllA hl 6
  have l7 : zOpP (.ladd) (γ 0) (γ 1) [48, ρ 17] (ρ 18) := zAllA hl 7
  have l8 : zOpP (.l2i) (γ 0) (γ 1) [ρ 18] (ρ 19) := zAllA hl 8
  have l9 : sn87 [ρ 19, ρ 1 + 2] (γ 2) 0 0 (γ 3) := hS87 _ _ _ _ _ (zAllA hl 9)
  have l10 : zOpP (.lrem) (γ 0) (γ 1) [ρ 20, 10] (ρ 21) := zAllA hl 10
  have l11 : zOpP (.ladd) (γ 0) (γ 1) [48, ρ 21] (ρ 22) := zAllA hl 11
  have l12 : zOpP (.l2i) (γ 0) (γ 1) [ρ 22] (ρ 23) := zAllA hl 12
  have l13 : sn87 [ρ 23, ρ 1 + 3] (γ 3) 0 0 (γ 4) := hS87 _ _ _ _ _ (zAllA hl 13)
  have l14 : zOpP (.lrem) (γ 0) (γ 1) [ρ 24, 10] (ρ 25) := zAllA hl 14
  have l15 : zOpP (.ladd) (γ 0) (γ 1) [48, ρ 25] (ρ 26) := zAllA hl 15
  have l16 : zOpP (.l2i) (γ 0) (γ 1) [ρ 26] (ρ 27) := zAllA hl 16
  have l17 : sn87 [ρ 27, ρ 1 + 4] (γ 4) 0 0 (γ 5) := hS87 _ _ _ _ _ (zAllA hl 17)
  have l18 : zOpP (.lrem) (γ 0) (γ 1) [ρ 28, 10] (ρ 29) := zAllA hl 18
  have l19 : zOpP (.ladd) (γ 0) (γ 1) [48, ρ 29] (ρ 30) := zAllA hl 19
  have l20 : zOpP (.l2i) (γ 0) (γ 1) [ρ 30] (ρ 31) := zAllA hl 20
  have l21 : sn87 [ρ 31, ρ 1 + 5] (γ 5) 0 0 (γ 6) := hS87 _ _ _ _ _ (zAllA hl 21)
  have l22 : zOpP (.lrem) (γ 0) (γ 1) [ρ 32, 10] (ρ 33) := zAllA hl 22
  have l23 : zOpP (.ladd) (γ 0) (γ 1) [48, ρ 33] (ρ 34) := zAllA hl 23
  have l24 : zOpP (.l2i) (γ 0) (γ 1) [ρ 34] (ρ 35) := zAllA hl 24
  have l25 : sn87 [ρ 35, ρ 1 + 6] (γ 6) 0 0 (γ 7) := hS87 _ _ _ _ _ (zAllA hl 25)
  have l26 : zOpP (.lrem) (γ 0) (γ 1) [ρ 36, 10] (ρ 37) := zAllA hl 26
  have l27 : zOpP (.ladd) (γ 0) (γ 1) [48, ρ 37] (ρ 38) := zAllA hl 27
  have l28 : zOpP (.l2i) (γ 0) (γ 1) [ρ 38] (ρ 39) := zAllA hl 28
  have l29 : sn87 [ρ 39, ρ 1 + 7] (γ 7) 0 0 (γ 8) := hS87 _ _ _ _ _ (zAllA hl 29)
  have l30 : zOpP (.lrem) (γ 0) (γ 1) [ρ 40, 10] (ρ 41) := zAllA hl 30
  have l31 : zOpP (.ladd) (γ 0) (γ 1) [48, ρ 41] (ρ 42) := zAllA hl 31
  have l32 : zOpP (.l2i) (γ 0) (γ 1) [ρ 42] (ρ 43) := zAllA hl 32
  have l33 : sn87 [ρ 43, ρ 1 + 8] (γ 8) 0 0 (γ 9) := hS87 _ _ _ _ _ (zAllA hl 33)
  have l34 : zOpP (.lrem) (γ 0) (γ 1) [ρ 44, 10] (ρ 45) := zAllA hl 34
  have l35 : zOpP (.ladd) (γ 0) (γ 1) [48, ρ 45] (ρ 46) := zAllA hl 35
  have l36 : zOpP (.l2i) (γ 0) (γ 1) [ρ 46] (ρ 47) := zAllA hl 36
  have l37 : sn87 [ρ 47, ρ 1 + 9] (γ 9) 0 0 (γ 10) := hS87 _ _ _ _ _ (zAllA hl 37)
  show sn88 [ρ 0, ρ 1] (γ 0) 0 0 (γ 10)
  refine Eq.symm ?_
  show fn88 [ρ 0] (γ 0) = _
  unfold fn88
  refine zLV (ρ 0) rfl (zIN w_0 (zLE (show fn87 [45] (γ 0) = (0, 0, γ 1) from l0.symm) (zLV (γ 1) rfl (zLE (zF1_ok l1) (zLE w_1 (zIN w_2 (zLE w_3 ?_)))))))
  refine zIN w_4 (zLE w_5 (zIN w_6 (zLE w_7 (zIN w_8 (zLE w_9 (zIN w_10 (zLE w_11 ?_)))))))
  refine zIN w_12 (zLE w_13 (zIN w_14 (zLE w_15 (zIN w_16 (zLE w_17 (zIP w_18 (zLE w_19 ?_)))))))
  refine zLE (zF2_ok l2) (zLE (zF2_ok l3) (zLE (zF1_ok l4) (zLE (show fn87 [ρ 15] (γ 1) = (0, 0, γ 2) from l5.symm) (zLV (γ 2) rfl (zLE w_20 (zLE (zF2_ok l6) (zLE (zF2_ok l7) ?_)))))))
  refine zLE (zF1_ok l8) (zLE (show fn87 [ρ 19] (γ 2) = (0, 0, γ 3) from l9.symm) (zLV (γ 3) rfl (zLE w_21 (zLE (zF2_ok l10) (zLE (zF2_ok l11) (zLE (zF1_ok l12) (zLE (show fn87 [ρ 23] (γ 3) = (0, 0, γ 4) from l13.symm) ?_)))))))
  refine zLV (γ 4) rfl (zLE w_22 (zLE (zF2_ok l14) (zLE (zF2_ok l15) (zLE (zF1_ok l16) (zLE (show fn87 [ρ 27] (γ 4) = (0, 0, γ 5) from l17.symm) (zLV (γ 5) rfl (zLE w_23 ?_)))))))
  refine zLE (zF2_ok l18) (zLE (zF2_ok l19) (zLE (zF1_ok l20) (zLE (show fn87 [ρ 31] (γ 5) = (0, 0, γ 6) from l21.symm) (zLV (γ 6) rfl (zLE w_24 (zLE (zF2_ok l22) (zLE (zF2_ok l23) ?_)))))))
  refine zLE (zF1_ok l24) (zLE (show fn87 [ρ 35] (γ 6) = (0, 0, γ 7) from l25.symm) (zLV (γ 7) rfl (zLE w_25 (zLE (zF2_ok l26) (zLE (zF2_ok l27) (zLE (zF1_ok l28) (zLE (show fn87 [ρ 39] (γ 7) = (0, 0, γ 8) from l29.symm) ?_)))))))
  refine zLV (γ 8) rfl (zLE w_26 (zLE (zF2_ok l30) (zLE (zF2_ok l31) (zLE (zF1_ok l32) (zLE (show fn87 [ρ 43] (γ 8) = (0, 0, γ 9) from l33.symm) (zLV (γ 9) rfl (zLE w_27 ?_)))))))
  refine zLE (zF2_ok l34) (zLE (zF2_ok l35) (zLE (zF1_ok l36) (zLE (show fn87 [ρ 47] (γ 9) = (0, 0, γ 10) from l37.symm) (zLV (γ 10) rfl ?_))))
  rfl
set_option maxRecDepth 100000 in
theorem vn88_21 {S : Nat → zSpc} (hS87 : zIm S 87 sn87) {a : List Int} {g : rHp} : ∀ (ρ : Nat → Int) (γ : Nat → rHp), zO 2 S a g q88_21 ρ γ → zGl (fun _ _ _ => True) (sn88 a g) q88_21 ρ γ := by
  intro ρ γ h
  obtain ⟨ha, hg, hr, hf, hm, hc, hl⟩ := h
  have ha : a = [ρ 0, ρ 1] := ha
  subst ha
  subst hg
  have r0 : ((-2147483648) : Int) ≤ ρ 0 ∧ ρ 0 ≤ (-1) := zRnA hr 0
  have r3 : (10 : Int) ≤ ρ 3 ∧ ρ 3 ≤ 2147483648 := zRnA hr 3
  have r4 : (10 : Int) ≤ ρ 4 ∧ ρ 4 ≤ 214748364 := zRnA hr 4
  have r5 : (10 : Int) ≤ ρ 5 ∧ ρ 5 ≤ 21474836 := zRnA hr 5
  have r6 : (10 : Int) ≤ ρ 6 ∧ ρ 6 ≤ 2147483 := zRnA hr 6
  have r7 : (10 : Int) ≤ ρ 7 ∧ ρ 7 ≤ 214748 := zRnA hr 7
  have r8 : (10 : Int) ≤ ρ 8 ∧ ρ 8 ≤ 21474 := zRnA hr 8
  have r9 : (10 : Int) ≤ ρ 9 ∧ ρ 9 ≤ 2147 := zRnA hr 9
  have r10 : (10 : Int) ≤ ρ 10 ∧ ρ 10 ≤ 214 := zRnA hr 10
  have r11 : (10 : Int) ≤ ρ 11 ∧ ρ 11 ≤ 21 := zRnA hr 11
  have f0 : (0 : Int) ≤ ρ 49 + -ρ 2 := zAllA hf 0
  have f1 : (0 : Int) ≤ -ρ 49 + ρ 2 := zAllA hf 1
  have f3 : (0 : Int) ≤ 10 * ρ 45 + -ρ 2 + 9 := zAllA hf 3
  have f4 : (0 : Int) ≤ (-10) * ρ 45 + ρ 2 := zAllA hf 4
  have f6 : (0 : Int) ≤ 100 * ρ 41 + -ρ 2 + 99 := zAllA hf 6
  have f7 : (0 : Int) ≤ (-100) * ρ 41 + ρ 2 := zAllA hf 7
  have f9 : (0 : Int) ≤ 1000 * ρ 37 + -ρ 2 + 999 := zAllA hf 9
  have f10 : (0 : Int) ≤ (-1000) * ρ 37 + ρ 2 := zAllA hf 10
  have f12 : (0 : Int) ≤ 10000 * ρ 33 + -ρ 2 + 9999 := zAllA hf 12
  have f13 : (0 : Int) ≤ (-10000) * ρ 33 + ρ 2 := zAllA hf 13
  have f15 : (0 : Int) ≤ 100000 * ρ 29 + -ρ 2 + 99999 := zAllA hf 15
  have f16 : (0 : Int) ≤ (-100000) * ρ 29 + ρ 2 := zAllA hf 16
  have f18 : (0 : Int) ≤ 1000000 * ρ 25 + -ρ 2 + 999999 := zAllA hf 18
  have f19 : (0 : Int) ≤ (-1000000) * ρ 25 + ρ 2 := zAllA hf 19
  have f21 : (0 : Int) ≤ 10000000 * ρ 21 + -ρ 2 + 9999999 := zAllA hf 21
  have f22 : (0 : Int) ≤ (-10000000) * ρ 21 + ρ 2 := zAllA hf 22
  have f24 : (0 : Int) ≤ 100000000 * ρ 17 + -ρ 2 + 99999999 := zAllA hf 24
  have f25 : (0 : Int) ≤ (-100000000) * ρ 17 + ρ 2 := zAllA hf 25
  have f27 : (0 : Int) ≤ 1000000000 * ρ 13 + -ρ 2 + 999999999 := zAllA hf 27
  have f28 : (0 : Int) ≤ (-1000000000) * ρ 13 + ρ 2 := zAllA hf 28
  have f33 : (0 : Int) ≤ 100000000 * ρ 11 + -ρ 2 + 99999999 := zAllA hf 33
  have f34 : (0 : Int) ≤ (-100000000) * ρ 11 + ρ 2 := zAllA hf 34
  have f36 : (0 : Int) ≤ 10000000 * ρ 10 + -ρ 2 + 9999999 := zAllA hf 36
  have f37 : (0 : Int) ≤ (-10000000) * ρ 10 + ρ 2 := zAllA hf 37
  have f39 : (0 : Int) ≤ 1000000 * ρ 9 + -ρ 2 + 999999 := zAllA hf 39
  have f40 : (0 : Int) ≤ (-1000000) * ρ 9 + ρ 2 := zAllA hf 40
  have f42 : (0 : Int) ≤ 100000 * ρ 8 + -ρ 2 + 99999 := zAllA hf 42
  have f43 : (0 : Int) ≤ (-100000) * ρ 8 + ρ 2 := zAllA hf 43
  have f45 : (0 : Int) ≤ 10000 * ρ 7 + -ρ 2 + 9999 := zAllA hf 45
  have f46 : (0 : Int) ≤ (-10000) * ρ 7 + ρ 2 := zAllA hf 46
  have f48 : (0 : Int) ≤ 1000 * ρ 6 + -ρ 2 + 999 := zAllA hf 48
  have f49 : (0 : Int) ≤ (-1000) * ρ 6 + ρ 2 := zAllA hf 49
  have f51 : (0 : Int) ≤ 100 * ρ 5 + -ρ 2 + 99 := zAllA hf 51
  have f52 : (0 : Int) ≤ (-100) * ρ 5 + ρ 2 := zAllA hf 52
  have f54 : (0 : Int) ≤ 10 * ρ 4 + -ρ 2 + 9 := zAllA hf 54
  have f55 : (0 : Int) ≤ (-10) * ρ 4 + ρ 2 := zAllA hf 55
  have f56 : (0 : Int) ≤ ρ 3 + -ρ 2 := zAllA hf 56
  have f57 : (0 : Int) ≤ -ρ 3 + ρ 2 := zAllA hf 57
  obtain ⟨w_0, w_1, w_2, w_3, w_4, w_5, w_6, w_7, w_8, w_9, w_10, w_11, w_12, w_13, w_14, w_15, w_16, w_17, w_18, w_19, w_20, w_21, w_22, w_23, w_24, w_25, w_26, w_27, w_28⟩ : (¬ (ρ 0 ≥ 0)) ∧ ((ρ 2) / 1 = ρ 3) ∧ (¬ (ρ 3 ≤ 9)) ∧ ((ρ 2) / 10 = ρ 4) ∧ (¬ (ρ 4 ≤ 9)) ∧ ((ρ 2) / 100 = ρ 5) ∧ (¬ (ρ 5 ≤ 9)) ∧ ((ρ 2) / 1000 = ρ 6) ∧ (¬ (ρ 6 ≤ 9)) ∧ ((ρ 2) / 10000 = ρ 7) ∧ (¬ (ρ 7 ≤ 9)) ∧ ((ρ 2) / 100000 = ρ 8) ∧ (¬ (ρ 8 ≤ 9)) ∧ ((ρ 2) / 1000000 = ρ 9) ∧ (¬ (ρ 9 ≤ 9)) ∧ ((ρ 2) / 10000000 = ρ 10) ∧ (¬ (ρ 10 ≤ 9)) ∧ ((ρ 2) / 100000000 = ρ 11) ∧ (¬ (ρ 11 ≤ 9)) ∧ ((ρ 2) / 1000000000 = ρ 13) ∧ ((ρ 2) / 100000000 = ρ 17) ∧ ((ρ 2) / 10000000 = ρ 21) ∧ ((ρ 2) / 1000000 = ρ 25) ∧ ((ρ 2) / 100000 = ρ 29) ∧ ((ρ 2) / 10000 = ρ 33) ∧ ((ρ 2) / 1000 = ρ 37) ∧ ((ρ 2) / 100 = ρ 41) ∧ ((ρ 2) / 10 = ρ 45) ∧ ((ρ 2) / 1 = ρ 49) := ⟨by clear r3 r4 r5 r6 r7 r8 r9 r10 r11 f0 f1 f3 f4 f6 f7 f9 f10 f12 f13 f15 f16 f18 f19 f21 f22 f24 f25 f27 f28 f33 f34 f36 f37 f39 f40 f42 f43 f45 f46 f48 f49 f51 f52 f54 f55 f56 f57; omega, by clear r0 r3 r4 r5 r6 r7 r8 r9 r10 r11 f0 f1 f3 f4 f6 f7 f9 f10 f12 f13 f15 f16 f18 f19 f21 f22 f24 f25 f27 f28 f33 f34 f36 f37 f39 f40 f42 f43 f45 f46 f48 f49 f51 f52 f54 f55; omega, by clear r0 r4 r5 r6 r7 r8 r9 r10 r11 f0 f1 f3 f4 f6 f7 f9 f10 f12 f13 f15 f16 f18 f19 f21 f22 f24 f25 f27 f28 f33 f34 f36 f37 f39 f40 f42 f43 f45 f46 f48 f49 f51 f52 f54 f55 f56 f57; omega, by clear r0 r3 r4 r5 r6 r7 r8 r9 r10 r11 f0 f1 f3 f4 f6 f7 f9 f10 f12 f13 f15 f16 f18 f19 f21 f22 f24 f25 f27 f28 f33 f34 f36 f37 f39 f40 f42 f43 f45 f46 f48 f49 f51 f52 f56 f57; omega, by clear r0 r3 r5 r6 r7 r8 r9 r10 r11 f0 f1 f3 f4 f6 f7 f9 f10 f12 f13 f15 f16 f18 f19 f21 f22 f24 f25 f27 f28 f33 f34 f36 f37 f39 f40 f42 f43 f45 f46 f48 f49 f51 f52 f54 f55 f56 f57; omega, by clear r0 r3 r4 r5 r6 r7 r8 r9 r10 r11 f0 f1 f3 f4 f6 f7 f9 f10 f12 f13 f15 f16 f18 f19 f21 f22 f24 f25 f27 f28 f33 f34 f36 f37 f39 f40 f42 f43 f45 f46 f48 f49 f54 f55 f56 f57; omega, by clear r0 r3 r4 r6 r7 r8 r9 r10 r11 f0 f1 f3 f4 f6 f7 f9 f10 f12 f13 f15 f16 f18 f19 f21 f22 f24 f25 f27 f28 f33 f34 f36 f37 f39 f40 f42 f43 f45 f46 f48 f49 f51 f52 f54 f55 f56 f57; omega, by clear r0 r3 r4 r5 r6 r7 r8 r9 r10 r11 f0 f1 f3 f4 f6 f7 f9 f10 f12 f13 f15 f16 f18 f19 f21 f22 f24 f25 f27 f28 f33 f34 f36 f37 f39 f40 f42 f43 f45 f46 f51 f52 f54 f55 f56 f57; omega, by clear r0 r3 r4 r5 r7 r8 r9 r10 r11 f0 f1 f3 f4 f6 f7 f9 f10 f12 f13 f15 f16 f18 f19 f21 f22 f24 f25 f27 f28 f33 f34 f36 f37 f39 f40 f42 f43 f45 f46 f48 f49 f51 f52 f54 f55 f56 f57; omega, by clear r0 r3 r4 r5 r6 r7 r8 r9 r10 r11 f0 f1 f3 f4 f6 f7 f9 f10 f12 f13 f15 f16 f18 f19 f21 f22 f24 f25 f27 f28 f33 f34 f36 f37 f39 f40 f42 f43 f48 f49 f51 f52 f54 f55 f56 f57; omega, by clear r0 r3 r4 r5 r6 r8 r9 r10 r11 f0 f1 f3 f4 f6 f7 f9 f10 f12 f13 f15 f16 f18 f19 f21 f22 f24 f25 f27 f28 f33 f34 f36 f37 f39 f40 f42 f43 f45 f46 f48 f49 f51 f52 f54 f55 f56 f57; omega, by clear r0 r3 r4 r5 r6 r7 r8 r9 r10 r11 f0 f1 f3 f4 f6 f7 f9 f10 f12 f13 f15 f16 f18 f19 f21 f22 f24 f25 f27 f28 f33 f34 f36 f37 f39 f40 f45 f46 f48 f49 f51 f52 f54 f55 f56 f57; omega, by clear r0 r3 r4 r5 r6 r7 r9 r10 r11 f0 f1 f3 f4 f6 f7 f9 f10 f12 f13 f15 f16 f18 f19 f21 f22 f24 f25 f27 f28 f33 f34 f36 f37 f39 f40 f42 f43 f45 f46 f48 f49 f51 f52 f54 f55 f56 f57; omega, by clear r0 r3 r4 r5 r6 r7 r8 r9 r10 r11 f0 f1 f3 f4 f6 f7 f9 f10 f12 f13 f15 f16 f18 f19 f21 f22 f24 f25 f27 f28 f33 f34 f36 f37 f42 f43 f45 f46 f48 f49 f51 f52 f54 f55 f56 f57; omega, by clear r0 r3 r4 r5 r6 r7 r8 r10 r11 f0 f1 f3 f4 f6 f7 f9 f10 f12 f13 f15 f16 f18 f19 f21 f22 f24 f25 f27 f28 f33 f34 f36 f37 f39 f40 f42 f43 f45 f46 f48 f49 f51 f52 f54 f55 f56 f57; omega, by clear r0 r3 r4 r5 r6 r7 r8 r9 r10 r11 f0 f1 f3 f4 f6 f7 f9 f10 f12 f13 f15 f16 f18 f19 f21 f22 f24 f25 f27 f28 f33 f34 f39 f40 f42 f43 f45 f46 f48 f49 f51 f52 f54 f55 f56 f57; omega, by clear r0 r3 r4 r5 r6 r7 r8 r9 r11 f0 f1 f3 f4 f6 f7 f9 f10 f12 f13 f15 f16 f18 f19 f21 f22 f24 f25 f27 f28 f33 f34 f36 f37 f39 f40 f42 f43 f45 f46 f48 f49 f51 f52 f54 f55 f56 f57; omega, by clear r0 r3 r4 r5 r6 r7 r8 r9 r10 r11 f0 f1 f3 f4 f6 f7 f9 f10 f12 f13 f15 f16 f18 f19 f21 f22 f24 f25 f27 f28 f36 f37 f39 f40 f42 f43 f45 f46 f48 f49 f51 f52 f54 f55 f56 f57; omega, by clear r0 r3 r4 r5 r6 r7 r8 r9 r10 f0 f1 f3 f4 f6 f7 f9 f10 f12 f13 f15 f16 f18 f19 f21 f22 f24 f25 f27 f28 f33 f34 f36 f37 f39 f40 f42 f43 f45 f46 f48 f49 f51 f52 f54 f55 f56 f57; omega, by clear r0 r3 r4 r5 r6 r7 r8 r9 r10 r11 f0 f1 f3 f4 f6 f7 f9 f10 f12 f13 f15 f16 f18 f19 f21 f22 f24 f25 f33 f34 f36 f37 f39 f40 f42 f43 f45 f46 f48 f49 f51 f52 f54 f55 f56 f57; omega, by clear r0 r3 r4 r5 r6 r7 r8 r9 r10 r11 f0 f1 f3 f4 f6 f7 f9 f10 f12 f13 f15 f16 f18 f19 f21 f22 f27 f28 f33 f34 f36 f37 f39 f40 f42 f43 f45 f46 f48 f49 f51 f52 f54 f55 f56 f57; omega, by clear r0 r3 r4 r5 r6 r7 r8 r9 r10 r11 f0 f1 f3 f4 f6 f7 f9 f10 f12 f13 f15 f16 f18 f19 f24 f25 f27 f28 f33 f34 f36 f37 f39 f40 f42 f43 f45 f46 f48 f49 f51 f52 f54 f55 f56 f57; omega, by clear r0 r3 r4 r5 r6 r7 r8 r9 r10 r11 f0 f1 f3 f4 f6 f7 f9 f10 f12 f13 f15 f16 f21 f22 f24 f25 f27 f28 f33 f34 f36 f37 f39 f40 f42 f43 f45 f46 f48 f49 f51 f52 f54 f55 f56 f57; omega, by clear r0 r3 r4 r5 r6 r7 r8 r9 r10 r11 f0 f1 f3 f4 f6 f7 f9 f10 f12 f13 f18 f19 f21 f22 f24 f25 f27 f28 f33 f34 f36 f37 f39 f40 f42 f43 f45 f46 f48 f49 f51 f52 f54 f55 f56 f57; omega, by clear r0 r3 r4 r5 r6 r7 r8 r9 r10 r11 f0 f1 f3 f4 f6 f7 f9 f10 f15 f16 f18 f19 f21 f22 f24 f25 f27 f28 f33 f34 f36 f37 f39 f40 f42 f43 f45 f46 f48 f49 f51 f52 f54 f55 f56 f57; omega, by clear r0 r3 r4 r5 r6 r7 r8 r9 r10 r11 f0 f1 f3 f4 f6 f7 f12 f13 f15 f16 f18 f19 f21 f22 f24 f25 f27 f28 f33 f34 f36 f37 f39 f40 f42 f43 f45 f46 f48 f49 f51 f52 f54 f55 f56 f57; omega, by clear r0 r3 r4 r5 r6 r7 r8 r9 r10 r11 f0 f1 f3 f4 f9 f10 f12 f13 f15 f16 f18 f19 f21 f22 f24 f25 f27 f28 f33 f34 f36 f37 f39 f40 f42 f43 f45 f46 f48 f49 f51 f52 f54 f55 f56 f57; omega, by clear r0 r3 r4 r5 r6 r7 r8 r9 r10 r11 f0 f1 f6 f7 f9 f10 f12 f13 f15 f16 f18 f19 f21 f22 f24 f25 f27 f28 f33 f34 f36 f37 f39 f40 f42 f43 f45 f46 f48 f49 f51 f52 f54 f55 f56 f57; omega, by clear r0 r3 r4 r5 r6 r7 r8 r9 r10 r11 f3 f4 f6 f7 f9 f10 f12 f13 f15 f16 f18 f19 f21 f22 f24 f25 f27 f28 f33 f34 f36 f37 f39 f40 f42 f43 f45 f46 f48 f49 f51 f52 f54 f55 f56 f57; omega⟩
  have l0 : sn87 [45, ρ 1] (γ 0) 0 0 (γ 1) := hS87 _ _ _ _ _ (zAllA hl 0)
  have l1 : zOpP (.lneg) (γ 0) (γ 1) [ρ 0] (ρ 2) := zAllA hl 1
  have l2 : zOpP (.lrem) (γ 0) (γ 1) [ρ 13, 10] (ρ 14) := zAllA hl 2
  have l3 : zOpP (.ladd) (γ 0) (γ 1) [48, ρ 14] (ρ 15) := zAllA hl 3
  have l4 : zOpP (.l2i) (γ 0) (γ 1) [ρ 15] (ρ 16) := zAllA hl 4
  have l5 : sn87 [ρ 16, ρ 1 + 1] (γ 1) 0 0 (γ 2) := hS87 _ _ _ _ _ (zAllA hl 5)
  have l6 : zOpP (.lrem) (γ 0) (γ 1) [ρ 17, 10] (ρ 18) := zAllA hl 6
  have l7 : zOpP (.ladd) (γ 0) (γ 1) [48, ρ 18] (ρ 19) := zAllA hl 7
  have l8 : zOpP (.l2i) (γ 0) (γ 1) [ρ 19] (ρ 20) := zAllA hl 8
  have l9 : sn87 [ρ 20, ρ 1 + 2] (γ 2) 0 0 (γ 3) := hS87 _ _ _ _ _ (zAllA hl 9)
  have l10 : zOpP (.lrem) (γ 0) (γ 1) [ρ 21, 10] (ρ 22) := zAllA hl 10
  have l11 : zOpP (.ladd) (γ 0) (γ 1) [48, ρ 22] (ρ 23) := zAllA hl 11
  have l12 : zOpP (.l2i) (γ 0) (γ 1) [ρ 23] (ρ 24) := zAllA hl 12
  have l13 : sn87 [ρ 24, ρ 1 + 3] (γ 3) 0 0 (γ 4) := hS87 _ _ _ _ _ (zAllA hl 13)
  have l14 : zOpP (.lrem) (γ 0) (γ 1) [ρ 25, 10] (ρ 26) := zAllA hl 14
  have l15 : zOpP (.ladd) (γ 0) (γ 1) [48, ρ 26] (ρ 27) := zAllA hl 15
  have l16 : zOpP (.l2i) (γ 0) (γ 1) [ρ 27] (ρ 28) := zAllA hl 16
  have l17 : sn87 [ρ 28, ρ 1 + 4] (γ 4) 0 0 (γ 5) := hS87 _ _ _ _ _ (zAllA hl 17)
  have l18 : zOpP (.lrem) (γ 0) (γ 1) [ρ 29, 10] (ρ 30) := zAllA hl 18
  have l19 : zOpP (.ladd) (γ 0) (γ 1) [48, ρ 30] (ρ 31) := zAllA hl 19
  have l20 : zOpP (.l2i) (γ 0) (γ 1) [ρ 31] (ρ 32) := zAllA hl 20
  have l21 : sn87 [ρ 32, ρ 1 + 5] (γ 5) 0 0 (γ 6) := hS87 _ _ _ _ _ (zAllA hl 21)
  have l22 : zOpP (.lrem) (γ 0) (γ 1) [ρ 33, 10] (ρ 34) := zAllA hl 22
  have l23 : zOpP (.ladd) (γ 0) (γ 1) [48, ρ 34] (ρ 35) := zAllA hl 23
  have l24 : zOpP (.l2i) (γ 0) (γ 1) [ρ 35] (ρ 36) := zAllA hl 24
  have l25 : sn87 [ρ 36, ρ 1 + 6] (γ 6) 0 0 (γ 7) := hS87 _ _ _ _ _ (zAllA hl 25)
  have l26 : zOpP (.lrem) (γ 0) (γ 1) [ρ 37, 10] (ρ 38) := zAllA hl 26
  have l27 : zOpP (.ladd) (γ 0) (γ 1) [48, ρ 38] (ρ 39) := zAllA hl 27
  have l28 : zOpP (.l2i) (γ 0) (γ 1) [ρ 39] (ρ 40) := zAllA hl 28
  have l29 : sn87 [ρ 40, ρ 1 + 7] (γ 7) 0 0 (γ 8) := hS87 _ _ _ _ _ (zAllA hl 29)
  have l30 : zOpP (.lrem) (γ 0) (γ 1) [ρ 41, 10] (ρ 42) := zAllA hl 30
  have l31 : zOpP (.ladd) (γ 0) (γ 1) [48, ρ 42] (ρ 43) := zAllA hl 31
  have l32 : zOpP (.l2i) (γ 0) (γ 1) [ρ 43] (ρ 44) := zAllA hl 32
  have l33 : sn87 [ρ 44, ρ 1 + 8] (γ 8) 0 0 (γ 9) := hS87 _ _ _ _ _ (zAllA hl 33)
  have l34 : zOpP (.lrem) (γ 0) (γ 1) [ρ 45, 10] (ρ 46) := zAllA hl 34
  have l35 : zOpP (.ladd) (γ 0) (γ 1) [48, ρ 46] (ρ 47) := zAllA hl 35
  have l36 : zOpP (.l2i) (γ 0) (γ 1) [ρ 47] (ρ 48) := zAllA hl 36
  have l37 : sn87 [ρ 48, ρ 1 + 9] (γ 9) 0 0 (γ 10) := hS87 _ _ _ _ _ (zAllA hl 37)
  have l38 : zOpP (.lrem) (γ 0) (γ 1) [ρ 49, 10] (ρ 50) := zAllA hl 38
  have l39 : zOpP (.ladd) (γ 0) (γ 1) [48, ρ 50] (ρ 51) := zAllA hl 39
  have l40 : zOpP (.l2i) (γ 0) (γ 1) [ρ 51] (ρ 52) := zAllA hl 40
  have l41 : sn87 [ρ 52, ρ 1 + 10] (γ 10) 0 0 (γ 11) := hS87 _ _ _ _ _ (zAllA hl 41)
  show sn88 [ρ 0, ρ 1] (γ 0) 0 0 (γ 11)
  refine Eq.symm ?_
  show fn88 [ρ 0] (γ 0) = _
  unfold fn88
  refine zLV (ρ 0) rfl (zIN w_0 (zLE (show fn87 [45] (γ 0) = (0, 0, γ 1) from l0.symm) (zLV (γ 1) rfl (zLE (zF1_ok l1) (zLE w_1 (zIN w_2 (zLE w_3 ?_)))))))
  refine zIN w_4 (zLE w_5 (zIN w_6 (zLE w_7 (zIN w_8 (zLE w_9 (zIN w_10 (zLE w_11 ?_)))))))
  refine zIN w_12 (zLE w_13 (zIN w_14 (zLE w_15 (zIN w_16 (zLE w_17 (zIN w_18 (zLE w_19 ?_)))))))
  refine zLE (zF2_ok l2) (zLE (zF2_ok l3) (zLE (zF1_ok l4) (zLE (show fn87 [ρ 16] (γ 1) = (0, 0, γ 2) from l5.symm) (zLV (γ 2) rfl (zLE w_20 (zLE (zF2_ok l6) (zLE (zF2_ok l7) ?_)))))))
  refine zLE (zF1_ok l8) (zLE (show fn87 [ρ 20] (γ 2) = (0, 0, γ 3) from l9.symm) (zLV (γ 3) rfl (zLE w_21 (zLE (zF2_ok l10) (zLE (zF2_ok l11) (zLE (zF1_ok l12) (zLE (show fn87 [ρ 24] (γ 3) = (0, 0, γ 4) from l13.symm) ?_)))))))
  refine zLV (γ 4) rfl (zLE w_22 (zLE (zF2_ok l14) (zLE (zF2_ok l15) (zLE (zF1_ok l16) (zLE (show fn87 [ρ 28] (γ 4) = (0, 0, γ 5) from l17.symm) (zLV (γ 5) rfl (zLE w_23 ?_)))))))
  refine zLE (zF2_ok l18) (zLE (zF2_ok l19) (zLE (zF1_ok l20) (zLE (show fn87 [ρ 32] (γ 5) = (0, 0, γ 6) from l21.symm) (zLV (γ 6) rfl (zLE w_24 (zLE (zF2_ok l22) (zLE (zF2_ok l23) ?_)))))))
  refine zLE (zF1_ok l24) (zLE (show fn87 [ρ 36] (γ 6) = (0, 0, γ 7) from l25.symm) (zLV (γ 7) rfl (zLE w_25 (zLE (zF2_ok l26) (zLE (zF2_ok l27) (zLE (zF1_ok l28) (zLE (show fn87 [ρ 40] (γ 7) = (0, 0, γ 8) from l29.symm) ?_)))))))
  refine zLV (γ 8) rfl (zLE w_26 (zLE (zF2_ok l30) (zLE (zF2_ok l31) (zLE (zF1_ok l32) (zLE (show fn87 [ρ 44] (γ 8) = (0, 0, γ 9) from l33.symm) (zLV (γ 9) rfl (zLE w_27 ?_)))))))
  refine zLE (zF2_ok l34) (zLE (zF2_ok l35) (zLE (zF1_ok l36) (zLE (show fn87 [ρ 48] (γ 9) = (0, 0, γ 10) from l37.symm) (zLV (γ 10) rfl (zLE w_28 (zLE (zF2_ok l38) (zLE (zF2_ok l39) ?_)))))))
  refine zLE (zF1_ok l40) (zLE (show fn87 [ρ 52] (γ 10) = (0, 0, γ 11) from l41.symm) (zLV (γ 11) rfl ?_))
  rfl
set_option maxRecDepth 100000 in
theorem yn88 {S : Nat → zSpc} (hS87 : zIm S 87 sn87) : ∀ x g o v gz, zSem uW uT w88_.2.2.2.1 w88_.2.2.1.1.length S q88 (fun i => q88a.getD i []) (zNA a88_) x g o v gz → sn88 x g o v gz := by
  intro a g o v gz h
  exact zSem_all (l0 := q88) (las := q88a) (S := S) (J := (fun _ _ _ => True)) (P := sn88 a g) (fun _ => (show zAll _ [q88_0, q88_1, q88_2, q88_3, q88_4, q88_5, q88_6, q88_7, q88_8, q88_9, q88_10, q88_11, q88_12, q88_13, q88_14, q88_15, q88_16, q88_17, q88_18, q88_19, q88_20, q88_21] from (zAll_c (vn88_0 hS87) (zAll_c (vn88_1 hS87) (zAll_c (vn88_2 hS87) (zAll_c (vn88_3 hS87) (zAll_c (vn88_4 hS87) (zAll_c (vn88_5 hS87) (zAll_c (vn88_6 hS87) (zAll_c (vn88_7 hS87) (zAll_c (vn88_8 hS87) (zAll_c (vn88_9 hS87) (zAll_c (vn88_10 hS87) (zAll_c (vn88_11 hS87) (zAll_c (vn88_12 hS87) (zAll_c (vn88_13 hS87) (zAll_c (vn88_14 hS87) (zAll_c (vn88_15 hS87) (zAll_c (vn88_16 hS87) (zAll_c (vn88_17 hS87) (zAll_c (vn88_18 hS87) (zAll_c (vn88_19 hS87) (zAll_c (vn88_20 hS87) (zAll_c (vn88_21 hS87) zAll_n)))))))))))))))))))))))) (fun _ => (show zAllI _ 0 [] from trivial)) h
set_option maxRecDepth 100000 in
theorem vn89_0 {S : Nat → zSpc} (hS1 : zIm S 1 sn1) (hS55 : zIm S 55 sn55) (hS79 : zIm S 79 sn79) (hS87 : zIm S 87 sn87) (hS88 : zIm S 88 sn88) {a : List Int} {g : rHp} : ∀ (ρ : Nat → Int) (γ : Nat → rHp), zO 5 S a g q89_0 ρ γ → zGl (fun i vs g1 => jn89 a g i vs g1) (sn89 a g) q89_0 ρ γ := by
  intro ρ γ h
  obtain ⟨ha, hg, hr, hf, hm, hc, hl⟩ := h
  have ha : a = [ρ 0, ρ 1, ρ 2, ρ 3, ρ 4] := ha
  subst ha
  subst hg
  have r5 : (1 : Int) ≤ ρ 5 ∧ ρ 5 ≤ 1 := zRnA hr 5
  have w_0 : ρ 5 ≠ 0 := by omega
  have m4 : γ 0 15 0 59 = ρ 5 := zAllA hm 4
  have l0 : sn79 [ρ 0, ρ 3] (γ 0) 0 0 (γ 1) := hS79 _ _ _ _ _ (zAllA hl 0)
  have l1 : sn1 [2, ρ 2] (γ 1) 0 1 (γ 2) := hS1 _ _ _ _ _ (zAllA hl 1)
  show sn89 [ρ 0, ρ 1, ρ 2, ρ 3, ρ 4] (γ 0) 0 0 (γ 2)
  have hD : dn89 [ρ 0] (γ 0) = .inr (0, 0, γ 2) := by
    unfold dn89
    refine zLV (ρ 0) rfl (zLE m4 (zIP w_0 (zLE (show fn79 [ρ 0] (γ 0) = (0, 0, γ 1) from l0.symm) (zLV (γ 1) rfl (zIN zQ0_ (zLE (show fn1 [2] (γ 1) = (0, 1, γ 2) from l1.symm) (zLV (γ 2) rfl ?_)))))))
    rfl
  exact zGoo_end hD
set_option maxRecDepth 100000 in
theorem vn89_1 {S : Nat → zSpc} (hS1 : zIm S 1 sn1) (hS55 : zIm S 55 sn55) (hS79 : zIm S 79 sn79) (hS87 : zIm S 87 sn87) (hS88 : zIm S 88 sn88) {a : List Int} {g : rHp} : ∀ (ρ : Nat → Int) (γ : Nat → rHp), zO 5 S a g q89_1 ρ γ → zGl (fun i vs g1 => jn89 a g i vs g1) (sn89 a g) q89_1 ρ γ := by
  intro ρ γ h
  obtain ⟨ha, hg, hr, hf, hm, hc, hl⟩ := h
  have ha : a = [ρ 0, ρ 1, ρ 2, ρ 3, ρ 4] := ha
  subst ha
  subst hg
  have r5 : (1 : Int) ≤ ρ 5 ∧ ρ 5 ≤ 1 := zRnA hr 5
  have w_0 : ρ 5 ≠ 0 := by omega
  have m4 : γ 0 15 0 59 = ρ 5 := zAllA hm 4
  have m6 : γ 0 93 0 (ρ 0) = ρ 6 := zAllA hm 6
  have c3 : γ 3 = rUp (γ 2) 15 0 4 0 := And.right (zChA hc 0)
  have l0 : sn79 [ρ 0, ρ 3] (γ 0) 0 1 (γ 1) := hS79 _ _ _ _ _ (zAllA hl 0)
  have l1 : sn1 [0, ρ 2] (γ 1) 0 0 (γ 2) := hS1 _ _ _ _ _ (zAllA hl 1)
  show jn89 [ρ 0, ρ 1, ρ 2, ρ 3, ρ 4] (γ 0) 0 [ρ 0, ρ 1, ρ 2, ρ 3, ρ 4, 0, ρ 6, 0, 0] (γ 3)
  have hD : dn89 [ρ 0] (γ 0) = .inl (0, [ρ 0, 0, ρ 6], γ 3) := by
    unfold dn89
    refine zLV (ρ 0) rfl (zLE m4 (zIP w_0 (zLE (show fn79 [ρ 0] (γ 0) = (0, 1, γ 1) from l0.symm) (zLV (γ 1) rfl (zIP zQ1_ (zLE (show fn1 [0] (γ 1) = (0, 0, γ 2) from l1.symm) (zLV (γ 2) rfl ?_)))))))
    refine zLE m6 (zLE c3.symm ?_)
    rfl
  exact zGoo_to hD
set_option maxRecDepth 100000 in
theorem vn89_2 {S : Nat → zSpc} (hS1 : zIm S 1 sn1) (hS55 : zIm S 55 sn55) (hS79 : zIm S 79 sn79) (hS87 : zIm S 87 sn87) (hS88 : zIm S 88 sn88) {a : List Int} {g : rHp} : ∀ (ρ : Nat → Int) (γ : Nat → rHp), zO 5 S a g q89_2 ρ γ → zGl (fun i vs g1 => jn89 a g i vs g1) (sn89 a g) q89_2 ρ γ := by
  intro ρ γ h
  obtain ⟨ha, hg, hr, hf, hm, hc, hl⟩ := h
  have ha : a = [ρ 0, ρ 1, ρ 2, ρ 3, ρ 4] := ha
  subst ha
  subst hg
  have r5 : (0 : Int) ≤ ρ 5 ∧ ρ 5 ≤ 0 := zRnA hr 5
  have w_0 : ¬ (ρ 5 ≠ 0) := by omega
  have m4 : γ 0 15 0 59 = ρ 5 := zAllA hm 4
  have l0 : sn1 [1, ρ 2] (γ 0) 0 1 (γ 1) := hS1 _ _ _ _ _ (zAllA hl 0)
  show sn89 [ρ 0, ρ 1, ρ 2, ρ 3, ρ 4] (γ 0) 0 0 (γ 1)
  have hD : dn89 [ρ 0] (γ 0) = .inr (0, 0, γ 1) := by
    unfold dn89
    refine zLV (ρ 0) rfl (zLE m4 (zIN w_0 (zLE (show fn1 [1] (γ 0) = (0, 1, γ 1) from l0.symm) (zLV (γ 1) rfl ?_))))
    rfl
  exact zGoo_end hD
set_option maxRecDepth 100000 in
theorem vn89a0_0 {S : Nat → zSpc} (hS1 : zIm S 1 sn1) (hS55 : zIm S 55 sn55) (hS79 : zIm S 79 sn79) (hS87 : zIm S 87 sn87) (hS88 : zIm S 88 sn88) {a : List Int} {g : rHp} : ∀ (ρ : Nat → Int) (γ : Nat → rHp), jn89 a g 0 (zAg (zNA a89_ 0) ρ) (γ 1) → zO 5 S a g q89a0_0 ρ γ → zGl (fun i vs g1 => jn89 a g i vs g1) (sn89 a g) q89a0_0 ρ γ := by
  intro ρ γ hJ h
  obtain ⟨ha, hg, hr, hf, hm, hc, hl⟩ := h
  have ha : a = [ρ 0, ρ 1, ρ 2, ρ 3, ρ 4] := ha
  subst ha
  subst hg
  have hJ : jn89 [ρ 0, ρ 1, ρ 2, ρ 3, ρ 4] (γ 0) 0 [ρ 0, ρ 1, ρ 2, ρ 3, ρ 4, ρ 5, ρ 6, ρ 7, ρ 8] (γ 1) := hJ
  have f0 : (0 : Int) ≤ -ρ 9 + ρ 5 := zAllA hf 0
  have w_0 : ρ 5 ≥ ρ 9 := by omega
  have m6 : γ 0 65 0 (ρ 6) = ρ 9 := zAllA hm 6
  show jn89 [ρ 0, ρ 1, ρ 2, ρ 3, ρ 4] (γ 0) 1 [ρ 0, ρ 1, ρ 2, ρ 3, ρ 4, 0, ρ 6, ρ 7, ρ 8] (γ 1)
  have hD : en89 (γ 0) (0, [ρ 0, ρ 5, ρ 6], γ 1) = .inl (1, [ρ 0, 0, ρ 6], γ 1) := by
    unfold en89
    refine zIP (show (0 : Nat) = 0 by decide) (zLV (γ 1) rfl (zLV (ρ 0) rfl (zLV (ρ 5) rfl (zLV (ρ 6) rfl (zLE m6 (zIP w_0 ?_))))))
    rfl
  exact zGoo_ato hJ hD
set_option maxRecDepth 100000 in
theorem vn89a0_1 {S : Nat → zSpc} (hS1 : zIm S 1 sn1) (hS55 : zIm S 55 sn55) (hS79 : zIm S 79 sn79) (hS87 : zIm S 87 sn87) (hS88 : zIm S 88 sn88) {a : List Int} {g : rHp} : ∀ (ρ : Nat → Int) (γ : Nat → rHp), jn89 a g 0 (zAg (zNA a89_ 0) ρ) (γ 1) → zO 5 S a g q89a0_1 ρ γ → zGl (fun i vs g1 => jn89 a g i vs g1) (sn89 a g) q89a0_1 ρ γ := by
  intro ρ γ hJ h
  obtain ⟨ha, hg, hr, hf, hm, hc, hl⟩ := h
  have ha : a = [ρ 0, ρ 1, ρ 2, ρ 3, ρ 4] := ha
  subst ha
  subst hg
  have hJ : jn89 [ρ 0, ρ 1, ρ 2, ρ 3, ρ 4] (γ 0) 0 [ρ 0, ρ 1, ρ 2, ρ 3, ρ 4, ρ 5, ρ 6, ρ 7, ρ 8] (γ 1) := hJ
  have f0 : (0 : Int) ≤ ρ 9 + -ρ 5 + (-1) := zAllA hf 0
  have w_0 : ¬ (ρ 5 ≥ ρ 9) := by omega
  have m6 : γ 0 65 0 (ρ 6) = ρ 9 := zAllA hm 6
  have m7 : γ 0 64 0 (12 * ρ 6 + ρ 5) = ρ 10 := zAllA hm 7
  have l0 : sn87 [ρ 10, ρ 7] (γ 1) 0 0 (γ 2) := hS87 _ _ _ _ _ (zAllA hl 0)
  show jn89 [ρ 0, ρ 1, ρ 2, ρ 3, ρ 4] (γ 0) 0 [ρ 0, ρ 1, ρ 2, ρ 3, ρ 4, ρ 5 + 1, ρ 6, ρ 7 + 1, ρ 8] (γ 2)
  have hD : en89 (γ 0) (0, [ρ 0, ρ 5, ρ 6], γ 1) = .inl (0, [ρ 0, ρ 5 + 1, ρ 6], γ 2) := by
    unfold en89
    refine zIP (show (0 : Nat) = 0 by decide) (zLV (γ 1) rfl (zLV (ρ 0) rfl (zLV (ρ 5) rfl (zLV (ρ 6) rfl (zLE m6 (zIN w_0 (zLE m7 ?_)))))))
    refine zLE (show fn87 [ρ 10] (γ 1) = (0, 0, γ 2) from l0.symm) (zLV (γ 2) rfl ?_)
    rfl
  exact zGoo_ato hJ hD
set_option maxRecDepth 100000 in
theorem vn89a1_0 {S : Nat → zSpc} (hS1 : zIm S 1 sn1) (hS55 : zIm S 55 sn55) (hS79 : zIm S 79 sn79) (hS87 : zIm S 87 sn87) (hS88 : zIm S 88 sn88) {a : List Int} {g : rHp} : ∀ (ρ : Nat → Int) (γ : Nat → rHp), jn89 a g 1 (zAg (zNA a89_ 1) ρ) (γ 1) → zO 5 S a g q89a1_0 ρ γ → zGl (fun i vs g1 => jn89 a g i vs g1) (sn89 a g) q89a1_0 ρ γ := by
  intro ρ γ hJ h
  obtain ⟨ha, hg, hr, hf, hm, hc, hl⟩ := h
  have ha : a = [ρ 0, ρ 1, ρ 2, ρ 3, ρ 4] := ha
  subst ha
  subst hg
  have hJ : jn89 [ρ 0, ρ 1, ρ 2, ρ 3, ρ 4] (γ 0) 1 [ρ 0, ρ 1, ρ 2, ρ 3, ρ 4, ρ 5, ρ 6, ρ 7, ρ 8] (γ 1) := hJ
  have f0 : (0 : Int) ≤ -ρ 9 + ρ 5 := zAllA hf 0
  have w_0 : ρ 5 ≥ ρ 9 := by omega
  have m4 : γ 1 15 0 4 = ρ 7 := zAllA hm 4
  have m6 : γ 0 66 0 (ρ 6) = ρ 9 := zAllA hm 6
  have l0 : sn87 [41, ρ 7] (γ 1) 0 0 (γ 2) := hS87 _ _ _ _ _ (zAllA hl 0)
  show sn89 [ρ 0, ρ 1, ρ 2, ρ 3, ρ 4] (γ 0) 0 (ρ 7 + 1) (γ 2)
  have hD : en89 (γ 0) (1, [ρ 0, ρ 5, ρ 6], γ 1) = .inr (0, ρ 7 + 1, γ 2) := by
    unfold en89
    refine zIN (show ¬ (1 : Nat) = 0 by decide) (zIP (show (1 : Nat) = 1 by decide) (zLV (γ 1) rfl (zLV (ρ 0) rfl (zLV (ρ 5) rfl (zLV (ρ 6) rfl (zLE m4 (zLE m6 ?_)))))))
    refine zIP w_0 (zLE (show fn87 [41] (γ 1) = (0, 0, γ 2) from l0.symm) (zLV (γ 2) rfl ?_))
    rfl
  exact zGoo_aend hJ hD
set_option maxRecDepth 100000 in
theorem vn89a1_1 {S : Nat → zSpc} (hS1 : zIm S 1 sn1) (hS55 : zIm S 55 sn55) (hS79 : zIm S 79 sn79) (hS87 : zIm S 87 sn87) (hS88 : zIm S 88 sn88) {a : List Int} {g : rHp} : ∀ (ρ : Nat → Int) (γ : Nat → rHp), jn89 a g 1 (zAg (zNA a89_ 1) ρ) (γ 1) → zO 5 S a g q89a1_1 ρ γ → zGl (fun i vs g1 => jn89 a g i vs g1) (sn89 a g) q89a1_1 ρ γ := by
  intro ρ γ hJ h
  obtain ⟨ha, hg, hr, hf, hm, hc, hl⟩ := h
  have ha : a = [ρ 0, ρ 1, ρ 2, ρ 3, ρ 4] := ha
  subst ha
  subst hg
  have hJ : jn89 [ρ 0, ρ 1, ρ 2, ρ 3, ρ 4] (γ 0) 1 [ρ 0, ρ 1, ρ 2, ρ 3, ρ 4, ρ 5, ρ 6, ρ 7, ρ 8] (γ 1) := hJ
  have r5 : (1 : Int) ≤ ρ 5 ∧ ρ 5 ≤ 4 := zRnA hr 5
  have f0 : (0 : Int) ≤ ρ 9 + -ρ 5 + (-1) := zAllA hf 0
  obtain ⟨w_0, w_1⟩ : (¬ (ρ 5 ≥ ρ 9)) ∧ (ρ 5 ≠ 0) := ⟨by omega, by omega⟩
  have m4 : γ 1 15 0 4 = ρ 7 := zAllA hm 4
  have m6 : γ 0 66 0 (ρ 6) = ρ 9 := zAllA hm 6
  have m8 : γ 0 99 0 (ρ 5 + 4 * ρ 0) = ρ 10 := zAllA hm 8
  have l0 : sn87 [44, ρ 7] (γ 1) 0 0 (γ 2) := hS87 _ _ _ _ _ (zAllA hl 0)
  have l1 : sn55 [ρ 10] (γ 2) 0 0 (γ 3) := hS55 _ _ _ _ _ (zAllA hl 1)
  show jn89 [ρ 0, ρ 1, ρ 2, ρ 3, ρ 4] (γ 0) 2 [ρ 0, ρ 1, ρ 2, ρ 3, ρ 4, 0, ρ 10 + (-1099511627776), ρ 10, ρ 5, ρ 6, ρ 7 + 1, ρ 8] (γ 3)
  have hD : en89 (γ 0) (1, [ρ 0, ρ 5, ρ 6], γ 1) = .inl (2, [ρ 0, 0, ρ 10 + (-1099511627776), ρ 10, ρ 5, ρ 6], γ 3) := by
    unfold en89
    refine zIN (show ¬ (1 : Nat) = 0 by decide) (zIP (show (1 : Nat) = 1 by decide) (zLV (γ 1) rfl (zLV (ρ 0) rfl (zLV (ρ 5) rfl (zLV (ρ 6) rfl (zLE m4 (zLE m6 ?_)))))))
    refine zIN w_0 (zIP w_1 (zLE (show fn87 [44] (γ 1) = (0, 0, γ 2) from l0.symm) (zLV (γ 2) rfl (zLE m8 (zLE (show fn55 [ρ 10] (γ 2) = (0, 0, γ 3) from l1.symm) (zLV (γ 3) rfl (zIN zQ0_ ?_)))))))
    rfl
  exact zGoo_ato hJ hD
set_option maxRecDepth 100000 in
theorem vn89a1_2 {S : Nat → zSpc} (hS1 : zIm S 1 sn1) (hS55 : zIm S 55 sn55) (hS79 : zIm S 79 sn79) (hS87 : zIm S 87 sn87) (hS88 : zIm S 88 sn88) {a : List Int} {g : rHp} : ∀ (ρ : Nat → Int) (γ : Nat → rHp), jn89 a g 1 (zAg (zNA a89_ 1) ρ) (γ 1) → zO 5 S a g q89a1_2 ρ γ → zGl (fun i vs g1 => jn89 a g i vs g1) (sn89 a g) q89a1_2 ρ γ := by
  intro ρ γ hJ h
  obtain ⟨ha, hg, hr, hf, hm, hc, hl⟩ := h
  have ha : a = [ρ 0, ρ 1, ρ 2, ρ 3, ρ 4] := ha
  subst ha
  subst hg
  have hJ : jn89 [ρ 0, ρ 1, ρ 2, ρ 3, ρ 4] (γ 0) 1 [ρ 0, ρ 1, ρ 2, ρ 3, ρ 4, ρ 5, ρ 6, ρ 7, ρ 8] (γ 1) := hJ
  have r5 : (1 : Int) ≤ ρ 5 ∧ ρ 5 ≤ 4 := zRnA hr 5
  have f2 : (0 : Int) ≤ ρ 9 + -ρ 5 + (-1) := zAllA hf 2
  obtain ⟨w_0, w_1⟩ : (¬ (ρ 5 ≥ ρ 9)) ∧ (ρ 5 ≠ 0) := ⟨by omega, by omega⟩
  have m4 : γ 1 15 0 4 = ρ 7 := zAllA hm 4
  have m6 : γ 0 66 0 (ρ 6) = ρ 9 := zAllA hm 6
  have m8 : γ 0 99 0 (ρ 5 + 4 * ρ 0) = ρ 10 := zAllA hm 8
  have l0 : sn87 [44, ρ 7] (γ 1) 0 0 (γ 2) := hS87 _ _ _ _ _ (zAllA hl 0)
  have l1 : sn55 [ρ 10] (γ 2) 0 1 (γ 3) := hS55 _ _ _ _ _ (zAllA hl 1)
  have l2 : sn88 [ρ 10, ρ 7 + 1] (γ 3) 0 0 (γ 4) := hS88 _ _ _ _ _ (zAllA hl 2)
  show jn89 [ρ 0, ρ 1, ρ 2, ρ 3, ρ 4] (γ 0) 1 [ρ 0, ρ 1, ρ 2, ρ 3, ρ 4, ρ 5 + 1, ρ 6, ρ 11, ρ 8] (γ 4)
  have hD : en89 (γ 0) (1, [ρ 0, ρ 5, ρ 6], γ 1) = .inl (1, [ρ 0, ρ 5 + 1, ρ 6], γ 4) := by
    unfold en89
    refine zIN (show ¬ (1 : Nat) = 0 by decide) (zIP (show (1 : Nat) = 1 by decide) (zLV (γ 1) rfl (zLV (ρ 0) rfl (zLV (ρ 5) rfl (zLV (ρ 6) rfl (zLE m4 (zLE m6 ?_)))))))
    refine zIN w_0 (zIP w_1 (zLE (show fn87 [44] (γ 1) = (0, 0, γ 2) from l0.symm) (zLV (γ 2) rfl (zLE m8 (zLE (show fn55 [ρ 10] (γ 2) = (0, 1, γ 3) from l1.symm) (zLV (γ 3) rfl (zIP zQ1_ ?_)))))))
    refine zLE (show fn88 [ρ 10] (γ 3) = (0, 0, γ 4) from l2.symm) (zLV (γ 4) rfl ?_)
    rfl
  exact zGoo_ato hJ hD
set_option maxRecDepth 100000 in
theorem vn89a1_3 {S : Nat → zSpc} (hS1 : zIm S 1 sn1) (hS55 : zIm S 55 sn55) (hS79 : zIm S 79 sn79) (hS87 : zIm S 87 sn87) (hS88 : zIm S 88 sn88) {a : List Int} {g : rHp} : ∀ (ρ : Nat → Int) (γ : Nat → rHp), jn89 a g 1 (zAg (zNA a89_ 1) ρ) (γ 1) → zO 5 S a g q89a1_3 ρ γ → zGl (fun i vs g1 => jn89 a g i vs g1) (sn89 a g) q89a1_3 ρ γ := by
  intro ρ γ hJ h
  obtain ⟨ha, hg, hr, hf, hm, hc, hl⟩ := h
  have ha : a = [ρ 0, ρ 1, ρ 2, ρ 3, ρ 4] := ha
  subst ha
  subst hg
  have hJ : jn89 [ρ 0, ρ 1, ρ 2, ρ 3, ρ 4] (γ 0) 1 [ρ 0, ρ 1, ρ 2, ρ 3, ρ 4, ρ 5, ρ 6, ρ 7, ρ 8] (γ 1) := hJ
  have r5 : (0 : Int) ≤ ρ 5 ∧ ρ 5 ≤ 0 := zRnA hr 5
  have f0 : (0 : Int) ≤ ρ 9 + -ρ 5 + (-1) := zAllA hf 0
  obtain ⟨w_0, w_1⟩ : (¬ (ρ 5 ≥ ρ 9)) ∧ (¬ (ρ 5 ≠ 0)) := ⟨by omega, by omega⟩
  have m4 : γ 1 15 0 4 = ρ 7 := zAllA hm 4
  have m6 : γ 0 66 0 (ρ 6) = ρ 9 := zAllA hm 6
  have m8 : γ 0 99 0 (ρ 5 + 4 * ρ 0) = ρ 10 := zAllA hm 8
  have l0 : sn87 [40, ρ 7] (γ 1) 0 0 (γ 2) := hS87 _ _ _ _ _ (zAllA hl 0)
  have l1 : sn55 [ρ 10] (γ 2) 0 0 (γ 3) := hS55 _ _ _ _ _ (zAllA hl 1)
  show jn89 [ρ 0, ρ 1, ρ 2, ρ 3, ρ 4] (γ 0) 2 [ρ 0, ρ 1, ρ 2, ρ 3, ρ 4, 0, ρ 10 + (-1099511627776), ρ 10, ρ 5, ρ 6, ρ 7 + 1, ρ 8] (γ 3)
  have hD : en89 (γ 0) (1, [ρ 0, ρ 5, ρ 6], γ 1) = .inl (2, [ρ 0, 0, ρ 10 + (-1099511627776), ρ 10, ρ 5, ρ 6], γ 3) := by
    unfold en89
    refine zIN (show ¬ (1 : Nat) = 0 by decide) (zIP (show (1 : Nat) = 1 by decide) (zLV (γ 1) rfl (zLV (ρ 0) rfl (zLV (ρ 5) rfl (zLV (ρ 6) rfl (zLE m4 (zLE m6 ?_)))))))
    refine zIN w_0 (zIN w_1 (zLE (show fn87 [40] (γ 1) = (0, 0, γ 2) from l0.symm) (zLV (γ 2) rfl (zLE m8 (zLE (show fn55 [ρ 10] (γ 2) = (0, 0, γ 3) from l1.symm) (zLV (γ 3) rfl (zIN zQ0_ ?_)))))))
    rfl
  exact zGoo_ato hJ hD
set_option maxRecDepth 100000 in
theorem vn89a1_4 {S : Nat → zSpc} (hS1 : zIm S 1 sn1) (hS55 : zIm S 55 sn55) (hS79 : zIm S 79 sn79) (hS87 : zIm S 87 sn87) (hS88 : zIm S 88 sn88) {a : List Int} {g : rHp} : ∀ (ρ : Nat → Int) (γ : Nat → rHp), jn89 a g 1 (zAg (zNA a89_ 1) ρ) (γ 1) → zO 5 S a g q89a1_4 ρ γ → zGl (fun i vs g1 => jn89 a g i vs g1) (sn89 a g) q89a1_4 ρ γ := by
  intro ρ γ hJ h
  obtain ⟨ha, hg, hr, hf, hm, hc, hl⟩ := h
  have ha : a = [ρ 0, ρ 1, ρ 2, ρ 3, ρ 4] := ha
  subst ha
  subst hg
  have hJ : jn89 [ρ 0, ρ 1, ρ 2, ρ 3, ρ 4] (γ 0) 1 [ρ 0, ρ 1, ρ 2, ρ 3, ρ 4, ρ 5, ρ 6, ρ 7, ρ 8] (γ 1) := hJ
  have r5 : (0 : Int) ≤ ρ 5 ∧ ρ 5 ≤ 0 := zRnA hr 5
  have f2 : (0 : Int) ≤ ρ 9 + -ρ 5 + (-1) := zAllA hf 2
  obtain ⟨w_0, w_1⟩ : (¬ (ρ 5 ≥ ρ 9)) ∧ (¬ (ρ 5 ≠ 0)) := ⟨by omega, by omega⟩
  have m4 : γ 1 15 0 4 = ρ 7 := zAllA hm 4
  have m6 : γ 0 66 0 (ρ 6) = ρ 9 := zAllA hm 6
  have m8 : γ 0 99 0 (ρ 5 + 4 * ρ 0) = ρ 10 := zAllA hm 8
  have l0 : sn87 [40, ρ 7] (γ 1) 0 0 (γ 2) := hS87 _ _ _ _ _ (zAllA hl 0)
  have l1 : sn55 [ρ 10] (γ 2) 0 1 (γ 3) := hS55 _ _ _ _ _ (zAllA hl 1)
  have l2 : sn88 [ρ 10, ρ 7 + 1] (γ 3) 0 0 (γ 4) := hS88 _ _ _ _ _ (zAllA hl 2)
  show jn89 [ρ 0, ρ 1, ρ 2, ρ 3, ρ 4] (γ 0) 1 [ρ 0, ρ 1, ρ 2, ρ 3, ρ 4, ρ 5 + 1, ρ 6, ρ 11, ρ 8] (γ 4)
  have hD : en89 (γ 0) (1, [ρ 0, ρ 5, ρ 6], γ 1) = .inl (1, [ρ 0, ρ 5 + 1, ρ 6], γ 4) := by
    unfold en89
    refine zIN (show ¬ (1 : Nat) = 0 by decide) (zIP (show (1 : Nat) = 1 by decide) (zLV (γ 1) rfl (zLV (ρ 0) rfl (zLV (ρ 5) rfl (zLV (ρ 6) rfl (zLE m4 (zLE m6 ?_)))))))
    refine zIN w_0 (zIN w_1 (zLE (show fn87 [40] (γ 1) = (0, 0, γ 2) from l0.symm) (zLV (γ 2) rfl (zLE m8 (zLE (show fn55 [ρ 10] (γ 2) = (0, 1, γ 3) from l1.symm) (zLV (γ 3) rfl (zIP zQ1_ ?_)))))))
    refine zLE (show fn88 [ρ 10] (γ 3) = (0, 0, γ 4) from l2.symm) (zLV (γ 4) rfl ?_)
    rfl
  exact zGoo_ato hJ hD
set_option maxRecDepth 100000 in
theorem vn89a2_0 {S : Nat → zSpc} (hS1 : zIm S 1 sn1) (hS55 : zIm S 55 sn55) (hS79 : zIm S 79 sn79) (hS87 : zIm S 87 sn87) (hS88 : zIm S 88 sn88) {a : List Int} {g : rHp} : ∀ (ρ : Nat → Int) (γ : Nat → rHp), jn89 a g 2 (zAg (zNA a89_ 2) ρ) (γ 1) → zO 5 S a g q89a2_0 ρ γ → zGl (fun i vs g1 => jn89 a g i vs g1) (sn89 a g) q89a2_0 ρ γ := by
  intro ρ γ hJ h
  obtain ⟨ha, hg, hr, hf, hm, hc, hl⟩ := h
  have ha : a = [ρ 0, ρ 1, ρ 2, ρ 3, ρ 4] := ha
  subst ha
  subst hg
  have hJ : jn89 [ρ 0, ρ 1, ρ 2, ρ 3, ρ 4] (γ 0) 2 [ρ 0, ρ 1, ρ 2, ρ 3, ρ 4, ρ 5, ρ 6, ρ 7, ρ 8, ρ 9, ρ 10, ρ 11] (γ 1) := hJ
  have f0 : (0 : Int) ≤ -ρ 12 + ρ 5 := zAllA hf 0
  have w_0 : ρ 5 ≥ ρ 12 := by omega
  have m6 : γ 0 63 0 (ρ 6) = ρ 12 := zAllA hm 6
  show jn89 [ρ 0, ρ 1, ρ 2, ρ 3, ρ 4] (γ 0) 1 [ρ 0, ρ 1, ρ 2, ρ 3, ρ 4, ρ 8 + 1, ρ 9, ρ 10, ρ 11] (γ 1)
  have hD : en89 (γ 0) (2, [ρ 0, ρ 5, ρ 6, ρ 7, ρ 8, ρ 9], γ 1) = .inl (1, [ρ 0, ρ 8 + 1, ρ 9], γ 1) := by
    unfold en89
    refine zIN (show ¬ (2 : Nat) = 0 by decide) (zIN (show ¬ (2 : Nat) = 1 by decide) (zIP (show (2 : Nat) = 2 by decide) (zLV (γ 1) rfl (zLV (ρ 0) rfl (zLV (ρ 5) rfl (zLV (ρ 6) rfl (zLV (ρ 7) rfl ?_)))))))
    refine zLV (ρ 8) rfl (zLV (ρ 9) rfl (zLE m6 (zIP w_0 ?_)))
    rfl
  exact zGoo_ato hJ hD
set_option maxRecDepth 100000 in
theorem vn89a2_1 {S : Nat → zSpc} (hS1 : zIm S 1 sn1) (hS55 : zIm S 55 sn55) (hS79 : zIm S 79 sn79) (hS87 : zIm S 87 sn87) (hS88 : zIm S 88 sn88) {a : List Int} {g : rHp} : ∀ (ρ : Nat → Int) (γ : Nat → rHp), jn89 a g 2 (zAg (zNA a89_ 2) ρ) (γ 1) → zO 5 S a g q89a2_1 ρ γ → zGl (fun i vs g1 => jn89 a g i vs g1) (sn89 a g) q89a2_1 ρ γ := by
  intro ρ γ hJ h
  obtain ⟨ha, hg, hr, hf, hm, hc, hl⟩ := h
  have ha : a = [ρ 0, ρ 1, ρ 2, ρ 3, ρ 4] := ha
  subst ha
  subst hg
  have hJ : jn89 [ρ 0, ρ 1, ρ 2, ρ 3, ρ 4] (γ 0) 2 [ρ 0, ρ 1, ρ 2, ρ 3, ρ 4, ρ 5, ρ 6, ρ 7, ρ 8, ρ 9, ρ 10, ρ 11] (γ 1) := hJ
  have f0 : (0 : Int) ≤ ρ 12 + -ρ 5 + (-1) := zAllA hf 0
  have w_0 : ¬ (ρ 5 ≥ ρ 12) := by omega
  have m6 : γ 0 63 0 (ρ 6) = ρ 12 := zAllA hm 6
  have m7 : γ 0 62 0 (ρ 6) = ρ 13 := zAllA hm 7
  have m8 : γ 0 61 0 (ρ 13 + ρ 5) = ρ 14 := zAllA hm 8
  have l0 : sn87 [ρ 14, ρ 10] (γ 1) 0 0 (γ 2) := hS87 _ _ _ _ _ (zAllA hl 0)
  show jn89 [ρ 0, ρ 1, ρ 2, ρ 3, ρ 4] (γ 0) 2 [ρ 0, ρ 1, ρ 2, ρ 3, ρ 4, ρ 5 + 1, ρ 6, ρ 7, ρ 8, ρ 9, ρ 10 + 1, ρ 11] (γ 2)
  have hD : en89 (γ 0) (2, [ρ 0, ρ 5, ρ 6, ρ 7, ρ 8, ρ 9], γ 1) = .inl (2, [ρ 0, ρ 5 + 1, ρ 6, ρ 7, ρ 8, ρ 9], γ 2) := by
    unfold en89
    refine zIN (show ¬ (2 : Nat) = 0 by decide) (zIN (show ¬ (2 : Nat) = 1 by decide) (zIP (show (2 : Nat) = 2 by decide) (zLV (γ 1) rfl (zLV (ρ 0) rfl (zLV (ρ 5) rfl (zLV (ρ 6) rfl (zLV (ρ 7) rfl ?_)))))))
    refine zLV (ρ 8) rfl (zLV (ρ 9) rfl (zLE m6 (zIN w_0 (zLE m7 (zLE m8 (zLE (show fn87 [ρ 14] (γ 1) = (0, 0, γ 2) from l0.symm) (zLV (γ 2) rfl ?_)))))))
    rfl
  exact zGoo_ato hJ hD
set_option maxRecDepth 100000 in
theorem yn89 {S : Nat → zSpc} (hS1 : zIm S 1 sn1) (hS55 : zIm S 55 sn55) (hS79 : zIm S 79 sn79) (hS87 : zIm S 87 sn87) (hS88 : zIm S 88 sn88) : ∀ x g o v gz, zSem uW uT w89_.2.2.2.1 w89_.2.2.1.1.length S q89 (fun i => q89a.getD i []) (zNA a89_) x g o v gz → sn89 x g o v gz := by
  intro a g o v gz h
  exact zSem_all (l0 := q89) (las := q89a) (S := S) (J := (fun i vs g1 => jn89 a g i vs g1)) (P := sn89 a g) (fun _ => (show zAll _ [q89_0, q89_1, q89_2] from (zAll_c (vn89_0 hS1 hS55 hS79 hS87 hS88) (zAll_c (vn89_1 hS1 hS55 hS79 hS87 hS88) (zAll_c (vn89_2 hS1 hS55 hS79 hS87 hS88) zAll_n))))) (fun _ => (show zAllI _ 0 [q89a0, q89a1, q89a2] from ⟨(show zAll _ [q89a0_0, q89a0_1] from (zAll_c (vn89a0_0 hS1 hS55 hS79 hS87 hS88) (zAll_c (vn89a0_1 hS1 hS55 hS79 hS87 hS88) zAll_n))), ⟨(show zAll _ [q89a1_0, q89a1_1, q89a1_2, q89a1_3, q89a1_4] from (zAll_c (vn89a1_0 hS1 hS55 hS79 hS87 hS88) (zAll_c (vn89a1_1 hS1 hS55 hS79 hS87 hS88) (zAll_c (vn89a1_2 hS1 hS55 hS79 hS87 hS88) (zAll_c (vn89a1_3 hS1 hS55 hS79 hS87 hS88) (zAll_c (vn89a1_4 hS1 hS55 hS79 hS87 hS88) zAll_n)))))), ⟨(show zAll _ [q89a2_0, q89a2_1] from (zAll_c (vn89a2_0 hS1 hS55 hS79 hS87 hS88) (zAll_c (vn89a2_1 hS1 hS55 hS79 hS87 hS88) zAll_n))), trivial⟩⟩⟩)) h
set_option maxRecDepth 100000 in
theorem vn93_0 {S : Nat → zSpc}  {a : List Int} {g : rHp} : ∀ (ρ : Nat → Int) (γ : Nat → rHp), zO 2 S a g q93_0 ρ γ → zGl (fun _ _ _ => True) (sn93 a g) q93_0 ρ γ := by
  intro ρ γ h
  obtain ⟨ha, hg, hr, hf, hm, hc, hl⟩ := h
  have ha : a = [ρ 0, ρ 1] := ha
  subst ha
  subst hg
  have r0 : ((-2147483648) : Int) ≤ ρ 0 ∧ ρ 0 ≤ (-1) := zRnA hr 0
  have w_0 : ρ 0 < 0 := by omega
  have m0 : γ 0 3 0 1 = ρ 1 := zAllA hm 0
  show sn93 [ρ 0, ρ 1] (γ 0) 0 0 (γ 0)
  refine Eq.symm ?_
  show fn93 [ρ 0] (γ 0) = _
  unfold fn93
  refine zLV (ρ 0) rfl (zLE m0 (zIP w_0 ?_))
  rfl
set_option maxRecDepth 100000 in
theorem vn93_1 {S : Nat → zSpc}  {a : List Int} {g : rHp} : ∀ (ρ : Nat → Int) (γ : Nat → rHp), zO 2 S a g q93_1 ρ γ → zGl (fun _ _ _ => True) (sn93 a g) q93_1 ρ γ := by
  intro ρ γ h
  obtain ⟨ha, hg, hr, hf, hm, hc, hl⟩ := h
  have ha : a = [ρ 0, ρ 1] := ha
  subst ha
  subst hg
  have r0 : (0 : Int) ≤ ρ 0 ∧ ρ 0 ≤ 2147483647 := zRnA hr 0
  have f0 : (0 : Int) ≤ -ρ 1 + ρ 0 := zAllA hf 0
  obtain ⟨w_0, w_1⟩ : (¬ (ρ 0 < 0)) ∧ (ρ 0 ≥ ρ 1) := ⟨by omega, by omega⟩
  have m0 : γ 0 3 0 1 = ρ 1 := zAllA hm 0
  show sn93 [ρ 0, ρ 1] (γ 0) 0 0 (γ 0)
  refine Eq.symm ?_
  show fn93 [ρ 0] (γ 0) = _
  unfold fn93
  refine zLV (ρ 0) rfl (zLE m0 (zIN w_0 (zIP w_1 ?_)))
  rfl
set_option maxRecDepth 100000 in
theorem vn93_2 {S : Nat → zSpc}  {a : List Int} {g : rHp} : ∀ (ρ : Nat → Int) (γ : Nat → rHp), zO 2 S a g q93_2 ρ γ → zGl (fun _ _ _ => True) (sn93 a g) q93_2 ρ γ := by
  intro ρ γ h
  obtain ⟨ha, hg, hr, hf, hm, hc, hl⟩ := h
  have ha : a = [ρ 0, ρ 1] := ha
  subst ha
  subst hg
  have r0 : (0 : Int) ≤ ρ 0 ∧ ρ 0 ≤ 2147483647 := zRnA hr 0
  have f0 : (0 : Int) ≤ ρ 1 + -ρ 0 + (-1) := zAllA hf 0
  obtain ⟨w_0, w_1⟩ : (¬ (ρ 0 < 0)) ∧ (¬ (ρ 0 ≥ ρ 1)) := ⟨by omega, by omega⟩
  have m0 : γ 0 3 0 1 = ρ 1 := zAllA hm 0
  have m1 : γ 0 26 0 (ρ 0) = ρ 2 := zAllA hm 1
  show sn93 [ρ 0, ρ 1] (γ 0) 0 (ρ 2) (γ 0)
  refine Eq.symm ?_
  show fn93 [ρ 0] (γ 0) = _
  unfold fn93
  refine zLV (ρ 0) rfl (zLE m0 (zIN w_0 (zIN w_1 (zLE m1 ?_))))
  rfl
set_option maxRecDepth 100000 in
theorem yn93 {S : Nat → zSpc}  : ∀ x g o v gz, zSem uW uT w93_.2.2.2.1 w93_.2.2.1.1.length S q93 (fun i => q93a.getD i []) (zNA a93_) x g o v gz → sn93 x g o v gz := by
  intro a g o v gz h
  exact zSem_all (l0 := q93) (las := q93a) (S := S) (J := (fun _ _ _ => True)) (P := sn93 a g) (fun _ => (show zAll _ [q93_0, q93_1, q93_2] from (zAll_c (vn93_0 ) (zAll_c (vn93_1 ) (zAll_c (vn93_2 ) zAll_n))))) (fun _ => (show zAllI _ 0 [] from trivial)) h
set_option maxRecDepth 100000 in
theorem vn170_0 {S : Nat → zSpc}  {a : List Int} {g : rHp} : ∀ (ρ : Nat → Int) (γ : Nat → rHp), zO 0 S a g q170_0 ρ γ → zGl (fun _ _ _ => True) (sn170 a g) q170_0 ρ γ := by
  intro ρ γ h
  obtain ⟨ha, hg, hr, hf, hm, hc, hl⟩ := h
  have ha : a = [] := ha
  subst ha
  subst hg
  have r0 : (1 : Int) ≤ ρ 0 ∧ ρ 0 ≤ 1 := zRnA hr 0
  have w_0 : ρ 0 ≠ 0 := by omega
  have m0 : γ 0 0 0 7 = ρ 0 := zAllA hm 0
  show sn170 [] (γ 0) 0 0 (γ 0)
  refine Eq.symm ?_
  show fn170 [] (γ 0) = _
  unfold fn170
  refine zLE m0 (zIP w_0 ?_)
  rfl
set_option maxRecDepth 100000 in
theorem vn170_1 {S : Nat → zSpc}  {a : List Int} {g : rHp} : ∀ (ρ : Nat → Int) (γ : Nat → rHp), zO 0 S a g q170_1 ρ γ → zGl (fun _ _ _ => True) (sn170 a g) q170_1 ρ γ := by
  intro ρ γ h
  obtain ⟨ha, hg, hr, hf, hm, hc, hl⟩ := h
  have ha : a = [] := ha
  subst ha
  subst hg
  have r0 : (0 : Int) ≤ ρ 0 ∧ ρ 0 ≤ 0 := zRnA hr 0
  have w_0 : ¬ (ρ 0 ≠ 0) := by omega
  have m0 : γ 0 0 0 7 = ρ 0 := zAllA hm 0
  show sn170 [] (γ 0) 5 0 (γ 0)
  refine Eq.symm ?_
  show fn170 [] (γ 0) = _
  unfold fn170
  refine zLE m0 (zIN w_0 ?_)
  rfl
set_option maxRecDepth 100000 in
theorem yn170 {S : Nat → zSpc}  : ∀ x g o v gz, zSem uW uT w170_.2.2.2.1 w170_.2.2.1.1.length S q170 (fun i => q170a.getD i []) (zNA a170_) x g o v gz → sn170 x g o v gz := by
  intro a g o v gz h
  exact zSem_all (l0 := q170) (las := q170a) (S := S) (J := (fun _ _ _ => True)) (P := sn170 a g) (fun _ => (show zAll _ [q170_0, q170_1] from (zAll_c (vn170_0 ) (zAll_c (vn170_1 ) zAll_n)))) (fun _ => (show zAllI _ 0 [] from trivial)) h
set_option maxRecDepth 100000 in
theorem vn171_0 {S : Nat → zSpc} (hS170 : zIm S 170 sn170) {a : List Int} {g : rHp} : ∀ (ρ : Nat → Int) (γ : Nat → rHp), zO 2 S a g q171_0 ρ γ → zGl (fun _ _ _ => True) (sn171 a g) q171_0 ρ γ := by
  intro ρ γ h
  obtain ⟨ha, hg, hr, hf, hm, hc, hl⟩ := h
  have ha : a = [ρ 0, ρ 1] := ha
  subst ha
  subst hg
  have r0 : ((-2147483648) : Int) ≤ ρ 0 ∧ ρ 0 ≤ (-1) := zRnA hr 0
  have w_0 : ρ 0 < 0 := by omega
  have m0 : γ 0 4 0 7 = ρ 1 := zAllA hm 0
  have l0 : sn170 [] (γ 0) 0 0 (γ 1) := hS170 _ _ _ _ _ (zAllA hl 0)
  show sn171 [ρ 0, ρ 1] (γ 0) 1 0 (γ 1)
  refine Eq.symm ?_
  show fn171 [ρ 0] (γ 0) = _
  unfold fn171
  refine zLV (ρ 0) rfl (zLE m0 (zLE (show fn170 [] (γ 0) = (0, 0, γ 1) from l0.symm) (zLV (γ 1) rfl (zIP (show (0 : Nat) = 0 by decide) (zIP w_0 ?_)))))
  rfl
set_option maxRecDepth 100000 in
theorem vn171_1 {S : Nat → zSpc} (hS170 : zIm S 170 sn170) {a : List Int} {g : rHp} : ∀ (ρ : Nat → Int) (γ : Nat → rHp), zO 2 S a g q171_1 ρ γ → zGl (fun _ _ _ => True) (sn171 a g) q171_1 ρ γ := by
  intro ρ γ h
  obtain ⟨ha, hg, hr, hf, hm, hc, hl⟩ := h
  have ha : a = [ρ 0, ρ 1] := ha
  subst ha
  subst hg
  have r0 : (0 : Int) ≤ ρ 0 ∧ ρ 0 ≤ 2147483647 := zRnA hr 0
  have f0 : (0 : Int) ≤ ρ 1 + -ρ 0 + (-1) := zAllA hf 0
  obtain ⟨w_0, w_1⟩ : (¬ (ρ 0 < 0)) ∧ (ρ 0 < ρ 1) := ⟨by omega, by omega⟩
  have m0 : γ 0 4 0 7 = ρ 1 := zAllA hm 0
  have l0 : sn170 [] (γ 0) 0 0 (γ 1) := hS170 _ _ _ _ _ (zAllA hl 0)
  show sn171 [ρ 0, ρ 1] (γ 0) 0 0 (γ 1)
  refine Eq.symm ?_
  show fn171 [ρ 0] (γ 0) = _
  unfold fn171
  refine zLV (ρ 0) rfl (zLE m0 (zLE (show fn170 [] (γ 0) = (0, 0, γ 1) from l0.symm) (zLV (γ 1) rfl (zIP (show (0 : Nat) = 0 by decide) (zIN w_0 (zIP w_1 ?_))))))
  rfl
set_option maxRecDepth 100000 in
theorem vn171_2 {S : Nat → zSpc} (hS170 : zIm S 170 sn170) {a : List Int} {g : rHp} : ∀ (ρ : Nat → Int) (γ : Nat → rHp), zO 2 S a g q171_2 ρ γ → zGl (fun _ _ _ => True) (sn171 a g) q171_2 ρ γ := by
  intro ρ γ h
  obtain ⟨ha, hg, hr, hf, hm, hc, hl⟩ := h
  have ha : a = [ρ 0, ρ 1] := ha
  subst ha
  subst hg
  have r0 : (0 : Int) ≤ ρ 0 ∧ ρ 0 ≤ 2147483647 := zRnA hr 0
  have f0 : (0 : Int) ≤ -ρ 1 + ρ 0 := zAllA hf 0
  obtain ⟨w_0, w_1⟩ : (¬ (ρ 0 < 0)) ∧ (¬ (ρ 0 < ρ 1)) := ⟨by omega, by omega⟩
  have m0 : γ 0 4 0 7 = ρ 1 := zAllA hm 0
  have l0 : sn170 [] (γ 0) 0 0 (γ 1) := hS170 _ _ _ _ _ (zAllA hl 0)
  show sn171 [ρ 0, ρ 1] (γ 0) 1 0 (γ 1)
  refine Eq.symm ?_
  show fn171 [ρ 0] (γ 0) = _
  unfold fn171
  refine zLV (ρ 0) rfl (zLE m0 (zLE (show fn170 [] (γ 0) = (0, 0, γ 1) from l0.symm) (zLV (γ 1) rfl (zIP (show (0 : Nat) = 0 by decide) (zIN w_0 (zIN w_1 ?_))))))
  rfl
set_option maxRecDepth 100000 in
theorem vn171_3 {S : Nat → zSpc} (hS170 : zIm S 170 sn170) {a : List Int} {g : rHp} : ∀ (ρ : Nat → Int) (γ : Nat → rHp), zO 2 S a g q171_3 ρ γ → zGl (fun _ _ _ => True) (sn171 a g) q171_3 ρ γ := by
  intro ρ γ h
  obtain ⟨ha, hg, hr, hf, hm, hc, hl⟩ := h
  have ha : a = [ρ 0, ρ 1] := ha
  subst ha
  subst hg
  have m0 : γ 0 4 0 7 = ρ 1 := zAllA hm 0
  have l0 : sn170 [] (γ 0) 5 0 (γ 1) := hS170 _ _ _ _ _ (zAllA hl 0)
  show sn171 [ρ 0, ρ 1] (γ 0) 5 0 (γ 1)
  refine Eq.symm ?_
  show fn171 [ρ 0] (γ 0) = _
  unfold fn171
  refine zLV (ρ 0) rfl (zLE m0 (zLE (show fn170 [] (γ 0) = (5, 0, γ 1) from l0.symm) (zLV (γ 1) rfl (zIN (show ¬ (5 : Nat) = 0 by decide) ?_))))
  rfl
set_option maxRecDepth 100000 in
theorem yn171 {S : Nat → zSpc} (hS170 : zIm S 170 sn170) : ∀ x g o v gz, zSem uW uT w171_.2.2.2.1 w171_.2.2.1.1.length S q171 (fun i => q171a.getD i []) (zNA a171_) x g o v gz → sn171 x g o v gz := by
  intro a g o v gz h
  exact zSem_all (l0 := q171) (las := q171a) (S := S) (J := (fun _ _ _ => True)) (P := sn171 a g) (fun _ => (show zAll _ [q171_0, q171_1, q171_2, q171_3] from (zAll_c (vn171_0 hS170) (zAll_c (vn171_1 hS170) (zAll_c (vn171_2 hS170) (zAll_c (vn171_3 hS170) zAll_n)))))) (fun _ => (show zAllI _ 0 [] from trivial)) h
set_option maxRecDepth 100000 in
theorem vn173_0 {S : Nat → zSpc} (hS172 : zIm S 172 sn172) {a : List Int} {g : rHp} : ∀ (ρ : Nat → Int) (γ : Nat → rHp), zO 1 S a g q173_0 ρ γ → zGl (fun _ _ _ => True) (sn173 a g) q173_0 ρ γ := by
  intro ρ γ h
  obtain ⟨ha, hg, hr, hf, hm, hc, hl⟩ := h
  have ha : a = [ρ 0] := ha
  subst ha
  subst hg
  have l0 : sn172 [ρ 0] (γ 0) 0 0 (γ 1) := hS172 _ _ _ _ _ (zAllA hl 0)
  have l1 : zOpP (.l2i) (γ 0) (γ 1) [ρ 0 + (-1099511627776)] (ρ 1) := zAllA hl 1
  have l2 : zOpP (.iadd) (γ 0) (γ 1) [200000000, ρ 1] (ρ 2) := zAllA hl 2
  show sn173 [ρ 0] (γ 0) 0 (ρ 2) (γ 1)
  refine Eq.symm ?_
  show fn173 [ρ 0] (γ 0) = _
  unfold fn173
  refine zLV (ρ 0) rfl (zLE (show fn172 [ρ 0] (γ 0) = (0, 0, γ 1) from l0.symm) (zLV (γ 1) rfl (zIN zQ0_ (zLE (zF1_ok l1) (zLE (zF2_ok l2) ?_)))))
  rfl
set_option maxRecDepth 100000 in
theorem vn173_1 {S : Nat → zSpc} (hS172 : zIm S 172 sn172) {a : List Int} {g : rHp} : ∀ (ρ : Nat → Int) (γ : Nat → rHp), zO 1 S a g q173_1 ρ γ → zGl (fun _ _ _ => True) (sn173 a g) q173_1 ρ γ := by
  intro ρ γ h
  obtain ⟨ha, hg, hr, hf, hm, hc, hl⟩ := h
  have ha : a = [ρ 0] := ha
  subst ha
  subst hg
  have l0 : sn172 [ρ 0] (γ 0) 0 1 (γ 1) := hS172 _ _ _ _ _ (zAllA hl 0)
  have l1 : zOpP (.l2i) (γ 0) (γ 1) [ρ 0] (ρ 1) := zAllA hl 1
  show sn173 [ρ 0] (γ 0) 0 (ρ 1) (γ 1)
  refine Eq.symm ?_
  show fn173 [ρ 0] (γ 0) = _
  unfold fn173
  refine zLV (ρ 0) rfl (zLE (show fn172 [ρ 0] (γ 0) = (0, 1, γ 1) from l0.symm) (zLV (γ 1) rfl (zIP zQ1_ (zLE (zF1_ok l1) ?_))))
  rfl
set_option maxRecDepth 100000 in
theorem yn173 {S : Nat → zSpc} (hS172 : zIm S 172 sn172) : ∀ x g o v gz, zSem uW uT w173_.2.2.2.1 w173_.2.2.1.1.length S q173 (fun i => q173a.getD i []) (zNA a173_) x g o v gz → sn173 x g o v gz := by
  intro a g o v gz h
  exact zSem_all (l0 := q173) (las := q173a) (S := S) (J := (fun _ _ _ => True)) (P := sn173 a g) (fun _ => (show zAll _ [q173_0, q173_1] from (zAll_c (vn173_0 hS172) (zAll_c (vn173_1 hS172) zAll_n)))) (fun _ => (show zAllI _ 0 [] from trivial)) h
set_option maxRecDepth 100000 in
theorem vn174_0 {S : Nat → zSpc} (hS171 : zIm S 171 sn171) (hS173 : zIm S 173 sn173) {a : List Int} {g : rHp} : ∀ (ρ : Nat → Int) (γ : Nat → rHp), zO 3 S a g q174_0 ρ γ → zGl (fun _ _ _ => True) (sn174 a g) q174_0 ρ γ := by
  intro ρ γ h
  obtain ⟨ha, hg, hr, hf, hm, hc, hl⟩ := h
  have ha : a = [ρ 0, ρ 1, ρ 2] := ha
  subst ha
  subst hg
  have r1 : ((-2147483648) : Int) ≤ ρ 1 ∧ ρ 1 ≤ (-1) := zRnA hr 1
  have w_0 : ρ 1 < 0 := by omega
  show sn174 [ρ 0, ρ 1, ρ 2] (γ 0) 2 0 (γ 0)
  refine Eq.symm ?_
  show fn174 [ρ 0, ρ 1] (γ 0) = _
  unfold fn174
  refine zLV (ρ 0) rfl (zLV (ρ 1) rfl (zIP w_0 ?_))
  rfl
set_option maxRecDepth 100000 in
theorem vn174_1 {S : Nat → zSpc} (hS171 : zIm S 171 sn171) (hS173 : zIm S 173 sn173) {a : List Int} {g : rHp} : ∀ (ρ : Nat → Int) (γ : Nat → rHp), zO 3 S a g q174_1 ρ γ → zGl (fun _ _ _ => True) (sn174 a g) q174_1 ρ γ := by
  intro ρ γ h
  obtain ⟨ha, hg, hr, hf, hm, hc, hl⟩ := h
  have ha : a = [ρ 0, ρ 1, ρ 2] := ha
  subst ha
  subst hg
  have r1 : (0 : Int) ≤ ρ 1 ∧ ρ 1 ≤ 3 := zRnA hr 1
  have f0 : (0 : Int) ≤ -ρ 4 + ρ 1 := zAllA hf 0
  obtain ⟨w_0, w_1, w_2, w_3⟩ : (¬ (ρ 1 < 0)) ∧ (ρ 1 < 9) ∧ (0 ≤ -ρ 1 + 3) ∧ (ρ 1 ≥ ρ 4) := ⟨by omega, by omega, by omega, by omega⟩
  have m1 : γ 0 28 0 (ρ 0) = ρ 3 := zAllA hm 1
  have m2 : γ 0 17 0 (ρ 3) = ρ 4 := zAllA hm 2
  have l0 : sn171 [ρ 0, ρ 2] (γ 0) 0 0 (γ 1) := hS171 _ _ _ _ _ (zAllA hl 0)
  show sn174 [ρ 0, ρ 1, ρ 2] (γ 0) 0 300000000 (γ 1)
  refine Eq.symm ?_
  show fn174 [ρ 0, ρ 1] (γ 0) = _
  unfold fn174
  refine zLV (ρ 0) rfl (zLV (ρ 1) rfl (zIN w_0 (zIP w_1 (zLE (show fn171 [ρ 0] (γ 0) = (0, 0, γ 1) from l0.symm) (zLV (γ 1) rfl (zIP (show (0 : Nat) = 0 by decide) (zLE m1 ?_)))))))
  refine zIP w_2 (zLE m2 (zIP w_3 ?_))
  rfl
set_option maxRecDepth 100000 in
theorem vn174_2 {S : Nat → zSpc} (hS171 : zIm S 171 sn171) (hS173 : zIm S 173 sn173) {a : List Int} {g : rHp} : ∀ (ρ : Nat → Int) (γ : Nat → rHp), zO 3 S a g q174_2 ρ γ → zGl (fun _ _ _ => True) (sn174 a g) q174_2 ρ γ := by
  intro ρ γ h
  obtain ⟨ha, hg, hr, hf, hm, hc, hl⟩ := h
  have ha : a = [ρ 0, ρ 1, ρ 2] := ha
  subst ha
  subst hg
  have r1 : (0 : Int) ≤ ρ 1 ∧ ρ 1 ≤ 3 := zRnA hr 1
  have f0 : (0 : Int) ≤ ρ 4 + -ρ 1 + (-1) := zAllA hf 0
  obtain ⟨w_0, w_1, w_2, w_3⟩ : (¬ (ρ 1 < 0)) ∧ (ρ 1 < 9) ∧ (0 ≤ -ρ 1 + 3) ∧ (¬ (ρ 1 ≥ ρ 4)) := ⟨by omega, by omega, by omega, by omega⟩
  have m1 : γ 0 28 0 (ρ 0) = ρ 3 := zAllA hm 1
  have m2 : γ 0 17 0 (ρ 3) = ρ 4 := zAllA hm 2
  have m3 : γ 0 27 0 (ρ 1 + 4 * ρ 0) = ρ 5 := zAllA hm 3
  have l0 : sn171 [ρ 0, ρ 2] (γ 0) 0 0 (γ 1) := hS171 _ _ _ _ _ (zAllA hl 0)
  have l1 : sn173 [ρ 5] (γ 1) 0 (ρ 6) (γ 2) := hS173 _ _ _ _ _ (zAllA hl 1)
  show sn174 [ρ 0, ρ 1, ρ 2] (γ 0) 0 (ρ 6) (γ 2)
  refine Eq.symm ?_
  show fn174 [ρ 0, ρ 1] (γ 0) = _
  unfold fn174
  refine zLV (ρ 0) rfl (zLV (ρ 1) rfl (zIN w_0 (zIP w_1 (zLE (show fn171 [ρ 0] (γ 0) = (0, 0, γ 1) from l0.symm) (zLV (γ 1) rfl (zIP (show (0 : Nat) = 0 by decide) (zLE m1 ?_)))))))
  refine zIP w_2 (zLE m2 (zIN w_3 (zLE m3 (zLE (show fn173 [ρ 5] (γ 1) = (0, ρ 6, γ 2) from l1.symm) (zLV (γ 2) rfl (zLV (ρ 6) rfl ?_))))))
  rfl
set_option maxRecDepth 100000 in
theorem vn174_3 {S : Nat → zSpc} (hS171 : zIm S 171 sn171) (hS173 : zIm S 173 sn173) {a : List Int} {g : rHp} : ∀ (ρ : Nat → Int) (γ : Nat → rHp), zO 3 S a g q174_3 ρ γ → zGl (fun _ _ _ => True) (sn174 a g) q174_3 ρ γ := by
  intro ρ γ h
  obtain ⟨ha, hg, hr, hf, hm, hc, hl⟩ := h
  have ha : a = [ρ 0, ρ 1, ρ 2] := ha
  subst ha
  subst hg
  have r1 : (4 : Int) ≤ ρ 1 ∧ ρ 1 ≤ 4 := zRnA hr 1
  obtain ⟨w_0, w_1, w_2, w_3⟩ : (¬ (ρ 1 < 0)) ∧ (ρ 1 < 9) ∧ (¬ (0 ≤ -ρ 1 + 3)) ∧ (ρ 1 = 4) := ⟨by omega, by omega, by omega, by omega⟩
  have m1 : γ 0 28 0 (ρ 0) = ρ 3 := zAllA hm 1
  have l0 : sn171 [ρ 0, ρ 2] (γ 0) 0 0 (γ 1) := hS171 _ _ _ _ _ (zAllA hl 0)
  show sn174 [ρ 0, ρ 1, ρ 2] (γ 0) 0 (ρ 3) (γ 1)
  refine Eq.symm ?_
  show fn174 [ρ 0, ρ 1] (γ 0) = _
  unfold fn174
  refine zLV (ρ 0) rfl (zLV (ρ 1) rfl (zIN w_0 (zIP w_1 (zLE (show fn171 [ρ 0] (γ 0) = (0, 0, γ 1) from l0.symm) (zLV (γ 1) rfl (zIP (show (0 : Nat) = 0 by decide) (zLE m1 ?_)))))))
  refine zIN w_2 (zIP w_3 ?_)
  rfl
set_option maxRecDepth 100000 in
theorem vn174_4 {S : Nat → zSpc} (hS171 : zIm S 171 sn171) (hS173 : zIm S 173 sn173) {a : List Int} {g : rHp} : ∀ (ρ : Nat → Int) (γ : Nat → rHp), zO 3 S a g q174_4 ρ γ → zGl (fun _ _ _ => True) (sn174 a g) q174_4 ρ γ := by
  intro ρ γ h
  obtain ⟨ha, hg, hr, hf, hm, hc, hl⟩ := h
  have ha : a = [ρ 0, ρ 1, ρ 2] := ha
  subst ha
  subst hg
  have r1 : (5 : Int) ≤ ρ 1 ∧ ρ 1 ≤ 5 := zRnA hr 1
  obtain ⟨w_0, w_1, w_2, w_3, w_4⟩ : (¬ (ρ 1 < 0)) ∧ (ρ 1 < 9) ∧ (¬ (0 ≤ -ρ 1 + 3)) ∧ (¬ (ρ 1 = 4)) ∧ (ρ 1 = 5) := ⟨by omega, by omega, by omega, by omega, by omega⟩
  have m1 : γ 0 28 0 (ρ 0) = ρ 3 := zAllA hm 1
  have m2 : γ 0 18 0 (ρ 3) = ρ 4 := zAllA hm 2
  have l0 : sn171 [ρ 0, ρ 2] (γ 0) 0 0 (γ 1) := hS171 _ _ _ _ _ (zAllA hl 0)
  show sn174 [ρ 0, ρ 1, ρ 2] (γ 0) 0 (ρ 4) (γ 1)
  refine Eq.symm ?_
  show fn174 [ρ 0, ρ 1] (γ 0) = _
  unfold fn174
  refine zLV (ρ 0) rfl (zLV (ρ 1) rfl (zIN w_0 (zIP w_1 (zLE (show fn171 [ρ 0] (γ 0) = (0, 0, γ 1) from l0.symm) (zLV (γ 1) rfl (zIP (show (0 : Nat) = 0 by decide) (zLE m1 ?_)))))))
  refine zIN w_2 (zIN w_3 (zIP w_4 (zLE m2 ?_)))
  rfl
set_option maxRecDepth 100000 in
theorem vn174_5 {S : Nat → zSpc} (hS171 : zIm S 171 sn171) (hS173 : zIm S 173 sn173) {a : List Int} {g : rHp} : ∀ (ρ : Nat → Int) (γ : Nat → rHp), zO 3 S a g q174_5 ρ γ → zGl (fun _ _ _ => True) (sn174 a g) q174_5 ρ γ := by
  intro ρ γ h
  obtain ⟨ha, hg, hr, hf, hm, hc, hl⟩ := h
  have ha : a = [ρ 0, ρ 1, ρ 2] := ha
  subst ha
  subst hg
  have r1 : (6 : Int) ≤ ρ 1 ∧ ρ 1 ≤ 6 := zRnA hr 1
  obtain ⟨w_0, w_1, w_2, w_3, w_4, w_5⟩ : (¬ (ρ 1 < 0)) ∧ (ρ 1 < 9) ∧ (¬ (0 ≤ -ρ 1 + 3)) ∧ (¬ (ρ 1 = 4)) ∧ (¬ (ρ 1 = 5)) ∧ (ρ 1 = 6) := ⟨by omega, by omega, by omega, by omega, by omega, by omega⟩
  have m1 : γ 0 28 0 (ρ 0) = ρ 3 := zAllA hm 1
  have m2 : γ 0 29 0 (ρ 0) = ρ 4 := zAllA hm 2
  have l0 : sn171 [ρ 0, ρ 2] (γ 0) 0 0 (γ 1) := hS171 _ _ _ _ _ (zAllA hl 0)
  show sn174 [ρ 0, ρ 1, ρ 2] (γ 0) 0 (ρ 4) (γ 1)
  refine Eq.symm ?_
  show fn174 [ρ 0, ρ 1] (γ 0) = _
  unfold fn174
  refine zLV (ρ 0) rfl (zLV (ρ 1) rfl (zIN w_0 (zIP w_1 (zLE (show fn171 [ρ 0] (γ 0) = (0, 0, γ 1) from l0.symm) (zLV (γ 1) rfl (zIP (show (0 : Nat) = 0 by decide) (zLE m1 ?_)))))))
  refine zIN w_2 (zIN w_3 (zIN w_4 (zIP w_5 (zLE m2 ?_))))
  rfl
set_option maxRecDepth 100000 in
theorem vn174_6 {S : Nat → zSpc} (hS171 : zIm S 171 sn171) (hS173 : zIm S 173 sn173) {a : List Int} {g : rHp} : ∀ (ρ : Nat → Int) (γ : Nat → rHp), zO 3 S a g q174_6 ρ γ → zGl (fun _ _ _ => True) (sn174 a g) q174_6 ρ γ := by
  intro ρ γ h
  obtain ⟨ha, hg, hr, hf, hm, hc, hl⟩ := h
  have ha : a = [ρ 0, ρ 1, ρ 2] := ha
  subst ha
  subst hg
  have r1 : (7 : Int) ≤ ρ 1 ∧ ρ 1 ≤ 7 := zRnA hr 1
  obtain ⟨w_0, w_1, w_2, w_3, w_4, w_5, w_6⟩ : (¬ (ρ 1 < 0)) ∧ (ρ 1 < 9) ∧ (¬ (0 ≤ -ρ 1 + 3)) ∧ (¬ (ρ 1 = 4)) ∧ (¬ (ρ 1 = 5)) ∧ (¬ (ρ 1 = 6)) ∧ (ρ 1 = 7) := ⟨by omega, by omega, by omega, by omega, by omega, by omega, by omega⟩
  have m1 : γ 0 28 0 (ρ 0) = ρ 3 := zAllA hm 1
  have m2 : γ 0 30 0 (ρ 0) = ρ 4 := zAllA hm 2
  have l0 : sn171 [ρ 0, ρ 2] (γ 0) 0 0 (γ 1) := hS171 _ _ _ _ _ (zAllA hl 0)
  show sn174 [ρ 0, ρ 1, ρ 2] (γ 0) 0 (ρ 4) (γ 1)
  refine Eq.symm ?_
  show fn174 [ρ 0, ρ 1] (γ 0) = _
  unfold fn174
  refine zLV (ρ 0) rfl (zLV (ρ 1) rfl (zIN w_0 (zIP w_1 (zLE (show fn171 [ρ 0] (γ 0) = (0, 0, γ 1) from l0.symm) (zLV (γ 1) rfl (zIP (show (0 : Nat) = 0 by decide) (zLE m1 ?_)))))))
  refine zIN w_2 (zIN w_3 (zIN w_4 (zIN w_5 (zIP w_6 (zLE m2 ?_)))))
  rfl
set_option maxRecDepth 100000 in
theorem vn174_7 {S : Nat → zSpc} (hS171 : zIm S 171 sn171) (hS173 : zIm S 173 sn173) {a : List Int} {g : rHp} : ∀ (ρ : Nat → Int) (γ : Nat → rHp), zO 3 S a g q174_7 ρ γ → zGl (fun _ _ _ => True) (sn174 a g) q174_7 ρ γ := by
  intro ρ γ h
  obtain ⟨ha, hg, hr, hf, hm, hc, hl⟩ := h
  have ha : a = [ρ 0, ρ 1, ρ 2] := ha
  subst ha
  subst hg
  have r1 : (8 : Int) ≤ ρ 1 ∧ ρ 1 ≤ 8 := zRnA hr 1
  obtain ⟨w_0, w_1, w_2, w_3, w_4, w_5, w_6⟩ : (¬ (ρ 1 < 0)) ∧ (ρ 1 < 9) ∧ (¬ (0 ≤ -ρ 1 + 3)) ∧ (¬ (ρ 1 = 4)) ∧ (¬ (ρ 1 = 5)) ∧ (¬ (ρ 1 = 6)) ∧ (¬ (ρ 1 = 7)) := ⟨by omega, by omega, by omega, by omega, by omega, by omega, by omega⟩
  have m1 : γ 0 28 0 (ρ 0) = ρ 3 := zAllA hm 1
  have m2 : γ 0 32 0 (ρ 0) = ρ 4 := zAllA hm 2
  have l0 : sn171 [ρ 0, ρ 2] (γ 0) 0 0 (γ 1) := hS171 _ _ _ _ _ (zAllA hl 0)
  show sn174 [ρ 0, ρ 1, ρ 2] (γ 0) 0 (ρ 4) (γ 1)
  refine Eq.symm ?_
  show fn174 [ρ 0, ρ 1] (γ 0) = _
  unfold fn174
  refine zLV (ρ 0) rfl (zLV (ρ 1) rfl (zIN w_0 (zIP w_1 (zLE (show fn171 [ρ 0] (γ 0) = (0, 0, γ 1) from l0.symm) (zLV (γ 1) rfl (zIP (show (0 : Nat) = 0 by decide) (zLE m1 ?_)))))))
  refine zIN w_2 (zIN w_3 (zIN w_4 (zIN w_5 (zIN w_6 (zLE m2 ?_)))))
  rfl
set_option maxRecDepth 100000 in
theorem vn174_8 {S : Nat → zSpc} (hS171 : zIm S 171 sn171) (hS173 : zIm S 173 sn173) {a : List Int} {g : rHp} : ∀ (ρ : Nat → Int) (γ : Nat → rHp), zO 3 S a g q174_8 ρ γ → zGl (fun _ _ _ => True) (sn174 a g) q174_8 ρ γ := by
  intro ρ γ h
  obtain ⟨ha, hg, hr, hf, hm, hc, hl⟩ := h
  have ha : a = [ρ 0, ρ 1, ρ 2] := ha
  subst ha
  subst hg
  have r1 : (0 : Int) ≤ ρ 1 ∧ ρ 1 ≤ 8 := zRnA hr 1
  obtain ⟨w_0, w_1⟩ : (¬ (ρ 1 < 0)) ∧ (ρ 1 < 9) := ⟨by omega, by omega⟩
  have l0 : sn171 [ρ 0, ρ 2] (γ 0) 1 0 (γ 1) := hS171 _ _ _ _ _ (zAllA hl 0)
  show sn174 [ρ 0, ρ 1, ρ 2] (γ 0) 1 0 (γ 1)
  refine Eq.symm ?_
  show fn174 [ρ 0, ρ 1] (γ 0) = _
  unfold fn174
  refine zLV (ρ 0) rfl (zLV (ρ 1) rfl (zIN w_0 (zIP w_1 (zLE (show fn171 [ρ 0] (γ 0) = (1, 0, γ 1) from l0.symm) (zLV (γ 1) rfl (zIN (show ¬ (1 : Nat) = 0 by decide) (zIP (show (1 : Nat) = 1 by decide) ?_)))))))
  rfl
set_option maxRecDepth 100000 in
theorem vn174_9 {S : Nat → zSpc} (hS171 : zIm S 171 sn171) (hS173 : zIm S 173 sn173) {a : List Int} {g : rHp} : ∀ (ρ : Nat → Int) (γ : Nat → rHp), zO 3 S a g q174_9 ρ γ → zGl (fun _ _ _ => True) (sn174 a g) q174_9 ρ γ := by
  intro ρ γ h
  obtain ⟨ha, hg, hr, hf, hm, hc, hl⟩ := h
  have ha : a = [ρ 0, ρ 1, ρ 2] := ha
  subst ha
  subst hg
  have r1 : (0 : Int) ≤ ρ 1 ∧ ρ 1 ≤ 8 := zRnA hr 1
  obtain ⟨w_0, w_1⟩ : (¬ (ρ 1 < 0)) ∧ (ρ 1 < 9) := ⟨by omega, by omega⟩
  have l0 : sn171 [ρ 0, ρ 2] (γ 0) 5 0 (γ 1) := hS171 _ _ _ _ _ (zAllA hl 0)
  show sn174 [ρ 0, ρ 1, ρ 2] (γ 0) 5 0 (γ 1)
  refine Eq.symm ?_
  show fn174 [ρ 0, ρ 1] (γ 0) = _
  unfold fn174
  refine zLV (ρ 0) rfl (zLV (ρ 1) rfl (zIN w_0 (zIP w_1 (zLE (show fn171 [ρ 0] (γ 0) = (5, 0, γ 1) from l0.symm) (zLV (γ 1) rfl (zIN (show ¬ (5 : Nat) = 0 by decide) (zIN (show ¬ (5 : Nat) = 1 by decide) ?_)))))))
  rfl
set_option maxRecDepth 100000 in
theorem vn174_10 {S : Nat → zSpc} (hS171 : zIm S 171 sn171) (hS173 : zIm S 173 sn173) {a : List Int} {g : rHp} : ∀ (ρ : Nat → Int) (γ : Nat → rHp), zO 3 S a g q174_10 ρ γ → zGl (fun _ _ _ => True) (sn174 a g) q174_10 ρ γ := by
  intro ρ γ h
  obtain ⟨ha, hg, hr, hf, hm, hc, hl⟩ := h
  have ha : a = [ρ 0, ρ 1, ρ 2] := ha
  subst ha
  subst hg
  have r1 : (9 : Int) ≤ ρ 1 ∧ ρ 1 ≤ 2147483647 := zRnA hr 1
  obtain ⟨w_0, w_1⟩ : (¬ (ρ 1 < 0)) ∧ (¬ (ρ 1 < 9)) := ⟨by omega, by omega⟩
  show sn174 [ρ 0, ρ 1, ρ 2] (γ 0) 2 0 (γ 0)
  refine Eq.symm ?_
  show fn174 [ρ 0, ρ 1] (γ 0) = _
  unfold fn174
  refine zLV (ρ 0) rfl (zLV (ρ 1) rfl (zIN w_0 (zIN w_1 ?_)))
  rfl
set_option maxRecDepth 100000 in
theorem yn174 {S : Nat → zSpc} (hS171 : zIm S 171 sn171) (hS173 : zIm S 173 sn173) : ∀ x g o v gz, zSem uW uT w174_.2.2.2.1 w174_.2.2.1.1.length S q174 (fun i => q174a.getD i []) (zNA a174_) x g o v gz → sn174 x g o v gz := by
  intro a g o v gz h
  exact zSem_all (l0 := q174) (las := q174a) (S := S) (J := (fun _ _ _ => True)) (P := sn174 a g) (fun _ => (show zAll _ [q174_0, q174_1, q174_2, q174_3, q174_4, q174_5, q174_6, q174_7, q174_8, q174_9, q174_10] from (zAll_c (vn174_0 hS171 hS173) (zAll_c (vn174_1 hS171 hS173) (zAll_c (vn174_2 hS171 hS173) (zAll_c (vn174_3 hS171 hS173) (zAll_c (vn174_4 hS171 hS173) (zAll_c (vn174_5 hS171 hS173) (zAll_c (vn174_6 hS171 hS173) (zAll_c (vn174_7 hS171 hS173) (zAll_c (vn174_8 hS171 hS173) (zAll_c (vn174_9 hS171 hS173) (zAll_c (vn174_10 hS171 hS173) zAll_n))))))))))))) (fun _ => (show zAllI _ 0 [] from trivial)) h
set_option maxRecDepth 100000 in
theorem vn175_0 {S : Nat → zSpc} (hS171 : zIm S 171 sn171) {a : List Int} {g : rHp} : ∀ (ρ : Nat → Int) (γ : Nat → rHp), zO 3 S a g q175_0 ρ γ → zGl (fun _ _ _ => True) (sn175 a g) q175_0 ρ γ := by
  intro ρ γ h
  obtain ⟨ha, hg, hr, hf, hm, hc, hl⟩ := h
  have ha : a = [ρ 0, ρ 1, ρ 2] := ha
  subst ha
  subst hg
  have r1 : ((-2147483648) : Int) ≤ ρ 1 ∧ ρ 1 ≤ (-1) := zRnA hr 1
  have w_0 : ρ 1 < 0 := by omega
  have l0 : sn171 [ρ 0, ρ 2] (γ 0) 0 0 (γ 1) := hS171 _ _ _ _ _ (zAllA hl 0)
  show sn175 [ρ 0, ρ 1, ρ 2] (γ 0) 1 0 (γ 1)
  refine Eq.symm ?_
  show fn175 [ρ 0, ρ 1] (γ 0) = _
  unfold fn175
  refine zLV (ρ 0) rfl (zLV (ρ 1) rfl (zLE (show fn171 [ρ 0] (γ 0) = (0, 0, γ 1) from l0.symm) (zLV (γ 1) rfl (zIP (show (0 : Nat) = 0 by decide) (zIP w_0 ?_)))))
  rfl
set_option maxRecDepth 100000 in
theorem vn175_1 {S : Nat → zSpc} (hS171 : zIm S 171 sn171) {a : List Int} {g : rHp} : ∀ (ρ : Nat → Int) (γ : Nat → rHp), zO 3 S a g q175_1 ρ γ → zGl (fun _ _ _ => True) (sn175 a g) q175_1 ρ γ := by
  intro ρ γ h
  obtain ⟨ha, hg, hr, hf, hm, hc, hl⟩ := h
  have ha : a = [ρ 0, ρ 1, ρ 2] := ha
  subst ha
  subst hg
  have r1 : (0 : Int) ≤ ρ 1 ∧ ρ 1 ≤ 2147483647 := zRnA hr 1
  have f0 : (0 : Int) ≤ ρ 3 + -ρ 1 + (-1) := zAllA hf 0
  obtain ⟨w_0, w_1⟩ : (¬ (ρ 1 < 0)) ∧ (ρ 1 < ρ 3) := ⟨by omega, by omega⟩
  have m1 : γ 0 32 0 (ρ 0) = ρ 3 := zAllA hm 1
  have m2 : γ 0 31 0 (ρ 1 + 8 * ρ 0) = ρ 4 := zAllA hm 2
  have l0 : sn171 [ρ 0, ρ 2] (γ 0) 0 0 (γ 1) := hS171 _ _ _ _ _ (zAllA hl 0)
  show sn175 [ρ 0, ρ 1, ρ 2] (γ 0) 0 (ρ 4) (γ 1)
  refine Eq.symm ?_
  show fn175 [ρ 0, ρ 1] (γ 0) = _
  unfold fn175
  refine zLV (ρ 0) rfl (zLV (ρ 1) rfl (zLE (show fn171 [ρ 0] (γ 0) = (0, 0, γ 1) from l0.symm) (zLV (γ 1) rfl (zIP (show (0 : Nat) = 0 by decide) (zIN w_0 (zLE m1 (zIP w_1 ?_)))))))
  refine zLE m2 ?_
  rfl
set_option maxRecDepth 100000 in
theorem vn175_2 {S : Nat → zSpc} (hS171 : zIm S 171 sn171) {a : List Int} {g : rHp} : ∀ (ρ : Nat → Int) (γ : Nat → rHp), zO 3 S a g q175_2 ρ γ → zGl (fun _ _ _ => True) (sn175 a g) q175_2 ρ γ := by
  intro ρ γ h
  obtain ⟨ha, hg, hr, hf, hm, hc, hl⟩ := h
  have ha : a = [ρ 0, ρ 1, ρ 2] := ha
  subst ha
  subst hg
  have r1 : (0 : Int) ≤ ρ 1 ∧ ρ 1 ≤ 2147483647 := zRnA hr 1
  have f0 : (0 : Int) ≤ -ρ 3 + ρ 1 := zAllA hf 0
  obtain ⟨w_0, w_1⟩ : (¬ (ρ 1 < 0)) ∧ (¬ (ρ 1 < ρ 3)) := ⟨by omega, by omega⟩
  have m1 : γ 0 32 0 (ρ 0) = ρ 3 := zAllA hm 1
  have l0 : sn171 [ρ 0, ρ 2] (γ 0) 0 0 (γ 1) := hS171 _ _ _ _ _ (zAllA hl 0)
  show sn175 [ρ 0, ρ 1, ρ 2] (γ 0) 1 0 (γ 1)
  refine Eq.symm ?_
  show fn175 [ρ 0, ρ 1] (γ 0) = _
  unfold fn175
  refine zLV (ρ 0) rfl (zLV (ρ 1) rfl (zLE (show fn171 [ρ 0] (γ 0) = (0, 0, γ 1) from l0.symm) (zLV (γ 1) rfl (zIP (show (0 : Nat) = 0 by decide) (zIN w_0 (zLE m1 (zIN w_1 ?_)))))))
  rfl
set_option maxRecDepth 100000 in
theorem vn175_3 {S : Nat → zSpc} (hS171 : zIm S 171 sn171) {a : List Int} {g : rHp} : ∀ (ρ : Nat → Int) (γ : Nat → rHp), zO 3 S a g q175_3 ρ γ → zGl (fun _ _ _ => True) (sn175 a g) q175_3 ρ γ := by
  intro ρ γ h
  obtain ⟨ha, hg, hr, hf, hm, hc, hl⟩ := h
  have ha : a = [ρ 0, ρ 1, ρ 2] := ha
  subst ha
  subst hg
  have l0 : sn171 [ρ 0, ρ 2] (γ 0) 1 0 (γ 1) := hS171 _ _ _ _ _ (zAllA hl 0)
  show sn175 [ρ 0, ρ 1, ρ 2] (γ 0) 1 0 (γ 1)
  refine Eq.symm ?_
  show fn175 [ρ 0, ρ 1] (γ 0) = _
  unfold fn175
  refine zLV (ρ 0) rfl (zLV (ρ 1) rfl (zLE (show fn171 [ρ 0] (γ 0) = (1, 0, γ 1) from l0.symm) (zLV (γ 1) rfl (zIN (show ¬ (1 : Nat) = 0 by decide) (zIP (show (1 : Nat) = 1 by decide) ?_)))))
  rfl
set_option maxRecDepth 100000 in
theorem vn175_4 {S : Nat → zSpc} (hS171 : zIm S 171 sn171) {a : List Int} {g : rHp} : ∀ (ρ : Nat → Int) (γ : Nat → rHp), zO 3 S a g q175_4 ρ γ → zGl (fun _ _ _ => True) (sn175 a g) q175_4 ρ γ := by
  intro ρ γ h
  obtain ⟨ha, hg, hr, hf, hm, hc, hl⟩ := h
  have ha : a = [ρ 0, ρ 1, ρ 2] := ha
  subst ha
  subst hg
  have l0 : sn171 [ρ 0, ρ 2] (γ 0) 5 0 (γ 1) := hS171 _ _ _ _ _ (zAllA hl 0)
  show sn175 [ρ 0, ρ 1, ρ 2] (γ 0) 5 0 (γ 1)
  refine Eq.symm ?_
  show fn175 [ρ 0, ρ 1] (γ 0) = _
  unfold fn175
  refine zLV (ρ 0) rfl (zLV (ρ 1) rfl (zLE (show fn171 [ρ 0] (γ 0) = (5, 0, γ 1) from l0.symm) (zLV (γ 1) rfl (zIN (show ¬ (5 : Nat) = 0 by decide) (zIN (show ¬ (5 : Nat) = 1 by decide) ?_)))))
  rfl
set_option maxRecDepth 100000 in
theorem yn175 {S : Nat → zSpc} (hS171 : zIm S 171 sn171) : ∀ x g o v gz, zSem uW uT w175_.2.2.2.1 w175_.2.2.1.1.length S q175 (fun i => q175a.getD i []) (zNA a175_) x g o v gz → sn175 x g o v gz := by
  intro a g o v gz h
  exact zSem_all (l0 := q175) (las := q175a) (S := S) (J := (fun _ _ _ => True)) (P := sn175 a g) (fun _ => (show zAll _ [q175_0, q175_1, q175_2, q175_3, q175_4] from (zAll_c (vn175_0 hS171) (zAll_c (vn175_1 hS171) (zAll_c (vn175_2 hS171) (zAll_c (vn175_3 hS171) (zAll_c (vn175_4 hS171) zAll_n))))))) (fun _ => (show zAllI _ 0 [] from trivial)) h
set_option maxRecDepth 100000 in
theorem vn176_0 {S : Nat → zSpc} (hS100 : zIm S 100 sn100) (hS173 : zIm S 173 sn173) {a : List Int} {g : rHp} : ∀ (ρ : Nat → Int) (γ : Nat → rHp), zO 2 S a g q176_0 ρ γ → zGl (fun _ _ _ => True) (sn176 a g) q176_0 ρ γ := by
  intro ρ γ h
  obtain ⟨ha, hg, hr, hf, hm, hc, hl⟩ := h
  have ha : a = [ρ 0, ρ 1] := ha
  subst ha
  subst hg
  have r0 : ((-2147483648) : Int) ≤ ρ 0 ∧ ρ 0 ≤ (-1) := zRnA hr 0
  have w_0 : ρ 0 < 0 := by omega
  show sn176 [ρ 0, ρ 1] (γ 0) 1 0 (γ 0)
  refine Eq.symm ?_
  show fn176 [ρ 0, ρ 1] (γ 0) = _
  unfold fn176
  refine zLV (ρ 0) rfl (zLV (ρ 1) rfl (zIP w_0 ?_))
  rfl
set_option maxRecDepth 100000 in
theorem vn176_1 {S : Nat → zSpc} (hS100 : zIm S 100 sn100) (hS173 : zIm S 173 sn173) {a : List Int} {g : rHp} : ∀ (ρ : Nat → Int) (γ : Nat → rHp), zO 2 S a g q176_1 ρ γ → zGl (fun _ _ _ => True) (sn176 a g) q176_1 ρ γ := by
  intro ρ γ h
  obtain ⟨ha, hg, hr, hf, hm, hc, hl⟩ := h
  have ha : a = [ρ 0, ρ 1] := ha
  subst ha
  subst hg
  have r0 : (0 : Int) ≤ ρ 0 ∧ ρ 0 ≤ 2147483647 := zRnA hr 0
  have r1 : ((-2147483648) : Int) ≤ ρ 1 ∧ ρ 1 ≤ (-1) := zRnA hr 1
  have r3 : (0 : Int) ≤ ρ 3 ∧ ρ 3 ≤ 100 := zRnA hr 3
  have f0 : (0 : Int) ≤ ρ 3 + -ρ 0 + (-1) := zAllA hf 0
  obtain ⟨w_0, w_1, w_2, w_3⟩ : (¬ (ρ 0 < 0)) ∧ (0 ≤ -ρ 3 + 100) ∧ (ρ 0 < ρ 3) ∧ (ρ 1 < 0) := ⟨by omega, by omega, by omega, by omega⟩
  have m0 : γ 0 0 0 5 = ρ 2 := zAllA hm 0
  have m1 : γ 0 8 (ρ 2) 1 = ρ 3 := zAllA hm 1
  have l0 : sn100 [ρ 3, 100] (γ 0) 0 (ρ 3) (γ 1) := hS100 _ _ _ _ _ (zAllA hl 0)
  show sn176 [ρ 0, ρ 1] (γ 0) 1 0 (γ 1)
  refine Eq.symm ?_
  show fn176 [ρ 0, ρ 1] (γ 0) = _
  unfold fn176
  refine zLV (ρ 0) rfl (zLV (ρ 1) rfl (zIN w_0 (zLE m0 (zLE m1 (zLE (show fn100 [ρ 3, 100] (γ 0) = (0, ρ 3, γ 1) from l0.symm) (zLV (γ 1) rfl (zIP w_1 ?_)))))))
  refine zIP w_2 (zIP w_3 ?_)
  rfl
set_option maxRecDepth 100000 in
theorem vn176_2 {S : Nat → zSpc} (hS100 : zIm S 100 sn100) (hS173 : zIm S 173 sn173) {a : List Int} {g : rHp} : ∀ (ρ : Nat → Int) (γ : Nat → rHp), zO 2 S a g q176_2 ρ γ → zGl (fun _ _ _ => True) (sn176 a g) q176_2 ρ γ := by
  intro ρ γ h
  obtain ⟨ha, hg, hr, hf, hm, hc, hl⟩ := h
  have ha : a = [ρ 0, ρ 1] := ha
  subst ha
  subst hg
  have r0 : (0 : Int) ≤ ρ 0 ∧ ρ 0 ≤ 2147483647 := zRnA hr 0
  have r1 : (8 : Int) ≤ ρ 1 ∧ ρ 1 ≤ 2147483647 := zRnA hr 1
  have r3 : (0 : Int) ≤ ρ 3 ∧ ρ 3 ≤ 100 := zRnA hr 3
  have f0 : (0 : Int) ≤ ρ 3 + -ρ 0 + (-1) := zAllA hf 0
  obtain ⟨w_0, w_1, w_2, w_3, w_4⟩ : (¬ (ρ 0 < 0)) ∧ (0 ≤ -ρ 3 + 100) ∧ (ρ 0 < ρ 3) ∧ (¬ (ρ 1 < 0)) ∧ (ρ 1 ≥ 8) := ⟨by omega, by omega, by omega, by omega, by omega⟩
  have m0 : γ 0 0 0 5 = ρ 2 := zAllA hm 0
  have m1 : γ 0 8 (ρ 2) 1 = ρ 3 := zAllA hm 1
  have l0 : sn100 [ρ 3, 100] (γ 0) 0 (ρ 3) (γ 1) := hS100 _ _ _ _ _ (zAllA hl 0)
  show sn176 [ρ 0, ρ 1] (γ 0) 1 0 (γ 1)
  refine Eq.symm ?_
  show fn176 [ρ 0, ρ 1] (γ 0) = _
  unfold fn176
  refine zLV (ρ 0) rfl (zLV (ρ 1) rfl (zIN w_0 (zLE m0 (zLE m1 (zLE (show fn100 [ρ 3, 100] (γ 0) = (0, ρ 3, γ 1) from l0.symm) (zLV (γ 1) rfl (zIP w_1 ?_)))))))
  refine zIP w_2 (zIN w_3 (zIP w_4 ?_))
  rfl
set_option maxRecDepth 100000 in
theorem vn176_3 {S : Nat → zSpc} (hS100 : zIm S 100 sn100) (hS173 : zIm S 173 sn173) {a : List Int} {g : rHp} : ∀ (ρ : Nat → Int) (γ : Nat → rHp), zO 2 S a g q176_3 ρ γ → zGl (fun _ _ _ => True) (sn176 a g) q176_3 ρ γ := by
  intro ρ γ h
  obtain ⟨ha, hg, hr, hf, hm, hc, hl⟩ := h
  have ha : a = [ρ 0, ρ 1] := ha
  subst ha
  subst hg
  have r0 : (0 : Int) ≤ ρ 0 ∧ ρ 0 ≤ 2147483647 := zRnA hr 0
  have r1 : (0 : Int) ≤ ρ 1 ∧ ρ 1 ≤ 7 := zRnA hr 1
  have r3 : (0 : Int) ≤ ρ 3 ∧ ρ 3 ≤ 100 := zRnA hr 3
  have r6 : (1 : Int) ≤ ρ 6 ∧ ρ 6 ≤ 1 := zRnA hr 6
  have f0 : (0 : Int) ≤ ρ 3 + -ρ 0 + (-1) := zAllA hf 0
  obtain ⟨w_0, w_1, w_2, w_3, w_4, w_5⟩ : (¬ (ρ 0 < 0)) ∧ (0 ≤ -ρ 3 + 100) ∧ (ρ 0 < ρ 3) ∧ (¬ (ρ 1 < 0)) ∧ (¬ (ρ 1 ≥ 8)) ∧ (ρ 6 ≠ 0) := ⟨by omega, by omega, by omega, by omega, by omega, by omega⟩
  have m0 : γ 0 0 0 5 = ρ 2 := zAllA hm 0
  have m1 : γ 0 8 (ρ 2) 1 = ρ 3 := zAllA hm 1
  have m2 : γ 0 8 (ρ 2) 2 = ρ 4 := zAllA hm 2
  have m3 : γ 0 41 (ρ 2) (ρ 1 + 8 * ρ 0) = ρ 7 := zAllA hm 3
  have l0 : sn100 [ρ 3, 100] (γ 0) 0 (ρ 3) (γ 1) := hS100 _ _ _ _ _ (zAllA hl 0)
  have l1 : zOpP (.ishr) (γ 0) (γ 1) [ρ 4, ρ 1] (ρ 5) := zAllA hl 1
  have l2 : zOpP (.iand) (γ 0) (γ 1) [ρ 5, 1] (ρ 6) := zAllA hl 2
  have l3 : sn173 [ρ 7] (γ 1) 0 (ρ 8) (γ 2) := hS173 _ _ _ _ _ (zAllA hl 3)
  show sn176 [ρ 0, ρ 1] (γ 0) 0 (ρ 8) (γ 2)
  refine Eq.symm ?_
  show fn176 [ρ 0, ρ 1] (γ 0) = _
  unfold fn176
  refine zLV (ρ 0) rfl (zLV (ρ 1) rfl (zIN w_0 (zLE m0 (zLE m1 (zLE (show fn100 [ρ 3, 100] (γ 0) = (0, ρ 3, γ 1) from l0.symm) (zLV (γ 1) rfl (zIP w_1 ?_)))))))
  refine zIP w_2 (zIN w_3 (zIN w_4 (zLE m2 (zLE (zF2_ok l1) (zLE (zF2_ok l2) (zIP w_5 (zLE m3 ?_)))))))
  refine zLE (show fn173 [ρ 7] (γ 1) = (0, ρ 8, γ 2) from l3.symm) (zLV (γ 2) rfl (zLV (ρ 8) rfl ?_))
  rfl
set_option maxRecDepth 100000 in
theorem vn176_4 {S : Nat → zSpc} (hS100 : zIm S 100 sn100) (hS173 : zIm S 173 sn173) {a : List Int} {g : rHp} : ∀ (ρ : Nat → Int) (γ : Nat → rHp), zO 2 S a g q176_4 ρ γ → zGl (fun _ _ _ => True) (sn176 a g) q176_4 ρ γ := by
  intro ρ γ h
  obtain ⟨ha, hg, hr, hf, hm, hc, hl⟩ := h
  have ha : a = [ρ 0, ρ 1] := ha
  subst ha
  subst hg
  have r0 : (0 : Int) ≤ ρ 0 ∧ ρ 0 ≤ 2147483647 := zRnA hr 0
  have r1 : (0 : Int) ≤ ρ 1 ∧ ρ 1 ≤ 7 := zRnA hr 1
  have r3 : (0 : Int) ≤ ρ 3 ∧ ρ 3 ≤ 100 := zRnA hr 3
  have r6 : (0 : Int) ≤ ρ 6 ∧ ρ 6 ≤ 0 := zRnA hr 6
  have f0 : (0 : Int) ≤ ρ 3 + -ρ 0 + (-1) := zAllA hf 0
  obtain ⟨w_0, w_1, w_2, w_3, w_4, w_5⟩ : (¬ (ρ 0 < 0)) ∧ (0 ≤ -ρ 3 + 100) ∧ (ρ 0 < ρ 3) ∧ (¬ (ρ 1 < 0)) ∧ (¬ (ρ 1 ≥ 8)) ∧ (¬ (ρ 6 ≠ 0)) := ⟨by omega, by omega, by omega, by omega, by omega, by omega⟩
  have m0 : γ 0 0 0 5 = ρ 2 := zAllA hm 0
  have m1 : γ 0 8 (ρ 2) 1 = ρ 3 := zAllA hm 1
  have m2 : γ 0 8 (ρ 2) 2 = ρ 4 := zAllA hm 2
  have l0 : sn100 [ρ 3, 100] (γ 0) 0 (ρ 3) (γ 1) := hS100 _ _ _ _ _ (zAllA hl 0)
  have l1 : zOpP (.ishr) (γ 0) (γ 1) [ρ 4, ρ 1] (ρ 5) := zAllA hl 1
  have l2 : zOpP (.iand) (γ 0) (γ 1) [ρ 5, 1] (ρ 6) := zAllA hl 2
  show sn176 [ρ 0, ρ 1] (γ 0) 1 0 (γ 1)
  refine Eq.symm ?_
  show fn176 [ρ 0, ρ 1] (γ 0) = _
  unfold fn176
  refine zLV (ρ 0) rfl (zLV (ρ 1) rfl (zIN w_0 (zLE m0 (zLE m1 (zLE (show fn100 [ρ 3, 100] (γ 0) = (0, ρ 3, γ 1) from l0.symm) (zLV (γ 1) rfl (zIP w_1 ?_)))))))
  refine zIP w_2 (zIN w_3 (zIN w_4 (zLE m2 (zLE (zF2_ok l1) (zLE (zF2_ok l2) (zIN w_5 ?_))))))
  rfl
set_option maxRecDepth 100000 in
theorem vn176_5 {S : Nat → zSpc} (hS100 : zIm S 100 sn100) (hS173 : zIm S 173 sn173) {a : List Int} {g : rHp} : ∀ (ρ : Nat → Int) (γ : Nat → rHp), zO 2 S a g q176_5 ρ γ → zGl (fun _ _ _ => True) (sn176 a g) q176_5 ρ γ := by
  intro ρ γ h
  obtain ⟨ha, hg, hr, hf, hm, hc, hl⟩ := h
  have ha : a = [ρ 0, ρ 1] := ha
  subst ha
  subst hg
  have r0 : (0 : Int) ≤ ρ 0 ∧ ρ 0 ≤ 2147483647 := zRnA hr 0
  have r3 : (0 : Int) ≤ ρ 3 ∧ ρ 3 ≤ 100 := zRnA hr 3
  have f0 : (0 : Int) ≤ -ρ 3 + ρ 0 := zAllA hf 0
  obtain ⟨w_0, w_1, w_2⟩ : (¬ (ρ 0 < 0)) ∧ (0 ≤ -ρ 3 + 100) ∧ (¬ (ρ 0 < ρ 3)) := ⟨by omega, by omega, by omega⟩
  have m0 : γ 0 0 0 5 = ρ 2 := zAllA hm 0
  have m1 : γ 0 8 (ρ 2) 1 = ρ 3 := zAllA hm 1
  have l0 : sn100 [ρ 3, 100] (γ 0) 0 (ρ 3) (γ 1) := hS100 _ _ _ _ _ (zAllA hl 0)
  show sn176 [ρ 0, ρ 1] (γ 0) 1 0 (γ 1)
  refine Eq.symm ?_
  show fn176 [ρ 0, ρ 1] (γ 0) = _
  unfold fn176
  refine zLV (ρ 0) rfl (zLV (ρ 1) rfl (zIN w_0 (zLE m0 (zLE m1 (zLE (show fn100 [ρ 3, 100] (γ 0) = (0, ρ 3, γ 1) from l0.symm) (zLV (γ 1) rfl (zIP w_1 ?_)))))))
  refine zIN w_2 ?_
  rfl
set_option maxRecDepth 100000 in
theorem vn176_6 {S : Nat → zSpc} (hS100 : zIm S 100 sn100) (hS173 : zIm S 173 sn173) {a : List Int} {g : rHp} : ∀ (ρ : Nat → Int) (γ : Nat → rHp), zO 2 S a g q176_6 ρ γ → zGl (fun _ _ _ => True) (sn176 a g) q176_6 ρ γ := by
  intro ρ γ h
  obtain ⟨ha, hg, hr, hf, hm, hc, hl⟩ := h
  have ha : a = [ρ 0, ρ 1] := ha
  subst ha
  subst hg
  have r0 : (0 : Int) ≤ ρ 0 ∧ ρ 0 ≤ 99 := zRnA hr 0
  have r1 : ((-2147483648) : Int) ≤ ρ 1 ∧ ρ 1 ≤ (-1) := zRnA hr 1
  have r3 : (101 : Int) ≤ ρ 3 ∧ ρ 3 ≤ 50001 := zRnA hr 3
  obtain ⟨w_0, w_1, w_2, w_3⟩ : (¬ (ρ 0 < 0)) ∧ (¬ (0 ≤ -ρ 3 + 100)) ∧ (ρ 0 < 100) ∧ (ρ 1 < 0) := ⟨by omega, by omega, by omega, by omega⟩
  have m0 : γ 0 0 0 5 = ρ 2 := zAllA hm 0
  have m1 : γ 0 8 (ρ 2) 1 = ρ 3 := zAllA hm 1
  have l0 : sn100 [ρ 3, 100] (γ 0) 0 100 (γ 1) := hS100 _ _ _ _ _ (zAllA hl 0)
  show sn176 [ρ 0, ρ 1] (γ 0) 1 0 (γ 1)
  refine Eq.symm ?_
  show fn176 [ρ 0, ρ 1] (γ 0) = _
  unfold fn176
  refine zLV (ρ 0) rfl (zLV (ρ 1) rfl (zIN w_0 (zLE m0 (zLE m1 (zLE (show fn100 [ρ 3, 100] (γ 0) = (0, 100, γ 1) from l0.symm) (zLV (γ 1) rfl (zIN w_1 ?_)))))))
  refine zIP w_2 (zIP w_3 ?_)
  rfl
set_option maxRecDepth 100000 in
theorem vn176_7 {S : Nat → zSpc} (hS100 : zIm S 100 sn100) (hS173 : zIm S 173 sn173) {a : List Int} {g : rHp} : ∀ (ρ : Nat → Int) (γ : Nat → rHp), zO 2 S a g q176_7 ρ γ → zGl (fun _ _ _ => True) (sn176 a g) q176_7 ρ γ := by
  intro ρ γ h
  obtain ⟨ha, hg, hr, hf, hm, hc, hl⟩ := h
  have ha : a = [ρ 0, ρ 1] := ha
  subst ha
  subst hg
  have r0 : (0 : Int) ≤ ρ 0 ∧ ρ 0 ≤ 99 := zRnA hr 0
  have r1 : (8 : Int) ≤ ρ 1 ∧ ρ 1 ≤ 2147483647 := zRnA hr 1
  have r3 : (101 : Int) ≤ ρ 3 ∧ ρ 3 ≤ 50001 := zRnA hr 3
  obtain ⟨w_0, w_1, w_2, w_3, w_4⟩ : (¬ (ρ 0 < 0)) ∧ (¬ (0 ≤ -ρ 3 + 100)) ∧ (ρ 0 < 100) ∧ (¬ (ρ 1 < 0)) ∧ (ρ 1 ≥ 8) := ⟨by omega, by omega, by omega, by omega, by omega⟩
  have m0 : γ 0 0 0 5 = ρ 2 := zAllA hm 0
  have m1 : γ 0 8 (ρ 2) 1 = ρ 3 := zAllA hm 1
  have l0 : sn100 [ρ 3, 100] (γ 0) 0 100 (γ 1) := hS100 _ _ _ _ _ (zAllA hl 0)
  show sn176 [ρ 0, ρ 1] (γ 0) 1 0 (γ 1)
  refine Eq.symm ?_
  show fn176 [ρ 0, ρ 1] (γ 0) = _
  unfold fn176
  refine zLV (ρ 0) rfl (zLV (ρ 1) rfl (zIN w_0 (zLE m0 (zLE m1 (zLE (show fn100 [ρ 3, 100] (γ 0) = (0, 100, γ 1) from l0.symm) (zLV (γ 1) rfl (zIN w_1 ?_)))))))
  refine zIP w_2 (zIN w_3 (zIP w_4 ?_))
  rfl
set_option maxRecDepth 100000 in
theorem vn176_8 {S : Nat → zSpc} (hS100 : zIm S 100 sn100) (hS173 : zIm S 173 sn173) {a : List Int} {g : rHp} : ∀ (ρ : Nat → Int) (γ : Nat → rHp), zO 2 S a g q176_8 ρ γ → zGl (fun _ _ _ => True) (sn176 a g) q176_8 ρ γ := by
  intro ρ γ h
  obtain ⟨ha, hg, hr, hf, hm, hc, hl⟩ := h
  have ha : a = [ρ 0, ρ 1] := ha
  subst ha
  subst hg
  have r0 : (0 : Int) ≤ ρ 0 ∧ ρ 0 ≤ 99 := zRnA hr 0
  have r1 : (0 : Int) ≤ ρ 1 ∧ ρ 1 ≤ 7 := zRnA hr 1
  have r3 : (101 : Int) ≤ ρ 3 ∧ ρ 3 ≤ 50001 := zRnA hr 3
  have r6 : (1 : Int) ≤ ρ 6 ∧ ρ 6 ≤ 1 := zRnA hr 6
  obtain ⟨w_0, w_1, w_2, w_3, w_4, w_5⟩ : (¬ (ρ 0 < 0)) ∧ (¬ (0 ≤ -ρ 3 + 100)) ∧ (ρ 0 < 100) ∧ (¬ (ρ 1 < 0)) ∧ (¬ (ρ 1 ≥ 8)) ∧ (ρ 6 ≠ 0) := ⟨by omega, by omega, by omega, by omega, by omega, by omega⟩
  have m0 : γ 0 0 0 5 = ρ 2 := zAllA hm 0
  have m1 : γ 0 8 (ρ 2) 1 = ρ 3 := zAllA hm 1
  have m2 : γ 0 8 (ρ 2) 2 = ρ 4 := zAllA hm 2
  have m3 : γ 0 41 (ρ 2) (ρ 1 + 8 * ρ 0) = ρ 7 := zAllA hm 3
  have l0 : sn100 [ρ 3, 100] (γ 0) 0 100 (γ 1) := hS100 _ _ _ _ _ (zAllA hl 0)
  have l1 : zOpP (.ishr) (γ 0) (γ 1) [ρ 4, ρ 1] (ρ 5) := zAllA hl 1
  have l2 : zOpP (.iand) (γ 0) (γ 1) [ρ 5, 1] (ρ 6) := zAllA hl 2
  have l3 : sn173 [ρ 7] (γ 1) 0 (ρ 8) (γ 2) := hS173 _ _ _ _ _ (zAllA hl 3)
  show sn176 [ρ 0, ρ 1] (γ 0) 0 (ρ 8) (γ 2)
  refine Eq.symm ?_
  show fn176 [ρ 0, ρ 1] (γ 0) = _
  unfold fn176
  refine zLV (ρ 0) rfl (zLV (ρ 1) rfl (zIN w_0 (zLE m0 (zLE m1 (zLE (show fn100 [ρ 3, 100] (γ 0) = (0, 100, γ 1) from l0.symm) (zLV (γ 1) rfl (zIN w_1 ?_)))))))
  refine zIP w_2 (zIN w_3 (zIN w_4 (zLE m2 (zLE (zF2_ok l1) (zLE (zF2_ok l2) (zIP w_5 (zLE m3 ?_)))))))
  refine zLE (show fn173 [ρ 7] (γ 1) = (0, ρ 8, γ 2) from l3.symm) (zLV (γ 2) rfl (zLV (ρ 8) rfl ?_))
  rfl
set_option maxRecDepth 100000 in
theorem vn176_9 {S : Nat → zSpc} (hS100 : zIm S 100 sn100) (hS173 : zIm S 173 sn173) {a : List Int} {g : rHp} : ∀ (ρ : Nat → Int) (γ : Nat → rHp), zO 2 S a g q176_9 ρ γ → zGl (fun _ _ _ => True) (sn176 a g) q176_9 ρ γ := by
  intro ρ γ h
  obtain ⟨ha, hg, hr, hf, hm, hc, hl⟩ := h
  have ha : a = [ρ 0, ρ 1] := ha
  subst ha
  subst hg
  have r0 : (0 : Int) ≤ ρ 0 ∧ ρ 0 ≤ 99 := zRnA hr 0
  have r1 : (0 : Int) ≤ ρ 1 ∧ ρ 1 ≤ 7 := zRnA hr 1
  have r3 : (101 : Int) ≤ ρ 3 ∧ ρ 3 ≤ 50001 := zRnA hr 3
  have r6 : (0 : Int) ≤ ρ 6 ∧ ρ 6 ≤ 0 := zRnA hr 6
  obtain ⟨w_0, w_1, w_2, w_3, w_4, w_5⟩ : (¬ (ρ 0 < 0)) ∧ (¬ (0 ≤ -ρ 3 + 100)) ∧ (ρ 0 < 100) ∧ (¬ (ρ 1 < 0)) ∧ (¬ (ρ 1 ≥ 8)) ∧ (¬ (ρ 6 ≠ 0)) := ⟨by omega, by omega, by omega, by omega, by omega, by omega⟩
  have m0 : γ 0 0 0 5 = ρ 2 := zAllA hm 0
  have m1 : γ 0 8 (ρ 2) 1 = ρ 3 := zAllA hm 1
  have m2 : γ 0 8 (ρ 2) 2 = ρ 4 := zAllA hm 2
  have l0 : sn100 [ρ 3, 100] (γ 0) 0 100 (γ 1) := hS100 _ _ _ _ _ (zAllA hl 0)
  have l1 : zOpP (.ishr) (γ 0) (γ 1) [ρ 4, ρ 1] (ρ 5) := zAllA hl 1
  have l2 : zOpP (.iand) (γ 0) (γ 1) [ρ 5, 1] (ρ 6) := zAllA hl 2
  show sn176 [ρ 0, ρ 1] (γ 0) 1 0 (γ 1)
  refine Eq.symm ?_
  show fn176 [ρ 0, ρ 1] (γ 0) = _
  unfold fn176
  refine zLV (ρ 0) rfl (zLV (ρ 1) rfl (zIN w_0 (zLE m0 (zLE m1 (zLE (show fn100 [ρ 3, 100] (γ 0) = (0, 100, γ 1) from l0.symm) (zLV (γ 1) rfl (zIN w_1 ?_)))))))
  refine zIP w_2 (zIN w_3 (zIN w_4 (zLE m2 (zLE (zF2_ok l1) (zLE (zF2_ok l2) (zIN w_5 ?_))))))
  rfl
set_option maxRecDepth 100000 in
theorem vn176_10 {S : Nat → zSpc} (hS100 : zIm S 100 sn100) (hS173 : zIm S 173 sn173) {a : List Int} {g : rHp} : ∀ (ρ : Nat → Int) (γ : Nat → rHp), zO 2 S a g q176_10 ρ γ → zGl (fun _ _ _ => True) (sn176 a g) q176_10 ρ γ := by
  intro ρ γ h
  obtain ⟨ha, hg, hr, hf, hm, hc, hl⟩ := h
  have ha : a = [ρ 0, ρ 1] := ha
  subst ha
  subst hg
  have r0 : (100 : Int) ≤ ρ 0 ∧ ρ 0 ≤ 2147483647 := zRnA hr 0
  have r3 : (101 : Int) ≤ ρ 3 ∧ ρ 3 ≤ 50001 := zRnA hr 3
  obtain ⟨w_0, w_1, w_2⟩ : (¬ (ρ 0 < 0)) ∧ (¬ (0 ≤ -ρ 3 + 100)) ∧ (¬ (ρ 0 < 100)) := ⟨by omega, by omega, by omega⟩
  have m0 : γ 0 0 0 5 = ρ 2 := zAllA hm 0
  have m1 : γ 0 8 (ρ 2) 1 = ρ 3 := zAllA hm 1
  have l0 : sn100 [ρ 3, 100] (γ 0) 0 100 (γ 1) := hS100 _ _ _ _ _ (zAllA hl 0)
  show sn176 [ρ 0, ρ 1] (γ 0) 1 0 (γ 1)
  refine Eq.symm ?_
  show fn176 [ρ 0, ρ 1] (γ 0) = _
  unfold fn176
  refine zLV (ρ 0) rfl (zLV (ρ 1) rfl (zIN w_0 (zLE m0 (zLE m1 (zLE (show fn100 [ρ 3, 100] (γ 0) = (0, 100, γ 1) from l0.symm) (zLV (γ 1) rfl (zIN w_1 ?_)))))))
  refine zIN w_2 ?_
  rfl
set_option maxRecDepth 100000 in
theorem yn176 {S : Nat → zSpc} (hS100 : zIm S 100 sn100) (hS173 : zIm S 173 sn173) : ∀ x g o v gz, zSem uW uT w176_.2.2.2.1 w176_.2.2.1.1.length S q176 (fun i => q176a.getD i []) (zNA a176_) x g o v gz → sn176 x g o v gz := by
  intro a g o v gz h
  exact zSem_all (l0 := q176) (las := q176a) (S := S) (J := (fun _ _ _ => True)) (P := sn176 a g) (fun _ => (show zAll _ [q176_0, q176_1, q176_2, q176_3, q176_4, q176_5, q176_6, q176_7, q176_8, q176_9, q176_10] from (zAll_c (vn176_0 hS100 hS173) (zAll_c (vn176_1 hS100 hS173) (zAll_c (vn176_2 hS100 hS173) (zAll_c (vn176_3 hS100 hS173) (zAll_c (vn176_4 hS100 hS173) (zAll_c (vn176_5 hS100 hS173) (zAll_c (vn176_6 hS100 hS173) (zAll_c (vn176_7 hS100 hS173) (zAll_c (vn176_8 hS100 hS173) (zAll_c (vn176_9 hS100 hS173) (zAll_c (vn176_10 hS100 hS173) zAll_n))))))))))))) (fun _ => (show zAllI _ 0 [] from trivial)) h
set_option maxRecDepth 100000 in
theorem vn177_0 {S : Nat → zSpc} (hS170 : zIm S 170 sn170) {a : List Int} {g : rHp} : ∀ (ρ : Nat → Int) (γ : Nat → rHp), zO 2 S a g q177_0 ρ γ → zGl (fun _ _ _ => True) (sn177 a g) q177_0 ρ γ := by
  intro ρ γ h
  obtain ⟨ha, hg, hr, hf, hm, hc, hl⟩ := h
  have ha : a = [ρ 0, ρ 1] := ha
  subst ha
  subst hg
  have r0 : ((-2147483648) : Int) ≤ ρ 0 ∧ ρ 0 ≤ (-1) := zRnA hr 0
  have w_0 : ρ 0 < 0 := by omega
  have m0 : γ 0 1 0 7 = ρ 1 := zAllA hm 0
  have l0 : sn170 [] (γ 0) 0 0 (γ 1) := hS170 _ _ _ _ _ (zAllA hl 0)
  show sn177 [ρ 0, ρ 1] (γ 0) 1 0 (γ 1)
  refine Eq.symm ?_
  show fn177 [ρ 0] (γ 0) = _
  unfold fn177
  refine zLV (ρ 0) rfl (zLE m0 (zLE (show fn170 [] (γ 0) = (0, 0, γ 1) from l0.symm) (zLV (γ 1) rfl (zIP (show (0 : Nat) = 0 by decide) (zIP w_0 ?_)))))
  rfl
set_option maxRecDepth 100000 in
theorem vn177_1 {S : Nat → zSpc} (hS170 : zIm S 170 sn170) {a : List Int} {g : rHp} : ∀ (ρ : Nat → Int) (γ : Nat → rHp), zO 2 S a g q177_1 ρ γ → zGl (fun _ _ _ => True) (sn177 a g) q177_1 ρ γ := by
  intro ρ γ h
  obtain ⟨ha, hg, hr, hf, hm, hc, hl⟩ := h
  have ha : a = [ρ 0, ρ 1] := ha
  subst ha
  subst hg
  have r0 : (0 : Int) ≤ ρ 0 ∧ ρ 0 ≤ 2147483647 := zRnA hr 0
  have f0 : (0 : Int) ≤ ρ 1 + -ρ 0 + (-1) := zAllA hf 0
  obtain ⟨w_0, w_1⟩ : (¬ (ρ 0 < 0)) ∧ (ρ 0 < ρ 1) := ⟨by omega, by omega⟩
  have m0 : γ 0 1 0 7 = ρ 1 := zAllA hm 0
  have m1 : γ 0 18 0 (ρ 0) = ρ 2 := zAllA hm 1
  have l0 : sn170 [] (γ 0) 0 0 (γ 1) := hS170 _ _ _ _ _ (zAllA hl 0)
  show sn177 [ρ 0, ρ 1] (γ 0) 0 (ρ 2) (γ 1)
  refine Eq.symm ?_
  show fn177 [ρ 0] (γ 0) = _
  unfold fn177
  refine zLV (ρ 0) rfl (zLE m0 (zLE (show fn170 [] (γ 0) = (0, 0, γ 1) from l0.symm) (zLV (γ 1) rfl (zIP (show (0 : Nat) = 0 by decide) (zIN w_0 (zIP w_1 (zLE m1 ?_)))))))
  rfl
set_option maxRecDepth 100000 in
theorem vn177_2 {S : Nat → zSpc} (hS170 : zIm S 170 sn170) {a : List Int} {g : rHp} : ∀ (ρ : Nat → Int) (γ : Nat → rHp), zO 2 S a g q177_2 ρ γ → zGl (fun _ _ _ => True) (sn177 a g) q177_2 ρ γ := by
  intro ρ γ h
  obtain ⟨ha, hg, hr, hf, hm, hc, hl⟩ := h
  have ha : a = [ρ 0, ρ 1] := ha
  subst ha
  subst hg
  have r0 : (0 : Int) ≤ ρ 0 ∧ ρ 0 ≤ 2147483647 := zRnA hr 0
  have f0 : (0 : Int) ≤ -ρ 1 + ρ 0 := zAllA hf 0
  obtain ⟨w_0, w_1⟩ : (¬ (ρ 0 < 0)) ∧ (¬ (ρ 0 < ρ 1)) := ⟨by omega, by omega⟩
  have m0 : γ 0 1 0 7 = ρ 1 := zAllA hm 0
  have l0 : sn170 [] (γ 0) 0 0 (γ 1) := hS170 _ _ _ _ _ (zAllA hl 0)
  show sn177 [ρ 0, ρ 1] (γ 0) 1 0 (γ 1)
  refine Eq.symm ?_
  show fn177 [ρ 0] (γ 0) = _
  unfold fn177
  refine zLV (ρ 0) rfl (zLE m0 (zLE (show fn170 [] (γ 0) = (0, 0, γ 1) from l0.symm) (zLV (γ 1) rfl (zIP (show (0 : Nat) = 0 by decide) (zIN w_0 (zIN w_1 ?_))))))
  rfl
set_option maxRecDepth 100000 in
theorem vn177_3 {S : Nat → zSpc} (hS170 : zIm S 170 sn170) {a : List Int} {g : rHp} : ∀ (ρ : Nat → Int) (γ : Nat → rHp), zO 2 S a g q177_3 ρ γ → zGl (fun _ _ _ => True) (sn177 a g) q177_3 ρ γ := by
  intro ρ γ h
  obtain ⟨ha, hg, hr, hf, hm, hc, hl⟩ := h
  have ha : a = [ρ 0, ρ 1] := ha
  subst ha
  subst hg
  have m0 : γ 0 1 0 7 = ρ 1 := zAllA hm 0
  have l0 : sn170 [] (γ 0) 5 0 (γ 1) := hS170 _ _ _ _ _ (zAllA hl 0)
  show sn177 [ρ 0, ρ 1] (γ 0) 5 0 (γ 1)
  refine Eq.symm ?_
  show fn177 [ρ 0] (γ 0) = _
  unfold fn177
  refine zLV (ρ 0) rfl (zLE m0 (zLE (show fn170 [] (γ 0) = (5, 0, γ 1) from l0.symm) (zLV (γ 1) rfl (zIN (show ¬ (5 : Nat) = 0 by decide) ?_))))
  rfl
set_option maxRecDepth 100000 in
theorem yn177 {S : Nat → zSpc} (hS170 : zIm S 170 sn170) : ∀ x g o v gz, zSem uW uT w177_.2.2.2.1 w177_.2.2.1.1.length S q177 (fun i => q177a.getD i []) (zNA a177_) x g o v gz → sn177 x g o v gz := by
  intro a g o v gz h
  exact zSem_all (l0 := q177) (las := q177a) (S := S) (J := (fun _ _ _ => True)) (P := sn177 a g) (fun _ => (show zAll _ [q177_0, q177_1, q177_2, q177_3] from (zAll_c (vn177_0 hS170) (zAll_c (vn177_1 hS170) (zAll_c (vn177_2 hS170) (zAll_c (vn177_3 hS170) zAll_n)))))) (fun _ => (show zAllI _ 0 [] from trivial)) h
set_option maxRecDepth 100000 in
theorem vn178_0 {S : Nat → zSpc}  {a : List Int} {g : rHp} : ∀ (ρ : Nat → Int) (γ : Nat → rHp), zO 2 S a g q178_0 ρ γ → zGl (fun i vs g1 => jn178 a g i vs g1) (sn178 a g) q178_0 ρ γ := by
  intro ρ γ h
  obtain ⟨ha, hg, hr, hf, hm, hc, hl⟩ := h
  have ha : a = [ρ 0, ρ 1] := ha
  subst ha
  subst hg
  have r0 : ((-2147483648) : Int) ≤ ρ 0 ∧ ρ 0 ≤ (-1) := zRnA hr 0
  have w_0 : ρ 0 < 0 := by omega
  have m0 : γ 0 7 0 1 = ρ 1 := zAllA hm 0
  show sn178 [ρ 0, ρ 1] (γ 0) 1 0 (γ 0)
  have hD : dn178 [ρ 0] (γ 0) = .inr (1, 0, γ 0) := by
    unfold dn178
    refine zLV (ρ 0) rfl (zLE m0 (zIP w_0 ?_))
    rfl
  exact zGoo_end hD
set_option maxRecDepth 100000 in
theorem vn178_1 {S : Nat → zSpc}  {a : List Int} {g : rHp} : ∀ (ρ : Nat → Int) (γ : Nat → rHp), zO 2 S a g q178_1 ρ γ → zGl (fun i vs g1 => jn178 a g i vs g1) (sn178 a g) q178_1 ρ γ := by
  intro ρ γ h
  obtain ⟨ha, hg, hr, hf, hm, hc, hl⟩ := h
  have ha : a = [ρ 0, ρ 1] := ha
  subst ha
  subst hg
  have r0 : (0 : Int) ≤ ρ 0 ∧ ρ 0 ≤ 2147483647 := zRnA hr 0
  have f0 : (0 : Int) ≤ ρ 1 + -ρ 0 + (-1) := zAllA hf 0
  obtain ⟨w_0, w_1⟩ : (¬ (ρ 0 < 0)) ∧ (ρ 0 < ρ 1) := ⟨by omega, by omega⟩
  have m0 : γ 0 7 0 1 = ρ 1 := zAllA hm 0
  show jn178 [ρ 0, ρ 1] (γ 0) 0 [ρ 0, ρ 1, 0, 0] (γ 0)
  have hD : dn178 [ρ 0] (γ 0) = .inl (0, [ρ 0, 0, 0], γ 0) := by
    unfold dn178
    refine zLV (ρ 0) rfl (zLE m0 (zIN w_0 (zIP w_1 ?_)))
    rfl
  exact zGoo_to hD
set_option maxRecDepth 100000 in
theorem vn178_2 {S : Nat → zSpc}  {a : List Int} {g : rHp} : ∀ (ρ : Nat → Int) (γ : Nat → rHp), zO 2 S a g q178_2 ρ γ → zGl (fun i vs g1 => jn178 a g i vs g1) (sn178 a g) q178_2 ρ γ := by
  intro ρ γ h
  obtain ⟨ha, hg, hr, hf, hm, hc, hl⟩ := h
  have ha : a = [ρ 0, ρ 1] := ha
  subst ha
  subst hg
  have r0 : (0 : Int) ≤ ρ 0 ∧ ρ 0 ≤ 2147483647 := zRnA hr 0
  have f0 : (0 : Int) ≤ -ρ 1 + ρ 0 := zAllA hf 0
  obtain ⟨w_0, w_1⟩ : (¬ (ρ 0 < 0)) ∧ (¬ (ρ 0 < ρ 1)) := ⟨by omega, by omega⟩
  have m0 : γ 0 7 0 1 = ρ 1 := zAllA hm 0
  show sn178 [ρ 0, ρ 1] (γ 0) 1 0 (γ 0)
  have hD : dn178 [ρ 0] (γ 0) = .inr (1, 0, γ 0) := by
    unfold dn178
    refine zLV (ρ 0) rfl (zLE m0 (zIN w_0 (zIN w_1 ?_)))
    rfl
  exact zGoo_end hD
set_option maxRecDepth 100000 in
theorem vn178a0_0 {S : Nat → zSpc}  {a : List Int} {g : rHp} : ∀ (ρ : Nat → Int) (γ : Nat → rHp), jn178 a g 0 (zAg (zNA a178_ 0) ρ) (γ 1) → zO 2 S a g q178a0_0 ρ γ → zGl (fun i vs g1 => jn178 a g i vs g1) (sn178 a g) q178a0_0 ρ γ := by
  intro ρ γ hJ h
  obtain ⟨ha, hg, hr, hf, hm, hc, hl⟩ := h
  have ha : a = [ρ 0, ρ 1] := ha
  subst ha
  subst hg
  have hJ : jn178 [ρ 0, ρ 1] (γ 0) 0 [ρ 0, ρ 1, ρ 2, ρ 3] (γ 1) := hJ
  have r2 : (8 : Int) ≤ ρ 2 ∧ ρ 2 ≤ 8 := zRnA hr 2
  have w_0 : ρ 2 ≥ 8 := by omega
  have m0 : γ 0 7 0 1 = ρ 1 := zAllA hm 0
  show sn178 [ρ 0, ρ 1] (γ 0) 0 (ρ 3) (γ 1)
  have hD : en178 (γ 0) (0, [ρ 0, ρ 2, ρ 3], γ 1) = .inr (0, ρ 3, γ 1) := by
    unfold en178
    refine zIP (show (0 : Nat) = 0 by decide) (zLV (γ 1) rfl (zLV (ρ 0) rfl (zLV (ρ 2) rfl (zLV (ρ 3) rfl (zLE m0 (zIP w_0 ?_))))))
    rfl
  exact zGoo_aend hJ hD
set_option maxRecDepth 100000 in
theorem vn178a0_1 {S : Nat → zSpc}  {a : List Int} {g : rHp} : ∀ (ρ : Nat → Int) (γ : Nat → rHp), jn178 a g 0 (zAg (zNA a178_ 0) ρ) (γ 1) → zO 2 S a g q178a0_1 ρ γ → zGl (fun i vs g1 => jn178 a g i vs g1) (sn178 a g) q178a0_1 ρ γ := by
  intro ρ γ hJ h
  obtain ⟨ha, hg, hr, hf, hm, hc, hl⟩ := h
  have ha : a = [ρ 0, ρ 1] := ha
  subst ha
  subst hg
  have hJ : jn178 [ρ 0, ρ 1] (γ 0) 0 [ρ 0, ρ 1, ρ 2, ρ 3] (γ 1) := hJ
  have r2 : (0 : Int) ≤ ρ 2 ∧ ρ 2 ≤ 7 := zRnA hr 2
  have f0 : (0 : Int) ≤ ρ 2 + (-ρ 1 + ρ 0) := zAllA hf 0
  obtain ⟨w_0, w_1⟩ : (¬ (ρ 2 ≥ 8)) ∧ (ρ 2 + ρ 0 ≥ ρ 1) := ⟨by omega, by omega⟩
  have m0 : γ 0 7 0 1 = ρ 1 := zAllA hm 0
  have l0 : zOpP (.lshl) (γ 0) (γ 1) [ρ 3, 8] (ρ 4) := zAllA hl 0
  have l1 : zOpP (.lor) (γ 0) (γ 1) [ρ 4, 0] (ρ 5) := zAllA hl 1
  show jn178 [ρ 0, ρ 1] (γ 0) 0 [ρ 0, ρ 1, ρ 2 + 1, ρ 5] (γ 1)
  have hD : en178 (γ 0) (0, [ρ 0, ρ 2, ρ 3], γ 1) = .inl (0, [ρ 0, ρ 2 + 1, ρ 5], γ 1) := by
    unfold en178
    refine zIP (show (0 : Nat) = 0 by decide) (zLV (γ 1) rfl (zLV (ρ 0) rfl (zLV (ρ 2) rfl (zLV (ρ 3) rfl (zLE m0 (zIN w_0 (zLE (zF2_ok l0) ?_)))))))
    refine zIP w_1 (zLE (zF2_ok l1) ?_)
    rfl
  exact zGoo_ato hJ hD
set_option maxRecDepth 100000 in
theorem vn178a0_2 {S : Nat → zSpc}  {a : List Int} {g : rHp} : ∀ (ρ : Nat → Int) (γ : Nat → rHp), jn178 a g 0 (zAg (zNA a178_ 0) ρ) (γ 1) → zO 2 S a g q178a0_2 ρ γ → zGl (fun i vs g1 => jn178 a g i vs g1) (sn178 a g) q178a0_2 ρ γ := by
  intro ρ γ hJ h
  obtain ⟨ha, hg, hr, hf, hm, hc, hl⟩ := h
  have ha : a = [ρ 0, ρ 1] := ha
  subst ha
  subst hg
  have hJ : jn178 [ρ 0, ρ 1] (γ 0) 0 [ρ 0, ρ 1, ρ 2, ρ 3] (γ 1) := hJ
  have r2 : (0 : Int) ≤ ρ 2 ∧ ρ 2 ≤ 7 := zRnA hr 2
  have f0 : (0 : Int) ≤ -ρ 2 + (ρ 1 + -ρ 0) + (-1) := zAllA hf 0
  obtain ⟨w_0, w_1⟩ : (¬ (ρ 2 ≥ 8)) ∧ (¬ (ρ 2 + ρ 0 ≥ ρ 1)) := ⟨by omega, by omega⟩
  have m0 : γ 0 7 0 1 = ρ 1 := zAllA hm 0
  have m1 : γ 0 39 0 (ρ 2 + ρ 0) = ρ 5 := zAllA hm 1
  have l0 : zOpP (.lshl) (γ 0) (γ 1) [ρ 3, 8] (ρ 4) := zAllA hl 0
  have l1 : zOpP (.lor) (γ 0) (γ 1) [ρ 4, ρ 5] (ρ 6) := zAllA hl 1
  show jn178 [ρ 0, ρ 1] (γ 0) 0 [ρ 0, ρ 1, ρ 2 + 1, ρ 6] (γ 1)
  have hD : en178 (γ 0) (0, [ρ 0, ρ 2, ρ 3], γ 1) = .inl (0, [ρ 0, ρ 2 + 1, ρ 6], γ 1) := by
    unfold en178
    refine zIP (show (0 : Nat) = 0 by decide) (zLV (γ 1) rfl (zLV (ρ 0) rfl (zLV (ρ 2) rfl (zLV (ρ 3) rfl (zLE m0 (zIN w_0 (zLE (zF2_ok l0) ?_)))))))
    refine zIN w_1 (zLE m1 (zLE (zF2_ok l1) ?_))
    rfl
  exact zGoo_ato hJ hD
set_option maxRecDepth 100000 in
theorem yn178 {S : Nat → zSpc}  : ∀ x g o v gz, zSem uW uT w178_.2.2.2.1 w178_.2.2.1.1.length S q178 (fun i => q178a.getD i []) (zNA a178_) x g o v gz → sn178 x g o v gz := by
  intro a g o v gz h
  exact zSem_all (l0 := q178) (las := q178a) (S := S) (J := (fun i vs g1 => jn178 a g i vs g1)) (P := sn178 a g) (fun _ => (show zAll _ [q178_0, q178_1, q178_2] from (zAll_c (vn178_0 ) (zAll_c (vn178_1 ) (zAll_c (vn178_2 ) zAll_n))))) (fun _ => (show zAllI _ 0 [q178a0] from ⟨(show zAll _ [q178a0_0, q178a0_1, q178a0_2] from (zAll_c (vn178a0_0 ) (zAll_c (vn178a0_1 ) (zAll_c (vn178a0_2 ) zAll_n)))), trivial⟩)) h
