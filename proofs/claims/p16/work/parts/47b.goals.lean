/-! ===== the GOALS by both, when told ===== -/
theorem fn42_look {g : rHp} : fn42 [] (rUp g 15 0 35 (pSk (g 59 0) (g 15 0 34) (g 15 0 35))) = fn42 [] g := by
  have key : fn7 [] (rUp g 15 0 35 (pSk (g 59 0) (g 15 0 34) (g 15 0 35))) = fn7 [] g := by
    rw [fn7_eq, fn7_eq, rUp_at, rUp_two, rUp_grp (show (59 : Nat) ≠ 15 by decide), rUp_ne (show ¬ ((15 : Nat) = 15 ∧ (0 : Int) = 0 ∧ (34 : Int) = 35) by decide), pSk_idem]
  have k34 : rUp g 15 0 35 (pSk (g 59 0) (g 15 0 34) (g 15 0 35)) 15 0 34 = g 15 0 34 := rUp_ne (by decide)
  have k44 : rUp g 15 0 35 (pSk (g 59 0) (g 15 0 34) (g 15 0 35)) 15 0 44 = g 15 0 44 := rUp_ne (by decide)
  have k45 : rUp g 15 0 35 (pSk (g 59 0) (g 15 0 34) (g 15 0 35)) 15 0 45 = g 15 0 45 := rUp_ne (by decide)
  have k73 : rUp g 15 0 35 (pSk (g 59 0) (g 15 0 34) (g 15 0 35)) 73 = g 73 := rUp_grp (by decide)
  unfold fn42
  simp only [zLet, key, k34, k44, k45, k73]
/-- the class behind a GOAL that is read -/
noncomputable def qNx (n1 i a : Int) (c3 : rHp) : rHp := if c3 10 (i + 9 * n1 + 1) 4 = 1 then rUp (rUp (rUp c3 9 n1 2 (i + 1)) 10 (i + 9 * n1 + 1) 10 a) 9 n1 3 (a + 1) else rUp c3 9 n1 2 (i + 1)
theorem qNx_fr {n1 i a : Int} {c3 : rHp} : fH 2 [9, 10] [] c3 (qNx n1 i a c3) ∧ qNx n1 i a c3 9 n1 2 = i + 1 ∧ (∀ G h, h ≠ i + 9 * n1 + 1 → G ≠ 9 → qNx n1 i a c3 G h = c3 G h) := by
  unfold qNx
  by_cases h : c3 10 (i + 9 * n1 + 1) 4 = 1
  · rw [if_pos h]
    refine ⟨fH_grp (fH_grp (fH_grp fH_refl (by decide) (by decide)) (by decide) (by decide)) (by decide) (by decide), ?_, fun G k z z9 => ?_⟩
    · rw [rUp_ne (fun y => absurd y.2.2 (by decide)), rUp_grp (by decide), rUp_at]
    · rw [rUp_grp z9]
      funext j
      rw [rUp_ne (fun y => z y.2.1), rUp_grp z9]
  · rw [if_neg h]
    refine ⟨fH_grp fH_refl (by decide) (by decide), rUp_at, fun G k z z9 => ?_⟩
    rw [rUp_grp z9]
/-- the class behind the sign behind a GOAL -/
noncomputable def qSg (h : Int) (g : rHp) : zSt :=
  if 0 ≤ (fn114 [] g).2.1 then
    (if (fn114 [] g).2.1 ≠ 46 then
      (if (fn114 [] g).2.1 = 44 then .inl (0, [], rUp (fn114 [] g).2.2 2 0 6 ((fn114 [] g).2.2 2 0 6 + 1)) else .inr (0, 0, rUp (fn114 [] g).2.2 2 0 4 ((fn114 [] g).2.2 2 0 6)))
    else (if 1 ≤ (fn153 [h] (rUp (fn114 [] g).2.2 2 0 6 ((fn114 [] g).2.2 2 0 6 + 1))).2.1 then
        (if 1 ≤ (fn152 [] (fn153 [h] (rUp (fn114 [] g).2.2 2 0 6 ((fn114 [] g).2.2 2 0 6 + 1))).2.2).2.1 then .inr (0, 1, (fn152 [] (fn153 [h] (rUp (fn114 [] g).2.2 2 0 6 ((fn114 [] g).2.2 2 0 6 + 1))).2.2).2.2) else .inr (0, 0, (fn152 [] (fn153 [h] (rUp (fn114 [] g).2.2 2 0 6 ((fn114 [] g).2.2 2 0 6 + 1))).2.2).2.2))
      else .inr (0, 0, (fn153 [h] (rUp (fn114 [] g).2.2 2 0 6 ((fn114 [] g).2.2 2 0 6 + 1))).2.2)))
  else .inr (0, 0, rUp (fn114 [] g).2.2 2 0 4 ((fn114 [] g).2.2 2 0 6))
theorem en158_go {cS c c3 : rHp} {n1 i : Int} (hn : cS 40 0 (cS 1 0 10) = n1) (hi : c 9 n1 2 = i) (h8 : i < 8) (h : fn157 [] c = (0, 1, c3)) : en158 cS (0, [], c) = qSg (9 * n1) (qNx n1 i (c 9 n1 3) c3) := by
  have f132 : ∀ x (g : rHp), (fn132 x g).2.2 = g := fun x g => rfl
  unfold en158 qSg qNx
  simp only [zLet, ↓reduceIte, hn, hi, f132, h, fn109_eq]
  rw [if_neg (show ¬ i ≥ 8 by omega), if_pos (show (1 : Int) ≤ 1 by decide)]
  by_cases k3 : 3 ≤ c3 10 (i + 9 * n1 + 1) 4
  · rw [if_pos k3, if_neg (show ¬ c3 10 (i + 9 * n1 + 1) 4 = 1 by omega)]
    split <;> rfl
  · rw [if_neg k3]
    by_cases k1 : c3 10 (i + 9 * n1 + 1) 4 = 1
    · rw [if_neg (fun z => z k1), if_pos k1]
    · rw [if_pos k1, if_neg k1]
theorem en158_bad {cS c c3 : rHp} {n1 i : Int} (hn : cS 40 0 (cS 1 0 10) = n1) (hi : c 9 n1 2 = i) (h8 : i < 8) (h : fn157 [] c = (0, 0, c3)) : en158 cS (0, [], c) = .inr (0, 0, c3) := by
  have f132 : ∀ x (g : rHp), (fn132 x g).2.2 = g := fun x g => rfl
  unfold en158
  simp only [zLet, ↓reduceIte, hn, hi, f132, h]
  rw [if_neg (show ¬ i ≥ 8 by omega), if_neg (show ¬ (1 : Int) ≤ 0 by decide)]
theorem en158_full {cS c : rHp} {n1 : Int} (hn : cS 40 0 (cS 1 0 10) = n1) (hi : c 9 n1 2 = 8) : ∃ p, en158 cS (0, [], c) = .inr (0, 0, rUp (fn114 [] c).2.2 2 0 4 p) := by
  refine ⟨(fn114 [] c).2.2 2 0 6, ?_⟩
  unfold en158
  simp only [zLet, ↓reduceIte, hn, hi, fn109_eq]
  rw [if_pos (show (8 : Int) ≥ 8 by decide)]
  split <;> rfl
/-- the reference behind a GOAL that is read -/
theorem en43_go {mS m m3 : rHp} {i n8 : Int} (h44 : mS 15 0 44 = n8) (hi : m 73 0 n8 = i) (h8 : i ≠ 8) (h : fn42 [] (fn7 [] m).2.2 = (0, 1, m3)) : en43 mS (0, [1], m) =
    (if 0 ≤ -(fn7 [] (rUp m3 73 0 n8 (i + 1))).2.2 15 0 35 + mS 15 0 34 + (-1) then (if pB ((fn7 [] (rUp m3 73 0 n8 (i + 1))).2.2 59 0) ((fn7 [] (rUp m3 73 0 n8 (i + 1))).2.2 15 0 34) ((fn7 [] (rUp m3 73 0 n8 (i + 1))).2.2 15 0 35) ≠ 44 then .inl (0, [0], (fn7 [] (rUp m3 73 0 n8 (i + 1))).2.2) else .inl (0, [1], rUp (fn7 [] (rUp m3 73 0 n8 (i + 1))).2.2 15 0 35 ((fn7 [] (rUp m3 73 0 n8 (i + 1))).2.2 15 0 35 + 1))) else .inl (0, [0], (fn7 [] (rUp m3 73 0 n8 (i + 1))).2.2)) := by
  unfold en43
  simp only [zLet, ↓reduceIte, List.getD_cons_zero, h44, hi, h, fn6_eq]
  rw [if_neg (show ¬ (1 : Int) = 0 by decide), if_pos h8, if_pos (show (1 : Int) ≤ 1 by decide)]
  by_cases k2 : 2 ≤ m3 77 0 (i + 8 * n8)
  · rw [if_pos k2]
    split <;> rfl
  · rw [if_neg k2]
theorem en43_bad {mS m m3 : rHp} {i n8 : Int} (h44 : mS 15 0 44 = n8) (hi : m 73 0 n8 = i) (h8 : i ≠ 8) (h : fn42 [] (fn7 [] m).2.2 = (0, 0, m3)) : en43 mS (0, [1], m) = .inr (0, 0, m3) := by
  unfold en43
  simp only [zLet, ↓reduceIte, List.getD_cons_zero, h44, hi, h, fn6_eq]
  rw [if_neg (show ¬ (1 : Int) = 0 by decide), if_pos h8, if_neg (show ¬ (1 : Int) ≤ 0 by decide)]
theorem en43_full {mS m : rHp} {n8 : Int} (h44 : mS 15 0 44 = n8) (hi : m 73 0 n8 = 8) : en43 mS (0, [1], m) = .inr (0, 0, (fn8 [(fn7 [] m).2.2 15 0 35] (fn7 [] m).2.2).2.2) := by
  unfold en43
  simp only [zLet, ↓reduceIte, List.getD_cons_zero, h44, hi]
  rw [if_neg (show ¬ (1 : Int) = 0 by decide), if_neg (fun z => z rfl)]
theorem en43_end {mS m : rHp} : en43 mS (0, [0], m) = .inr (0, 1, m) := by
  unfold en43
  simp only [zLet, ↓reduceIte, List.getD_cons_zero]
/-- the reference behind the GOALS: is . there, is all paid -/
noncomputable def qFt (n1 : Int) (r : zR) : zR :=
  if 1 ≤ r.2.1 then
    (if 0 ≤ -(fn7 [] r.2.2).2.2 15 0 35 + n1 + (-1) then
      (if pB ((fn7 [] r.2.2).2.2 59 0) ((fn7 [] r.2.2).2.2 15 0 34) ((fn7 [] r.2.2).2.2 15 0 35) = 46 then
        (if 1 ≤ (fn28 [] (fn30 [] (fn7 [] r.2.2).2.2).2.2).2.1 then (0, 1, (fn28 [] (fn30 [] (fn7 [] r.2.2).2.2).2.2).2.2) else (0, 0, (fn28 [] (fn30 [] (fn7 [] r.2.2).2.2).2.2).2.2))
      else (0, 0, (fn8 [(fn7 [] r.2.2).2.2 15 0 35] (fn7 [] r.2.2).2.2).2.2))
    else (0, 0, (fn8 [(fn7 [] r.2.2).2.2 15 0 35] (fn7 [] r.2.2).2.2).2.2))
  else (0, 0, r.2.2)
