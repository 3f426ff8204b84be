/-! ===== the HEAD by both ===== -/
/-- the reference's ARG of the HEAD -/
noncomputable def qHa (n1 i : Int) (m : rHp) : zR :=
  if 0 ≤ -(fn7 [] m).2.2 15 0 35 + n1 + (-1) then
    (if pB (rUp (fn7 [] m).2.2 86 0 i ((fn7 [] m).2.2 15 0 35) 59 0) (rUp (fn7 [] m).2.2 86 0 i ((fn7 [] m).2.2 15 0 35) 15 0 34) ((fn7 [] m).2.2 15 0 35) ≠ 35 then qHb i (fn20 [0] (rUp (fn7 [] m).2.2 86 0 i ((fn7 [] m).2.2 15 0 35))) else qHb i (fn26 [] (rUp (fn7 [] m).2.2 86 0 i ((fn7 [] m).2.2 15 0 35))))
  else (0, 0, (fn20 [0] (rUp (fn7 [] m).2.2 86 0 i ((fn7 [] m).2.2 15 0 35))).2.2)
/-- an ARG of the HEAD -/
theorem harg_two {H : Int → Prop} {c0 m0 c m : rHp} {h i : Int} (hh : h = 9 * c 40 0 (c 1 0 10)) (hR : qR 0 c0 m0 c m) (hs : qHs H c m h i) (hi : 0 ≤ i) (hi4 : i < 4) (h00 : 0 ≤ c0 1000 0 0) (hlim : 2 * c0 1000 0 0 + m0 15 0 34 ≤ 10239) : qHo c0 m0 c m h i (fn141 [] c) (qHa (m 15 0 34) i m) := by
  obtain ⟨p, L, k1, k2, k3, k4, k5, k6, k7⟩ := look_two hR.1 hR.2.1 [] []
  have a0 := hR.2.1.2.1
  have fc : fH 2 [] [6] c (rUp c 2 0 6 p) := fH_fld fH_refl (by decide)
  have fm : fH 15 [86] [35] m (rUp (rUp m 15 0 35 p) 86 0 i p) := fH_grp (fH_fld fH_refl (by decide)) (by decide) (by decide)
  have x6 : rUp c 2 0 6 p 2 0 6 = p := rUp_at
  have y35 : rUp (rUp m 15 0 35 p) 86 0 i p 15 0 35 = p := by rw [rUp_grp (by decide), rUp_at]
  have yl : rUp m 15 0 35 p 15 0 35 = p := rUp_at
  have E2 : qHa (m 15 0 34) i m = if 0 ≤ -p + m 15 0 34 + (-1) then (if pB (m 59 0) (m 15 0 34) p ≠ 35 then qHb i (fn20 [0] (rUp (rUp m 15 0 35 p) 86 0 i p)) else qHb i (fn26 [] (rUp (rUp m 15 0 35 p) 86 0 i p))) else (0, 0, (fn20 [0] (rUp (rUp m 15 0 35 p) 86 0 i p)).2.2) := by
    unfold qHa
    rw [k2]
    simp only [yl]
    rw [fm.1 59 (by decide) (by decide), fm.2 34 (by decide)]
  have hh1 : h = 9 * rUp c 2 0 6 p 40 0 (rUp c 2 0 6 p 1 0 10) := by rw [rUp_grp (by decide), rUp_grp (by decide)]; exact hh
  have E1 : fn141 [] c = if 0 ≤ L then (if pCa L = true then (if 1 ≤ (fn115 [] (rUp c 2 0 6 p)).2.1 then (if 1 ≤ (fn137 [h] (fn115 [] (rUp c 2 0 6 p)).2.2).2.1 then (0, 1, (fn137 [h] (fn115 [] (rUp c 2 0 6 p)).2.2).2.2) else (0, 0, (fn137 [h] (fn115 [] (rUp c 2 0 6 p)).2.2).2.2)) else (0, 0, (fn115 [] (rUp c 2 0 6 p)).2.2)) else (if L ≠ 35 then (if 1 ≤ (fn136 [h] (rUp c 2 0 6 p)).2.1 then (0, 1, (fn136 [h] (rUp c 2 0 6 p)).2.2) else (0, 0, (fn136 [h] (rUp c 2 0 6 p)).2.2)) else (if 1 ≤ (fn140 [] (rUp c 2 0 6 p)).2.1 then (0, 1, (fn140 [] (rUp c 2 0 6 p)).2.2) else (0, 0, (fn140 [] (rUp c 2 0 6 p)).2.2)))) else (0, 0, (fn136 [h] (rUp c 2 0 6 p)).2.2) := by
    unfold fn141
    simp only [zLet, k1, fn106_eq, pBit_ge, ← hh]
  generalize rUp c 2 0 6 p = c1 at *
  generalize rUp (rUp m 15 0 35 p) 86 0 i p = m3 at *
  have y34 : m3 15 0 34 = m 15 0 34 := fm.2 34 (by decide)
  have y59 : m3 59 = m 59 := fm.1 59 (by decide) (by decide)
  have hR1 : qR 0 c0 m0 c1 m3 := by
    refine qR_up hR (fH_sub fc (by decide) (by decide)) (fH_sub fm (by decide) (by decide)) ?_ ?_ ?_ ?_
    · rw [x6, y35]
    · rw [y35]; omega
    · rw [y35]; omega
    · rw [y35]; exact k4
  have hs1 : qHs H c1 m3 h i := qHs_up hs fc (by decide) (by decide) fm (by decide) (by decide) (by rw [y35]; exact k3)
  have hsk : pSk (m3 59 0) (m3 15 0 34) (m3 15 0 35) = m3 15 0 35 := by rw [y59, y34, y35]; exact k7
  have bit : ∀ r s : zR, qHo c0 m0 c m h i r s → qHo c0 m0 c m h i (if 1 ≤ r.2.1 then (0, 1, r.2.2) else (0, 0, r.2.2)) s := by
    intro r s q
    rcases q with ⟨H_q, c_q, m_q, q1, q2, q3⟩ | ⟨c_q, m_q, q1, q2, q3⟩
    · exact Or.inl ⟨H_q, c_q, m_q, by rw [q1]; rfl, q2, q3⟩
    · exact Or.inr ⟨c_q, m_q, by rw [q1]; rfl, q2, q3⟩
  by_cases hn : p < m 15 0 34
  · rw [if_pos (show (0 : Int) ≤ -p + m 15 0 34 + -1 by omega), pB_in hn] at E2
    rw [if_pos (k6.2 hn)] at E1
    rw [pB_in hn] at k5
    by_cases hca : pCa (m 59 0 p) = true
    · have h35 : m 59 0 p ≠ 35 := by
        have z := hca
        simp only [pCa, Bool.and_eq_true, decide_eq_true_eq] at z
        omega
      rw [if_pos (by rw [qL_ca k5]; exact hca)] at E1
      rw [if_pos h35] at E2
      rw [E1, E2]
      exact hvar_two hR1 hs1 hi hi4 h00 hlim hsk (by rw [y35, y34]; exact hn) (by rw [y59, y35]; exact hca) fc fm
    · rw [if_neg (by rw [qL_ca k5]; exact hca)] at E1
      by_cases h35 : m 59 0 p = 35
      · rw [if_neg (fun z => z (by rw [qL_is k5 (by decide) (by decide)]; exact h35))] at E1
        rw [if_neg (fun z => z h35)] at E2
        rw [E1, E2]
        exact bit _ _ (htal_two hh1 hR1 hs1 hi hi4 h00 hlim (by rw [y35, y34]; exact hn) fc fm)
      · rw [if_pos (by rw [ne_eq, qL_is k5 (by decide) (by decide)]; exact h35)] at E1
        rw [if_pos h35] at E2
        rw [E1, E2]
        refine bit _ _ (hcon_two hR1 hs1 hi hi4 hlim hsk ?_ fc fm)
        rw [y59, y34, y35, pB_in hn]
        simpa using hca
  · rw [if_neg (show ¬ (0 : Int) ≤ -p + m 15 0 34 + -1 by omega)] at E2
    rw [if_neg (fun z => hn (k6.1 z))] at E1
    rw [E1, E2]
    have ho := item_out (any := 0) hsk (by rw [y35, y34]; exact hn) (by rw [y35, y34]; exact k4)
    rcases const_two (any := 0) (g := h) hR1 hlim hsk (by rw [y59, y34, y35, pB_out (by omega)]; decide) (Or.inl rfl) with ⟨c3, m_q, v, h1, h2, h3⟩ | ⟨c_q, m_q, h1, h2, h3⟩
    · rw [ho] at h2
      exact absurd (congrArg (fun r => r.2.1) h2) (show ¬ (0 : Int) = 1 by decide)
    · rw [h1, h2]
      exact Or.inr ⟨c_q, m_q, rfl, rfl, h3⟩
/-- the class behind an ARG of the HEAD -/
noncomputable def qAh (i : Int) (r : zR) : zSt :=
  if 0 ≤ r.2.1 then
    (if r.2.1 = 41 then (if 1 ≤ (fn133 [] (rUp r.2.2 2 0 6 (r.2.2 2 0 6 + 1))).2.1 then .inr (0, 1, (fn133 [] (rUp r.2.2 2 0 6 (r.2.2 2 0 6 + 1))).2.2) else .inr (0, 0, (fn133 [] (rUp r.2.2 2 0 6 (r.2.2 2 0 6 + 1))).2.2))
    else (if r.2.1 = 44 then .inl (0, [i + 1], rUp r.2.2 2 0 6 (r.2.2 2 0 6 + 1)) else .inr (0, 0, rUp r.2.2 2 0 4 (r.2.2 2 0 6))))
  else .inr (0, 0, rUp r.2.2 2 0 4 (r.2.2 2 0 6))
theorem en144_more {cS c c_q : rHp} {h i : Int} (hh : h = 9 * cS 40 0 (cS 1 0 10)) (hi : i < 4) (ha : fn141 [] c = (0, 1, c_q)) : ∃ c_q_q, (c_q_q = c_q ∨ c_q_q = rUp c_q 10 h 9 i) ∧ en144 cS (0, [i], c) = qAh i (fn114 [] c_q_q) := by
  by_cases h9 : c 10 h 9 ≥ 0
  · refine ⟨c_q, Or.inl rfl, ?_⟩
    unfold en144 qAh
    simp only [zLet, List.getD_cons_zero, ↓reduceIte, ha, fn109_eq, ← hh]
    rw [if_neg (show ¬ i ≥ 4 by omega), if_pos (show (1 : Int) ≤ 1 by decide), if_pos h9]
  · by_cases h3 : 1 ≤ (fn143 [h, i, cS 2 0 5] c_q).2.1
    · refine ⟨rUp c_q 10 h 9 i, Or.inr rfl, ?_⟩
      unfold en144 qAh
      simp only [zLet, List.getD_cons_zero, ↓reduceIte, ha, fn109_eq, ← hh, fn143_one]
      rw [if_neg (show ¬ i ≥ 4 by omega), if_pos (show (1 : Int) ≤ 1 by decide), if_neg h9, if_pos h3]
    · refine ⟨c_q, Or.inl rfl, ?_⟩
      unfold en144 qAh
      simp only [zLet, List.getD_cons_zero, ↓reduceIte, ha, fn109_eq, ← hh, fn143_one]
      rw [if_neg (show ¬ i ≥ 4 by omega), if_pos (show (1 : Int) ≤ 1 by decide), if_neg h9, if_neg h3]
theorem en144_bad {cS c c_q : rHp} {i : Int} (hi : i < 4) (h : fn141 [] c = (0, 0, c_q)) : en144 cS (0, [i], c) = .inr (0, 0, c_q) := by
  unfold en144
  simp only [zLet, List.getD_cons_zero, ↓reduceIte, h]
  rw [if_neg (show ¬ i ≥ 4 by omega), if_neg (show ¬ (1 : Int) ≤ 0 by decide)]
theorem en144_four {cS c : rHp} : ∃ p, en144 cS (0, [4], c) = .inr (0, 0, rUp (fn114 [] c).2.2 2 0 4 p) := by
  refine ⟨(fn114 [] c).2.2 2 0 6, ?_⟩
  unfold en144
  simp only [zLet, List.getD_cons_zero, ↓reduceIte, fn109_eq]
  rw [if_pos (show (4 : Int) ≥ 4 by decide)]
  split <;> rfl
noncomputable def qz40 (r : zR) : Prop := 1 ≤ r.2.1 → r.2.2 15 0 40 = 3
theorem qz40_if {P : Prop} [Decidable P] {a b : zR} (ha : qz40 a) (hb : qz40 b) : qz40 (if P then a else b) := by
  by_cases h : P
  · rw [if_pos h]; exact ha
  · rw [if_neg h]; exact hb
theorem qz40_no {g : rHp} : qz40 (0, 0, g) := fun h => absurd h (show ¬ (1 : Int) ≤ 0 by decide)
theorem qz40_ok {g : rHp} : qz40 (0, 1, rUp (rUp g 15 0 40 3) 15 0 39 0) := fun _ => by
  show rUp (rUp g 15 0 40 3) 15 0 39 0 15 0 40 = 3
  rw [rUp_ne (by decide), rUp_at]
theorem fn26_40 {g : rHp} (h : 1 ≤ (fn26 [] g).2.1) : (fn26 [] g).2.2 15 0 40 = 3 := by
  have key : qz40 (fn26 [] g) := by
    unfold fn26
    simp only [zLet]
    repeat' first | exact qz40_no | exact qz40_ok | apply qz40_if
  exact key h
theorem en27_more {mS m m5 : rHp} {i : Int} (h48 : m 15 0 48 = i) (hi : i ≠ 4) (ha : qHa (mS 15 0 34) i m = (0, 1, m5)) : en27 mS (0, [1], m) =
    if 0 ≤ -(fn7 [] m5).2.2 15 0 35 + mS 15 0 34 + (-1) then (if pB ((fn7 [] m5).2.2 59 0) ((fn7 [] m5).2.2 15 0 34) ((fn7 [] m5).2.2 15 0 35) ≠ 44 then .inl (0, [0], (fn7 [] m5).2.2) else .inl (0, [1], rUp (fn7 [] m5).2.2 15 0 35 ((fn7 [] m5).2.2 15 0 35 + 1))) else .inl (0, [0], (fn7 [] m5).2.2) := by
  unfold qHa at ha
  unfold en27
  simp only [zLet, List.getD_cons_zero, ↓reduceIte, h48, fn6_eq]
  rw [if_neg (show ¬ (1 : Int) = 0 by decide), if_pos hi]
  by_cases b1 : 0 ≤ -(fn7 [] m).2.2 15 0 35 + mS 15 0 34 + (-1)
  · rw [if_pos b1] at ha ⊢
    by_cases b2 : pB (rUp (fn7 [] m).2.2 86 0 i ((fn7 [] m).2.2 15 0 35) 59 0) (rUp (fn7 [] m).2.2 86 0 i ((fn7 [] m).2.2 15 0 35) 15 0 34) ((fn7 [] m).2.2 15 0 35) ≠ 35
    · rw [if_pos b2] at ha ⊢
      unfold qHb at ha
      by_cases b3 : 1 ≤ (fn20 [0] (rUp (fn7 [] m).2.2 86 0 i ((fn7 [] m).2.2 15 0 35))).2.1
      · rw [if_pos b3] at ha ⊢
        have e := congrArg (fun r => r.2.2) ha
        simp only at e
        rw [e]
      · rw [if_neg b3] at ha
        exact absurd (congrArg (fun r => r.2.1) ha) (show ¬ (0 : Int) = 1 by decide)
    · rw [if_neg b2] at ha ⊢
      unfold qHb at ha
      by_cases b3 : 1 ≤ (fn26 [] (rUp (fn7 [] m).2.2 86 0 i ((fn7 [] m).2.2 15 0 35))).2.1
      · rw [if_pos b3] at ha ⊢
        rw [fn26_40 b3] at ha
        have e := congrArg (fun r => r.2.2) ha
        simp only at e
        rw [e]
      · rw [if_neg b3] at ha
        exact absurd (congrArg (fun r => r.2.1) ha) (show ¬ (0 : Int) = 1 by decide)
  · rw [if_neg b1] at ha
    exact absurd (congrArg (fun r => r.2.1) ha) (show ¬ (0 : Int) = 1 by decide)
theorem en27_bad {mS m m5 : rHp} {i : Int} (h48 : m 15 0 48 = i) (hi : i ≠ 4) (ha : qHa (mS 15 0 34) i m = (0, 0, m5)) : en27 mS (0, [1], m) = .inr (0, 0, m5) := by
  unfold qHa at ha
  unfold en27
  simp only [zLet, List.getD_cons_zero, ↓reduceIte, h48, fn6_eq]
  rw [if_neg (show ¬ (1 : Int) = 0 by decide), if_pos hi]
  by_cases b1 : 0 ≤ -(fn7 [] m).2.2 15 0 35 + mS 15 0 34 + (-1)
  · rw [if_pos b1] at ha ⊢
    by_cases b2 : pB (rUp (fn7 [] m).2.2 86 0 i ((fn7 [] m).2.2 15 0 35) 59 0) (rUp (fn7 [] m).2.2 86 0 i ((fn7 [] m).2.2 15 0 35) 15 0 34) ((fn7 [] m).2.2 15 0 35) ≠ 35
    · rw [if_pos b2] at ha ⊢
      unfold qHb at ha
      by_cases b3 : 1 ≤ (fn20 [0] (rUp (fn7 [] m).2.2 86 0 i ((fn7 [] m).2.2 15 0 35))).2.1
      · rw [if_pos b3] at ha
        exact absurd (congrArg (fun r => r.2.1) ha) (show ¬ (1 : Int) = 0 by decide)
      · rw [if_neg b3] at ha ⊢
        rw [ha]
    · rw [if_neg b2] at ha ⊢
      unfold qHb at ha
      by_cases b3 : 1 ≤ (fn26 [] (rUp (fn7 [] m).2.2 86 0 i ((fn7 [] m).2.2 15 0 35))).2.1
      · rw [if_pos b3] at ha
        exact absurd (congrArg (fun r => r.2.1) ha) (show ¬ (1 : Int) = 0 by decide)
      · rw [if_neg b3] at ha ⊢
        rw [ha]
  · rw [if_neg b1] at ha ⊢
    rw [ha]
theorem en27_four {mS m : rHp} (h48 : m 15 0 48 = 4) : en27 mS (0, [1], m) = .inr (0, 0, (fn8 [(fn7 [] m).2.2 15 0 35] (fn7 [] m).2.2).2.2) := by
  unfold en27
  simp only [zLet, List.getD_cons_zero, ↓reduceIte, h48]
  rw [if_neg (show ¬ (1 : Int) = 0 by decide), if_neg (fun z => z rfl)]
theorem en27_end {mS m : rHp} : en27 mS (0, [0], m) = .inr (if 1 ≤ (fn24 [41] m).2.1 then (0, 1, (fn24 [41] m).2.2) else (0, 0, (fn24 [41] m).2.2)) := by
  unfold en27
  simp only [zLet, List.getD_cons_zero, ↓reduceIte]
  split <;> rfl
