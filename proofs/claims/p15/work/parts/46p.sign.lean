/-! ===== the sign of a comparison by both, when told ===== -/
theorem fn34_end {m : rHp} {k : Int} (h : m 15 0 34 ≤ m 15 0 35) : (fn34 [k] m).2.1 = 0 := by
  have hsk : pSk (m 59 0) (m 15 0 34) (m 15 0 35) = m 15 0 35 := pSk_no (by omega)
  have f7 : fn7 [] m = (0, 0, m) := by rw [fn7_eq, hsk, rUp_self rfl]
  have h20 := item_end (any := 0) hsk (by omega)
  unfold fn34
  simp only [zLet, List.getD_cons_zero, f7]
  rw [if_neg (by rw [h20]; decide)]
/-- behind the sign: the reference -/
noncomputable def qTl (m : rHp) (wh : Int) (m5 : rHp) : zR :=
  if m 80 0 (4 * m 73 0 (m 15 0 44) + 32 * m 15 0 44) ≠ 1 then (if 1 ≤ (fn34 [1] m5).2.1 then (0, 1, (fn34 [1] m5).2.2) else (0, 0, (fn34 [1] m5).2.2))
  else if 1 ≤ (fn19 [m 81 0 (4 * m 73 0 (m 15 0 44) + 32 * m 15 0 44)] m5).2.1 then (if 1 ≤ (fn34 [1] m5).2.1 then (0, 1, (fn34 [1] m5).2.2) else (0, 0, (fn34 [1] m5).2.2))
  else (0, 0, (fn8 [wh] m5).2.2)
theorem fn19_one {v : Int} {m : rHp} : (fn19 [v] m).2.2 = m := by
  unfold fn19
  simp only [zLet, List.getD_cons_zero]
  split <;> rfl
theorem sign_two {d : Int} {c0 m0 c m : rHp} (hR : qR d c0 m0 c m) (hd : d = 0 ∨ d = 1) :
    (∃ c5 m5, fn154 [] c = (0, 1, c5) ∧ qR 0 c0 m0 c5 m5 ∧ fH 2 [10] [6] c c5 ∧ fH 15 [77] [35] m m5 ∧ (∀ h j, ¬ (h = qG c ∧ j = 4) → c5 10 h j = c 10 h j) ∧ m 15 0 35 < m5 15 0 35 ∧ (∀ wh, fn40 [wh] m = qTl m wh m5) ∧ c5 10 (qG c) 4 = m5 77 0 (m 73 0 (m 15 0 44) + 8 * m 15 0 44) + 1 ∧ 2 ≤ m5 77 0 (m 73 0 (m 15 0 44) + 8 * m 15 0 44) ∧ m5 77 0 (m 73 0 (m 15 0 44) + 8 * m 15 0 44) ≤ 4) ∨
    (∃ c5 m5, fn154 [] c = (0, 0, c5) ∧ (∀ wh, fn40 [wh] m = (0, 0, m5)) ∧ qZ c0 m0 c5 m5) := by
  obtain ⟨p, L, k1, k2, k3, k4, k5, k6, k7⟩ := look_two hR.1 hR.2.1 [] []
  have a2 := hR.2.1.2.1
  have hT := hR.1
  have f33 : ∀ g : rHp, (fn33 [] g).2.2 = g := fun g => rfl
  have f6 : ∀ g i, (fn6 [i] g).2.2 = g := fun g i => by rw [fn6_eq]
  have y35 : rUp m 15 0 35 p 15 0 35 = p := rUp_at
  have x6 : rUp c 2 0 6 p 2 0 6 = p := rUp_at
  have f6p : fn6 [p] (rUp m 15 0 35 p) = (0, pB (m 59 0) (m 15 0 34) p, rUp m 15 0 35 p) := by
    rw [fn6_eq, rUp_ne (by decide), rUp_grp (by decide)]
  have h8 : fn8 [p] (rUp m 15 0 35 p) = (0, 0, rUp (rUp m 15 0 35 p) 15 0 36 p) := fn8_eq (by rw [rUp_ne (by decide)]; exact k4)
  have hG : c 9 (c 40 0 (c 1 0 10)) 2 + 9 * c 40 0 (c 1 0 10) + 1 = qG c := rfl
  by_cases hn : p < m 15 0 34
  · have hL : 0 ≤ L := k6.2 hn
    have hb1 : (0 : Int) ≤ -p + m 15 0 34 + -1 := by omega
    rw [pB_in hn] at k5 f6p
    have h60 : (L = 60) = (m 59 0 p = 60) := qL_is k5 (by decide) (by decide)
    have h61 : (L = 61) = (m 59 0 p = 61) := qL_is k5 (by decide) (by decide)
    /- a sign of one byte -/
    have one : ∀ kc km : Int, qR 0 c0 m0 (rUp (rUp (rUp c 2 0 6 p) 10 (qG c) 4 kc) 2 0 6 (p + 1)) (rUp (rUp (rUp m 15 0 35 p) 15 0 35 (p + 1)) 77 0 (m 73 0 (m 15 0 44) + 8 * m 15 0 44) km) := by
      intro kc km
      refine qR_up hR (fH_fld (fH_grp (fH_fld fH_refl (by decide)) (by decide) (by decide)) (by decide)) (fH_grp (fH_fld (fH_fld fH_refl (by decide)) (by decide)) (by decide) (by decide)) ?_ ?_ ?_ ?_
      · rw [rUp_at, rUp_grp (by decide), rUp_at]
      · rw [rUp_grp (by decide), rUp_at]; omega
      · rw [rUp_grp (by decide), rUp_at]; omega
      · rw [rUp_grp (by decide), rUp_at]; omega
    by_cases hlt : m 59 0 p = 60
    · have hL60 : L = 60 := by rw [h60]; exact hlt
      have e35 : rUp (rUp (rUp m 15 0 35 p) 15 0 35 (p + 1)) 77 0 (m 73 0 (m 15 0 44) + 8 * m 15 0 44) 2 15 0 35 = p + 1 := by rw [rUp_grp (by decide), rUp_at]
      have f6q : fn6 [p + 1] (rUp (rUp (rUp m 15 0 35 p) 15 0 35 (p + 1)) 77 0 (m 73 0 (m 15 0 44) + 8 * m 15 0 44) 2) = (0, pB (m 59 0) (m 15 0 34) (p + 1), rUp (rUp (rUp m 15 0 35 p) 15 0 35 (p + 1)) 77 0 (m 73 0 (m 15 0 44) + 8 * m 15 0 44) 2) := by
        rw [fn6_eq, rUp_grp (show (59 : Nat) ≠ 77 by decide), rUp_grp (show (59 : Nat) ≠ 15 by decide), rUp_grp (show (59 : Nat) ≠ 15 by decide), rUp_grp (show (15 : Nat) ≠ 77 by decide), rUp_ne (by decide), rUp_ne (by decide)]
      by_cases hq : p + 1 < m 15 0 34
      · have hb2 : (0 : Int) ≤ -p + m 15 0 34 + -2 := by omega
        have hc1 : c 21 0 (p + 1) = m 59 0 (p + 1) := (hT.2.2 (p + 1) (by omega) hq).1
        rw [pB_in hq] at f6q
        by_cases h62 : m 59 0 (p + 1) = 62
        · refine Or.inl ⟨rUp (rUp (rUp (rUp (rUp c 2 0 6 p) 10 (qG c) 4 3) 2 0 6 (p + 1)) 10 (qG c) 4 5) 2 0 6 (p + 2), rUp (rUp (rUp (rUp (rUp m 15 0 35 p) 15 0 35 (p + 1)) 77 0 (m 73 0 (m 15 0 44) + 8 * m 15 0 44) 2) 15 0 35 (p + 2)) 77 0 (m 73 0 (m 15 0 44) + 8 * m 15 0 44) 4, ?_, ?_, ?_, ?_, ?_, ?_, ?_, by rw [rUp_grp (by decide), rUp_at, rUp_at]; decide, by rw [rUp_at]; decide, by rw [rUp_at]; decide⟩
          · unfold fn154
            simp only [zLet, hG, k1, x6]
            rw [if_pos hL, if_pos hL60, if_neg (by rw [hT.1]; omega), if_neg (by rw [hc1]; exact fun q => q h62)]
          · refine qR_up hR (fH_fld (fH_grp (fH_fld (fH_grp (fH_fld fH_refl (by decide)) (by decide) (by decide)) (by decide)) (by decide) (by decide)) (by decide)) (fH_grp (fH_fld (fH_grp (fH_fld (fH_fld fH_refl (by decide)) (by decide)) (by decide) (by decide)) (by decide)) (by decide) (by decide)) ?_ ?_ ?_ ?_
            · rw [rUp_at, rUp_grp (by decide), rUp_at]
            · rw [rUp_grp (by decide), rUp_at]; omega
            · rw [rUp_grp (by decide), rUp_at]; omega
            · rw [rUp_grp (by decide), rUp_at]; omega
          · exact fH_fld (fH_grp (fH_fld (fH_grp (fH_fld fH_refl (by decide)) (by decide) (by decide)) (by decide)) (by decide) (by decide)) (by decide)
          · exact fH_grp (fH_fld (fH_grp (fH_fld (fH_fld fH_refl (by decide)) (by decide)) (by decide) (by decide)) (by decide)) (by decide) (by decide)
          · intro h j q
            rw [rUp_grp (by decide), rUp_ne (fun x => q x.2), rUp_grp (by decide), rUp_ne (fun x => q x.2), rUp_grp (by decide)]
          · rw [rUp_grp (by decide), rUp_at]; omega
          · intro wh
            unfold fn40 qTl
            simp only [zLet, List.getD_cons_zero, k2, f33, y35, f6p, f6q, fn19_one]
            rw [if_pos hb1, if_pos hlt, if_pos hb2, if_neg (show ¬ m 59 0 (p + 1) ≠ 62 from fun q => q h62)]
        · refine Or.inl ⟨rUp (rUp (rUp c 2 0 6 p) 10 (qG c) 4 3) 2 0 6 (p + 1), rUp (rUp (rUp m 15 0 35 p) 15 0 35 (p + 1)) 77 0 (m 73 0 (m 15 0 44) + 8 * m 15 0 44) 2, ?_, one 3 2, ?_, ?_, ?_, ?_, ?_, by rw [rUp_grp (by decide), rUp_at, rUp_at]; decide, by rw [rUp_at]; decide, by rw [rUp_at]; decide⟩
          · unfold fn154
            simp only [zLet, hG, k1, x6]
            rw [if_pos hL, if_pos hL60, if_neg (by rw [hT.1]; omega), if_pos (by rw [hc1]; exact h62)]
          · exact fH_fld (fH_grp (fH_fld fH_refl (by decide)) (by decide) (by decide)) (by decide)
          · exact fH_grp (fH_fld (fH_fld fH_refl (by decide)) (by decide)) (by decide) (by decide)
          · intro h j q
            rw [rUp_grp (by decide), rUp_ne (fun x => q x.2), rUp_grp (by decide)]
          · rw [e35]; omega
          · intro wh
            unfold fn40 qTl
            simp only [zLet, List.getD_cons_zero, k2, f33, y35, f6p, f6q, fn19_one]
            rw [if_pos hb1, if_pos hlt, if_pos hb2, if_pos (show m 59 0 (p + 1) ≠ 62 from h62)]
      · have hb2 : ¬ (0 : Int) ≤ -p + m 15 0 34 + -2 := by omega
        have h0 : (fn34 [1] (rUp (rUp (rUp m 15 0 35 p) 15 0 35 (p + 1)) 77 0 (m 73 0 (m 15 0 44) + 8 * m 15 0 44) 2)).2.1 = 0 := fn34_end (by rw [e35, rUp_grp (by decide), rUp_ne (by decide), rUp_ne (by decide)]; omega)
        refine Or.inl ⟨rUp (rUp (rUp c 2 0 6 p) 10 (qG c) 4 3) 2 0 6 (p + 1), rUp (rUp (rUp m 15 0 35 p) 15 0 35 (p + 1)) 77 0 (m 73 0 (m 15 0 44) + 8 * m 15 0 44) 2, ?_, one 3 2, ?_, ?_, ?_, ?_, ?_, by rw [rUp_grp (by decide), rUp_at, rUp_at]; decide, by rw [rUp_at]; decide, by rw [rUp_at]; decide⟩
        · unfold fn154
          simp only [zLet, hG, k1, x6]
          rw [if_pos hL, if_pos hL60, if_pos (by rw [hT.1]; omega)]
        · exact fH_fld (fH_grp (fH_fld fH_refl (by decide)) (by decide) (by decide)) (by decide)
        · exact fH_grp (fH_fld (fH_fld fH_refl (by decide)) (by decide)) (by decide) (by decide)
        · intro h j q
          rw [rUp_grp (by decide), rUp_ne (fun x => q x.2), rUp_grp (by decide)]
        · rw [e35]; omega
        · intro wh
          unfold fn40 qTl
          simp only [zLet, List.getD_cons_zero, k2, f33, y35, f6p, f6q, fn19_one, h0]
          rw [if_pos hb1, if_pos hlt, if_neg hb2, if_neg (show ¬ (1 : Int) ≤ 0 by decide)]
    · by_cases heq : m 59 0 p = 61
      · have hL61 : L = 61 := by rw [h61]; exact heq
        refine Or.inl ⟨rUp (rUp (rUp c 2 0 6 p) 10 (qG c) 4 4) 2 0 6 (p + 1), rUp (rUp (rUp m 15 0 35 p) 15 0 35 (p + 1)) 77 0 (m 73 0 (m 15 0 44) + 8 * m 15 0 44) 3, ?_, one 4 3, ?_, ?_, ?_, ?_, ?_, by rw [rUp_grp (by decide), rUp_at, rUp_at]; decide, by rw [rUp_at]; decide, by rw [rUp_at]; decide⟩
        · unfold fn154
          simp only [zLet, hG, k1, x6]
          rw [if_pos hL, if_neg (show ¬ L = 60 by rw [h60]; exact hlt), if_pos hL61]
        · exact fH_fld (fH_grp (fH_fld fH_refl (by decide)) (by decide) (by decide)) (by decide)
        · exact fH_grp (fH_fld (fH_fld fH_refl (by decide)) (by decide)) (by decide) (by decide)
        · intro h j q
          rw [rUp_grp (by decide), rUp_ne (fun x => q x.2), rUp_grp (by decide)]
        · rw [rUp_grp (by decide), rUp_at]; omega
        · intro wh
          unfold fn40 qTl
          simp only [zLet, List.getD_cons_zero, k2, f33, y35, f6p, fn19_one]
          rw [if_pos hb1, if_neg hlt, if_pos heq]
      · refine Or.inr ⟨_, _, ?_, ?_, qZ_up hR (by omega) (c_q := rUp (rUp c 2 0 6 p) 2 0 4 p) (m_q := rUp (rUp m 15 0 35 p) 15 0 36 p) (fH_fld (fH_fld fH_refl (by decide)) (by decide)) (fH_fld (fH_fld fH_refl (by decide)) (by decide))⟩
        · unfold fn154
          simp only [zLet, k1, x6, fn109_eq]
          rw [if_pos hL, if_neg (show ¬ L = 60 by rw [h60]; exact hlt), if_neg (show ¬ L = 61 by rw [h61]; exact heq)]
        · intro wh
          unfold fn40
          simp only [zLet, List.getD_cons_zero, k2, f33, y35, f6p, h8]
          rw [if_pos hb1, if_neg hlt, if_neg heq]
  · have hL : ¬ 0 ≤ L := fun q => hn (k6.1 q)
    have hb1 : ¬ (0 : Int) ≤ -p + m 15 0 34 + -1 := by omega
    refine Or.inr ⟨_, _, ?_, ?_, qZ_up hR (by omega) (c_q := rUp (rUp c 2 0 6 p) 2 0 4 p) (m_q := rUp (rUp m 15 0 35 p) 15 0 36 p) (fH_fld (fH_fld fH_refl (by decide)) (by decide)) (fH_fld (fH_fld fH_refl (by decide)) (by decide))⟩
    · unfold fn154
      simp only [zLet, k1, x6, fn109_eq]
      rw [if_neg hL]
    · intro wh
      unfold fn40
      simp only [zLet, List.getD_cons_zero, k2, f33, y35, f6p, h8]
      rw [if_neg hb1]
