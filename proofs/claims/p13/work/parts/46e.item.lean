/-! ===== CONSTANTS by both ===== -/
/-- both look where no blank stands -/
theorem look_at {c m : rHp} (hT : qT c m) (hA : qA c m) (hsk : pSk (m 59 0) (m 15 0 34) (m 15 0 35) = m 15 0 35) (x y : List Int) : ∃ L, fn114 x c = (0, L, c) ∧ fn7 y m = (0, 0, m) ∧ qL L (pB (m 59 0) (m 15 0 34) (m 15 0 35)) ∧ (0 ≤ L ↔ m 15 0 35 < m 15 0 34) := by
  obtain ⟨t1, t2, t3⟩ := hT
  obtain ⟨a1, a2, a3⟩ := hA
  have e : pSk (c 21 0) (c 2 0 3) (c 2 0 6) = c 2 0 6 := by
    rw [t1, a1, ← hsk]
    refine (pSk_congr (t_q := m 59 0) _ _ (Nat.le_refl _) (fun j h1 h2 => (t3 j ?_ h2).1)).trans pSk_idem
    rw [hsk] at h1
    omega
  refine ⟨pL (c 21 0) (m 15 0 34) (m 15 0 35), ?_, ?_, pL_qL a2 t3, ?_⟩
  · rw [fn114_eq, e, rUp_self rfl, t1, a1]
  · rw [fn7_eq, hsk, rUp_self rfl]
  · constructor
    · intro h
      by_cases hi : m 15 0 35 < m 15 0 34
      · exact hi
      · rw [pL_out (by omega)] at h
        omega
    · intro h
      obtain ⟨e1, e2, e3⟩ := t3 _ a2 h
      exact pL_ge h (by omega) (by omega)
theorem pWc_b {t : Int → Int} {n i : Int} {q : Int → Bool} (h : q (pB t n i) = true) (hq : q (-1) = false) : i < n ∧ q (t i) = true := by
  by_cases hi : i < n
  · rw [pB_in hi] at h
    exact ⟨hi, h⟩
  · rw [pB_out (by omega), hq] at h
    exact absurd h (by decide)
/-- a CONSTANT: both read it, or both find it BROKEN -/
theorem const_two {c0 m0 c m : rHp} (hR : qR 0 c0 m0 c m) (hlim : 2 * c0 1000 0 0 + m0 15 0 34 ≤ 10239) (hsk : pSk (m 59 0) (m 15 0 34) (m 15 0 35) = m 15 0 35) {any g : Int} (hca : pCa (pB (m 59 0) (m 15 0 34) (m 15 0 35)) = false) (hany : any = 0 ∨ pB (m 59 0) (m 15 0 34) (m 15 0 35) ≠ 95) :
    (∃ c1 m_q v, fn136 [g] c = (0, 1, (fn104 [g, 0, m 15 0 35, 0, v] c1).2.2) ∧ fn20 [any] m = (0, 1, m_q) ∧ qR 1 c0 m0 c1 m_q ∧ fH 2 [3, 26] [6, 8, 9, 10] c c1 ∧ fH 15 [61, 62, 63] [8, 9, 35, 37, 38, 39, 40] m m_q ∧ vR c1 m_q v (m_q 15 0 39) ∧ m_q 15 0 40 = 0 ∧ m 15 0 35 < m_q 15 0 35 ∧ gNc c c1 ∧ gNm m m_q) ∨
    (∃ c_q m_q, fn136 [g] c = (0, 0, c_q) ∧ fn20 [any] m = (0, 0, m_q) ∧ qZ c0 m0 c_q m_q) := by
  have hT := hR.1
  have hA := hR.2.1
  obtain ⟨L, k1, k2, k3, k4⟩ := look_at hT hA hsk [] []
  have a1 := hA.1
  have a2 := hA.2.1
  have a3 := hA.2.2
  have f6 : fn6 [m 15 0 35] m = (0, pB (m 59 0) (m 15 0 34) (m 15 0 35), m) := fn6_eq _ _
  have h8 : fn8 [m 15 0 35] m = (0, 0, rUp m 15 0 36 (m 15 0 35)) := fn8_eq a3
  by_cases hn : m 15 0 35 < m 15 0 34
  · have hL : 0 ≤ L := k4.2 hn
    have hb : pB (m 59 0) (m 15 0 34) (m 15 0 35) = m 59 0 (m 15 0 35) := pB_in hn
    have hb1 : (0 : Int) ≤ -m 15 0 35 + m 15 0 34 + -1 := by omega
    rw [hb] at hca hany k3
    by_cases hs : pSm (m 59 0 (m 15 0 35)) = true
    · have hs_q : pSm L = true := by rw [qL_sm k3]; exact hs
      rcases word_two hT hA hn hs [] [] with ⟨e, w, w1, w2, w3, w4, w5⟩ | ⟨e, w, w1, w2⟩
      · have hR2 : qR 0 c0 m0 (rUp (rUp (rUp c 2 0 9 (m 15 0 35)) 2 0 8 w) 2 0 6 e) (rUp (rUp (rUp m 15 0 37 (m 15 0 35)) 15 0 38 (e - m 15 0 35)) 15 0 35 e) := by
          refine qR_up hR (fH_fld (fH_fld (fH_fld fH_refl (by decide)) (by decide)) (by decide)) (fH_fld (fH_fld (fH_fld fH_refl (by decide)) (by decide)) (by decide)) ?_ ?_ ?_ ?_
          · rw [rUp_at, rUp_at]
          · rw [rUp_at]; omega
          · rw [rUp_at]; omega
          · rw [rUp_at]; exact w4
        have hN : 2 * c 3 0 1 ≤ 2 * c0 1000 0 0 + m 15 0 35 + 0 := hR.2.2.2.2.2.2.2.2.2.1
        obtain ⟨k, k_q, c_q, m_q, n1, n2, n3, nv, n4, n5, n6, n7, n8⟩ := qR_name hR2 hlim (w := w)
          (by rw [rUp_grp (by decide), rUp_grp (by decide), rUp_grp (by decide), rUp_ne (by decide), rUp_ne (by decide), rUp_ne (by decide), rUp_ne (by decide), rUp_ne (by decide), rUp_at, rUp_ne (by decide), rUp_at]; exact w5)
          (by rw [rUp_at, rUp_grp (by decide), rUp_grp (by decide), rUp_grp (by decide)]; omega) []
        refine Or.inl ⟨c_q, rUp (rUp m_q 15 0 39 (k_q + 1099511627776)) 15 0 40 0, k + 1099511627776, ?_, ?_, ?_, ?_, ?_, ?_, ?_, ?_, gNc_trans (gNc_fl (L := []) (fH_fld (fH_fld (fH_fld fH_refl (by decide : (9:Int) ∈ [6, 8, 9])) (by decide)) (by decide)) (by decide) (by decide)) n7, gNm_trans (gNm_trans (gNm_fl (L := []) (fH_fld (fH_fld (fH_fld fH_refl (by decide : (37:Int) ∈ [35, 37, 38])) (by decide)) (by decide)) (by decide) (by decide) (by decide) (by decide) (by decide)) n8) (gNm_fl (L := []) (fH_fld (fH_fld fH_refl (by decide : (39:Int) ∈ [39, 40])) (by decide)) (by decide) (by decide) (by decide) (by decide) (by decide))⟩
        · unfold fn136
          have e8 : rUp (rUp (rUp c 2 0 9 (m 15 0 35)) 2 0 8 w) 2 0 6 e 2 0 8 = w := by rw [rUp_ne (by decide), rUp_at]
          simp only [zLet, List.getD_cons_zero, k1, fn105_eq, pBit_ge, w1, e8, a1]
          rw [if_pos hL, if_pos hs_q, if_pos (by decide)]
          unfold fn135
          simp only [zLet, List.getD_cons_zero, List.getD_cons_succ, n1]
          rw [if_pos (show k ≥ 0 from n3)]
          exact if_pos (Int.le_refl 1)
        · unfold fn20
          simp only [zLet, List.getD_cons_zero, k2, f6, hb, fn10_eq, fn9_eq, pBit_ge, hca, hs, w2, n2]
          rw [if_pos hb1, if_neg (by decide), if_pos trivial, if_pos (by decide)]
        · refine qR_up n4 fH_refl (fH_fld (fH_fld fH_refl (by decide)) (by decide)) ?_ ?_ ?_ ?_
          · rw [rUp_ne (by decide), rUp_ne (by decide)]; exact n4.2.1.1
          · rw [rUp_ne (by decide), rUp_ne (by decide)]; omega
          · rw [rUp_ne (by decide), rUp_ne (by decide)]; exact n4.2.1.2.1
          · rw [rUp_ne (by decide), rUp_ne (by decide)]; exact n4.2.1.2.2
        · refine ⟨fun G g1 g2 => ?_, fun j hj => ?_⟩
          · rw [n5 G (fun q => g1 (by rw [q]; decide)) (fun q => g1 (by rw [q]; decide)), rUp_grp g2, rUp_grp g2, rUp_grp g2]
          · simp only [List.mem_cons, List.not_mem_nil, or_false, not_or] at hj
            rw [n5 2 (by decide) (by decide), rUp_ne (fun q => hj.1 q.2.2), rUp_ne (fun q => hj.2.1 q.2.2), rUp_ne (fun q => hj.2.2.1 q.2.2)]
        · exact fH_fld (fH_fld (fH_trans (fH_fld (fH_fld (fH_fld fH_refl (by decide)) (by decide)) (by decide)) (fH_sub n6 (by decide) (by decide))) (by decide)) (by decide)
        · rw [show rUp (rUp m_q 15 0 39 (k_q + 1099511627776)) 15 0 40 0 15 0 39 = k_q + 1099511627776 by rw [rUp_ne (by decide), rUp_at]]
          exact vR_up nv rfl rfl (by rw [rUp_ne (by decide), rUp_ne (by decide)]) (by rw [rUp_ne (by decide), rUp_ne (by decide)]) (by rw [rUp_grp (by decide), rUp_grp (by decide)]) (by rw [rUp_grp (by decide), rUp_grp (by decide)]) (by rw [rUp_grp (by decide), rUp_grp (by decide)])
        · rw [rUp_at]
        · rw [rUp_ne (by decide), rUp_ne (by decide), n6.2 35 (by decide), rUp_at]; exact w3
      · refine Or.inr ⟨_, _, ?_, ?_, qZ_up hR (by decide) (c_q := rUp (rUp (rUp (rUp c 2 0 9 (m 15 0 35)) 2 0 8 w) 2 0 6 e) 2 0 4 (m 15 0 35)) (m_q := rUp (rUp (rUp m 15 0 37 (m 15 0 35)) 15 0 38 (e - m 15 0 35)) 15 0 36 (m 15 0 35)) (fH_fld (fH_fld (fH_fld (fH_fld fH_refl (by decide)) (by decide)) (by decide)) (by decide)) (fH_fld (fH_fld (fH_fld fH_refl (by decide)) (by decide)) (by decide))⟩
        · unfold fn136
          simp only [zLet, List.getD_cons_zero, k1, fn105_eq, pBit_ge, w1]
          rw [if_pos hL, if_pos hs_q, if_neg (by decide)]
        · unfold fn20
          simp only [zLet, List.getD_cons_zero, k2, f6, hb, fn10_eq, fn9_eq, pBit_ge, hca, hs, w2]
          rw [if_pos hb1, if_neg (by decide), if_pos trivial, if_neg (by decide)]
    · have hs_q : ¬ pSm L = true := by rw [qL_sm k3]; exact hs
      have hd_q : pDg L = pDg (m 59 0 (m 15 0 35)) := qL_dg k3
      have h45 : (L = 45) = (m 59 0 (m 15 0 35) = 45) := qL_is k3 (by decide) (by decide)
      by_cases hd : pDg (m 59 0 (m 15 0 35)) = true ∨ m 59 0 (m 15 0 35) = 45
      · have hdc : ∀ (X Y : zR), (if pDg L = true then X else if L = 45 then X else Y) = X := by
          intro X Y
          rw [hd_q]
          by_cases h : pDg (m 59 0 (m 15 0 35)) = true
          · rw [if_pos h]
          · rw [if_neg h, if_pos (by rw [h45]; exact hd.resolve_left h)]
        have hdm : ∀ (X Y : zR), (if m 59 0 (m 15 0 35) = 45 then X else if pDg (m 59 0 (m 15 0 35)) = true then X else Y) = X := by
          intro X Y
          by_cases h : m 59 0 (m 15 0 35) = 45
          · rw [if_pos h]
          · rw [if_neg h, if_pos (hd.resolve_right h)]
        have hda : ∀ (X Y : zR), (if any = 0 then X else if m 59 0 (m 15 0 35) ≠ 95 then X else Y) = X := by
          intro X Y
          rcases hany with h | h
          · rw [if_pos h]
          · rw [if_pos h]
            split <;> rfl
        rcases num_two hT hA hn [] [] with ⟨e, v, w1, w2, w3, w4, w5⟩ | ⟨e, v, w1, w2⟩
        · refine Or.inl ⟨rUp (rUp c 2 0 6 e) 2 0 10 v, rUp (rUp (rUp m 15 0 35 e) 15 0 39 v) 15 0 40 0, v, ?_, ?_, ?_, fH_fld (fH_fld fH_refl (by decide)) (by decide), fH_fld (fH_fld (fH_fld fH_refl (by decide)) (by decide)) (by decide), ?_, rUp_at, ?_, gNc_fl (L := []) (fH_fld (fH_fld fH_refl (by decide : (6:Int) ∈ [6, 10])) (by decide)) (by decide) (by decide), gNm_fl (L := []) (fH_fld (fH_fld (fH_fld fH_refl (by decide : (35:Int) ∈ [35, 39, 40])) (by decide)) (by decide)) (by decide) (by decide) (by decide) (by decide) (by decide)⟩
          · unfold fn136
            have e10 : rUp (rUp c 2 0 6 e) 2 0 10 v 2 0 10 = v := rUp_at
            simp only [zLet, List.getD_cons_zero, k1, fn105_eq, fn107_eq, pBit_ge, w1, e10, a1]
            rw [if_pos hL, if_neg hs_q, hdc, if_pos (by decide)]
          · unfold fn20
            simp only [zLet, List.getD_cons_zero, k2, f6, hb, fn10_eq, fn9_eq, fn11_eq, pBit_ge, hca, w2]
            rw [if_pos hb1, if_neg (by decide), if_neg hs, hdm, hda, if_pos (by decide)]
          · refine qR_up hR (fH_fld (fH_fld fH_refl (by decide)) (by decide)) (fH_fld (fH_fld (fH_fld fH_refl (by decide)) (by decide)) (by decide)) ?_ ?_ ?_ ?_
            · rw [rUp_ne (by decide), rUp_at, rUp_ne (by decide), rUp_ne (by decide), rUp_at]
            · rw [rUp_ne (by decide), rUp_ne (by decide), rUp_at]; omega
            · rw [rUp_ne (by decide), rUp_ne (by decide), rUp_at]; omega
            · rw [rUp_ne (by decide), rUp_ne (by decide), rUp_at]; exact w4
          · exact Or.inl ⟨by rw [rUp_ne (by decide), rUp_at], w5⟩
          · rw [rUp_ne (by decide), rUp_ne (by decide), rUp_at]; exact w3
        · refine Or.inr ⟨_, _, ?_, ?_, qZ_up hR (by decide) (c_q := rUp (rUp (rUp c 2 0 6 e) 2 0 10 v) 2 0 4 (m 15 0 35)) (m_q := rUp m 15 0 36 (m 15 0 35)) (fH_fld (fH_fld (fH_fld fH_refl (by decide)) (by decide)) (by decide)) (fH_fld fH_refl (by decide))⟩
          · unfold fn136
            simp only [zLet, List.getD_cons_zero, k1, fn105_eq, fn107_eq, pBit_ge, w1]
            rw [if_pos hL, if_neg hs_q, hdc, if_neg (by decide)]
          · unfold fn20
            simp only [zLet, List.getD_cons_zero, k2, f6, hb, fn10_eq, fn9_eq, fn11_eq, pBit_ge, hca, w2]
            rw [if_pos hb1, if_neg (by decide), if_neg hs, hdm, hda, if_neg (by decide)]
      · have hd1 : ¬ pDg (m 59 0 (m 15 0 35)) = true := fun h => hd (Or.inl h)
        have hd2 : ¬ m 59 0 (m 15 0 35) = 45 := fun h => hd (Or.inr h)
        refine Or.inr ⟨_, _, ?_, ?_, qZ_up hR (by decide) (c_q := rUp c 2 0 4 (m 15 0 35)) (m_q := rUp m 15 0 36 (m 15 0 35)) (fH_fld fH_refl (by decide)) (fH_fld fH_refl (by decide))⟩
        · unfold fn136
          simp only [zLet, List.getD_cons_zero, k1, fn105_eq, fn107_eq, pBit_ge, fn109_eq, a1]
          rw [if_pos hL, if_neg hs_q, if_neg (by rw [hd_q]; exact hd1), if_neg (by rw [h45]; exact hd2)]
        · unfold fn20
          simp only [zLet, List.getD_cons_zero, k2, f6, hb, fn10_eq, fn9_eq, fn11_eq, pBit_ge, hca, h8]
          rw [if_pos hb1, if_neg (by decide), if_neg hs, if_neg hd2, if_neg hd1]
          rcases hany with h | h
          · rw [if_pos h]
          · rw [if_pos h]
            split <;> rfl
  · have hL : ¬ 0 ≤ L := fun h => hn (k4.1 h)
    have hb1 : ¬ (0 : Int) ≤ -m 15 0 35 + m 15 0 34 + -1 := by omega
    refine Or.inr ⟨_, _, ?_, ?_, qZ_up hR (by decide) (c_q := rUp c 2 0 4 (m 15 0 35)) (m_q := rUp m 15 0 36 (m 15 0 35)) (fH_fld fH_refl (by decide)) (fH_fld fH_refl (by decide))⟩
    · unfold fn136
      simp only [zLet, List.getD_cons_zero, k1, fn105_eq, fn107_eq, fn109_eq, a1]
      rw [if_neg hL]
    · unfold fn20
      simp only [zLet, List.getD_cons_zero, k2, f6, fn10_eq, fn9_eq, fn11_eq, h8]
      rw [if_neg hb1]
