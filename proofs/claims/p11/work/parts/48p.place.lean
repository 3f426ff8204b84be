/-! ===== the HEAD with its PLACE, by both ===== -/
/-- both are BROKEN, at the same PLACE -/
noncomputable def qZp (c0 m0 c m : rHp) : Prop := qZ c0 m0 c m ∧ c 2 0 4 = m 15 0 36
theorem put45 {c : rHp} {h kd pl sl v i : Int} (h5 : c 10 h 5 = i) (hi : i < 4) : ∀ k, (fn104 [h, kd, pl, sl, v] c).2.2 45 h k = if k = i then pl else c 45 h k := by
  rw [fn104_eq (by omega), h5]
  intro k
  rw [rUp_grp (by decide), rUp_grp (by decide), rUp_grp (by decide)]
  by_cases e : k = i
  · rw [if_pos e, e, rUp_at]
  · rw [if_neg e, rUp_ne (fun y => e y.2.2), rUp_grp (by decide)]
theorem const_twp {c0 m0 c m : rHp} (hR : qR 0 c0 m0 c m) (hlim : 2 * c0 1000 0 0 + m0 15 0 34 ≤ 10239) (hsk : pSk (m 59 0) (m 15 0 34) (m 15 0 35) = m 15 0 35) {any g : Int} (hca : pCa (pB (m 59 0) (m 15 0 34) (m 15 0 35)) = false) (hany : any = 0 ∨ pB (m 59 0) (m 15 0 34) (m 15 0 35) ≠ 95) :
    (∃ c1 m_q v, fn136 [g] c = (0, 1, (fn104 [g, 0, m 15 0 35, 0, v] c1).2.2) ∧ fn20 [any] m = (0, 1, m_q) ∧ qR 1 c0 m0 c1 m_q ∧ fH 2 [3, 26] [6, 8, 9, 10] c c1 ∧ fH 15 [61, 62, 63] [8, 9, 35, 37, 38, 39, 40] m m_q ∧ vR c1 m_q v (m_q 15 0 39) ∧ m_q 15 0 40 = 0 ∧ m 15 0 35 < m_q 15 0 35 ∧ gNc c c1 ∧ gNm m m_q) ∨
    (∃ c_q m_q, fn136 [g] c = (0, 0, c_q) ∧ fn20 [any] m = (0, 0, m_q) ∧ qZp c0 m0 c_q m_q) := by
  have hT := hR.1
  have hA := hR.2.1
  obtain ⟨L, k1, k2, k3, k4⟩ := look_at hT hA hsk [] []
  have a1 := hA.1
  have a2 := hA.2.1
  have a3 := hA.2.2
  have f6 : fn6 [m 15 0 35] m = (0, pB (m 59 0) (m 15 0 34) (m 15 0 35), m) := fn6_eq _ _
  have h8 : fn8 [m 15 0 35] m = (0, 0, rUp m 15 0 36 (m 15 0 35)) := fn8_eq a3
  by_cases hn : m 15 0 35 < m 15 0 34
  · have hL : 0 ≤ L := k4.2 hn
    have hb : pB (m 59 0) (m 15 0 34) (m 15 0 35) = m 59 0 (m 15 0 35) := pB_in hn
    have hb1 : (0 : Int) ≤ -m 15 0 35 + m 15 0 34 + -1 := by omega
    rw [hb] at hca hany k3
    by_cases hs : pSm (m 59 0 (m 15 0 35)) = true
    · have hs_q : pSm L = true := by rw [qL_sm k3]; exact hs
      rcases word_two hT hA hn hs [] [] with ⟨e, w, w1, w2, w3, w4, w5⟩ | ⟨e, w, w1, w2⟩
      · have hR2 : qR 0 c0 m0 (rUp (rUp (rUp c 2 0 9 (m 15 0 35)) 2 0 8 w) 2 0 6 e) (rUp (rUp (rUp m 15 0 37 (m 15 0 35)) 15 0 38 (e - m 15 0 35)) 15 0 35 e) := by
          refine qR_up hR (fH_fld (fH_fld (fH_fld fH_refl (by decide)) (by decide)) (by decide)) (fH_fld (fH_fld (fH_fld fH_refl (by decide)) (by decide)) (by decide)) ?_ ?_ ?_ ?_
          · rw [rUp_at, rUp_at]
          · rw [rUp_at]; omega
          · rw [rUp_at]; omega
          · rw [rUp_at]; exact w4
        have hN : 2 * c 3 0 1 ≤ 2 * c0 1000 0 0 + m 15 0 35 + 0 := hR.2.2.2.2.2.2.2.2.2.1
        obtain ⟨k, k_q, c_q, m_q, n1, n2, n3, nv, n4, n5, n6, n7, n8⟩ := qR_name hR2 hlim (w := w)
          (by rw [rUp_grp (by decide), rUp_grp (by decide), rUp_grp (by decide), rUp_ne (by decide), rUp_ne (by decide), rUp_ne (by decide), rUp_ne (by decide), rUp_ne (by decide), rUp_at, rUp_ne (by decide), rUp_at]; exact w5)
          (by rw [rUp_at, rUp_grp (by decide), rUp_grp (by decide), rUp_grp (by decide)]; omega) []
        refine Or.inl ⟨c_q, rUp (rUp m_q 15 0 39 (k_q + 1099511627776)) 15 0 40 0, k + 1099511627776, ?_, ?_, ?_, ?_, ?_, ?_, ?_, ?_, gNc_trans (gNc_fl (L := []) (fH_fld (fH_fld (fH_fld fH_refl (by decide : (9:Int) ∈ [6, 8, 9])) (by decide)) (by decide)) (by decide) (by decide)) n7, gNm_trans (gNm_trans (gNm_fl (L := []) (fH_fld (fH_fld (fH_fld fH_refl (by decide : (37:Int) ∈ [35, 37, 38])) (by decide)) (by decide)) (by decide) (by decide) (by decide) (by decide) (by decide)) n8) (gNm_fl (L := []) (fH_fld (fH_fld fH_refl (by decide : (39:Int) ∈ [39, 40])) (by decide)) (by decide) (by decide) (by decide) (by decide) (by decide))⟩
        · unfold fn136
          have e8 : rUp (rUp (rUp c 2 0 9 (m 15 0 35)) 2 0 8 w) 2 0 6 e 2 0 8 = w := by rw [rUp_ne (by decide), rUp_at]
          simp only [zLet, List.getD_cons_zero, k1, fn105_eq, pBit_ge, w1, e8, a1]
          rw [if_pos hL, if_pos hs_q, if_pos (by decide)]
          unfold fn135
          simp only [zLet, List.getD_cons_zero, List.getD_cons_succ, n1]
          rw [if_pos (show k ≥ 0 from n3)]
          exact if_pos (Int.le_refl 1)
        · unfold fn20
          simp only [zLet, List.getD_cons_zero, k2, f6, hb, fn10_eq, fn9_eq, pBit_ge, hca, hs, w2, n2]
          rw [if_pos hb1, if_neg (by decide), if_pos trivial, if_pos (by decide)]
        · refine qR_up n4 fH_refl (fH_fld (fH_fld fH_refl (by decide)) (by decide)) ?_ ?_ ?_ ?_
          · rw [rUp_ne (by decide), rUp_ne (by decide)]; exact n4.2.1.1
          · rw [rUp_ne (by decide), rUp_ne (by decide)]; omega
          · rw [rUp_ne (by decide), rUp_ne (by decide)]; exact n4.2.1.2.1
          · rw [rUp_ne (by decide), rUp_ne (by decide)]; exact n4.2.1.2.2
        · refine ⟨fun G g1 g2 => ?_, fun j hj => ?_⟩
          · rw [n5 G (fun q => g1 (by rw [q]; decide)) (fun q => g1 (by rw [q]; decide)), rUp_grp g2, rUp_grp g2, rUp_grp g2]
          · simp only [List.mem_cons, List.not_mem_nil, or_false, not_or] at hj
            rw [n5 2 (by decide) (by decide), rUp_ne (fun q => hj.1 q.2.2), rUp_ne (fun q => hj.2.1 q.2.2), rUp_ne (fun q => hj.2.2.1 q.2.2)]
        · exact fH_fld (fH_fld (fH_trans (fH_fld (fH_fld (fH_fld fH_refl (by decide)) (by decide)) (by decide)) (fH_sub n6 (by decide) (by decide))) (by decide)) (by decide)
        · rw [show rUp (rUp m_q 15 0 39 (k_q + 1099511627776)) 15 0 40 0 15 0 39 = k_q + 1099511627776 by rw [rUp_ne (by decide), rUp_at]]
          exact vR_up nv rfl rfl (by rw [rUp_ne (by decide), rUp_ne (by decide)]) (by rw [rUp_ne (by decide), rUp_ne (by decide)]) (by rw [rUp_grp (by decide), rUp_grp (by decide)]) (by rw [rUp_grp (by decide), rUp_grp (by decide)]) (by rw [rUp_grp (by decide), rUp_grp (by decide)])
        · rw [rUp_at]
        · rw [rUp_ne (by decide), rUp_ne (by decide), n6.2 35 (by decide), rUp_at]; exact w3
      · refine Or.inr ⟨_, _, ?_, ?_, ⟨qZ_up hR (by decide) (c_q := rUp (rUp (rUp (rUp c 2 0 9 (m 15 0 35)) 2 0 8 w) 2 0 6 e) 2 0 4 (m 15 0 35)) (m_q := rUp (rUp (rUp m 15 0 37 (m 15 0 35)) 15 0 38 (e - m 15 0 35)) 15 0 36 (m 15 0 35)) (fH_fld (fH_fld (fH_fld (fH_fld fH_refl (by decide)) (by decide)) (by decide)) (by decide)) (fH_fld (fH_fld (fH_fld fH_refl (by decide)) (by decide)) (by decide)), by first | rw [rUp_at, rUp_at] | (dsimp only; rw [rUp_at, rUp_at])⟩⟩
        · unfold fn136
          simp only [zLet, List.getD_cons_zero, k1, fn105_eq, pBit_ge, w1]
          rw [if_pos hL, if_pos hs_q, if_neg (by decide)]
        · unfold fn20
          simp only [zLet, List.getD_cons_zero, k2, f6, hb, fn10_eq, fn9_eq, pBit_ge, hca, hs, w2]
          rw [if_pos hb1, if_neg (by decide), if_pos trivial, if_neg (by decide)]
    · have hs_q : ¬ pSm L = true := by rw [qL_sm k3]; exact hs
      have hd_q : pDg L = pDg (m 59 0 (m 15 0 35)) := qL_dg k3
      have h45 : (L = 45) = (m 59 0 (m 15 0 35) = 45) := qL_is k3 (by decide) (by decide)
      by_cases hd : pDg (m 59 0 (m 15 0 35)) = true ∨ m 59 0 (m 15 0 35) = 45
      · have hdc : ∀ (X Y : zR), (if pDg L = true then X else if L = 45 then X else Y) = X := by
          intro X Y
          rw [hd_q]
          by_cases h : pDg (m 59 0 (m 15 0 35)) = true
          · rw [if_pos h]
          · rw [if_neg h, if_pos (by rw [h45]; exact hd.resolve_left h)]
        have hdm : ∀ (X Y : zR), (if m 59 0 (m 15 0 35) = 45 then X else if pDg (m 59 0 (m 15 0 35)) = true then X else Y) = X := by
          intro X Y
          by_cases h : m 59 0 (m 15 0 35) = 45
          · rw [if_pos h]
          · rw [if_neg h, if_pos (hd.resolve_right h)]
        have hda : ∀ (X Y : zR), (if any = 0 then X else if m 59 0 (m 15 0 35) ≠ 95 then X else Y) = X := by
          intro X Y
          rcases hany with h | h
          · rw [if_pos h]
          · rw [if_pos h]
            split <;> rfl
        rcases num_two hT hA hn [] [] with ⟨e, v, w1, w2, w3, w4, w5⟩ | ⟨e, v, w1, w2⟩
        · refine Or.inl ⟨rUp (rUp c 2 0 6 e) 2 0 10 v, rUp (rUp (rUp m 15 0 35 e) 15 0 39 v) 15 0 40 0, v, ?_, ?_, ?_, fH_fld (fH_fld fH_refl (by decide)) (by decide), fH_fld (fH_fld (fH_fld fH_refl (by decide)) (by decide)) (by decide), ?_, rUp_at, ?_, gNc_fl (L := []) (fH_fld (fH_fld fH_refl (by decide : (6:Int) ∈ [6, 10])) (by decide)) (by decide) (by decide), gNm_fl (L := []) (fH_fld (fH_fld (fH_fld fH_refl (by decide : (35:Int) ∈ [35, 39, 40])) (by decide)) (by decide)) (by decide) (by decide) (by decide) (by decide) (by decide)⟩
          · unfold fn136
            have e10 : rUp (rUp c 2 0 6 e) 2 0 10 v 2 0 10 = v := rUp_at
            simp only [zLet, List.getD_cons_zero, k1, fn105_eq, fn107_eq, pBit_ge, w1, e10, a1]
            rw [if_pos hL, if_neg hs_q, hdc, if_pos (by decide)]
          · unfold fn20
            simp only [zLet, List.getD_cons_zero, k2, f6, hb, fn10_eq, fn9_eq, fn11_eq, pBit_ge, hca, w2]
            rw [if_pos hb1, if_neg (by decide), if_neg hs, hdm, hda, if_pos (by decide)]
          · refine qR_up hR (fH_fld (fH_fld fH_refl (by decide)) (by decide)) (fH_fld (fH_fld (fH_fld fH_refl (by decide)) (by decide)) (by decide)) ?_ ?_ ?_ ?_
            · rw [rUp_ne (by decide), rUp_at, rUp_ne (by decide), rUp_ne (by decide), rUp_at]
            · rw [rUp_ne (by decide), rUp_ne (by decide), rUp_at]; omega
            · rw [rUp_ne (by decide), rUp_ne (by decide), rUp_at]; omega
            · rw [rUp_ne (by decide), rUp_ne (by decide), rUp_at]; exact w4
          · exact Or.inl ⟨by rw [rUp_ne (by decide), rUp_at], w5⟩
          · rw [rUp_ne (by decide), rUp_ne (by decide), rUp_at]; exact w3
        · refine Or.inr ⟨_, _, ?_, ?_, ⟨qZ_up hR (by decide) (c_q := rUp (rUp (rUp c 2 0 6 e) 2 0 10 v) 2 0 4 (m 15 0 35)) (m_q := rUp m 15 0 36 (m 15 0 35)) (fH_fld (fH_fld (fH_fld fH_refl (by decide)) (by decide)) (by decide)) (fH_fld fH_refl (by decide)), by first | rw [rUp_at, rUp_at] | (dsimp only; rw [rUp_at, rUp_at])⟩⟩
          · unfold fn136
            simp only [zLet, List.getD_cons_zero, k1, fn105_eq, fn107_eq, pBit_ge, w1]
            rw [if_pos hL, if_neg hs_q, hdc, if_neg (by decide)]
          · unfold fn20
            simp only [zLet, List.getD_cons_zero, k2, f6, hb, fn10_eq, fn9_eq, fn11_eq, pBit_ge, hca, w2]
            rw [if_pos hb1, if_neg (by decide), if_neg hs, hdm, hda, if_neg (by decide)]
      · have hd1 : ¬ pDg (m 59 0 (m 15 0 35)) = true := fun h => hd (Or.inl h)
        have hd2 : ¬ m 59 0 (m 15 0 35) = 45 := fun h => hd (Or.inr h)
        refine Or.inr ⟨_, _, ?_, ?_, ⟨qZ_up hR (by decide) (c_q := rUp c 2 0 4 (m 15 0 35)) (m_q := rUp m 15 0 36 (m 15 0 35)) (fH_fld fH_refl (by decide)) (fH_fld fH_refl (by decide)), by first | rw [rUp_at, rUp_at] | (dsimp only; rw [rUp_at, rUp_at])⟩⟩
        · unfold fn136
          simp only [zLet, List.getD_cons_zero, k1, fn105_eq, fn107_eq, pBit_ge, fn109_eq, a1]
          rw [if_pos hL, if_neg hs_q, if_neg (by rw [hd_q]; exact hd1), if_neg (by rw [h45]; exact hd2)]
        · unfold fn20
          simp only [zLet, List.getD_cons_zero, k2, f6, hb, fn10_eq, fn9_eq, fn11_eq, pBit_ge, hca, h8]
          rw [if_pos hb1, if_neg (by decide), if_neg hs, if_neg hd2, if_neg hd1]
          rcases hany with h | h
          · rw [if_pos h]
          · rw [if_pos h]
            split <;> rfl
  · have hL : ¬ 0 ≤ L := fun h => hn (k4.1 h)
    have hb1 : ¬ (0 : Int) ≤ -m 15 0 35 + m 15 0 34 + -1 := by omega
    refine Or.inr ⟨_, _, ?_, ?_, ⟨qZ_up hR (by decide) (c_q := rUp c 2 0 4 (m 15 0 35)) (m_q := rUp m 15 0 36 (m 15 0 35)) (fH_fld fH_refl (by decide)) (fH_fld fH_refl (by decide)), by first | rw [rUp_at, rUp_at] | (dsimp only; rw [rUp_at, rUp_at])⟩⟩
    · unfold fn136
      simp only [zLet, List.getD_cons_zero, k1, fn105_eq, fn107_eq, fn109_eq, a1]
      rw [if_neg hL]
    · unfold fn20
      simp only [zLet, List.getD_cons_zero, k2, f6, fn10_eq, fn9_eq, fn11_eq, h8]
      rw [if_neg hb1]
theorem var_Rp {c0 m0 c m : rHp} (hR : qR 0 c0 m0 c m) (hn : m 15 0 35 < m 15 0 34) (hca : pCa (m 59 0 (m 15 0 35)) = true) (x y : List Int) :
    (∃ w c2 v c3 m_q, fn115 x c = (0, 1, c2) ∧ c2 2 0 8 = w ∧ c2 2 0 9 = m 15 0 35 ∧ fH 2 [] [6, 8, 9] c c2 ∧ fn120 [w] c2 = (0, v, c3) ∧ fn17 y m = (0, 1, m_q) ∧ 0 ≤ v ∧ v < 8 ∧ v < m_q 74 0 (m_q 15 0 44) ∧
      (m_q 74 0 (m_q 15 0 44) = m 74 0 (m 15 0 44) ∨ m_q 74 0 (m_q 15 0 44) = m 74 0 (m 15 0 44) + 1 ∧ v = m 74 0 (m 15 0 44)) ∧ qR 0 c0 m0 c3 m_q ∧ m_q 15 0 39 = v ∧ m_q 15 0 40 = 1 ∧ fH 2 [22, 23] [6, 8, 9, 13] c c3 ∧ fH 15 [74, 82, 83, 84] [35, 37, 38, 39, 40] m m_q ∧ m 15 0 35 < m_q 15 0 35 ∧ c3 2 0 9 = m 15 0 35 ∧ c3 2 0 8 = w) ∨
    (∃ c2 m_q, fn115 x c = (0, 0, c2) ∧ fn17 y m = (0, 0, m_q) ∧ qZp c0 m0 c2 m_q) ∨
    (∃ w c2 m_q, fn115 x c = (0, 1, c2) ∧ c2 2 0 8 = w ∧ c2 2 0 9 = m 15 0 35 ∧ fH 2 [] [6, 8, 9] c c2 ∧ fn120 [w] c2 = (0, -1, c2) ∧ fn17 y m = (0, 0, m_q) ∧ qZ c0 m0 c2 m_q ∧ m_q 15 0 36 = m 15 0 35) := by
  have hT := hR.1
  have hA := hR.2.1
  have hA2 := hA.2.1
  rcases word_two hT hA hn hca x [] with ⟨e, w, w1, w2, w3, w4, w5⟩ | ⟨e, w, w1, w2⟩
  · have fc : fH 2 [] [6, 8, 9] c (rUp (rUp (rUp c 2 0 9 (m 15 0 35)) 2 0 8 w) 2 0 6 e) := fH_fld (fH_fld (fH_fld fH_refl (by decide)) (by decide)) (by decide)
    have fm : fH 15 [] [35, 37, 38] m (rUp (rUp (rUp m 15 0 37 (m 15 0 35)) 15 0 38 (e - m 15 0 35)) 15 0 35 e) := fH_fld (fH_fld (fH_fld fH_refl (by decide)) (by decide)) (by decide)
    have hR2 : qR 0 c0 m0 (rUp (rUp (rUp c 2 0 9 (m 15 0 35)) 2 0 8 w) 2 0 6 e) (rUp (rUp (rUp m 15 0 37 (m 15 0 35)) 15 0 38 (e - m 15 0 35)) 15 0 35 e) := by
      refine qR_up hR (fH_sub fc (by decide) (by decide)) (fH_sub fm (by decide) (by decide)) ?_ ?_ ?_ ?_
      · rw [rUp_at, rUp_at]
      · rw [rUp_at]; omega
      · rw [rUp_at]; omega
      · rw [rUp_at]; exact w4
    have x8 : rUp (rUp (rUp c 2 0 9 (m 15 0 35)) 2 0 8 w) 2 0 6 e 2 0 8 = w := by rw [rUp_ne (by decide), rUp_at]
    have x9 : rUp (rUp (rUp c 2 0 9 (m 15 0 35)) 2 0 8 w) 2 0 6 e 2 0 9 = m 15 0 35 := by rw [rUp_ne (by decide), rUp_ne (by decide), rUp_at]
    have y35 : rUp (rUp (rUp m 15 0 37 (m 15 0 35)) 15 0 38 (e - m 15 0 35)) 15 0 35 e 15 0 35 = e := rUp_at
    have y37 : rUp (rUp (rUp m 15 0 37 (m 15 0 35)) 15 0 38 (e - m 15 0 35)) 15 0 35 e 15 0 37 = m 15 0 35 := by rw [rUp_ne (by decide), rUp_ne (by decide), rUp_at]
    have y38 : rUp (rUp (rUp m 15 0 37 (m 15 0 35)) 15 0 38 (e - m 15 0 35)) 15 0 35 e 15 0 38 = e - m 15 0 35 := by rw [rUp_ne (by decide), rUp_at]
    generalize rUp (rUp (rUp c 2 0 9 (m 15 0 35)) 2 0 8 w) 2 0 6 e = c2 at *
    generalize rUp (rUp (rUp m 15 0 37 (m 15 0 35)) 15 0 38 (e - m 15 0 35)) 15 0 35 e = m2 at *
    have g34 : m2 15 0 34 = m 15 0 34 := fm.2 34 (by decide)
    have g59 : m2 59 = m 59 := fm.1 59 (by decide) (by decide)
    have g74 : m2 74 = m 74 := fm.1 74 (by decide) (by decide)
    have g44 : m2 15 0 44 = m 15 0 44 := fm.2 44 (by decide)
    obtain ⟨a1, a2, a3, a4, a5, a6, a7, a8, a9, a10⟩ := hR2
    rcases var_two w2 y37 g74 (fm.1 84 (by decide) (by decide)) g44 (by omega) a5 (w := w) (by rw [g59, g34, y37, y38]; exact w5) y with ⟨v, c3, m_q, h1, h2, h3, h4, h5, h6, h7, h8, h9, h10, h11⟩ | ⟨h1, h2⟩
    · have k : ∀ G, G ∉ [74, 82, 83, 84] → G ≠ 15 → m_q G = m2 G := h11.1
      have e34 : m_q 15 0 34 = m2 15 0 34 := h11.2 34 (by decide)
      have e35 : m_q 15 0 35 = m2 15 0 35 := h11.2 35 (by decide)
      have h11_q : fH 15 [74, 82, 83, 84] [39, 40] m2 m_q := h11
      have h9_q : fH 2 [22, 23] [13] c2 c3 := ⟨fun G g1 g2 => h9 G (fun q => g1 (by rw [q]; decide)) (fun q => g1 (by rw [q]; decide)) g2, fun j hj => h10 j (fun q => hj (by rw [q]; decide))⟩
      have hv8 := h5.2.2.1
      refine Or.inl ⟨w, c2, v, c3, m_q, w1, x8, x9, fc, h1, h2, h3, by omega, h4, h6.imp (fun q => q.1) id, ⟨?_, ?_, ?_, ?_, h5, ?_, ?_, ?_, ?_, ?_⟩, h7, h8, ?_, ?_, ?_, ?_, ?_⟩
      · exact qT_up a1 (h10 3 (by decide)) (h9 21 (by decide) (by decide) (by decide)) e34 (k 59 (by decide) (by decide))
      · refine ⟨?_, ?_, ?_⟩
        · rw [h10 6 (by decide), e35]; exact a2.1
        · rw [e35]; exact a2.2.1
        · rw [e35, e34]; exact a2.2.2
      · exact qN_up a3 (h9 3 (by decide) (by decide) (by decide)) (h9 26 (by decide) (by decide) (by decide)) (h11.2 8 (by decide)) (h11.2 9 (by decide)) (k 61 (by decide) (by decide)) (k 62 (by decide) (by decide)) (k 63 (by decide) (by decide))
      · exact qP_up a4 (by rw [h9 1 (by decide) (by decide) (by decide)]) (h9 16 (by decide) (by decide) (by decide)) (h9 17 (by decide) (by decide) (by decide)) (h11.2 14 (by decide)) (k 64 (by decide) (by decide)) (k 65 (by decide) (by decide)) (k 66 (by decide) (by decide))
      · exact fH_trans a6 (fH_sub h9_q (by decide) (by decide))
      · intro j hj
        rw [h9 1 (by decide) (by decide) (by decide)]
        exact a7 j hj
      · exact fH_trans a8 (fH_sub h11_q (by decide) (by decide))
      · refine ⟨?_, fun p hp => ?_⟩
        · rw [h11.2 14 (by decide)]; exact a9.1
        · rw [k 66 (by decide) (by decide)]; exact a9.2 p hp
      · rw [h9 3 (by decide) (by decide) (by decide), e35]
        exact ⟨a10.1, a10.2.1, pU_up a10.2.2 (h11.2 14 (by decide)) (h9 1 (by decide) (by decide) (by decide)) (h9 16 (by decide) (by decide) (by decide)) (h9 17 (by decide) (by decide) (by decide)) (k 64 (by decide) (by decide)) (k 65 (by decide) (by decide)) (k 66 (by decide) (by decide))⟩
      · exact fH_trans (fH_sub fc (by decide) (by decide)) (fH_sub h9_q (by decide) (by decide))
      · exact fH_trans (fH_sub fm (by decide) (by decide)) (fH_sub h11_q (by decide) (by decide))
      · rw [e35, y35]; exact w3
      · rw [h10 9 (by decide)]; exact x9
      · rw [h10 8 (by decide)]; exact x8
    · exact Or.inr (Or.inr ⟨w, c2, _, w1, x8, x9, fc, h1, h2, qZ_up ⟨a1, a2, a3, a4, a5, a6, a7, a8, a9, a10⟩ (by decide) fH_refl (fH_fld fH_refl (by decide)), by rw [rUp_at]⟩)
  · refine Or.inr (Or.inl ⟨_, _, w1, fn17_no w2 y, ?_⟩)
    exact ⟨qZ_up hR (by decide) (fH_fld (fH_fld (fH_fld (fH_fld fH_refl (by decide)) (by decide)) (by decide)) (by decide)) (fH_fld (fH_fld (fH_fld fH_refl (by decide)) (by decide)) (by decide)), by first | rw [rUp_at, rUp_at] | (dsimp only; rw [rUp_at, rUp_at])⟩
noncomputable def qHop (c0 m0 c m c1 m3 : rHp) (h i : Int) (r s : zR) : Prop := (∃ H_q c_q m_q, r = (0, 1, c_q) ∧ s = (0, 1, m_q) ∧ qR 1 c0 m0 c_q m_q ∧ qHs H_q c_q m_q h (i + 1) ∧ fH 2 lP jP c c_q ∧ fH 15 lQ jQ m m_q ∧ gNc c c_q ∧ gNm m m_q ∧ c_q 10 h 6 = c 10 h 6 ∧ (∀ k, k ≠ i → c_q 46 h k = c 46 h k) ∧ c_q 45 h i = m3 15 0 35 ∧ (∀ k, k ≠ i → c_q 45 h k = c1 45 h k) ∧ m_q 86 = m3 86) ∨ (∃ c_q m_q, r = (0, 0, c_q) ∧ s = (0, 0, m_q) ∧ qZp c0 m0 c_q m_q)
noncomputable def qHoq (c0 m0 c m : rHp) (h i : Int) (r s : zR) : Prop := (∃ H_q c_q m_q, r = (0, 1, c_q) ∧ s = (0, 1, m_q) ∧ qR 1 c0 m0 c_q m_q ∧ qHs H_q c_q m_q h (i + 1) ∧ fH 2 lP jP c c_q ∧ fH 15 lQ jQ m m_q ∧ gNc c c_q ∧ gNm m m_q ∧ c_q 10 h 6 = c 10 h 6 ∧ (∀ k, k ≠ i → c_q 46 h k = c 46 h k) ∧ (c_q 45 h i = m_q 86 0 i ∧ m_q 86 0 i ≤ m 15 0 34) ∧ (∀ k, k ≠ i → c_q 45 h k = c 45 h k) ∧ ∀ k, k ≠ i → m_q 86 0 k = m 86 0 k) ∨ (∃ c_q m_q, r = (0, 0, c_q) ∧ s = (0, 0, m_q) ∧ qZp c0 m0 c_q m_q)
theorem hcon_twp {H : Int → Prop} {c0 m0 c m c1 m3 : rHp} {h i : Int} (hR : qR 0 c0 m0 c1 m3) (hs : qHs H c1 m3 h i) (hi : 0 ≤ i) (hi4 : i < 4) (hlim : 2 * c0 1000 0 0 + m0 15 0 34 ≤ 10239) (hsk : pSk (m3 59 0) (m3 15 0 34) (m3 15 0 35) = m3 15 0 35) (hca : pCa (pB (m3 59 0) (m3 15 0 34) (m3 15 0 35)) = false) (fc : fH 2 [] [6] c c1) (fm : fH 15 [86] [35] m m3) :
    qHop c0 m0 c m c1 m3 h i (fn136 [h] c1) (qHb i (fn20 [0] m3)) := by
  rcases const_twp (any := 0) (g := h) hR hlim hsk hca (Or.inl rfl) with ⟨c3, m_q, v, h1, h2, h3, h4, h5, h6, h7, h8, h9, h10⟩ | ⟨c_q, m_q, h1, h2, h3⟩
  · have z5 : c3 10 h 5 = i := by rw [h4.1 10 (by decide) (by decide)]; exact hs.2.2.1
    obtain ⟨p1, p2, p3, p4⟩ := put_at (kd := 0) (pl := m3 15 0 35) (sl := 0) (v := v) z5 hi4
    have p45 := put45 (kd := 0) (pl := m3 15 0 35) (sl := 0) (v := v) z5 hi4
    have fx := fn104_fr (g := h) (k := 0) (p := m3 15 0 35) (s := 0) (v := v) (c := c3)
    generalize (fn104 [h, 0, m3 15 0 35, 0, v] c3).2.2 = c_q at *
    have fS := hs
    obtain ⟨s1, s2, s3, s4, s5, s6, s7, s8, s9, s10⟩ := fS
    have e10 : ∀ j, c3 10 h j = c1 10 h j := fun j => by rw [h4.1 10 (by decide) (by decide)]
    have c12 : c_q 10 h 12 = c1 10 h 12 := by rw [p4, if_neg (by decide), e10]
    have c14 : c_q 10 h 14 = c1 10 h 14 := by rw [p4, if_neg (by decide), e10]
    have c13 : c_q 10 h 13 = c1 10 h 13 := by rw [p4, if_neg (by decide), e10]
    have gc : gNc c1 c_q := gNc_trans h9 (gNc_fl fx (by decide) (by decide))
    have hB_q : qB H c_q m_q := qB_up s1 ((fx.2 5 (by decide)).trans (h4.2 5 (by decide))) ((fx.2 16 (by decide)).trans (h4.2 16 (by decide))) ((fx.1 25 (by decide) (by decide)).trans (h4.1 25 (by decide) (by decide))) h5 (by decide) (by decide) (by omega)
    have hadd := qHs_add (H_q := H) (c_q := c_q) (mF := m_q) (kd := 0) (v := m_q 15 0 39) hs hi hB_q (by rw [p4, if_neg (by decide), e10]; exact s2) (by rw [p4, if_pos rfl]) (by rw [c12, s5, h5.2 49 (by decide)]) (by rw [c12]; exact s6)
      (fun k hk => ⟨by rw [p1, if_neg hk, h4.1 43 (by decide) (by decide)], by rw [p2, if_neg hk, h4.1 44 (by decide) (by decide)], by rw [p3, if_neg hk, h4.1 46 (by decide) (by decide)]⟩) gc h10 (h5.1 85 (by decide) (by decide)) (h5.1 87 (by decide) (by decide)) (by rw [h5.1 74 (by decide) (by decide), h5.2 44 (by decide)]; exact Int.le_refl _)
      (Or.inl ⟨by rw [p1, if_pos rfl], rfl, by rw [p3, if_pos rfl]; exact vR_up h6 (fx.1 3 (by decide) (by decide)) (fx.1 26 (by decide) (by decide)) rfl rfl rfl rfl rfl⟩) (by rw [c12, c14]; exact s8) (Or.inr ⟨by rw [p1, if_pos rfl]; decide, c12⟩) (Or.inl ⟨c12, c13, c14, h5.2 50 (by decide), by rw [p1, if_pos rfl]; decide⟩)
    have fF : fH 15 [85, 87] [48] m_q (rUp (rUp (rUp m_q 85 0 i 0) 87 0 i (m_q 15 0 39)) 15 0 48 (i + 1)) := fH_fld (fH_grp (fH_grp fH_refl (by decide) (by decide)) (by decide) (by decide)) (by decide)
    refine Or.inl ⟨H, c_q, rUp (rUp (rUp m_q 85 0 i 0) 87 0 i (m_q 15 0 39)) 15 0 48 (i + 1), h1, ?_, ?_, hadd, ?_, ?_, ?_, ?_, by rw [p4, if_neg (by decide), e10, fc.1 10 (by decide) (by decide)], fun k hk => by rw [p3, if_neg hk, h4.1 46 (by decide) (by decide), fc.1 46 (by decide) (by decide)], by rw [p45, if_pos rfl], fun k hk => by rw [p45, if_neg hk, h4.1 45 (by decide) (by decide)], by rw [fF.1 86 (by decide) (by decide), h5.1 86 (by decide) (by decide)]⟩
    · unfold qHb
      rw [h2]
      simp only [h7]
      exact if_pos (show (1 : Int) ≤ 1 by decide)
    · refine qR_up h3 (fH_sub fx (by decide) (by decide)) (fH_sub fF (by decide) (by decide)) ?_ ?_ ?_ ?_
      · rw [fx.2 6 (by decide), fF.2 35 (by decide)]; exact h3.2.1.1
      · rw [fF.2 35 (by decide)]; exact Int.le_refl _
      · rw [fF.2 35 (by decide)]; exact h3.2.1.2.1
      · rw [fF.2 35 (by decide)]; exact h3.2.1.2.2
    · exact fH_trans (fH_trans (fH_sub fc (by decide) (by decide)) (fH_sub h4 (by decide) (by decide))) (fH_sub fx (by decide) (by decide))
    · exact fH_trans (fH_trans (fH_sub fm (by decide) (by decide)) (fH_sub h5 (by decide) (by decide))) (fH_sub fF (by decide) (by decide))
    · exact gNc_trans (gNc_fl fc (by decide) (by decide)) gc
    · exact gNm_trans (gNm_trans (gNm_fl fm (by decide) (by decide) (by decide) (by decide) (by decide)) h10) (gNm_fl fF (by decide) (by decide) (by decide) (by decide) (by decide))
  · refine Or.inr ⟨c_q, m_q, h1, ?_, h3⟩
    unfold qHb
    rw [h2]
    exact if_neg (show ¬ (1 : Int) ≤ 0 by decide)
theorem hvar_twp {H : Int → Prop} {c0 m0 c m c1 m3 : rHp} {h i : Int} (hR : qR 0 c0 m0 c1 m3) (hs : qHs H c1 m3 h i) (hi : 0 ≤ i) (hi4 : i < 4) (h00 : 0 ≤ c0 1000 0 0) (hlim : 2 * c0 1000 0 0 + m0 15 0 34 ≤ 10239) (hsk : pSk (m3 59 0) (m3 15 0 34) (m3 15 0 35) = m3 15 0 35) (hn : m3 15 0 35 < m3 15 0 34) (hca : pCa (m3 59 0 (m3 15 0 35)) = true) (fc : fH 2 [] [6] c c1) (fm : fH 15 [86] [35] m m3) :
    qHop c0 m0 c m c1 m3 h i (if 1 ≤ (fn115 [] c1).2.1 then (if 1 ≤ (fn137 [h] (fn115 [] c1).2.2).2.1 then (0, 1, (fn137 [h] (fn115 [] c1).2.2).2.2) else (0, 0, (fn137 [h] (fn115 [] c1).2.2).2.2)) else (0, 0, (fn115 [] c1).2.2)) (qHb i (fn20 [0] m3)) := by
  have e34 : m3 15 0 34 = m0 15 0 34 := hR.2.2.2.2.2.2.2.1.2 34 (by decide)
  have a0 := hR.2.1.2.1
  rcases var_Rp hR hn hca [] [] with ⟨w, c2, v, c3, m_q, r1, r2, r3, r4, r5, r6, r7, r8, r9, r10, r11, r12, r13, r14, r15, r16, r17, r18⟩ | ⟨c2, m_q, r1, r2, r3⟩ | ⟨w, c2, m_q, r1, r2, r3, r4, r5, r6, r7⟩
  · have h20 := item_var (any := 0) hsk hn hca r6 (Or.inr rfl)
    have z5 : c3 10 h 5 = i := by rw [r14.1 10 (by decide) (by decide)]; exact hs.2.2.1
    obtain ⟨p1, p2, p3, p4⟩ := put_at (kd := 1) (pl := m3 15 0 35) (sl := v) (v := 0) z5 hi4
    have p45 := put45 (kd := 1) (pl := m3 15 0 35) (sl := v) (v := 0) z5 hi4
    have fx := fn104_fr (g := h) (k := 1) (p := m3 15 0 35) (s := v) (v := 0) (c := c3)
    have h137 : fn137 [h] c2 = (0, 1, (fn104 [h, 1, m3 15 0 35, v, 0] c3).2.2) := by
      unfold fn137
      simp only [zLet, List.getD_cons_zero, r2, r3, r5]
      rw [if_pos (show v ≥ 0 from r7), if_pos (by rw [r4.1 10 (by decide) (by decide)]; exact hs.2.1)]
    generalize (fn104 [h, 1, m3 15 0 35, v, 0] c3).2.2 = c_q at *
    obtain ⟨s1, s2, s3, s4, s5, s6, s7, s8, s9, s10⟩ := hs
    have e10 : ∀ j, c3 10 h j = c1 10 h j := fun j => by rw [r14.1 10 (by decide) (by decide)]
    have c12 : c_q 10 h 12 = c1 10 h 12 := by rw [p4, if_neg (by decide), e10]
    have c14 : c_q 10 h 14 = c1 10 h 14 := by rw [p4, if_neg (by decide), e10]
    have c13 : c_q 10 h 13 = c1 10 h 13 := by rw [p4, if_neg (by decide), e10]
    have gc : gNc c1 c_q := gNc_trans (gNc_fl r14 (by decide) (by decide)) (gNc_fl fx (by decide) (by decide))
    have gm : gNm m3 m_q := gNm_fl r15 (by decide) (by decide) (by decide) (by decide) (by decide)
    have hB3 : qB H c3 m_q := qB_var s1 r6 a0 (by omega) r16 hR.2.2.2.2.1.2.1 r10 r14 r15
    have hB_q : qB H c_q m_q := qB_c hB3 (fx.2 5 (by decide)) (fx.2 16 (by decide)) (fx.1 25 (by decide) (by decide))
    have hadd := qHs_add (H_q := H) (c_q := c_q) (mF := m_q) (kd := 1) (v := m_q 15 0 39) ⟨s1, s2, s3, s4, s5, s6, s7, s8, s9, s10⟩ hi hB_q (by rw [p4, if_neg (by decide), e10]; exact s2) (by rw [p4, if_pos rfl]) (by rw [c12, s5, r15.2 49 (by decide)]) (by rw [c12]; exact s6)
      (fun k hk => ⟨by rw [p1, if_neg hk, r14.1 43 (by decide) (by decide)], by rw [p2, if_neg hk, r14.1 44 (by decide) (by decide)], by rw [p3, if_neg hk, r14.1 46 (by decide) (by decide)]⟩) gc gm (r15.1 85 (by decide) (by decide)) (r15.1 87 (by decide) (by decide)) (by rcases r10 with q | q <;> omega)
      (Or.inr (Or.inl ⟨by rw [p1, if_pos rfl], rfl, by rw [p2, if_pos rfl, r12], by rw [p2, if_pos rfl]; exact ⟨r7, r8⟩, by rw [p2, if_pos rfl]; exact r9⟩)) (by rw [c12, c14]; exact s8) (Or.inr ⟨by rw [p1, if_pos rfl]; decide, c12⟩) (Or.inl ⟨c12, c13, c14, r15.2 50 (by decide), by rw [p1, if_pos rfl]; decide⟩)
    have fF : fH 15 [85, 87] [48] m_q (rUp (rUp (rUp m_q 85 0 i 1) 87 0 i (m_q 15 0 39)) 15 0 48 (i + 1)) := fH_fld (fH_grp (fH_grp fH_refl (by decide) (by decide)) (by decide) (by decide)) (by decide)
    refine Or.inl ⟨H, c_q, rUp (rUp (rUp m_q 85 0 i 1) 87 0 i (m_q 15 0 39)) 15 0 48 (i + 1), ?_, ?_, ?_, hadd, ?_, ?_, ?_, ?_, by rw [p4, if_neg (by decide), e10, fc.1 10 (by decide) (by decide)], fun k hk => by rw [p3, if_neg hk, r14.1 46 (by decide) (by decide), fc.1 46 (by decide) (by decide)], by rw [p45, if_pos rfl], fun k hk => by rw [p45, if_neg hk, r14.1 45 (by decide) (by decide)], by rw [fF.1 86 (by decide) (by decide), r15.1 86 (by decide) (by decide)]⟩
    · rw [r1]
      simp only [h137]
      rw [if_pos (show (1 : Int) ≤ 1 by decide), if_pos (show (1 : Int) ≤ 1 by decide)]
    · unfold qHb
      rw [h20]
      simp only [r13]
      exact if_pos (show (1 : Int) ≤ 1 by decide)
    · refine qR_up r11 (fH_sub fx (by decide) (by decide)) (fH_sub fF (by decide) (by decide)) ?_ ?_ ?_ ?_
      · rw [fx.2 6 (by decide), fF.2 35 (by decide)]; exact r11.2.1.1
      · rw [fF.2 35 (by decide)]; omega
      · rw [fF.2 35 (by decide)]; exact r11.2.1.2.1
      · rw [fF.2 35 (by decide)]; exact r11.2.1.2.2
    · exact fH_trans (fH_trans (fH_sub fc (by decide) (by decide)) (fH_sub r14 (by decide) (by decide))) (fH_sub fx (by decide) (by decide))
    · exact fH_trans (fH_trans (fH_sub fm (by decide) (by decide)) (fH_sub r15 (by decide) (by decide))) (fH_sub fF (by decide) (by decide))
    · exact gNc_trans (gNc_fl fc (by decide) (by decide)) gc
    · exact gNm_trans (gNm_trans (gNm_fl fm (by decide) (by decide) (by decide) (by decide) (by decide)) gm) (gNm_fl fF (by decide) (by decide) (by decide) (by decide) (by decide))
  · have h20 := item_var (any := 0) hsk hn hca r2 (Or.inl rfl)
    refine Or.inr ⟨c2, m_q, ?_, ?_, r3⟩
    · rw [r1]
      exact if_neg (show ¬ (1 : Int) ≤ 0 by decide)
    · unfold qHb
      rw [h20]
      exact if_neg (show ¬ (1 : Int) ≤ 0 by decide)
  · have h20 := item_var (any := 0) hsk hn hca r6 (Or.inl rfl)
    have h137 : fn137 [h] c2 = (0, 0, rUp c2 2 0 4 (m3 15 0 35)) := by
      unfold fn137
      simp only [zLet, List.getD_cons_zero, r2, r3, r5, fn109_eq]
      rw [if_neg (show ¬ (-1 : Int) ≥ 0 by decide)]
    refine Or.inr ⟨rUp c2 2 0 4 (m3 15 0 35), m_q, ?_, ?_, ⟨qZ_more r7.1 (fH_fld fH_refl (by decide)) fH_refl, by rw [rUp_at, r7.2]⟩⟩
    · rw [r1]
      simp only [h137]
      rw [if_pos (show (1 : Int) ≤ 1 by decide), if_neg (show ¬ (1 : Int) ≤ 0 by decide)]
    · unfold qHb
      rw [h20]
      exact if_neg (show ¬ (1 : Int) ≤ 0 by decide)
theorem htal_twp {H : Int → Prop} {c0 m0 c m c1 m3 : rHp} {h i : Int} (hh : h = 9 * c1 40 0 (c1 1 0 10)) (hR : qR 0 c0 m0 c1 m3) (hs : qHs H c1 m3 h i) (hi : 0 ≤ i) (hi4 : i < 4) (h00 : 0 ≤ c0 1000 0 0) (hlim : 2 * c0 1000 0 0 + m0 15 0 34 ≤ 10239) (hn : m3 15 0 35 < m3 15 0 34) (fc : fH 2 [] [6] c c1) (fm : fH 15 [86] [35] m m3) :
    qHop c0 m0 c m c1 m3 h i (fn140 [] c1) (qHb i (fn26 [] m3)) := by
  have a6 := hR.2.1.1
  have a0 := hR.2.1.2.1
  have e34 : m3 15 0 34 = m0 15 0 34 := hR.2.2.2.2.2.2.2.1.2 34 (by decide)
  obtain ⟨s1, s2, s3, s4, s5, s6, s7, s8, s9, s10⟩ := hs
  have bad : ∀ c_q m_q, fn140 [] c1 = (0, 0, c_q) → fn26 [] m3 = (0, 0, m_q) → qZp c0 m0 c_q m_q → qHop c0 m0 c m c1 m3 h i (fn140 [] c1) (qHb i (fn26 [] m3)) := by
    intro c_q m_q q1 q2 q3
    refine Or.inr ⟨c_q, m_q, q1, ?_, q3⟩
    unfold qHb
    rw [q2]
    exact if_neg (show ¬ (1 : Int) ≤ 0 by decide)
  by_cases ht : c1 10 h 12 = 0
  · have h49 : m3 15 0 49 ≤ 0 := by rw [← s5, ht]; decide
    have z5 : rUp c1 10 h 13 i 10 h 5 = i := by rw [rUp_ne (fun y => absurd y.2.2 (by decide))]; exact s3
    obtain ⟨p1, p2, p3, p4⟩ := put_at (kd := 4) (pl := m3 15 0 35) (sl := 0) (v := 0) z5 hi4
    have p45 := put45 (kd := 4) (pl := m3 15 0 35) (sl := 0) (v := 0) z5 hi4
    have fx : fH 2 [10, 43, 44, 45, 46] [] c1 (fn104 [h, 4, m3 15 0 35, 0, 0] (rUp c1 10 h 13 i)).2.2 := fH_trans (fH_grp fH_refl (by decide) (by decide)) fn104_fr
    have q10 : ∀ j, j ≠ 13 → rUp c1 10 h 13 i 10 h j = c1 10 h j := fun j z => rUp_ne (fun y => z y.2.2)
    have qg : ∀ G : Nat, G ≠ 10 → rUp c1 10 h 13 i G = c1 G := fun G z => rUp_grp z
    have E1 : fn140 [] c1 = (let X3 := (fn114 [] (rUp (fn104 [h, 4, m3 15 0 35, 0, 0] (rUp c1 10 h 13 i)).2.2 2 0 6 (m3 15 0 35 + 1)))
        if 0 ≤ X3.2.1 ∧ pSm X3.2.1 = true then
          (if 1 ≤ (fn115 [] X3.2.2).2.1 then
            (let X5 := rUp (fn115 [] X3.2.2).2.2 10 h 12 (qTy ((fn115 [] X3.2.2).2.2 2 0 8))
             let t := qTy ((fn115 [] X3.2.2).2.2 2 0 8)
             if t = 0 then (0, 0, rUp X5 2 0 4 (X3.2.2 2 0 6)) else if t = 1 then (0, 1, X5) else
              (let X6 := fn114 [] X5
               if 0 ≤ X6.2.1 ∧ pCa X6.2.1 = true then
                 (if 1 ≤ (fn115 [] X6.2.2).2.1 then
                   (let X7 := fn120 [(fn115 [] X6.2.2).2.2 2 0 8] (rUp (fn115 [] X6.2.2).2.2 10 h 15 (X6.2.2 2 0 6))
                    if X7.2.1 ≥ 0 then (0, 1, rUp X7.2.2 10 h 14 X7.2.1) else (0, 0, rUp (rUp X7.2.2 10 h 14 X7.2.1) 2 0 4 (X6.2.2 2 0 6)))
                 else (0, 0, (fn115 [] X6.2.2).2.2))
               else (0, 0, rUp X6.2.2 2 0 4 (X6.2.2 2 0 6))))
          else (0, 0, (fn115 [] X3.2.2).2.2))
        else (0, 0, rUp X3.2.2 2 0 4 (X3.2.2 2 0 6))) := by
      unfold fn140
      simp only [zLet, a6, ← hh, s3, ht, fn105_eq, fn106_eq, pBit_ge, fn122_eq, fn109_eq]
      rw [if_pos trivial]
      generalize fn114 [] (rUp (fn104 [h, 4, m3 15 0 35, 0, 0] (rUp c1 10 h 13 i)).2.2 2 0 6 (m3 15 0 35 + 1)) = X3
      by_cases b1 : 0 ≤ X3.2.1
      · rw [if_pos b1]
        by_cases b2 : pSm X3.2.1 = true
        · rw [if_pos b2, if_pos (show 0 ≤ X3.2.1 ∧ pSm X3.2.1 = true from ⟨b1, b2⟩)]
          by_cases b3 : 1 ≤ (fn115 [] X3.2.2).2.1
          · rw [if_pos b3, if_pos b3]
            by_cases b4 : qTy ((fn115 [] X3.2.2).2.2 2 0 8) = 0
            · rw [if_neg (fun z => z b4), if_pos b4]
            · rw [if_pos b4, if_neg b4]
              by_cases b5 : qTy ((fn115 [] X3.2.2).2.2 2 0 8) = 1
              · rw [if_neg (fun z => z b5), if_pos b5]
              · rw [if_pos b5, if_neg b5]
                generalize fn114 [] (rUp (fn115 [] X3.2.2).2.2 10 h 12 (qTy ((fn115 [] X3.2.2).2.2 2 0 8))) = X6
                by_cases b6 : 0 ≤ X6.2.1
                · rw [if_pos b6]
                  by_cases b7 : pCa X6.2.1 = true
                  · rw [if_pos b7, if_pos (show 0 ≤ X6.2.1 ∧ pCa X6.2.1 = true from ⟨b6, b7⟩)]
                  · rw [if_neg b7, if_neg (show ¬ (0 ≤ X6.2.1 ∧ pCa X6.2.1 = true) from fun z => b7 z.2)]
                · rw [if_neg b6, if_neg (show ¬ (0 ≤ X6.2.1 ∧ pCa X6.2.1 = true) from fun z => b6 z.1)]
          · rw [if_neg b3, if_neg b3]
        · rw [if_neg b2, if_neg (show ¬ (0 ≤ X3.2.1 ∧ pSm X3.2.1 = true) from fun z => b2 z.2)]
      · rw [if_neg b1, if_neg (show ¬ (0 ≤ X3.2.1 ∧ pSm X3.2.1 = true) from fun z => b1 z.1)]
    have p1_q : ∀ k, (fn104 [h, 4, m3 15 0 35, 0, 0] (rUp c1 10 h 13 i)).2.2 43 h k = if k = i then 4 else c1 43 h k := fun k => by rw [p1, qg 43 (by decide)]
    have p2_q : ∀ k, k ≠ i → (fn104 [h, 4, m3 15 0 35, 0, 0] (rUp c1 10 h 13 i)).2.2 44 h k = c1 44 h k := fun k z => by rw [p2, if_neg z, qg 44 (by decide)]
    have p3_q : ∀ k, k ≠ i → (fn104 [h, 4, m3 15 0 35, 0, 0] (rUp c1 10 h 13 i)).2.2 46 h k = c1 46 h k := fun k z => by rw [p3, if_neg z, qg 46 (by decide)]
    have p4_q : ∀ j, j ≠ 13 → (fn104 [h, 4, m3 15 0 35, 0, 0] (rUp c1 10 h 13 i)).2.2 10 h j = if j = 5 then i + 1 else c1 10 h j := fun j z => by rw [p4, q10 j z]
    have p5_q : (fn104 [h, 4, m3 15 0 35, 0, 0] (rUp c1 10 h 13 i)).2.2 10 h 13 = i := by rw [p4, if_neg (by decide), rUp_at]
    have p6_q : (fn104 [h, 4, m3 15 0 35, 0, 0] (rUp c1 10 h 13 i)).2.2 46 h i = 0 := by rw [p3, if_pos rfl]
    have p45_q : ∀ k, (fn104 [h, 4, m3 15 0 35, 0, 0] (rUp c1 10 h 13 i)).2.2 45 h k = if k = i then m3 15 0 35 else c1 45 h k := fun k => by rw [p45, qg 45 (by decide)]
    generalize (fn104 [h, 4, m3 15 0 35, 0, 0] (rUp c1 10 h 13 i)).2.2 = X1 at *
    have f12 : fH 2 [] [6] X1 (rUp X1 2 0 6 (m3 15 0 35 + 1)) := fH_fld fH_refl (by decide)
    have x26 : rUp X1 2 0 6 (m3 15 0 35 + 1) 2 0 6 = m3 15 0 35 + 1 := rUp_at
    have fM1 : fH 15 [] [35] m3 (rUp m3 15 0 35 (m3 15 0 35 + 1)) := fH_fld fH_refl (by decide)
    have y135 : rUp m3 15 0 35 (m3 15 0 35 + 1) 15 0 35 = m3 15 0 35 + 1 := rUp_at
    have E2a := fun M w => fn26_eq (m := m3) (M := M) (w := w) h49
    have E2b := fun M => fn26_bad (m := m3) (M := M) h49
    generalize rUp X1 2 0 6 (m3 15 0 35 + 1) = X2 at *
    generalize rUp m3 15 0 35 (m3 15 0 35 + 1) = M1 at *
    have y134 : M1 15 0 34 = m3 15 0 34 := fM1.2 34 (by decide)
    have y159 : M1 59 = m3 59 := fM1.1 59 (by decide) (by decide)
    have fc2 : fH 2 [10, 43, 44, 45, 46] [6] c1 X2 := fH_trans (fH_sub fx (by decide) (by decide)) (fH_sub f12 (by decide) (by decide))
    have hR2 : qR 0 c0 m0 X2 M1 := by
      refine qR_up hR (fH_sub fc2 (by decide) (by decide)) (fH_sub fM1 (by decide) (by decide)) ?_ ?_ ?_ ?_
      · rw [x26, y135]
      · rw [y135]; omega
      · rw [y135]; omega
      · rw [y135]; omega
    obtain ⟨q, L2, l1, l2, l3, l4, l5, l6, l7⟩ := look_two hR2.1 hR2.2.1 [] []
    have h23 := fn23_is l2 l4
    rw [y135] at l3
    rw [y134] at l4 l5 l6 l7 h23
    rw [y159] at l5 l7 h23
    have f23 : fH 2 [] [6] X2 (rUp X2 2 0 6 q) := fH_fld fH_refl (by decide)
    have x36 : rUp X2 2 0 6 q 2 0 6 = q := rUp_at
    have g12 : fH 15 [] [35] M1 (rUp M1 15 0 35 q) := fH_fld fH_refl (by decide)
    have y235 : rUp M1 15 0 35 q 15 0 35 = q := rUp_at
    rw [l1] at E1
    simp only [x36] at E1
    generalize rUp X2 2 0 6 q = X3 at *
    generalize rUp M1 15 0 35 q = M2 at *
    have y234 : M2 15 0 34 = m3 15 0 34 := (g12.2 34 (by decide)).trans y134
    have y259 : M2 59 = m3 59 := (g12.1 59 (by decide) (by decide)).trans y159
    have hR3 : qR 0 c0 m0 X3 M2 := by
      refine qR_up hR2 (fH_sub f23 (by decide) (by decide)) (fH_sub g12 (by decide) (by decide)) ?_ ?_ ?_ ?_
      · rw [x36, y235]
      · rw [y235]; omega
      · rw [y235]; omega
      · rw [y235, y134]; exact l4
    by_cases hq : q < m3 15 0 34 ∧ pSm (m3 59 0 q) = true
    · rw [if_pos hq] at h23
      have hL2 : 0 ≤ L2 ∧ pSm L2 = true := ⟨l6.2 hq.1, by rw [qL_sm l5, pB_in hq.1]; exact hq.2⟩
      rw [if_pos hL2] at E1
      rcases word_two (q := pSm) hR3.1 hR3.2.1 (by rw [y235, y234]; exact hq.1) (by rw [y235, y259]; exact hq.2) [] [] with ⟨e, w, w1, w2, w3, w4, w5⟩ | ⟨e, w, w1, w2⟩
      · rw [y235] at w1 w2 w3 w5
        rw [y234] at w4 w5
        rw [y259] at w5
        have f34 : fH 2 [] [6, 8, 9] X3 (rUp (rUp (rUp X3 2 0 9 q) 2 0 8 w) 2 0 6 e) := fH_fld (fH_fld (fH_fld fH_refl (by decide)) (by decide)) (by decide)
        have x48 : rUp (rUp (rUp X3 2 0 9 q) 2 0 8 w) 2 0 6 e 2 0 8 = w := by rw [rUp_ne (by decide), rUp_at]
        have x46 : rUp (rUp (rUp X3 2 0 9 q) 2 0 8 w) 2 0 6 e 2 0 6 = e := rUp_at
        have g23 : fH 15 [] [35, 37, 38] M2 (rUp (rUp (rUp M2 15 0 37 q) 15 0 38 (e - q)) 15 0 35 e) := fH_fld (fH_fld (fH_fld fH_refl (by decide)) (by decide)) (by decide)
        have y335 : rUp (rUp (rUp M2 15 0 37 q) 15 0 38 (e - q)) 15 0 35 e 15 0 35 = e := rUp_at
        have y338 : rUp (rUp (rUp M2 15 0 37 q) 15 0 38 (e - q)) 15 0 35 e 15 0 38 = e - q := by rw [rUp_ne (by decide), rUp_at]
        have y337 : rUp (rUp (rUp M2 15 0 37 q) 15 0 38 (e - q)) 15 0 35 e 15 0 37 = q := by rw [rUp_ne (by decide), rUp_ne (by decide), rUp_at]
        rw [w2] at h23
        rw [if_pos (show (1 : Int) ≤ 1 by decide)] at h23
        rw [w1] at E1
        simp only [x48] at E1 h23
        rw [if_pos (show (1 : Int) ≤ 1 by decide)] at E1
        generalize rUp (rUp (rUp X3 2 0 9 q) 2 0 8 w) 2 0 6 e = X4 at *
        generalize rUp (rUp (rUp M2 15 0 37 q) 15 0 38 (e - q)) 15 0 35 e = M3 at *
        have f14 : fH 2 [] [6, 8, 9] X1 X4 := fH_trans (fH_trans (fH_sub f12 (by decide) (by decide)) (fH_sub f23 (by decide) (by decide))) f34
        have gM3 : fH 15 [] [35, 37, 38] m3 M3 := fH_trans (fH_trans (fH_sub fM1 (by decide) (by decide)) (fH_sub g12 (by decide) (by decide))) g23
        have y334 : M3 15 0 34 = m3 15 0 34 := gM3.2 34 (by decide)
        have y359 : M3 59 = m3 59 := gM3.1 59 (by decide) (by decide)
        have E2 := E2a M3 w h23 (by rw [y359, y334, y337, y338]; exact w5)
        have hR4 : qR 0 c0 m0 X4 M3 := by
          refine qR_up hR3 (fH_sub f34 (by decide) (by decide)) (fH_sub g23 (by decide) (by decide)) ?_ ?_ ?_ ?_
          · rw [x46, y335]
          · rw [y335, y235]; omega
          · rw [y335]; omega
          · rw [y335, y234]; exact w4
        have fcX4 : fH 2 [10, 43, 44, 45, 46] [6, 8, 9] c1 X4 := fH_trans (fH_sub fx (by decide) (by decide)) (fH_sub f14 (by decide) (by decide))
        have hB4 : qB H X4 M3 := qB_up s1 (fcX4.2 5 (by decide)) (fcX4.2 16 (by decide)) (fcX4.1 25 (by decide) (by decide)) gM3 (by decide) (by decide) (by rw [y335]; omega)
        have tr := qTy_rg w
        have cell : ∀ j, j ≠ 13 → X4 10 h j = if j = 5 then i + 1 else c1 10 h j := fun j z => by rw [f14.1 10 (by decide) (by decide)]; exact p4_q j z
        have f5 : fH 2 [10] [] X4 (rUp X4 10 h 12 (qTy w)) := fH_grp fH_refl (by decide) (by decide)
        have x512 : rUp X4 10 h 12 (qTy w) 10 h 12 = qTy w := rUp_at
        have x5o : ∀ j, j ≠ 12 → rUp X4 10 h 12 (qTy w) 10 h j = X4 10 h j := fun j z => rUp_ne (fun y => z y.2.2)
        generalize rUp X4 10 h 12 (qTy w) = X5 at *
        by_cases t0 : qTy w = 0
        · rw [if_pos t0] at E1
          rw [if_neg (by omega), if_pos t0] at E2
          exact bad _ _ E1 E2 ⟨qZ_up hR4 (by decide) (fH_fld (fH_sub f5 (by decide) (by decide)) (by decide)) (fH_trans (fH_fld fH_refl (by decide)) (fH_sub fn8_fr (by decide) (by decide))), by rw [rUp_at, fn8_ge (by rw [rUp_ne (by decide), y337, y334]; omega), rUp_at, y337]⟩
        · rw [if_neg t0] at E1
          by_cases t1 : qTy w = 1
          · rw [if_pos t1] at E1
            rw [if_pos t1] at E2
            have gF : fH 15 [] [39, 40, 49] M3 (rUp (rUp (rUp M3 15 0 49 1) 15 0 40 3) 15 0 39 0) := fH_fld (fH_fld (fH_fld fH_refl (by decide)) (by decide)) (by decide)
            have n49 : rUp (rUp (rUp M3 15 0 49 1) 15 0 40 3) 15 0 39 0 15 0 49 = 1 := by rw [rUp_ne (by decide), rUp_ne (by decide), rUp_at]
            have n40 : rUp (rUp (rUp M3 15 0 49 1) 15 0 40 3) 15 0 39 0 15 0 40 = 3 := by rw [rUp_ne (by decide), rUp_at]
            generalize rUp (rUp (rUp M3 15 0 49 1) 15 0 40 3) 15 0 39 0 = mF at *
            have gm3F : fH 15 [] [35, 37, 38, 39, 40, 49] m3 mF := fH_trans (fH_sub gM3 (by decide) (by decide)) (fH_sub gF (by decide) (by decide))
            have fc15 : fH 2 [10, 43, 44, 45, 46] [6, 8, 9] c1 X5 := fH_trans fcX4 (fH_sub f5 (by decide) (by decide))
            have gc : gNc c1 X5 := gNc_fl fc15 (by decide) (by decide)
            have gm : gNm m3 mF := gNm_fl gm3F (by decide) (by decide) (by decide) (by decide) (by decide)
            have b43 : ∀ k, X5 43 h k = if k = i then 4 else c1 43 h k := fun k => by rw [f5.1 43 (by decide) (by decide), f14.1 43 (by decide) (by decide)]; exact p1_q k
            have hB5 : qB H X5 mF := qB_up hB4 (f5.2 5 (by decide)) (f5.2 16 (by decide)) (f5.1 25 (by decide) (by decide)) gF (by decide) (by decide) (by rw [gF.2 35 (by decide)]; exact Int.le_refl _)
            have hadd := qHs_add (H_q := H) (c_q := X5) (mF := mF) (kd := 3) (v := mF 15 0 39) ⟨s1, s2, s3, s4, s5, s6, s7, s8, s9, s10⟩ hi hB5 (by rw [x5o _ (by decide), cell _ (by decide), if_neg (by decide)]; exact s2) (by rw [x5o _ (by decide), cell _ (by decide), if_pos rfl]) (by rw [x512, t1, n49]) (by rw [x512, t1]; decide)
              (fun k hk => ⟨by rw [b43, if_neg hk], by rw [f5.1 44 (by decide) (by decide), f14.1 44 (by decide) (by decide)]; exact p2_q k hk, by rw [f5.1 46 (by decide) (by decide), f14.1 46 (by decide) (by decide)]; exact p3_q k hk⟩) gc gm (gm3F.1 85 (by decide) (by decide)) (gm3F.1 87 (by decide) (by decide)) (by rw [gm3F.1 74 (by decide) (by decide), gm3F.2 44 (by decide)]; exact Int.le_refl _)
              (Or.inr (Or.inr ⟨by rw [b43, if_pos rfl], rfl⟩)) (fun u => by rw [s8 u, x512, t1, ht]; constructor <;> (intro z; have := z.1; omega)) (Or.inl ⟨by rw [b43, if_pos rfl], by rw [x512, t1]; decide⟩) (Or.inr ⟨ht, by rw [x5o 13 (by decide), f14.1 10 (by decide) (by decide)]; exact p5_q, by rw [f5.1 46 (by decide) (by decide), f14.1 46 (by decide) (by decide)]; exact p6_q, fun z => by rw [x512, t1] at z; omega⟩)
            have fF : fH 15 [85, 87] [48] mF (rUp (rUp (rUp mF 85 0 i 3) 87 0 i (mF 15 0 39)) 15 0 48 (i + 1)) := fH_fld (fH_grp (fH_grp fH_refl (by decide) (by decide)) (by decide) (by decide)) (by decide)
            refine Or.inl ⟨H, X5, rUp (rUp (rUp mF 85 0 i 3) 87 0 i (mF 15 0 39)) 15 0 48 (i + 1), E1, ?_, ?_, hadd, ?_, ?_, ?_, ?_, by rw [x5o 6 (by decide), cell 6 (by decide), if_neg (by decide), fc.1 10 (by decide) (by decide)], fun k hk => by rw [f5.1 46 (by decide) (by decide), f14.1 46 (by decide) (by decide), p3_q k hk, fc.1 46 (by decide) (by decide)], by rw [f5.1 45 (by decide) (by decide), f14.1 45 (by decide) (by decide), p45_q, if_pos rfl], fun k hk => by rw [f5.1 45 (by decide) (by decide), f14.1 45 (by decide) (by decide), p45_q, if_neg hk], by rw [fF.1 86 (by decide) (by decide), gm3F.1 86 (by decide) (by decide)]⟩
            · unfold qHb
              rw [E2]
              simp only [n40]
              exact if_pos (show (1 : Int) ≤ 1 by decide)
            · have fG : fH 15 [85, 87] [39, 40, 49, 48] M3 (rUp (rUp (rUp mF 85 0 i 3) 87 0 i (mF 15 0 39)) 15 0 48 (i + 1)) := fH_trans (fH_sub gF (by decide) (by decide)) (fH_sub fF (by decide) (by decide))
              refine qR_up hR4 (fH_sub f5 (by decide) (by decide)) (fH_sub fG (by decide) (by decide)) ?_ ?_ ?_ ?_
              · rw [f5.2 6 (by decide), fG.2 35 (by decide)]; exact hR4.2.1.1
              · rw [fG.2 35 (by decide)]; omega
              · rw [fG.2 35 (by decide)]; exact hR4.2.1.2.1
              · rw [fG.2 35 (by decide)]; exact hR4.2.1.2.2
            · exact fH_trans (fH_sub fc (by decide) (by decide)) (fH_sub fc15 (by decide) (by decide))
            · exact fH_trans (fH_trans (fH_sub fm (by decide) (by decide)) (fH_sub gm3F (by decide) (by decide))) (fH_sub fF (by decide) (by decide))
            · exact gNc_trans (gNc_fl fc (by decide) (by decide)) gc
            · exact gNm_trans (gNm_trans (gNm_fl fm (by decide) (by decide) (by decide) (by decide) (by decide)) gm) (gNm_fl fF (by decide) (by decide) (by decide) (by decide) (by decide))
          · rw [if_neg t1] at E1
            rw [if_neg t1, if_neg t0] at E2
            have g35 : fH 15 [] [49] M3 (rUp M3 15 0 49 (qTy w)) := fH_fld fH_refl (by decide)
            have n49 : rUp M3 15 0 49 (qTy w) 15 0 49 = qTy w := rUp_at
            generalize rUp M3 15 0 49 (qTy w) = M5 at *
            have y534 : M5 15 0 34 = m3 15 0 34 := (g35.2 34 (by decide)).trans y334
            have y559 : M5 59 = m3 59 := (g35.1 59 (by decide) (by decide)).trans y359
            have hR5 : qR 0 c0 m0 X5 M5 := by
              refine qR_up hR4 (fH_sub f5 (by decide) (by decide)) (fH_sub g35 (by decide) (by decide)) ?_ ?_ ?_ ?_
              · rw [f5.2 6 (by decide), g35.2 35 (by decide)]; exact hR4.2.1.1
              · rw [g35.2 35 (by decide)]; exact Int.le_refl _
              · rw [g35.2 35 (by decide)]; exact hR4.2.1.2.1
              · rw [g35.2 35 (by decide)]; exact hR4.2.1.2.2
            have hB5 : qB H X5 M5 := qB_up hB4 (f5.2 5 (by decide)) (f5.2 16 (by decide)) (f5.1 25 (by decide) (by decide)) g35 (by decide) (by decide) (by rw [g35.2 35 (by decide)]; exact Int.le_refl _)
            obtain ⟨q2, L3, j1, j2, j3, j4, j5, j6, j7⟩ := look_two hR5.1 hR5.2.1 [] []
            rw [y534] at j4 j5 j6 j7
            rw [y559] at j5 j7
            have f56 : fH 2 [] [6] X5 (rUp X5 2 0 6 q2) := fH_fld fH_refl (by decide)
            have x66 : rUp X5 2 0 6 q2 2 0 6 = q2 := rUp_at
            have g56 : fH 15 [] [35] M5 (rUp M5 15 0 35 q2) := fH_fld fH_refl (by decide)
            have y635 : rUp M5 15 0 35 q2 15 0 35 = q2 := rUp_at
            unfold qTz at E2
            rw [j2] at E2
            simp only [y635] at E2
            rw [j1] at E1
            simp only [x66] at E1
            generalize rUp X5 2 0 6 q2 = X6 at *
            generalize rUp M5 15 0 35 q2 = M6 at *
            have y634 : M6 15 0 34 = m3 15 0 34 := (g56.2 34 (by decide)).trans y534
            have y659 : M6 59 = m3 59 := (g56.1 59 (by decide) (by decide)).trans y559
            rw [y634, y659] at E2
            have at5 := hR5.2.1.2.1
            have hR6 : qR 0 c0 m0 X6 M6 := by
              refine qR_up hR5 (fH_sub f56 (by decide) (by decide)) (fH_sub g56 (by decide) (by decide)) ?_ ?_ ?_ ?_
              · rw [x66, y635]
              · rw [y635]; omega
              · rw [y635]; omega
              · rw [y635, y534]; exact j4
            have hB6 : qB H X6 M6 := qB_up hB5 (f56.2 5 (by decide)) (f56.2 16 (by decide)) (f56.1 25 (by decide) (by decide)) g56 (by decide) (by decide) (by rw [y635]; exact j3)
            by_cases hq2 : q2 < m3 15 0 34 ∧ pCa (m3 59 0 q2) = true
            · have hL3 : 0 ≤ L3 ∧ pCa L3 = true := ⟨j6.2 hq2.1, by rw [qL_ca j5, pB_in hq2.1]; exact hq2.2⟩
              rw [if_pos hL3] at E1
              rw [if_pos (show (0 : Int) ≤ -q2 + m3 15 0 34 + -1 by omega), pB_in hq2.1, if_pos hq2.2] at E2
              rcases var_Rp hR6 (by rw [y635, y634]; exact hq2.1) (by rw [y659, y635]; exact hq2.2) [] [] with ⟨w_q, c2, v, c3, m_q, r1, r2, r3, r4, r5, r6, r7, r8, r9, r10, r11, r12, r13, r14, r15, r16, r17, r18⟩ | ⟨c2, m_q, r1, r2, r3⟩ | ⟨w_q, c2, m_q, r1, r2, r3, r4, r5, r6, r7⟩
              · rw [r1] at E1
                simp only [r2] at E1
                rw [if_pos (show (1 : Int) ≤ 1 by decide)] at E1
                rw [r6] at E2
                simp only [r12] at E2
                rw [if_pos (show (1 : Int) ≤ 1 by decide)] at E2
                have f7 : fH 2 [10] [] c2 (rUp c2 10 h 15 q2) := fH_grp fH_refl (by decide) (by decide)
                have o7 : ∀ j, j ≠ 15 → rUp c2 10 h 15 q2 10 h j = c2 10 h j := fun j z => rUp_ne (fun y => z y.2.2)
                generalize rUp c2 10 h 15 q2 = X7 at *
                obtain ⟨B3, d1, d2, d3⟩ := meet_both r5 f7 (by decide) (by decide) (by decide)
                rw [d1] at E1
                simp only at E1
                rw [if_pos (show v ≥ 0 from r7)] at E1
                have f8 : fH 2 [10] [] B3 (rUp B3 10 h 14 v) := fH_grp fH_refl (by decide) (by decide)
                have o814 : rUp B3 10 h 14 v 10 h 14 = v := rUp_at
                have o8 : ∀ j, j ≠ 14 → rUp B3 10 h 14 v 10 h j = B3 10 h j := fun j z => rUp_ne (fun y => z y.2.2)
                generalize rUp B3 10 h 14 v = X8 at *
                have f38 : fH 2 [10] [] c3 X8 := fH_trans d2 f8
                have hB3 : qB H c3 m_q := qB_var hB6 r6 hR6.2.1.2.1 (by rw [y635]; omega) r16 hR6.2.2.2.2.1.2.1 r10 r14 r15
                have g50 : fH 15 [] [50] m_q (rUp m_q 15 0 50 v) := fH_fld fH_refl (by decide)
                have hB50 : qB H X8 (rUp m_q 15 0 50 v) := qB_up hB3 (f38.2 5 (by decide)) (f38.2 16 (by decide)) (f38.1 25 (by decide) (by decide)) g50 (by decide) (by decide) (by rw [g50.2 35 (by decide)]; exact Int.le_refl _)
                have c50 : rUp m_q 15 0 50 v 74 0 (rUp m_q 15 0 50 v 15 0 44) = m_q 74 0 (m_q 15 0 44) := by rw [g50.1 74 (by decide) (by decide), g50.2 44 (by decide)]
                have hBo : qB (fun u => H u ∨ (0 : Int) = 0 ∧ v = u) X8 (qOw (rUp m_q 15 0 50 v) q2 v 0) := by
                  obtain ⟨z1, z2, z3, z4, z5⟩ := hB50
                  have fo := qOw_fr (m := rUp m_q 15 0 50 v) (p := q2) (v := v) (t := 0)
                  have co : qOw (rUp m_q 15 0 50 v) q2 v 0 74 0 (qOw (rUp m_q 15 0 50 v) q2 v 0 15 0 44) = rUp m_q 15 0 50 v 74 0 (rUp m_q 15 0 50 v 15 0 44) := by rw [fo.1 74 (by decide) (by decide), fo.2 44 (by decide)]
                  refine ⟨qS_up z1 (fo.2 44 (by decide)) (fo.1 74 (by decide) (by decide)) (fo.1 84 (by decide) (by decide)) (by rw [fo.2 35 (by decide)]; exact Int.le_refl _), qO_kn_q z2 ⟨r7, r8⟩ (by rw [c50]; exact r9) (Or.inl rfl), ?_, z4, ?_⟩
                  · rw [fo.2 45 (by decide)]; exact z3
                  · rw [co]; exact z5
                have fo := qOw_fr (m := rUp m_q 15 0 50 v) (p := q2) (v := v) (t := 0)
                generalize qOw (rUp m_q 15 0 50 v) q2 v 0 = mo at *
                have gF : fH 15 [] [39, 40] mo (rUp (rUp mo 15 0 40 3) 15 0 39 0) := fH_fld (fH_fld fH_refl (by decide)) (by decide)
                have n40 : rUp (rUp mo 15 0 40 3) 15 0 39 0 15 0 40 = 3 := by rw [rUp_ne (by decide), rUp_at]
                generalize rUp (rUp mo 15 0 40 3) 15 0 39 0 = mF at *
                have hBF : qB (fun u => H u ∨ (0 : Int) = 0 ∧ v = u) X8 mF := qB_up hBo rfl rfl rfl gF (by decide) (by decide) (by rw [gF.2 35 (by decide)]; exact Int.le_refl _)
                have gm'F : fH 15 [88, 89, 90, 91] [50, 58, 39, 40] m_q mF := fH_trans (fH_trans (fH_sub g50 (by decide) (by decide)) (fH_sub fo (by decide) (by decide))) (fH_sub gF (by decide) (by decide))
                have gm6F : fH 15 [74, 82, 83, 84, 88, 89, 90, 91] [35, 37, 38, 39, 40, 50, 58] M6 mF := fH_trans (fH_sub r15 (by decide) (by decide)) (fH_sub gm'F (by decide) (by decide))
                have gm36 : fH 15 [] [35, 37, 38, 49] m3 M6 := fH_trans (fH_trans (fH_sub gM3 (by decide) (by decide)) (fH_sub g35 (by decide) (by decide))) (fH_sub g56 (by decide) (by decide))
                have gm3F : fH 15 [74, 82, 83, 84, 88, 89, 90, 91] [35, 37, 38, 39, 40, 49, 50, 58] m3 mF := fH_trans (fH_sub gm36 (by decide) (by decide)) (fH_sub gm6F (by decide) (by decide))
                have fc16 : fH 2 [10, 43, 44, 45, 46] [6, 8, 9] c1 X6 := fH_trans (fH_trans fcX4 (fH_sub f5 (by decide) (by decide))) (fH_sub f56 (by decide) (by decide))
                have fc18 : fH 2 [10, 43, 44, 45, 46, 22, 23] [6, 8, 9, 13] c1 X8 := fH_trans (fH_trans (fH_sub fc16 (by decide) (by decide)) (fH_sub r14 (by decide) (by decide))) (fH_sub f38 (by decide) (by decide))
                have gc : gNc c1 X8 := gNc_fl fc18 (by decide) (by decide)
                have gm : gNm m3 mF := gNm_fl gm3F (by decide) (by decide) (by decide) (by decide) (by decide)
                have chain : ∀ G : Nat, G = 43 ∨ G = 44 ∨ G = 46 → X8 G = X1 G := by
                  intro G z
                  rw [f38.1 G (by simp; omega) (by omega), r14.1 G (by simp; omega) (by omega), f56.1 G (by simp) (by omega), f5.1 G (by simp; omega) (by omega), f14.1 G (by simp) (by omega)]
                have ch45 : X8 45 = X1 45 := by rw [f38.1 45 (by decide) (by decide), r14.1 45 (by decide) (by decide), f56.1 45 (by decide) (by decide), f5.1 45 (by decide) (by decide), f14.1 45 (by decide) (by decide)]
                have b43 : ∀ k, X8 43 h k = if k = i then 4 else c1 43 h k := fun k => by rw [chain 43 (by omega)]; exact p1_q k
                have ten : ∀ j, j ≠ 13 → j ≠ 12 → j ≠ 14 → j ≠ 15 → X8 10 h j = if j = 5 then i + 1 else c1 10 h j := by
                  intro j z1 z2 z3 z4
                  rw [o8 j z3, d3.1 10 (by decide) (by decide), o7 j z4, r4.1 10 (by decide) (by decide), f56.1 10 (by decide) (by decide), x5o j z2]
                  exact cell j z1
                have t12 : X8 10 h 12 = qTy w := by
                  rw [o8 12 (by decide), d3.1 10 (by decide) (by decide), o7 12 (by decide), r4.1 10 (by decide) (by decide), f56.1 10 (by decide) (by decide)]
                  exact x512
                have cntF : mF 74 0 (mF 15 0 44) = m_q 74 0 (m_q 15 0 44) := by rw [gm'F.1 74 (by decide) (by decide), gm'F.2 44 (by decide)]
                have cnt6 : M6 74 0 (M6 15 0 44) = m3 74 0 (m3 15 0 44) := by rw [gm36.1 74 (by decide) (by decide), gm36.2 44 (by decide)]
                have hadd := qHs_add (H_q := fun u => H u ∨ (0 : Int) = 0 ∧ v = u) (c_q := X8) (mF := mF) (kd := 3) (v := mF 15 0 39) ⟨s1, s2, s3, s4, s5, s6, s7, s8, s9, s10⟩ hi hBF (by rw [ten 4 (by decide) (by decide) (by decide) (by decide), if_neg (by decide)]; exact s2) (by rw [ten 5 (by decide) (by decide) (by decide) (by decide), if_pos rfl]) (by rw [t12, gm6F.2 49 (by decide), g56.2 49 (by decide), n49]) (by rw [t12]; exact tr)
                  (fun k hk => ⟨by rw [b43, if_neg hk], by rw [chain 44 (by omega)]; exact p2_q k hk, by rw [chain 46 (by omega)]; exact p3_q k hk⟩) gc gm (gm3F.1 85 (by decide) (by decide)) (gm3F.1 87 (by decide) (by decide)) (by rw [cntF]; rw [cnt6] at r10; rcases r10 with z | z <;> omega)
                  (Or.inr (Or.inr ⟨by rw [b43, if_pos rfl], rfl⟩)) (fun u => by
                    rw [t12, o814]
                    constructor
                    · rintro (z | z)
                      · have := ((s8 u).1 z).1
                        omega
                      · exact ⟨by omega, z.2⟩
                    · rintro ⟨z1, z2⟩
                      exact Or.inr ⟨rfl, z2⟩) (Or.inl ⟨by rw [b43, if_pos rfl], by rw [t12]; omega⟩) (Or.inr ⟨ht, by rw [o8 13 (by decide), d3.1 10 (by decide) (by decide), o7 13 (by decide), r4.1 10 (by decide) (by decide), f56.1 10 (by decide) (by decide), x5o 13 (by decide), f14.1 10 (by decide) (by decide)]; exact p5_q, by rw [chain 46 (by omega)]; exact p6_q, fun _ => by rw [o814, gF.2 50 (by decide), fo.2 50 (by decide), rUp_at]; exact ⟨rfl, r7, r8⟩⟩)
                have fF : fH 15 [85, 87] [48] mF (rUp (rUp (rUp mF 85 0 i 3) 87 0 i (mF 15 0 39)) 15 0 48 (i + 1)) := fH_fld (fH_grp (fH_grp fH_refl (by decide) (by decide)) (by decide) (by decide)) (by decide)
                refine Or.inl ⟨_, X8, rUp (rUp (rUp mF 85 0 i 3) 87 0 i (mF 15 0 39)) 15 0 48 (i + 1), E1, ?_, ?_, hadd, ?_, ?_, ?_, ?_, by rw [ten 6 (by decide) (by decide) (by decide) (by decide), if_neg (by decide), fc.1 10 (by decide) (by decide)], fun k hk => by rw [chain 46 (by omega), p3_q k hk, fc.1 46 (by decide) (by decide)], by rw [ch45, p45_q, if_pos rfl], fun k hk => by rw [ch45, p45_q, if_neg hk], by rw [fF.1 86 (by decide) (by decide), gm3F.1 86 (by decide) (by decide)]⟩
                · unfold qHb
                  rw [E2]
                  simp only [n40]
                  exact if_pos (show (1 : Int) ≤ 1 by decide)
                · have fG : fH 15 [85, 87, 88, 89, 90, 91] [39, 40, 48, 50, 58] m_q (rUp (rUp (rUp mF 85 0 i 3) 87 0 i (mF 15 0 39)) 15 0 48 (i + 1)) := fH_trans (fH_sub gm'F (by decide) (by decide)) (fH_sub fF (by decide) (by decide))
                  refine qR_up r11 (fH_sub f38 (by decide) (by decide)) (fH_sub fG (by decide) (by decide)) ?_ ?_ ?_ ?_
                  · rw [f38.2 6 (by decide), fG.2 35 (by decide)]; exact r11.2.1.1
                  · rw [fG.2 35 (by decide)]; omega
                  · rw [fG.2 35 (by decide)]; exact r11.2.1.2.1
                  · rw [fG.2 35 (by decide)]; exact r11.2.1.2.2
                · exact fH_trans (fH_sub fc (by decide) (by decide)) (fH_sub fc18 (by decide) (by decide))
                · exact fH_trans (fH_trans (fH_sub fm (by decide) (by decide)) (fH_sub gm3F (by decide) (by decide))) (fH_sub fF (by decide) (by decide))
                · exact gNc_trans (gNc_fl fc (by decide) (by decide)) gc
                · exact gNm_trans (gNm_trans (gNm_fl fm (by decide) (by decide) (by decide) (by decide) (by decide)) gm) (gNm_fl fF (by decide) (by decide) (by decide) (by decide) (by decide))
              · rw [r1] at E1
                rw [r2] at E2
                rw [if_neg (show ¬ (1 : Int) ≤ 0 by decide)] at E1 E2
                exact bad _ _ E1 E2 r3
              · rw [r1] at E1
                simp only [r2] at E1
                rw [if_pos (show (1 : Int) ≤ 1 by decide)] at E1
                rw [r6] at E2
                rw [if_neg (show ¬ (1 : Int) ≤ 0 by decide)] at E2
                obtain ⟨B3, d1, d2, d3⟩ := meet_both (L := [10]) (J := []) r5 (B := rUp c2 10 h 15 q2) (fH_grp fH_refl (by decide) (by decide)) (by decide) (by decide) (by decide)
                rw [d1] at E1
                simp only at E1
                rw [if_neg (show ¬ (-1 : Int) ≥ 0 by decide)] at E1
                exact bad _ _ E1 E2 ⟨qZ_more r7.1 (fH_fld (fH_grp (fH_sub d2 (by decide) (by decide)) (by decide) (by decide)) (by decide)) fH_refl, by dsimp only; rw [rUp_at, r7.2, y635]⟩
            · have hL3 : ¬ (0 ≤ L3 ∧ pCa L3 = true) := fun z => hq2 ⟨j6.1 z.1, by
                have z2 := z.2
                rw [qL_ca j5, pB_in (j6.1 z.1)] at z2
                exact z2⟩
              rw [if_neg hL3] at E1
              have f8 : (fn8 [q2] M6).2.2 = rUp M6 15 0 36 q2 := fn8_ge (by rw [y634]; exact j4)
              have E3 : fn26 [] m3 = (0, 0, rUp M6 15 0 36 q2) := by
                rw [E2, f8]
                by_cases b1 : q2 < m3 15 0 34
                · rw [if_pos (show (0 : Int) ≤ -q2 + m3 15 0 34 + -1 by omega), pB_in b1, if_neg (fun z => hq2 ⟨b1, z⟩)]
                · rw [if_neg (show ¬ (0 : Int) ≤ -q2 + m3 15 0 34 + -1 by omega)]
              exact bad _ _ E1 E3 ⟨qZ_up hR6 (by decide) (fH_fld fH_refl (by decide)) (fH_fld fH_refl (by decide)), by first | rw [rUp_at, rUp_at] | (dsimp only; rw [rUp_at, rUp_at])⟩
      · rw [y235] at w1 w2
        rw [w2] at h23
        rw [if_neg (show ¬ (1 : Int) ≤ 0 by decide)] at h23
        rw [w1] at E1
        rw [if_neg (show ¬ (1 : Int) ≤ 0 by decide)] at E1
        exact bad _ _ E1 (E2b _ h23) ⟨qZ_up hR3 (by decide) (fH_fld (fH_fld (fH_fld (fH_fld fH_refl (by decide)) (by decide)) (by decide)) (by decide)) (fH_fld (fH_fld (fH_fld fH_refl (by decide)) (by decide)) (by decide)), by first | rw [rUp_at, rUp_at] | (dsimp only; rw [rUp_at, rUp_at])⟩
    · rw [if_neg hq] at h23
      have hL2 : ¬ (0 ≤ L2 ∧ pSm L2 = true) := fun z => hq ⟨l6.1 z.1, by
        have z2 := z.2
        rw [qL_sm l5, pB_in (l6.1 z.1)] at z2
        exact z2⟩
      rw [if_neg hL2] at E1
      exact bad _ _ E1 (E2b _ h23) ⟨qZ_up hR3 (by decide) (fH_fld fH_refl (by decide)) (fH_fld fH_refl (by decide)), by first | rw [rUp_at, rUp_at] | (dsimp only; rw [rUp_at, rUp_at])⟩
  · refine bad _ _ ?_ (fn26_two (by have := s6.1; omega)) ⟨qZ_up hR (by decide) (c_q := rUp c1 2 0 4 (m3 15 0 35)) (fH_fld fH_refl (by decide)) (fH_sub fn8_fr (by decide) (by decide)), by rw [rUp_at, fn8_ge (by omega), rUp_at]⟩
    unfold fn140
    simp only [zLet, a6, ← hh, fn109_eq]
    rw [if_neg ht]
theorem harg_twp {H : Int → Prop} {c0 m0 c m : rHp} {h i : Int} (hh : h = 9 * c 40 0 (c 1 0 10)) (hR : qR 0 c0 m0 c m) (hs : qHs H c m h i) (hi : 0 ≤ i) (hi4 : i < 4) (h00 : 0 ≤ c0 1000 0 0) (hlim : 2 * c0 1000 0 0 + m0 15 0 34 ≤ 10239) : qHoq c0 m0 c m h i (fn141 [] c) (qHa (m 15 0 34) i m) := by
  obtain ⟨p, L, k1, k2, k3, k4, k5, k6, k7⟩ := look_two hR.1 hR.2.1 [] []
  have a0 := hR.2.1.2.1
  have fc : fH 2 [] [6] c (rUp c 2 0 6 p) := fH_fld fH_refl (by decide)
  have fm : fH 15 [86] [35] m (rUp (rUp m 15 0 35 p) 86 0 i p) := fH_grp (fH_fld fH_refl (by decide)) (by decide) (by decide)
  have x6 : rUp c 2 0 6 p 2 0 6 = p := rUp_at
  have y35 : rUp (rUp m 15 0 35 p) 86 0 i p 15 0 35 = p := by rw [rUp_grp (by decide), rUp_at]
  have yl : rUp m 15 0 35 p 15 0 35 = p := rUp_at
  have E2 : qHa (m 15 0 34) i m = if 0 ≤ -p + m 15 0 34 + (-1) then (if pB (m 59 0) (m 15 0 34) p ≠ 35 then qHb i (fn20 [0] (rUp (rUp m 15 0 35 p) 86 0 i p)) else qHb i (fn26 [] (rUp (rUp m 15 0 35 p) 86 0 i p))) else (0, 0, (fn20 [0] (rUp (rUp m 15 0 35 p) 86 0 i p)).2.2) := by
    unfold qHa
    rw [k2]
    simp only [yl]
    rw [fm.1 59 (by decide) (by decide), fm.2 34 (by decide)]
  have hh1 : h = 9 * rUp c 2 0 6 p 40 0 (rUp c 2 0 6 p 1 0 10) := by rw [rUp_grp (by decide), rUp_grp (by decide)]; exact hh
  have E1 : fn141 [] c = if 0 ≤ L then (if pCa L = true then (if 1 ≤ (fn115 [] (rUp c 2 0 6 p)).2.1 then (if 1 ≤ (fn137 [h] (fn115 [] (rUp c 2 0 6 p)).2.2).2.1 then (0, 1, (fn137 [h] (fn115 [] (rUp c 2 0 6 p)).2.2).2.2) else (0, 0, (fn137 [h] (fn115 [] (rUp c 2 0 6 p)).2.2).2.2)) else (0, 0, (fn115 [] (rUp c 2 0 6 p)).2.2)) else (if L ≠ 35 then (if 1 ≤ (fn136 [h] (rUp c 2 0 6 p)).2.1 then (0, 1, (fn136 [h] (rUp c 2 0 6 p)).2.2) else (0, 0, (fn136 [h] (rUp c 2 0 6 p)).2.2)) else (if 1 ≤ (fn140 [] (rUp c 2 0 6 p)).2.1 then (0, 1, (fn140 [] (rUp c 2 0 6 p)).2.2) else (0, 0, (fn140 [] (rUp c 2 0 6 p)).2.2)))) else (0, 0, (fn136 [h] (rUp c 2 0 6 p)).2.2) := by
    unfold fn141
    simp only [zLet, k1, fn106_eq, pBit_ge, ← hh]
  have y86 : ∀ k, rUp (rUp m 15 0 35 p) 86 0 i p 86 0 k = if k = i then p else m 86 0 k := fun k => by
    by_cases e : k = i
    · rw [if_pos e, e, rUp_at]
    · rw [if_neg e, rUp_ne (fun y => e y.2.2), rUp_grp (by decide)]
  generalize rUp c 2 0 6 p = c1 at *
  generalize rUp (rUp m 15 0 35 p) 86 0 i p = m3 at *
  have y34 : m3 15 0 34 = m 15 0 34 := fm.2 34 (by decide)
  have y59 : m3 59 = m 59 := fm.1 59 (by decide) (by decide)
  have hR1 : qR 0 c0 m0 c1 m3 := by
    refine qR_up hR (fH_sub fc (by decide) (by decide)) (fH_sub fm (by decide) (by decide)) ?_ ?_ ?_ ?_
    · rw [x6, y35]
    · rw [y35]; omega
    · rw [y35]; omega
    · rw [y35]; exact k4
  have hs1 : qHs H c1 m3 h i := qHs_up hs fc (by decide) (by decide) fm (by decide) (by decide) (by rw [y35]; exact k3)
  have hsk : pSk (m3 59 0) (m3 15 0 34) (m3 15 0 35) = m3 15 0 35 := by rw [y59, y34, y35]; exact k7
  have conv : ∀ r s : zR, qHop c0 m0 c m c1 m3 h i r s → qHoq c0 m0 c m h i r s := by
    intro r s q
    rcases q with ⟨H_q, c_q, m_q, q1, q2, q3, q4, q5, q6, q7, q8, q9, q10, q11, q12, q13⟩ | q
    · exact Or.inl ⟨H_q, c_q, m_q, q1, q2, q3, q4, q5, q6, q7, q8, q9, q10, ⟨by rw [q11, q13, y86, if_pos rfl, y35], by rw [q13, y86, if_pos rfl]; exact k4⟩, fun k hk => by rw [q12 k hk, fc.1 45 (by decide) (by decide)], fun k hk => by rw [q13, y86, if_neg hk]⟩
    · exact Or.inr q
  have bit : ∀ r s : zR, qHop c0 m0 c m c1 m3 h i r s → qHop c0 m0 c m c1 m3 h i (if 1 ≤ r.2.1 then (0, 1, r.2.2) else (0, 0, r.2.2)) s := by
    intro r s q
    rcases q with ⟨H_q, c_q, m_q, q1, q2, q3⟩ | ⟨c_q, m_q, q1, q2, q3⟩
    · exact Or.inl ⟨H_q, c_q, m_q, by rw [q1]; rfl, q2, q3⟩
    · exact Or.inr ⟨c_q, m_q, by rw [q1]; rfl, q2, q3⟩
  by_cases hn : p < m 15 0 34
  · rw [if_pos (show (0 : Int) ≤ -p + m 15 0 34 + -1 by omega), pB_in hn] at E2
    rw [if_pos (k6.2 hn)] at E1
    rw [pB_in hn] at k5
    by_cases hca : pCa (m 59 0 p) = true
    · have h35 : m 59 0 p ≠ 35 := by
        have z := hca
        simp only [pCa, Bool.and_eq_true, decide_eq_true_eq] at z
        omega
      rw [if_pos (by rw [qL_ca k5]; exact hca)] at E1
      rw [if_pos h35] at E2
      rw [E1, E2]
      exact conv _ _ (hvar_twp hR1 hs1 hi hi4 h00 hlim hsk (by rw [y35, y34]; exact hn) (by rw [y59, y35]; exact hca) fc fm)
    · rw [if_neg (by rw [qL_ca k5]; exact hca)] at E1
      by_cases h35 : m 59 0 p = 35
      · rw [if_neg (fun z => z (by rw [qL_is k5 (by decide) (by decide)]; exact h35))] at E1
        rw [if_neg (fun z => z h35)] at E2
        rw [E1, E2]
        exact conv _ _ (bit _ _ (htal_twp hh1 hR1 hs1 hi hi4 h00 hlim (by rw [y35, y34]; exact hn) fc fm))
      · rw [if_pos (by rw [ne_eq, qL_is k5 (by decide) (by decide)]; exact h35)] at E1
        rw [if_pos h35] at E2
        rw [E1, E2]
        refine conv _ _ (bit _ _ (hcon_twp hR1 hs1 hi hi4 hlim hsk ?_ fc fm))
        rw [y59, y34, y35, pB_in hn]
        simpa using hca
  · rw [if_neg (show ¬ (0 : Int) ≤ -p + m 15 0 34 + -1 by omega)] at E2
    rw [if_neg (fun z => hn (k6.1 z))] at E1
    rw [E1, E2]
    have ho := item_out (any := 0) hsk (by rw [y35, y34]; exact hn) (by rw [y35, y34]; exact k4)
    rcases const_twp (any := 0) (g := h) hR1 hlim hsk (by rw [y59, y34, y35, pB_out (by omega)]; decide) (Or.inl rfl) with ⟨c3, m_q, v, h1, h2, h3⟩ | ⟨c_q, m_q, h1, h2, h3⟩
    · rw [ho] at h2
      exact absurd (congrArg (fun r => r.2.1) h2) (show ¬ (0 : Int) = 1 by decide)
    · rw [h1, h2]
      exact Or.inr ⟨c_q, m_q, rfl, rfl, h3⟩
theorem en144_fourp {cS c : rHp} : en144 cS (0, [4], c) = .inr (0, 0, rUp (fn114 [] c).2.2 2 0 4 ((fn114 [] c).2.2 2 0 6)) := by
  unfold en144
  simp only [zLet, List.getD_cons_zero, ↓reduceIte, fn109_eq]
  rw [if_pos (show (4 : Int) ≥ 4 by decide)]
  split <;> rfl
noncomputable def qHrp (c0 m0 cS mS : rHp) (h w : Int) (r s : zR) : Prop :=
  (∃ H i c9 m9, r = (if 1 ≤ (fn133 [] c9).2.1 then (0, 1, (fn133 [] c9).2.2) else (0, 0, (fn133 [] c9).2.2)) ∧ s = (0, 1, m9) ∧ qR 0 c0 m0 c9 m9 ∧ qHs H c9 m9 h i ∧ 1 ≤ i ∧ i ≤ 4 ∧ fH 2 lP jP cS c9 ∧ fH 15 lQ jQ mS m9 ∧ gNc cS c9 ∧ gNm mS m9 ∧ c9 10 h 6 = w ∧ (∀ k, i ≤ k → k < 4 → c9 46 h k = 0) ∧ ∀ k, 0 ≤ k → k < i → c9 45 h k = m9 86 0 k ∧ m9 86 0 k ≤ m0 15 0 34) ∨
  (∃ c_q m_q, r = (0, 0, c_q) ∧ s = (0, 0, m_q) ∧ qZp c0 m0 c_q m_q)
theorem head_loopp {c0 m0 cS mS cB mB : rHp} {h w : Int} (h40 : cB 40 = cS 40) (hlS : mS 15 0 34 = mB 15 0 34) (h00 : 0 ≤ c0 1000 0 0) (hlim : 2 * c0 1000 0 0 + m0 15 0 34 ≤ 10239) (hh : h = 9 * cS 40 0 (cS 1 0 10)) (hcS : ∀ j, j ≠ 7 → cS 1 0 j = c0 1 0 j) :
    ∀ (k : Nat) (i : Int) (H : Int → Prop) (c m : rHp), i + k = 4 → 0 ≤ i → qR 0 c0 m0 c m → qHs H c m h i → fH 2 lP jP cB c → fH 15 lQ jQ mB m → gNc cB c → gNm mB m → c 10 h 6 = w → (∀ k, i ≤ k → k < 4 → c 46 h k = 0) → (∀ k, 0 ≤ k → k < i → c 45 h k = m 86 0 k ∧ m 86 0 k ≤ m0 15 0 34) →
    qHrp c0 m0 cB mB h w (zLoop (en144 cS) (0, [i], c)) (zLoop (en27 mS) (0, [1], m)) := by
  intro k
  induction k with
  | zero =>
    intro i H c m hk hi hR hs F M gc gm hw h0 hP
    have h4 : i = 4 := by omega
    subst h4
    obtain ⟨q, L, k1, k2, k3, k4, k5, k6, k7⟩ := look_two hR.1 hR.2.1 [] []
    rw [zLoop_inr en144_fourp, zLoop_inr (en27_four hs.2.2.2.1)]
    refine Or.inr ⟨_, _, rfl, rfl, qZ_up hR (by decide) ?_ ?_, ?_⟩
    · rw [fn114_eq]
      exact fH_fld (fH_fld fH_refl (by decide)) (by decide)
    · rw [fn7_eq]
      exact fH_trans (fH_fld fH_refl (by decide)) (fH_sub fn8_fr (by decide) (by decide))
    · rw [rUp_at, k1, k2]
      show rUp c 2 0 6 q 2 0 6 = (fn8 [rUp m 15 0 35 q 15 0 35] (rUp m 15 0 35 q)).2.2 15 0 36
      rw [fn8_ge (by rw [rUp_at, rUp_ne (by decide)]; exact k4), rUp_at, rUp_at, rUp_at]
  | succ k ih =>
    intro i H c m hk hi hR hs F M gc gm hw h0 hP
    have hi4 : i < 4 := by omega
    have c10 : ∀ j, j ≠ 7 → c 1 0 j = cS 1 0 j := fun j hj => by rw [hcS j hj]; exact hR.2.2.2.2.2.2.1 j hj
    have hhc : h = 9 * c 40 0 (c 1 0 10) := by rw [F.1 40 (by decide) (by decide), h40, c10 10 (by decide)]; exact hh
    have l34 : m 15 0 34 = mS 15 0 34 := (M.2 34 (by decide)).trans hlS.symm
    have ha := harg_twp hhc hR hs hi hi4 h00 hlim
    rw [l34] at ha
    rcases ha with ⟨H_q, c_q, m5, a1, a2, a3, a4, a5, a6, a7, a8, a9, a10, a11, a12, a13⟩ | ⟨c_q, m5, a1, a2, a3⟩
    · obtain ⟨c_q_q, b1, b2⟩ := en144_more hh hi4 a1
      have fc_q_q : fH 2 [10] [] c_q c_q_q ∧ qHs H_q c_q_q m5 h (i + 1) ∧ c_q_q 10 h 6 = w := by
        rcases b1 with rfl | rfl
        · exact ⟨fH_refl, a4, by rw [a9]; exact hw⟩
        · exact ⟨fH_grp fH_refl (by decide) (by decide), qHs_9 a4, by rw [rUp_ne (fun y => absurd y.2.2 (by decide)), a9]; exact hw⟩
      obtain ⟨f2, hs2, hw2⟩ := fc_q_q
      clear b1
      have e34 : m 15 0 34 = m0 15 0 34 := hR.2.2.2.2.2.2.2.1.2 34 (by decide)
      have P2 : ∀ k, 0 ≤ k → k < i + 1 → c_q_q 45 h k = m5 86 0 k ∧ m5 86 0 k ≤ m0 15 0 34 := fun k k0 k1 => by
        rw [f2.1 45 (by decide) (by decide)]
        by_cases e : k = i
        · rw [e]; exact ⟨a11.1, by rw [← e34]; exact a11.2⟩
        · rw [a12 k e, a13 k e]; exact hP k k0 (by omega)
      have z2 : ∀ k, i + 1 ≤ k → k < 4 → c_q_q 46 h k = 0 := fun k k0 k1 => by rw [f2.1 46 (by decide) (by decide), a10 k (by omega)]; exact h0 k (by omega) k1
      have e2 := en27_more hs.2.2.2.1 (show i ≠ 4 by omega) a2
      have hR2 : qR 1 c0 m0 c_q_q m5 := by
        refine qR_up a3 (fH_sub f2 (by decide) (by decide)) fH_refl ?_ (Int.le_refl _) a3.2.1.2.1 a3.2.1.2.2
        rw [f2.2 6 (by decide)]; exact a3.2.1.1
      have F2 : fH 2 lP jP cB c_q_q := fH_trans (fH_trans F a5) (fH_sub f2 (by decide) (by decide))
      have M2 : fH 15 lQ jQ mB m5 := fH_trans M a6
      have l5 : mS 15 0 34 = m5 15 0 34 := hlS.trans (M2.2 34 (by decide)).symm
      have gc2 : gNc cB c_q_q := gNc_trans (gNc_trans gc a7) (gNc_fl f2 (by decide) (by decide))
      have gm2 : gNm mB m5 := gNm_trans gm a8
      obtain ⟨q, L, k1, k2, k3, k4, k5, k6, k7⟩ := look_two hR2.1 hR2.2.1 [] []
      have at0 := hR2.2.1.2.1
      have n6 : rUp c_q_q 2 0 6 q 2 0 6 = q := rUp_at
      have n35 : rUp m5 15 0 35 q 15 0 35 = q := rUp_at
      have n34 : rUp m5 15 0 35 q 15 0 34 = m5 15 0 34 := rUp_ne (by decide)
      have n59 : rUp m5 15 0 35 q 59 = m5 59 := rUp_grp (by decide)
      rw [k2] at e2
      simp only [n35, n34, n59, l5] at e2
      unfold qAh at b2
      rw [k1] at b2
      simp only [n6] at b2
      have i44 : (L = 44) = (pB (m5 59 0) (m5 15 0 34) q = 44) := qL_is k5 (by decide) (by decide)
      have i41 : (L = 41) = (pB (m5 59 0) (m5 15 0 34) q = 41) := qL_is k5 (by decide) (by decide)
      have hz : qZp c0 m0 (rUp (rUp c_q_q 2 0 6 q) 2 0 4 q) (rUp (rUp m5 15 0 35 q) 15 0 36 q) := ⟨qZ_up hR2 (by decide) (fH_fld (fH_fld fH_refl (by decide)) (by decide)) (fH_fld (fH_fld fH_refl (by decide)) (by decide)), by first | rw [rUp_at, rUp_at] | (dsimp only; rw [rUp_at, rUp_at])⟩
      have h24 := fn24_eq (x := 41) (m := rUp m5 15 0 35 q) (by rw [n59, n34, n35]; exact k7) (by rw [n34, n35]; exact k4)
      rw [n35, n34, n59] at h24
      have fc9 : fH 2 [] [6] c_q_q (rUp (rUp c_q_q 2 0 6 q) 2 0 6 (q + 1)) := fH_fld (fH_fld fH_refl (by decide)) (by decide)
      have fm9 : fH 15 [] [35] m5 (rUp (rUp m5 15 0 35 q) 15 0 35 (q + 1)) := fH_fld (fH_fld fH_refl (by decide)) (by decide)
      have o35 : rUp (rUp m5 15 0 35 q) 15 0 35 (q + 1) 15 0 35 = q + 1 := rUp_at
      have o6 : rUp (rUp c_q_q 2 0 6 q) 2 0 6 (q + 1) 2 0 6 = q + 1 := rUp_at
      by_cases hq : q < m5 15 0 34
      · rw [if_pos (k6.2 hq)] at b2
        rw [if_pos (show (0 : Int) ≤ -q + m5 15 0 34 + -1 by omega)] at e2
        have hR9 : qR 0 c0 m0 (rUp (rUp c_q_q 2 0 6 q) 2 0 6 (q + 1)) (rUp (rUp m5 15 0 35 q) 15 0 35 (q + 1)) := by
          refine qR_up hR2 (fH_sub fc9 (by decide) (by decide)) (fH_sub fm9 (by decide) (by decide)) ?_ ?_ ?_ ?_
          · rw [o6, o35]
          · rw [o35]; omega
          · rw [o35]; omega
          · rw [o35]; omega
        have hs9 : qHs H_q (rUp (rUp c_q_q 2 0 6 q) 2 0 6 (q + 1)) (rUp (rUp m5 15 0 35 q) 15 0 35 (q + 1)) h (i + 1) := qHs_up hs2 fc9 (by decide) (by decide) fm9 (by decide) (by decide) (by rw [o35]; omega)
        have F9 : fH 2 lP jP cB (rUp (rUp c_q_q 2 0 6 q) 2 0 6 (q + 1)) := fH_trans F2 (fH_sub fc9 (by decide) (by decide))
        have M9 : fH 15 lQ jQ mB (rUp (rUp m5 15 0 35 q) 15 0 35 (q + 1)) := fH_trans M2 (fH_sub fm9 (by decide) (by decide))
        have gc9 := gNc_trans gc2 (gNc_fl fc9 (by decide) (by decide))
        have gm9 := gNm_trans gm2 (gNm_fl fm9 (by decide) (by decide) (by decide) (by decide) (by decide))
        have hw9 : rUp (rUp c_q_q 2 0 6 q) 2 0 6 (q + 1) 10 h 6 = w := by rw [fc9.1 10 (by decide) (by decide)]; exact hw2
        have z9 : ∀ k, i + 1 ≤ k → k < 4 → rUp (rUp c_q_q 2 0 6 q) 2 0 6 (q + 1) 46 h k = 0 := fun k k0 k1 => by rw [fc9.1 46 (by decide) (by decide)]; exact z2 k k0 k1
        have P9 : ∀ k, 0 ≤ k → k < i + 1 → rUp (rUp c_q_q 2 0 6 q) 2 0 6 (q + 1) 45 h k = rUp (rUp m5 15 0 35 q) 15 0 35 (q + 1) 86 0 k ∧ rUp (rUp m5 15 0 35 q) 15 0 35 (q + 1) 86 0 k ≤ m0 15 0 34 := fun k k0 k1 => by rw [fc9.1 45 (by decide) (by decide), fm9.1 86 (by decide) (by decide)]; exact P2 k k0 k1
        generalize rUp (rUp c_q_q 2 0 6 q) 2 0 6 (q + 1) = c9 at *
        generalize hm9 : rUp (rUp m5 15 0 35 q) 15 0 35 (q + 1) = m9 at *
        by_cases h44 : L = 44
        · have h44m : pB (m5 59 0) (m5 15 0 34) q = 44 := by rw [← i44]; exact h44
          rw [if_neg (show ¬ L = 41 by omega), if_pos h44] at b2
          rw [if_neg (fun z => z h44m)] at e2
          rw [zLoop_inl b2, zLoop_inl e2]
          exact ih (i + 1) H_q c9 m9 (by omega) (by omega) hR9 hs9 F9 M9 gc9 gm9 hw9 z9 P9
        · have h44m : pB (m5 59 0) (m5 15 0 34) q ≠ 44 := by rw [ne_eq, ← i44]; exact h44
          rw [if_pos h44m] at e2
          rw [zLoop_inl e2, zLoop_inr en27_end]
          by_cases h41 : L = 41
          · have h41m : m5 59 0 q = 41 := by
              rw [← pB_in (t := m5 59 0) hq, ← i41]; exact h41
            rw [if_pos h41] at b2
            rw [if_pos ⟨hq, h41m⟩] at h24
            rw [h24]
            refine Or.inl ⟨H_q, i + 1, c9, m9, ?_, if_pos (show (1 : Int) ≤ 1 by decide), hR9, hs9, by omega, by omega, F9, M9, gc9, gm9, hw9, z9, P9⟩
            by_cases b3 : 1 ≤ (fn133 [] c9).2.1
            · rw [if_pos b3] at b2 ⊢
              exact zLoop_inr b2
            · rw [if_neg b3] at b2 ⊢
              exact zLoop_inr b2
          · rw [if_neg h41, if_neg h44] at b2
            rw [if_neg (fun z => h41 (by rw [i41, pB_in hq]; exact z.2))] at h24
            rw [h24, zLoop_inr b2]
            exact Or.inr ⟨_, _, rfl, if_neg (show ¬ (1 : Int) ≤ 0 by decide), hz⟩
      · rw [if_neg (fun z => hq (k6.1 z))] at b2
        rw [if_neg (show ¬ (0 : Int) ≤ -q + m5 15 0 34 + -1 by omega)] at e2
        rw [zLoop_inl e2, zLoop_inr en27_end, zLoop_inr b2]
        rw [if_neg (fun z => hq z.1)] at h24
        rw [h24]
        exact Or.inr ⟨_, _, rfl, if_neg (show ¬ (1 : Int) ≤ 0 by decide), hz⟩
    · rw [zLoop_inr (en144_bad hi4 a1), zLoop_inr (en27_bad hs.2.2.2.1 (show i ≠ 4 by omega) a2)]
      exact Or.inr ⟨_, _, rfl, rfl, a3⟩
noncomputable def qHwp (c0 m0 cS mS : rHp) (h : Int) (r s : zR) : Prop :=
  (∃ H i w c9 m9, r = (if 1 ≤ (fn133 [] c9).2.1 then (0, 1, (fn133 [] c9).2.2) else (0, 0, (fn133 [] c9).2.2)) ∧ s = (0, 1, m9) ∧ qR 0 c0 m0 c9 m9 ∧ qHs H c9 m9 h i ∧ 1 ≤ i ∧ i ≤ 4 ∧ fH 2 lP jP cS c9 ∧ fH 15 lQ jR mS m9 ∧ c9 10 h 6 = w ∧ qW pSm (m9 59 0) (m9 15 0 34) w (m9 15 0 46) (m9 15 0 47) ∧ (∀ k, i ≤ k → k < 4 → c9 46 h k = 0) ∧ gNc cS c9 ∧ gNm mS m9 ∧ ∀ k, 0 ≤ k → k < i → c9 45 h k = m9 86 0 k ∧ m9 86 0 k ≤ m0 15 0 34) ∨
  (∃ c_q m_q, r = (0, 0, c_q) ∧ s = (0, 0, m_q) ∧ qZp c0 m0 c_q m_q)
theorem head_twp {c0 m0 c m : rHp} {h : Int} (hR : qR 0 c0 m0 c m) (hB : qB (fun _ => False) c m) (h00 : 0 ≤ c0 1000 0 0) (hlim : 2 * c0 1000 0 0 + m0 15 0 34 ≤ 10239) (hh : h = 9 * c 40 0 (c 1 0 10)) : qHwp c0 m0 c m h (qH6 c) (fn27 [] m) := by
  obtain ⟨q, L, l1, l2, l3, l4, l5, l6, l7⟩ := look_two hR.1 hR.2.1 [] []
  have a0 := hR.2.1.2.1
  have h23 := fn23_is l2 l4
  have fc : fH 2 [] [6] c (rUp c 2 0 6 q) := fH_fld fH_refl (by decide)
  have fm : fH 15 [] [35] m (rUp m 15 0 35 q) := fH_fld fH_refl (by decide)
  have x6 : rUp c 2 0 6 q 2 0 6 = q := rUp_at
  have y35 : rUp m 15 0 35 q 15 0 35 = q := rUp_at
  have E1 : qH6 c = if 0 ≤ L ∧ pSm L = true then (if 1 ≤ (fn115 [] (rUp c 2 0 6 q)).2.1 then (if 1 ≤ (fn144 [] (fn115 [] (rUp c 2 0 6 q)).2.2).2.1 then (0, 1, (fn144 [] (fn115 [] (rUp c 2 0 6 q)).2.2).2.2) else (0, 0, (fn144 [] (fn115 [] (rUp c 2 0 6 q)).2.2).2.2)) else (0, 0, (fn115 [] (rUp c 2 0 6 q)).2.2)) else (0, 0, rUp (rUp c 2 0 6 q) 2 0 4 q) := by
    unfold qH6
    rw [l1]
    simp only [x6]
  generalize rUp c 2 0 6 q = c1 at *
  generalize rUp m 15 0 35 q = m1 at *
  have y34 : m1 15 0 34 = m 15 0 34 := fm.2 34 (by decide)
  have y59 : m1 59 = m 59 := fm.1 59 (by decide) (by decide)
  have hR1 : qR 0 c0 m0 c1 m1 := by
    refine qR_up hR (fH_sub fc (by decide) (by decide)) (fH_sub fm (by decide) (by decide)) ?_ ?_ ?_ ?_
    · rw [x6, y35]
    · rw [y35]; omega
    · rw [y35]; omega
    · rw [y35]; exact l4
  have dn : ∀ M, fn23 [] m = (0, 0, M) → fn27 [] m = (0, 0, M) := by
    intro M z
    unfold fn27 dn27
    simp only [zLet, z]
    rw [if_neg (show ¬ (1 : Int) ≤ 0 by decide)]
    rfl
  by_cases hq : q < m 15 0 34 ∧ pSm (m 59 0 q) = true
  · have hL : 0 ≤ L ∧ pSm L = true := ⟨l6.2 hq.1, by rw [qL_sm l5, pB_in hq.1]; exact hq.2⟩
    rw [if_pos hq] at h23
    rw [if_pos hL] at E1
    rcases word_two (q := pSm) hR1.1 hR1.2.1 (by rw [y35, y34]; exact hq.1) (by rw [y35, y59]; exact hq.2) [] [] with ⟨e, w, w1, w2, w3, w4, w5⟩ | ⟨e, w, w1, w2⟩
    · rw [y35] at w1 w2 w3 w5
      rw [y34] at w4 w5
      rw [y59] at w5
      have fA : fH 2 [] [6, 8, 9] c1 (rUp (rUp (rUp c1 2 0 9 q) 2 0 8 w) 2 0 6 e) := fH_fld (fH_fld (fH_fld fH_refl (by decide)) (by decide)) (by decide)
      have x8 : rUp (rUp (rUp c1 2 0 9 q) 2 0 8 w) 2 0 6 e 2 0 8 = w := by rw [rUp_ne (by decide), rUp_at]
      have x6e : rUp (rUp (rUp c1 2 0 9 q) 2 0 8 w) 2 0 6 e 2 0 6 = e := rUp_at
      have fM : fH 15 [] [35, 37, 38] m1 (rUp (rUp (rUp m1 15 0 37 q) 15 0 38 (e - q)) 15 0 35 e) := fH_fld (fH_fld (fH_fld fH_refl (by decide)) (by decide)) (by decide)
      have z35 : rUp (rUp (rUp m1 15 0 37 q) 15 0 38 (e - q)) 15 0 35 e 15 0 35 = e := rUp_at
      have z38 : rUp (rUp (rUp m1 15 0 37 q) 15 0 38 (e - q)) 15 0 35 e 15 0 38 = e - q := by rw [rUp_ne (by decide), rUp_at]
      have z37 : rUp (rUp (rUp m1 15 0 37 q) 15 0 38 (e - q)) 15 0 35 e 15 0 37 = q := by rw [rUp_ne (by decide), rUp_ne (by decide), rUp_at]
      rw [w2] at h23
      rw [if_pos (show (1 : Int) ≤ 1 by decide)] at h23
      rw [w1] at E1
      rw [if_pos (show (1 : Int) ≤ 1 by decide)] at E1
      simp only at E1 h23
      generalize rUp (rUp (rUp c1 2 0 9 q) 2 0 8 w) 2 0 6 e = A at *
      generalize rUp (rUp (rUp m1 15 0 37 q) 15 0 38 (e - q)) 15 0 35 e = M at *
      have fcA : fH 2 [] [6, 8, 9] c A := fH_trans (fH_sub fc (by decide) (by decide)) fA
      have fmM : fH 15 [] [35, 37, 38] m M := fH_trans (fH_sub fm (by decide) (by decide)) fM
      have hhA : h = 9 * A 40 0 (A 1 0 10) := by rw [fcA.1 40 (by decide) (by decide), fcA.1 1 (by decide) (by decide)]; exact hh
      obtain ⟨cK, b1, b2, b3, b4, b5, b6, b8⟩ := fn102_all (c := A) (w := w) (p := A 2 0 9)
      rw [← hhA] at b3 b4 b5 b6 b8
      have g5 : fH 15 [] [46, 47, 48, 49, 50] M (rUp (rUp (rUp (rUp (rUp M 15 0 46 q) 15 0 47 (e - q)) 15 0 48 0) 15 0 49 0) 15 0 50 (-1)) := fH_fld (fH_fld (fH_fld (fH_fld (fH_fld fH_refl (by decide)) (by decide)) (by decide)) (by decide)) (by decide)
      have n46 : rUp (rUp (rUp (rUp (rUp M 15 0 46 q) 15 0 47 (e - q)) 15 0 48 0) 15 0 49 0) 15 0 50 (-1) 15 0 46 = q := by rw [rUp_ne (by decide), rUp_ne (by decide), rUp_ne (by decide), rUp_ne (by decide), rUp_at]
      have n47 : rUp (rUp (rUp (rUp (rUp M 15 0 46 q) 15 0 47 (e - q)) 15 0 48 0) 15 0 49 0) 15 0 50 (-1) 15 0 47 = e - q := by rw [rUp_ne (by decide), rUp_ne (by decide), rUp_ne (by decide), rUp_at]
      have n48 : rUp (rUp (rUp (rUp (rUp M 15 0 46 q) 15 0 47 (e - q)) 15 0 48 0) 15 0 49 0) 15 0 50 (-1) 15 0 48 = 0 := by rw [rUp_ne (by decide), rUp_ne (by decide), rUp_at]
      have n49 : rUp (rUp (rUp (rUp (rUp M 15 0 46 q) 15 0 47 (e - q)) 15 0 48 0) 15 0 49 0) 15 0 50 (-1) 15 0 49 = 0 := by rw [rUp_ne (by decide), rUp_at]
      generalize hM5 : rUp (rUp (rUp (rUp (rUp M 15 0 46 q) 15 0 47 (e - q)) 15 0 48 0) 15 0 49 0) 15 0 50 (-1) = M5 at *
      have fm5 : fH 15 [] [35, 37, 38, 46, 47, 48, 49, 50] m M5 := fH_trans (fH_sub fmM (by decide) (by decide)) (fH_sub g5 (by decide) (by decide))
      have fcK : fH 2 [10, 46] [6, 8, 9] c cK := fH_trans (fH_sub fcA (by decide) (by decide)) (fH_sub b2 (by decide) (by decide))
      have u6 : cK 2 0 6 = e := (b2.2 6 (by decide)).trans x6e
      have v35 : M5 15 0 35 = e := (g5.2 35 (by decide)).trans z35
      have v34 : M5 15 0 34 = m 15 0 34 := fm5.2 34 (by decide)
      have v59 : M5 59 = m 59 := fm5.1 59 (by decide) (by decide)
      have hR5 : qR 0 c0 m0 cK M5 := by
        refine qR_up hR (fH_sub fcK (by decide) (by decide)) (fH_sub fm5 (by decide) (by decide)) ?_ ?_ ?_ ?_
        · rw [u6, v35]
        · rw [v35]; omega
        · rw [v35]; omega
        · rw [v35]; exact w4
      obtain ⟨q2, L2, j1, j2, j3, j4, j5, j6, j7⟩ := look_two hR5.1 hR5.2.1 [] []
      rw [v35] at j3
      rw [v34] at j4 j5 j6 j7
      rw [v59] at j5 j7
      have D1 : dn144 [] A = if 0 ≤ L2 ∧ L2 = 40 then .inl (0, [0], rUp (rUp cK 2 0 6 q2) 2 0 6 (q2 + 1)) else .inr (0, 0, rUp (rUp cK 2 0 6 q2) 2 0 4 q2) := by
        have e6 : rUp cK 2 0 6 q2 2 0 6 = q2 := rUp_at
        unfold dn144
        simp only [zLet, x8, b1, j1, e6, fn109_eq]
        by_cases z1 : 0 ≤ L2
        · rw [if_pos z1]
          by_cases z2 : L2 = 40
          · rw [if_pos z2, if_pos (show 0 ≤ L2 ∧ L2 = 40 from ⟨z1, z2⟩)]
          · rw [if_neg z2, if_neg (show ¬ (0 ≤ L2 ∧ L2 = 40) from fun z => z2 z.2)]
        · rw [if_neg z1, if_neg (show ¬ (0 ≤ L2 ∧ L2 = 40) from fun z => z1 z.1)]
      have o35 : rUp M5 15 0 35 q2 15 0 35 = q2 := rUp_at
      have o34 : rUp M5 15 0 35 q2 15 0 34 = m 15 0 34 := by rw [rUp_ne (by decide)]; exact v34
      have o59 : rUp M5 15 0 35 q2 59 = m 59 := by rw [rUp_grp (by decide)]; exact v59
      have h24 : fn24 [40] M5 = if q2 < m 15 0 34 ∧ m 59 0 q2 = 40 then (0, 1, rUp (rUp M5 15 0 35 q2) 15 0 35 (q2 + 1)) else (0, 0, rUp (rUp M5 15 0 35 q2) 15 0 36 q2) := by
        unfold fn24
        simp only [zLet, List.getD_cons_zero, j2, o35, v34, fn6_eq, o59, o34, fn8_eq (show q2 ≤ rUp M5 15 0 35 q2 15 0 34 by rw [o34]; exact j4)]
        by_cases z1 : q2 < m 15 0 34
        · rw [if_pos (show (0 : Int) ≤ -q2 + m 15 0 34 + -1 by omega), pB_in z1]
          by_cases z2 : m 59 0 q2 = 40
          · rw [if_pos z2, if_pos (show q2 < m 15 0 34 ∧ m 59 0 q2 = 40 from ⟨z1, z2⟩)]
          · rw [if_neg z2, if_neg (show ¬ (q2 < m 15 0 34 ∧ m 59 0 q2 = 40) from fun z => z2 z.2)]
        · rw [if_neg (show ¬ (0 : Int) ≤ -q2 + m 15 0 34 + -1 by omega), if_neg (show ¬ (q2 < m 15 0 34 ∧ m 59 0 q2 = 40) from fun z => z1 z.1)]
      have D2 : dn27 [] m = if 1 ≤ (fn24 [40] M5).2.1 then .inl (0, [1], (fn24 [40] M5).2.2) else .inr (0, 0, (fn24 [40] M5).2.2) := by
        unfold dn27
        simp only [zLet, h23, z37, z38, hM5]
        rw [if_pos (show (1 : Int) ≤ 1 by decide)]
      by_cases h40 : q2 < m 15 0 34 ∧ m 59 0 q2 = 40
      · have hL2 : 0 ≤ L2 ∧ L2 = 40 := ⟨j6.2 h40.1, by rw [qL_is j5 (by decide) (by decide), pB_in h40.1]; exact h40.2⟩
        rw [if_pos hL2] at D1
        rw [if_pos h40] at h24
        rw [h24] at D2
        rw [if_pos (show (1 : Int) ≤ 1 by decide)] at D2
        have e144 : fn144 [] A = zLoop (en144 A) (0, [0], rUp (rUp cK 2 0 6 q2) 2 0 6 (q2 + 1)) := by
          unfold fn144
          rw [D1]
          rfl
        have e27 : fn27 [] m = zLoop (en27 m) (0, [1], rUp (rUp M5 15 0 35 q2) 15 0 35 (q2 + 1)) := by
          unfold fn27
          rw [D2]
          rfl
        have fc7 : fH 2 [] [6] cK (rUp (rUp cK 2 0 6 q2) 2 0 6 (q2 + 1)) := fH_fld (fH_fld fH_refl (by decide)) (by decide)
        have fm7 : fH 15 [] [35] M5 (rUp (rUp M5 15 0 35 q2) 15 0 35 (q2 + 1)) := fH_fld (fH_fld fH_refl (by decide)) (by decide)
        have t35 : rUp (rUp M5 15 0 35 q2) 15 0 35 (q2 + 1) 15 0 35 = q2 + 1 := rUp_at
        have t6 : rUp (rUp cK 2 0 6 q2) 2 0 6 (q2 + 1) 2 0 6 = q2 + 1 := rUp_at
        generalize rUp (rUp cK 2 0 6 q2) 2 0 6 (q2 + 1) = c7 at *
        generalize rUp (rUp M5 15 0 35 q2) 15 0 35 (q2 + 1) = m7 at *
        have fcA7 : fH 2 [10, 46] [6] A c7 := fH_trans (fH_sub b2 (by decide) (by decide)) (fH_sub fc7 (by decide) (by decide))
        have fc07 : fH 2 [10, 46] [6, 8, 9] c c7 := fH_trans fcK (fH_sub fc7 (by decide) (by decide))
        have fm07 : fH 15 [] [35, 37, 38, 46, 47, 48, 49, 50] m m7 := fH_trans fm5 (fH_sub fm7 (by decide) (by decide))
        have hR7 : qR 0 c0 m0 c7 m7 := by
          refine qR_up hR5 (fH_sub fc7 (by decide) (by decide)) (fH_sub fm7 (by decide) (by decide)) ?_ ?_ ?_ ?_
          · rw [t6, t35]
          · rw [t35]; omega
          · rw [t35]; omega
          · rw [t35, v34]; omega
        have hB7 : qB (fun _ => False) c7 m7 := qB_up hB (fc07.2 5 (by decide)) (fc07.2 16 (by decide)) (fc07.1 25 (by decide) (by decide)) fm07 (by decide) (by decide) (by rw [t35]; omega)
        have k10 : ∀ j, c7 10 h j = cK 10 h j := fun j => by rw [fc7.1 10 (by decide) (by decide)]
        have hs7 : qHs (fun _ => False) c7 m7 h 0 := by
          refine ⟨hB7, by rw [k10]; exact b3, by rw [k10]; exact b4, ?_, ?_, ?_, fun k k0 k1 => by omega, fun u => ⟨fun z => z.elim, fun z => ?_⟩, ⟨fun z => ?_, fun z => ?_⟩, ⟨fun z => ?_, fun k k0 k1 => by omega⟩⟩
          · rw [fm7.2 48 (by decide)]; exact n48
          · rw [k10, b6, fm7.2 49 (by decide), n49]
          · rw [k10, b6]; decide
          · rw [k10, b6] at z
            exact absurd z.1 (by decide)
          · obtain ⟨k, k0, k1, _⟩ := z
            omega
          · rw [k10, b6] at z
            exact absurd z (by decide)
          · rw [k10, b6] at z
            exact absurd z (by decide)
        have lp := head_loopp (c0 := c0) (m0 := m0) (cS := A) (mS := m) (cB := c7) (mB := m7) (h := h) (w := w) (fcA7.1 40 (by decide) (by decide)) (fm07.2 34 (by decide)).symm h00 hlim hhA (fun j hj => by rw [fcA.1 1 (by decide) (by decide)]; exact hR.2.2.2.2.2.2.1 j hj) 4 0 (fun _ => False) c7 m7 (by decide) (by decide) hR7 hs7 fH_refl fH_refl gNc_refl gNm_refl (by rw [k10]; exact b5) (fun k k0 k1 => by rw [fc7.1 46 (by decide) (by decide)]; exact b8 k k0 k1) (fun k k0 k1 => by omega)
        rw [← e144, ← e27] at lp
        rcases lp with ⟨H, i, c9, m9, d1, d2, d3, d4, d5, d6, d7, d8, d9, d10, d11, d12, d13⟩ | ⟨c_q, m_q, d1, d2, d3⟩
        · refine Or.inl ⟨H, i, w, c9, m9, ?_, d2, d3, d4, d5, d6, fH_trans (fH_sub fc07 (by decide) (by decide)) d7, fH_trans (fH_sub fm07 (by decide) (by decide)) (fH_sub d8 (by decide) (by decide)), d11, ?_, d12, gNc_trans (gNc_fl fc07 (by decide) (by decide)) d9, gNm_trans (gNm_fl fm07 (by decide) (by decide) (by decide) (by decide) (by decide)) d10, d13⟩
          · rw [E1, d1]
            by_cases b7 : 1 ≤ (fn133 [] c9).2.1
            · rw [if_pos b7]; rfl
            · rw [if_neg b7]; rfl
          · rw [d8.1 59 (by decide) (by decide), d8.2 34 (by decide), d8.2 46 (by decide), d8.2 47 (by decide), fm7.2 46 (by decide), fm7.2 47 (by decide), n46, n47, fm07.1 59 (by decide) (by decide), fm07.2 34 (by decide)]
            exact w5
        · refine Or.inr ⟨c_q, m_q, ?_, d2, d3⟩
          rw [E1, d1]
          rfl
      · have hL2 : ¬ (0 ≤ L2 ∧ L2 = 40) := fun z => h40 ⟨j6.1 z.1, by
          have z2 := z.2
          rw [qL_is j5 (by decide) (by decide), pB_in (j6.1 z.1)] at z2
          exact z2⟩
        rw [if_neg hL2] at D1
        rw [if_neg h40] at h24
        rw [h24] at D2
        rw [if_neg (show ¬ (1 : Int) ≤ 0 by decide)] at D2
        have e144 : fn144 [] A = (0, 0, rUp (rUp cK 2 0 6 q2) 2 0 4 q2) := by
          unfold fn144
          rw [D1]
          rfl
        have e27 : fn27 [] m = (0, 0, rUp (rUp M5 15 0 35 q2) 15 0 36 q2) := by
          unfold fn27
          rw [D2]
          rfl
        rw [e144] at E1
        rw [if_neg (show ¬ (1 : Int) ≤ 0 by decide)] at E1
        exact Or.inr ⟨_, _, E1, e27, qZ_up hR5 (by decide) (fH_fld (fH_fld fH_refl (by decide)) (by decide)) (fH_fld (fH_fld fH_refl (by decide)) (by decide)), by first | rw [rUp_at, rUp_at] | (dsimp only; rw [rUp_at, rUp_at])⟩
    · rw [y35] at w1 w2
      rw [w2] at h23
      rw [if_neg (show ¬ (1 : Int) ≤ 0 by decide)] at h23
      rw [w1] at E1
      rw [if_neg (show ¬ (1 : Int) ≤ 0 by decide)] at E1
      exact Or.inr ⟨_, _, E1, dn _ h23, qZ_up hR1 (by decide) (fH_fld (fH_fld (fH_fld (fH_fld fH_refl (by decide)) (by decide)) (by decide)) (by decide)) (fH_fld (fH_fld (fH_fld fH_refl (by decide)) (by decide)) (by decide)), by first | rw [rUp_at, rUp_at] | (dsimp only; rw [rUp_at, rUp_at])⟩
  · have hL : ¬ (0 ≤ L ∧ pSm L = true) := fun z => hq ⟨l6.1 z.1, by
      have z2 := z.2
      rw [qL_sm l5, pB_in (l6.1 z.1)] at z2
      exact z2⟩
    rw [if_neg hq] at h23
    rw [if_neg hL] at E1
    exact Or.inr ⟨_, _, E1, dn _ h23, qZ_up hR1 (by decide) (fH_fld fH_refl (by decide)) (fH_fld fH_refl (by decide)), by first | rw [rUp_at, rUp_at] | (dsimp only; rw [rUp_at, rUp_at])⟩
theorem fn147_p {g : rHp} {h : Int} : (g 10 h 5 ≤ pIx (fun k => decide (g 43 h k = 0)) (g 10 h 5) 0 → fn147 [h] g = (0, 1, g)) ∧ (¬ g 10 h 5 ≤ pIx (fun k => decide (g 43 h k = 0)) (g 10 h 5) 0 → fn147 [h] g = (0, 0, rUp g 2 0 4 (g 45 h (pIx (fun k => decide (g 43 h k = 0)) (g 10 h 5) 0)))) := by
  have st : ∀ k, en147 g (0, [h, k], g) = if k < g 10 h 5 ∧ decide (g 43 h k = 0) = true then .inl (0, [h, k + 1], g) else if g 10 h 5 ≤ k then .inr (0, 1, g) else .inr (0, 0, rUp g 2 0 4 (g 45 h k)) := by
    intro k
    unfold en147
    simp only [zLet, List.getD_cons_zero, List.getD_cons_succ, ↓reduceIte, fn109_eq, decide_eq_true_eq]
    by_cases h1 : g 10 h 5 ≤ k
    · rw [if_pos (show k ≥ g 10 h 5 from h1), if_neg (fun z => by omega), if_pos h1]
    · rw [if_neg (show ¬ k ≥ g 10 h 5 from h1)]
      by_cases h2 : g 43 h k = 0
      · rw [if_pos h2, if_pos (show k < g 10 h 5 ∧ g 43 h k = 0 from ⟨by omega, h2⟩)]
      · rw [if_neg h2, if_neg (fun z => h2 z.2), if_neg h1]
  have key : ∀ (x : Nat) (k : Int), (g 10 h 5 - k).toNat ≤ x → (g 10 h 5 ≤ pIx (fun k => decide (g 43 h k = 0)) (g 10 h 5) k → zLoop (en147 g) (0, [h, k], g) = (0, 1, g)) ∧ (¬ g 10 h 5 ≤ pIx (fun k => decide (g 43 h k = 0)) (g 10 h 5) k → zLoop (en147 g) (0, [h, k], g) = (0, 0, rUp g 2 0 4 (g 45 h (pIx (fun k => decide (g 43 h k = 0)) (g 10 h 5) k)))) := by
    intro x
    induction x with
    | zero =>
      intro k hk
      rw [zLoop_inr ((st k).trans ((if_neg (fun z => by omega)).trans (if_pos (show g 10 h 5 ≤ k by omega)))), pIx_no (fun z => by omega)]
      exact ⟨fun _ => rfl, fun z => absurd (show g 10 h 5 ≤ k by omega) z⟩
    | succ x ih =>
      intro k hk
      by_cases hc : k < g 10 h 5 ∧ decide (g 43 h k = 0) = true
      · rw [zLoop_inl ((st k).trans (if_pos hc)), pIx_go hc.1 hc.2]
        exact ih (k + 1) (by omega)
      · rw [pIx_no hc]
        by_cases h1 : g 10 h 5 ≤ k
        · rw [zLoop_inr ((st k).trans ((if_neg hc).trans (if_pos h1)))]
          exact ⟨fun _ => rfl, fun z => absurd h1 z⟩
        · rw [zLoop_inr ((st k).trans ((if_neg hc).trans (if_neg h1)))]
          exact ⟨fun z => absurd z h1, fun _ => rfl⟩
  exact key _ 0 (Nat.le_refl _)
theorem fn31_p {g : rHp} : (g 15 0 48 ≤ pIx (fun k => decide (g 85 0 k = 0)) (g 15 0 48) 0 → fn31 [] g = (0, 1, g)) ∧ (¬ g 15 0 48 ≤ pIx (fun k => decide (g 85 0 k = 0)) (g 15 0 48) 0 → fn31 [] g = (0, 0, (fn8 [g 86 0 (pIx (fun k => decide (g 85 0 k = 0)) (g 15 0 48) 0)] g).2.2)) := by
  have st : ∀ k, en31 g (0, [k], g) = if k < g 15 0 48 ∧ decide (g 85 0 k = 0) = true then .inl (0, [k + 1], g) else if g 15 0 48 ≤ k then .inr (0, 1, g) else .inr (0, 0, (fn8 [g 86 0 k] g).2.2) := by
    intro k
    unfold en31
    simp only [zLet, List.getD_cons_zero, ↓reduceIte, decide_eq_true_eq]
    by_cases h1 : g 15 0 48 ≤ k
    · rw [if_pos (show k ≥ g 15 0 48 from h1), if_neg (fun z => by omega), if_pos h1]
    · rw [if_neg (show ¬ k ≥ g 15 0 48 from h1)]
      by_cases h2 : g 85 0 k = 0
      · rw [if_pos h2, if_pos (show k < g 15 0 48 ∧ g 85 0 k = 0 from ⟨by omega, h2⟩)]
      · rw [if_neg h2, if_neg (fun z => h2 z.2), if_neg h1]
  have key : ∀ (x : Nat) (k : Int), (g 15 0 48 - k).toNat ≤ x → (g 15 0 48 ≤ pIx (fun k => decide (g 85 0 k = 0)) (g 15 0 48) k → zLoop (en31 g) (0, [k], g) = (0, 1, g)) ∧ (¬ g 15 0 48 ≤ pIx (fun k => decide (g 85 0 k = 0)) (g 15 0 48) k → zLoop (en31 g) (0, [k], g) = (0, 0, (fn8 [g 86 0 (pIx (fun k => decide (g 85 0 k = 0)) (g 15 0 48) k)] g).2.2)) := by
    intro x
    induction x with
    | zero =>
      intro k hk
      rw [zLoop_inr ((st k).trans ((if_neg (fun z => by omega)).trans (if_pos (show g 15 0 48 ≤ k by omega)))), pIx_no (fun z => by omega)]
      exact ⟨fun _ => rfl, fun z => absurd (show g 15 0 48 ≤ k by omega) z⟩
    | succ x ih =>
      intro k hk
      by_cases hc : k < g 15 0 48 ∧ decide (g 85 0 k = 0) = true
      · rw [zLoop_inl ((st k).trans (if_pos hc)), pIx_go hc.1 hc.2]
        exact ih (k + 1) (by omega)
      · rw [pIx_no hc]
        by_cases h1 : g 15 0 48 ≤ k
        · rw [zLoop_inr ((st k).trans ((if_neg hc).trans (if_pos h1)))]
          exact ⟨fun _ => rfl, fun z => absurd h1 z⟩
        · rw [zLoop_inr ((st k).trans ((if_neg hc).trans (if_neg h1)))]
          exact ⟨fun z => absurd z h1, fun _ => rfl⟩
  exact key _ 0 (Nat.le_refl _)
theorem naming_twp {c0 m1 cU c1 : rHp} {h : Int} (e1 : rUp (rUp (fn110 [] cU).2.2 9 (cU 40 0 (cU 1 0 10)) 2 0) 9 (cU 40 0 (cU 1 0 10)) 3 0 = c1) (hR : qR 0 c0 m1 c1 m1) (hB : qB (fun _ => False) c1 m1) (h00 : 0 ≤ c0 1000 0 0) (hlim : 2 * c0 1000 0 0 + m1 15 0 34 ≤ 10239) (hh : h = 9 * c1 40 0 (c1 1 0 10)) (hp : c1 2 0 7 = 1) :
    (∃ i P c_q m_q, qNg h cU = (0, 1, c_q) ∧ qNh (m1 15 0 34) m1 = (0, 1, m_q) ∧ qR 0 c0 m1 c_q m_q ∧ qHt c_q m_q h i ∧ (∀ k, 0 ≤ k → k < i → c_q 43 h k = 0) ∧ (∀ k, i ≤ k → k < 4 → c_q 46 h k = 0) ∧ 0 ≤ i ∧ i ≤ 4 ∧ c_q 10 h 8 = P ∧ fn21 [m_q 15 0 46, m_q 15 0 47, m_q 15 0 48] m_q = (0, P, m_q) ∧ (P = -1 ∨ 0 ≤ P ∧ P < m_q 15 0 14 ∧ m_q 66 0 P = i)) ∨
    (∃ c_q m_q, qNg h cU = (0, 0, c_q) ∧ qNh (m1 15 0 34) m1 = (0, 0, m_q) ∧ qZp c0 m1 c_q m_q) := by
  have hw := head_twp hR hB h00 hlim hh
  have e146 : fn146 [] cU = qH6 c1 := by rw [fn146_eq, e1]
  unfold qNg qNh
  rw [e146]
  rcases hw with ⟨H, i, w, c9, m9, w1, w2, w3, w4, w5, w6, w7, w8, w9, w10, w11, w12, w13, w14⟩ | ⟨c_q, m_q, w1, w2, w3⟩
  · obtain ⟨s1, s2, s3, s4, s5, s6, s7, s8, s9⟩ := w4
    have h7 : c9 2 0 7 = 1 := by rw [w7.2 7 (by decide)]; exact hp
    have hh9 : h = 9 * c9 40 0 (c9 1 0 10) := by rw [w7.1 40 (by decide) (by decide), w7.1 1 (by decide) (by decide)]; exact hh
    obtain ⟨P, h125, h21, hP⟩ := pred_two (n := i) w3.2.2.2.1 w10
    have e133 : fn133 [] c9 = (0, 1, rUp c9 10 h 8 P) := fn133_1 hh9 h7 (by rw [w9, s3]; exact h125)
    rw [w1, e133, w2]
    simp only
    rw [if_pos (show (1 : Int) ≤ 1 by decide)]
    simp only
    rw [if_pos (show (1 : Int) ≤ 1 by decide)]
    have f10 : fH 2 [10] [] c9 (rUp c9 10 h 8 P) := fH_grp fH_refl (by decide) (by decide)
    have o8 : rUp c9 10 h 8 P 10 h 8 = P := rUp_at
    have o5 : rUp c9 10 h 8 P 10 h 5 = c9 10 h 5 := rUp_ne (fun y => absurd y.2.2 (by decide))
    generalize rUp c9 10 h 8 P = c10 at *
    have hR10 : qR 0 c0 m1 c10 m9 := by
      refine qR_up w3 (fH_sub f10 (by decide) (by decide)) fH_refl ?_ (Int.le_refl _) w3.2.1.2.1 w3.2.1.2.2
      rw [f10.2 6 (by decide)]; exact w3.2.1.1
    have ht10 : qHt c10 m9 h i := qHt_up (L2 := []) (J2 := []) ⟨s3, s4, s7⟩ f10 (by decide) o5 fH_refl (by decide) (by decide)
    have l1 : m1 15 0 34 = m9 15 0 34 := (w8.2 34 (by decide)).symm
    rw [l1]
    obtain ⟨q, L, k1, k2, k3, k4, k5, k6, k7⟩ := look_two hR10.1 hR10.2.1 [] []
    have a0 := hR10.2.1.2.1
    rw [k2]
    have fc : fH 2 [] [6] c10 (rUp c10 2 0 6 q) := fH_fld fH_refl (by decide)
    have fm : fH 15 [] [35] m9 (rUp m9 15 0 35 q) := fH_fld fH_refl (by decide)
    have t6 : rUp c10 2 0 6 q 2 0 6 = q := rUp_at
    have u35 : rUp m9 15 0 35 q 15 0 35 = q := rUp_at
    have u34 : rUp m9 15 0 35 q 15 0 34 = m9 15 0 34 := rUp_ne (by decide)
    have u59 : rUp m9 15 0 35 q 59 = m9 59 := rUp_grp (by decide)
    have E148 : fn148 [h] c10 = if 0 ≤ L ∧ L = 46 then (if 1 ≤ (fn147 [h] (rUp (rUp c10 2 0 6 q) 2 0 6 (q + 1))).2.1 then (0, 1, (fn147 [h] (rUp (rUp c10 2 0 6 q) 2 0 6 (q + 1))).2.2) else (0, 0, (fn147 [h] (rUp (rUp c10 2 0 6 q) 2 0 6 (q + 1))).2.2)) else (0, 0, rUp (rUp c10 2 0 6 q) 2 0 4 q) := by
      unfold fn148
      simp only [zLet, List.getD_cons_zero, k1, t6, fn109_eq]
      by_cases b1 : 0 ≤ L
      · rw [if_pos b1]
        by_cases b2 : L = 46
        · rw [if_pos b2, if_pos (show 0 ≤ L ∧ L = 46 from ⟨b1, b2⟩)]
        · rw [if_neg b2, if_neg (show ¬ (0 ≤ L ∧ L = 46) from fun z => b2 z.2)]
      · rw [if_neg b1, if_neg (show ¬ (0 ≤ L ∧ L = 46) from fun z => b1 z.1)]
    unfold qNj
    simp only [u35, u34, u59]
    have f8 : (fn8 [q] (rUp m9 15 0 35 q)).2.2 = rUp (rUp m9 15 0 35 q) 15 0 36 q := fn8_ge (by rw [u34]; exact k4)
    by_cases h46 : q < m9 15 0 34 ∧ m9 59 0 q = 46
    · have hL : 0 ≤ L ∧ L = 46 := ⟨k6.2 h46.1, by rw [qL_is k5 (by decide) (by decide), pB_in h46.1]; exact h46.2⟩
      rw [if_pos hL] at E148
      rw [if_pos (show (0 : Int) ≤ -q + m9 15 0 34 + -1 by omega), pB_in h46.1, if_neg (show ¬ m9 59 0 q ≠ 46 from fun z => z h46.2)]
      have f12 : fH 2 [] [6] c10 (rUp (rUp c10 2 0 6 q) 2 0 6 (q + 1)) := fH_fld fc (by decide)
      have t12 : rUp (rUp c10 2 0 6 q) 2 0 6 (q + 1) 2 0 6 = q + 1 := rUp_at
      generalize rUp (rUp c10 2 0 6 q) 2 0 6 (q + 1) = c12 at *
      have ht12 : qHt c12 (rUp m9 15 0 35 q) h i := qHt_up ht10 f12 (by decide) (by rw [f12.1 10 (by decide) (by decide)]) fm (by decide) (by decide)
      obtain ⟨ci1, ci2⟩ := const_iff ht12
      by_cases hc : ∀ k, 0 ≤ k → k < i → c12 43 h k = 0
      · have e147 := fn147_eq.1 (ci1.2 hc)
        have e31 := fn31_eq.1 (ci2.2 hc)
        rw [e147] at E148
        rw [if_pos (show (1 : Int) ≤ 1 by decide)] at E148
        rw [E148, e31]
        simp only
        rw [if_pos (show (1 : Int) ≤ 1 by decide), if_pos (show (1 : Int) ≤ 1 by decide)]
        have fm12 : fH 15 [] [35] m9 (rUp (rUp m9 15 0 35 q) 15 0 35 (q + 1)) := fH_fld fm (by decide)
        have v35 : rUp (rUp m9 15 0 35 q) 15 0 35 (q + 1) 15 0 35 = q + 1 := rUp_at
        generalize rUp (rUp m9 15 0 35 q) 15 0 35 (q + 1) = m12 at *
        have hR12 : qR 0 c0 m1 c12 m12 := by
          refine qR_up hR10 (fH_sub f12 (by decide) (by decide)) (fH_sub fm12 (by decide) (by decide)) ?_ ?_ ?_ ?_
          · rw [t12, v35]
          · rw [v35]; omega
          · rw [v35]; omega
          · rw [v35]; omega
        have v34 : m12 15 0 34 = m9 15 0 34 := fm12.2 34 (by decide)
        obtain ⟨q2, L2, j1, j2, j3, j4, j5, j6, j7⟩ := look_two hR12.1 hR12.2.1 [] []
        rw [j2]
        have b0 := hR12.2.1.2.1
        have g13 : fH 2 [] [6] c12 (rUp c12 2 0 6 q2) := fH_fld fH_refl (by decide)
        have n13 : fH 15 [] [35] m12 (rUp m12 15 0 35 q2) := fH_fld fH_refl (by decide)
        have tq : rUp c12 2 0 6 q2 2 0 6 = q2 := rUp_at
        have uq : rUp m12 15 0 35 q2 15 0 35 = q2 := rUp_at
        have E149 : fn149 [] c12 = if 0 ≤ L2 then (0, 0, rUp (rUp c12 2 0 6 q2) 2 0 4 q2) else (0, 1, rUp c12 2 0 6 q2) := by
          unfold fn149
          simp only [zLet, j1, tq, fn109_eq]
        unfold qNk
        simp only [uq]
        have f82 : (fn8 [q2] (rUp m12 15 0 35 q2)).2.2 = rUp (rUp m12 15 0 35 q2) 15 0 36 q2 := fn8_ge (by rw [rUp_ne (by decide)]; exact j4)
        have hR13 : qR 0 c0 m1 (rUp c12 2 0 6 q2) (rUp m12 15 0 35 q2) := by
          refine qR_up hR12 (fH_sub g13 (by decide) (by decide)) (fH_sub n13 (by decide) (by decide)) ?_ ?_ ?_ ?_
          · rw [tq, uq]
          · rw [uq]; omega
          · rw [uq]; omega
          · rw [uq]; exact j4
        by_cases hend : q2 < m12 15 0 34
        · rw [if_pos (j6.2 hend)] at E149
          rw [E149, if_neg (show ¬ q2 = m9 15 0 34 by omega), f82]
          exact Or.inr ⟨_, _, if_neg (show ¬ (1 : Int) ≤ 0 by decide), rfl, qZ_up hR13 (by decide) (fH_fld fH_refl (by decide)) (fH_fld fH_refl (by decide)), by first | rw [rUp_at, rUp_at] | (dsimp only; rw [rUp_at, rUp_at])⟩
        · rw [if_neg (fun z => hend (j6.1 z))] at E149
          rw [E149, if_pos (show q2 = m9 15 0 34 by omega)]
          have F : fH 2 [] [6] c10 (rUp c12 2 0 6 q2) := fH_trans f12 g13
          have M : fH 15 [] [35] m9 (rUp m12 15 0 35 q2) := fH_trans fm12 n13
          have h43 : ∀ k, 0 ≤ k → k < i → rUp c12 2 0 6 q2 43 h k = 0 := fun k z1 z2 => by rw [g13.1 43 (by decide) (by decide)]; exact hc k z1 z2
          generalize rUp c12 2 0 6 q2 = cF at *
          generalize rUp m12 15 0 35 q2 = mF at *
          refine Or.inl ⟨i, P, cF, mF, if_pos (show (1 : Int) ≤ 1 by decide), rfl, hR13, qHt_up ht10 F (by decide) (by rw [F.1 10 (by decide) (by decide)]) M (by decide) (by decide), h43, ?_, by omega, w6, by rw [F.1 10 (by decide) (by decide)]; exact o8, ?_, ?_⟩
          · rw [F.1 46 (by decide) (by decide), f10.1 46 (by decide) (by decide)]; exact w11
          · have hW : qW pSm (mF 59 0) (m9 15 0 34) w (mF 15 0 46) (mF 15 0 47) := by
              rw [M.1 59 (by decide) (by decide), M.2 46 (by decide), M.2 47 (by decide)]; exact w10
            have e48 : mF 15 0 48 = i := (M.2 48 (by decide)).trans s4
            obtain ⟨P_q, z1, z2, z3⟩ := pred_two (n := i) hR13.2.2.2.1 hW
            have zP : P_q = P := by
              have y1 := fn125_eq w i cF
              have y2 := fn125_eq w i c9
              rw [h125] at y2
              rw [z1] at y1
              have y3 := congrArg (fun r => r.2.1) y1
              have y4 := congrArg (fun r => r.2.1) y2
              simp only at y3 y4
              rw [y3, y4, F.1 16 (by decide) (by decide), F.1 17 (by decide) (by decide), F.1 1 (by decide) (by decide), f10.1 16 (by decide) (by decide), f10.1 17 (by decide) (by decide), f10.1 1 (by decide) (by decide)]
            rw [e48, z2, zP]
          · rw [M.2 14 (by decide), M.1 66 (by decide) (by decide)]; exact hP
      · have n147 : ¬ c12 10 h 5 ≤ pIx (fun k => decide (c12 43 h k = 0)) (c12 10 h 5) 0 := fun z => hc (ci1.1 z)
        have e147 := fn147_p.2 n147
        have e31 := fn31_p.2 (fun z => hc (ci2.1 z))
        have eK : pIx (fun k => decide (rUp m9 15 0 35 q 85 0 k = 0)) (rUp m9 15 0 35 q 15 0 48) 0 = pIx (fun k => decide (c12 43 h k = 0)) (c12 10 h 5) 0 := by
          rw [ht12.1, ht12.2.1]
          refine pIx_congr _ 0 (Nat.le_refl _) (fun j j0 j1 => ?_)
          rcases ht12.2.2 j j0 j1 with ⟨z1, z2, _⟩ | ⟨z1, z2, _⟩ | ⟨z1, z2⟩
          · rw [z1, z2]
          · rw [z1, z2]
          · rw [z1, z2]; rfl
        have hK0 : 0 ≤ pIx (fun k => decide (c12 43 h k = 0)) (c12 10 h 5) 0 := pIx_le
        have hK1 : pIx (fun k => decide (c12 43 h k = 0)) (c12 10 h 5) 0 < i := by rw [← ht12.1]; omega
        rw [eK] at e31
        generalize pIx (fun k => decide (c12 43 h k = 0)) (c12 10 h 5) 0 = K at *
        obtain ⟨u1, u2⟩ := w14 K hK0 hK1
        have c45 : c12 45 h K = m9 86 0 K := by rw [f12.1 45 (by decide) (by decide), f10.1 45 (by decide) (by decide)]; exact u1
        have m86 : rUp m9 15 0 35 q 86 0 K = m9 86 0 K := by rw [rUp_grp (by decide)]
        rw [c45] at e147
        rw [m86] at e31
        have p31 : (fn8 [m9 86 0 K] (rUp m9 15 0 35 q)).2.2 15 0 36 = m9 86 0 K := by rw [fn8_ge (by rw [u34, ← l1]; exact u2), rUp_at]
        rw [e147] at E148
        rw [if_neg (show ¬ (1 : Int) ≤ 0 by decide)] at E148
        rw [E148, e31]
        simp only
        rw [if_neg (show ¬ (1 : Int) ≤ 0 by decide), if_neg (show ¬ (1 : Int) ≤ 0 by decide)]
        exact Or.inr ⟨_, _, rfl, rfl, qZ_up hR10 (by decide) (fH_fld (fH_sub f12 (by decide) (by decide)) (by decide)) (fH_trans (fH_sub fm (by decide) (by decide)) (fH_sub fn8_fr (by decide) (by decide))), by rw [rUp_at, p31]⟩
    · have hL : ¬ (0 ≤ L ∧ L = 46) := fun z => h46 ⟨k6.1 z.1, by
        have z2 := z.2
        rw [qL_is k5 (by decide) (by decide), pB_in (k6.1 z.1)] at z2
        exact z2⟩
      rw [if_neg hL] at E148
      rw [E148]
      refine Or.inr ⟨_, rUp (rUp m9 15 0 35 q) 15 0 36 q, if_neg (show ¬ (1 : Int) ≤ 0 by decide), ?_, qZ_up hR10 (by decide) (fH_fld (fH_fld fH_refl (by decide)) (by decide)) (fH_fld (fH_fld fH_refl (by decide)) (by decide)), by first | rw [rUp_at, rUp_at] | (dsimp only; rw [rUp_at, rUp_at])⟩
      by_cases b1 : q < m9 15 0 34
      · rw [if_pos (show (0 : Int) ≤ -q + m9 15 0 34 + -1 by omega), pB_in b1, if_pos (show m9 59 0 q ≠ 46 from fun z => h46 ⟨b1, z⟩), f8]
        exact if_pos (show (1 : Int) ≤ 1 by decide)
      · rw [if_neg (show ¬ (0 : Int) ≤ -q + m9 15 0 34 + -1 by omega), f8]
        exact if_pos (show (1 : Int) ≤ 1 by decide)
  · rw [w1, w2]
    exact Or.inr ⟨c_q, m_q, rfl, rfl, w3⟩
