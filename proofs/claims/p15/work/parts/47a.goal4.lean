/-! ===== a GOAL that a VARIABLE begins; a GOAL ===== -/
theorem fn115_all (A : rHp) : ∃ b c_q, fn115 [] A = (0, b, c_q) ∧ (b = 0 ∨ b = 1) ∧ fH 2 [] [6, 8, 9, 4] A c_q := by
  rw [fn115_eq [] A rfl rfl]
  split
  · exact ⟨_, _, rfl, Or.inr rfl, fH_fld (fH_fld (fH_fld fH_refl (by decide)) (by decide)) (by decide)⟩
  · exact ⟨_, _, rfl, Or.inl rfl, fH_fld (fH_fld (fH_fld (fH_fld fH_refl (by decide)) (by decide)) (by decide)) (by decide)⟩
/-- the ninth VARIABLE: the class finds it BROKEN -/
theorem fn155_no {A : rHp} {w p : Int} (h : pFd (fun j => decide (A 22 0 j ≠ w)) (A 2 0 13) < 0) : ∃ c_q, fn155 [w, p] A = (0, 0, c_q) ∧ fH 2 lC jC A c_q := by
  obtain ⟨cb, b1, b2, b3, b4, b5, b6⟩ := fn103_all (c := A) (k := 4) (w := 0) (p := p)
  obtain ⟨b, c5, s1, s2, s3, s4, s5⟩ := fn154_all cb
  have hu := fn119_eq w A
  have hu5 := fn119_same hu (c_q := c5) ((s3.1 22 (by decide) (by decide)).trans (b2.1 22 (by decide) (by decide))) ((s3.2 13 (by decide)).trans (b2.2 13 (by decide)))
  have fr : fH 2 lC jC A c5 := fH_trans (fH_sub b2 (by decide) (by decide)) (fH_sub s3 (by decide) (by decide))
  have e138 : ∀ g, fn138 [g, w, p] c5 = (0, 0, rUp c5 2 0 4 p) := by
    intro g
    unfold fn138
    simp only [zLet, List.getD_cons_zero, List.getD_cons_succ, hu5, fn109_eq]
    rw [if_pos h]
  unfold fn155
  simp only [zLet, List.getD_cons_zero, List.getD_cons_succ, b1, s1, e138]
  by_cases hb : 1 ≤ b
  · rw [if_pos hb, if_neg (show ¬ (1 : Int) ≤ 0 by decide)]
    exact ⟨_, rfl, fH_fld fr (by decide)⟩
  · rw [if_neg hb]
    exact ⟨_, rfl, fr⟩
theorem fn156_no {A : rHp} {w p : Int} (h : pFd (fun j => decide (A 22 0 j ≠ w)) (A 2 0 13) < 0) (h8 : ¬ A 2 0 13 < 8) : ∃ c_q, fn156 [w, p] A = (0, 0, c_q) ∧ fH 2 lC jC A c_q := by
  obtain ⟨b, A1, s1, s2, s3⟩ := fn115_all A
  have hG : A 9 (A 40 0 (A 1 0 10)) 2 + 9 * A 40 0 (A 1 0 10) + 1 = qG A := rfl
  obtain ⟨cb, b1, b2, b3, b4, b5, b6⟩ := fn103_all (c := A1) (k := 6) (w := 0) (p := p)
  have q22 : cb 22 = A 22 := (b2.1 22 (by decide) (by decide)).trans (s3.1 22 (by decide) (by decide))
  have q13 : cb 2 0 13 = A 2 0 13 := (b2.2 13 (by decide)).trans (s3.2 13 (by decide))
  have e120 : fn120 [w] cb = (0, -1, cb) := by
    rw [fn120_is, q22, q13, if_pos h, if_neg h8]
  unfold fn156
  simp only [zLet, List.getD_cons_zero, List.getD_cons_succ, s1, b1, hG, e120, fn109_eq]
  by_cases hb : 1 ≤ b
  · rw [if_pos hb]
    by_cases hw : A1 2 0 8 = 361
    · rw [if_pos hw, if_pos (show (-1 : Int) < 0 by decide)]
      exact ⟨_, rfl, fH_fld (fH_grp (fH_trans (fH_sub s3 (by decide) (by decide)) (fH_sub b2 (by decide) (by decide))) (by decide) (by decide)) (by decide)⟩
    · rw [if_neg hw]
      exact ⟨_, rfl, fH_fld (fH_sub s3 (by decide) (by decide)) (by decide)⟩
  · rw [if_neg hb]
    exact ⟨_, rfl, fH_sub s3 (by decide) (by decide)⟩
theorem goal_var {H : Int → Prop} {c0 m0 c m : rHp} {p L : Int} (hR : qR 0 c0 m0 c m) (hB : qB H c m) (h00 : 0 ≤ c0 1000 0 0) (hlim : 2 * c0 1000 0 0 + m0 15 0 34 ≤ 10239) (k1 : fn114 [] c = (0, L, rUp c 2 0 6 p)) (k2 : fn7 [] m = (0, 0, rUp m 15 0 35 p)) (k3 : m 15 0 35 ≤ p) (hn : p < m 15 0 34) (hL : 0 ≤ L) (k5 : qL L (m 59 0 p)) (k7 : pSk (m 59 0) (m 15 0 34) p = p)
    (hca : pCa (m 59 0 p) = true) : qGo H c0 m0 c m (fn157 [] c) (fn42 [] m) := by
  obtain ⟨c1, m3, e1, e3, hR1, hB1, fc, fm, y35, x6, hsk, f6⟩ := goal_pre hR hB k3 (by omega) k7
  rw [e1] at k1
  have f33 : ∀ g : rHp, (fn33 [] g).2.2 = g := fun g => rfl
  have a0 := hR.2.1.2.1
  have e34 : m 15 0 34 = m0 15 0 34 := hR.2.2.2.2.2.2.2.1.2 34 (by decide)
  have yl : rUp m 15 0 35 p 15 0 35 = p := rUp_at
  have y34 : m3 15 0 34 = m 15 0 34 := fm.2 34 (by decide)
  have y59 : m3 59 = m 59 := fm.1 59 (by decide) (by decide)
  have f6p : fn6 [p] m3 = (0, m 59 0 p, m3) := by rw [f6, pB_in hn]
  have hb1 : (0 : Int) ≤ -p + m 15 0 34 + -1 := by omega
  have rg : 65 ≤ m 59 0 p ∧ m 59 0 p ≤ 90 := by
    have h := hca
    simp only [pCa, Bool.and_eq_true, decide_eq_true_eq] at h
    omega
  have h33m : m 59 0 p ≠ 33 := by omega
  have h33 : L ≠ 33 := by rw [ne_eq, qL_is k5 (by decide) (by decide)]; exact h33m
  have hca_q : pCa L = true := by rw [qL_ca k5]; exact hca
  have hsm : ¬ pSm (m 59 0 p) = true := by
    simp only [pSm, Bool.and_eq_true, decide_eq_true_eq]; omega
  have hn3 : m3 15 0 35 < m3 15 0 34 := by omega
  have hca3 : pCa (m3 59 0 (m3 15 0 35)) = true := by rw [y59, y35]; exact hca
  /- the class -/
  have E1 : ∀ c2 w, fn115 [] c1 = (0, 1, c2) → c2 2 0 8 = w → fn157 [] c = (if 0 ≤ (fn114 [] c2).2.1 then (if pSm (fn114 [] c2).2.1 = true then (if 1 ≤ (fn156 [w, p] (fn114 [] c2).2.2).2.1 then (0, 1, (fn156 [w, p] (fn114 [] c2).2.2).2.2) else (0, 0, (fn156 [w, p] (fn114 [] c2).2.2).2.2)) else (if 1 ≤ (fn155 [w, p] (fn114 [] c2).2.2).2.1 then (0, 1, (fn155 [w, p] (fn114 [] c2).2.2).2.2) else (0, 0, (fn155 [w, p] (fn114 [] c2).2.2).2.2))) else (0, 0, (fn155 [w, p] (fn114 [] c2).2.2).2.2)) := by
    intro c2 w h1 h2
    unfold fn157
    simp only [zLet, k1, x6, fn106_eq, fn105_eq, pBit_ge, h1, h2]
    rw [if_pos hL, if_pos h33, if_pos hca_q, if_pos (show (1 : Int) ≤ 1 by decide)]
  rcases var_R hR1 hn3 hca3 [] [] with ⟨w, c2, v, c3, m_q, r1, r2, r3, r4, r5, r6, r7, r8, r9, r10, r11, r12, r13, r14, r15, r16, r17, r18⟩ | ⟨c2, m_q, r1, r2, r3⟩ | ⟨w, c2, m_q, r1, r2, r3, r4, r5, r6, r7⟩
  · have h20 := item_var (any := 0) hsk hn3 hca3 r6 (Or.inr rfl)
    have fmt := meet_fr r5
    have f4 : fH 15 [80, 81] [] m_q (rUp (rUp m_q 80 0 (4 * m 73 0 (m 15 0 44) + 32 * m 15 0 44) 1) 81 0 (4 * m 73 0 (m 15 0 44) + 32 * m 15 0 44) v) := fH_grp (fH_grp fH_refl (by decide) (by decide)) (by decide) (by decide)
    have q80 : rUp (rUp m_q 80 0 (4 * m 73 0 (m 15 0 44) + 32 * m 15 0 44) 1) 81 0 (4 * m 73 0 (m 15 0 44) + 32 * m 15 0 44) v 80 0 (4 * m 73 0 (m 15 0 44) + 32 * m 15 0 44) = 1 := by rw [rUp_grp (by decide), rUp_at]
    have q81 : rUp (rUp m_q 80 0 (4 * m 73 0 (m 15 0 44) + 32 * m 15 0 44) 1) 81 0 (4 * m 73 0 (m 15 0 44) + 32 * m 15 0 44) v 81 0 (4 * m 73 0 (m 15 0 44) + 32 * m 15 0 44) = v := rUp_at
    generalize hm4 : rUp (rUp m_q 80 0 (4 * m 73 0 (m 15 0 44) + 32 * m 15 0 44) 1) 81 0 (4 * m 73 0 (m 15 0 44) + 32 * m 15 0 44) v = m4 at *
    have z34 : m4 15 0 34 = m 15 0 34 := (f4.2 34 (by decide)).trans ((r15.2 34 (by decide)).trans y34)
    have z59 : m4 59 = m 59 := (f4.1 59 (by decide) (by decide)).trans ((r15.1 59 (by decide) (by decide)).trans y59)
    have z35 : m4 15 0 35 = m_q 15 0 35 := f4.2 35 (by decide)
    have hR4 : qR 0 c0 m0 c3 m4 := by
      refine qR_up r11 fH_refl (fH_sub f4 (by decide) (by decide)) ?_ ?_ ?_ ?_
      · rw [z35]; exact r11.2.1.1
      · rw [z35]; exact Int.le_refl _
      · rw [z35]; exact r11.2.1.2.1
      · rw [z35]; exact r11.2.1.2.2
    have hT2 : qT c2 m4 := qT_c hR4.1 (fmt.2 3 (by decide)).symm (fmt.1 21 (by decide) (by decide)).symm
    have hA2 : qA c2 m4 := ⟨(fmt.2 6 (by decide)).symm.trans hR4.2.1.1, hR4.2.1.2⟩
    obtain ⟨q, L2, l1, l2, l3, l4, l5, l6, l7⟩ := look_two hT2 hA2 [] []
    rw [z34] at l4 l5 l6 l7
    rw [z59] at l5 l7
    have fA : fH 2 [] [6] c2 (rUp c2 2 0 6 q) := fH_fld fH_refl (by decide)
    have fM : fH 15 [] [35] m4 (rUp m4 15 0 35 q) := fH_fld fH_refl (by decide)
    have u6 : rUp c2 2 0 6 q 2 0 6 = q := rUp_at
    have v35 : rUp m4 15 0 35 q 15 0 35 = q := rUp_at
    have E := E1 c2 w r1 r2
    rw [l1] at E
    simp only at E
    generalize rUp c2 2 0 6 q = A at *
    generalize hM : rUp m4 15 0 35 q = M at *
    obtain ⟨A3, t1, t2, t3⟩ := meet_both r5 fA (by decide) (by decide) (by decide)
    have v34 : M 15 0 34 = m 15 0 34 := (fM.2 34 (by decide)).trans z34
    have v59 : M 59 = m 59 := (fM.1 59 (by decide) (by decide)).trans z59
    have fmM : fH 15 [74, 82, 83, 84, 80, 81] [35, 37, 38, 39, 40] m3 M := fH_trans (fH_trans (fH_sub r15 (by decide) (by decide)) (fH_sub f4 (by decide) (by decide))) (fH_sub fM (by decide) (by decide))
    have v44 : M 15 0 44 = m 15 0 44 := (fmM.2 44 (by decide)).trans (fm.2 44 (by decide))
    have v73 : M 73 = m 73 := (fmM.1 73 (by decide) (by decide)).trans (fm.1 73 (by decide) (by decide))
    have v45 : M 15 0 45 = m 15 0 45 := (fmM.2 45 (by decide)).trans (fm.2 45 (by decide))
    have fcA : fH 2 [22, 23] [6, 8, 9, 13] c A3 := fH_trans (fH_trans (fH_sub fc (by decide) (by decide)) r14) (fH_sub t2 (by decide) (by decide))
    have hGA : qG A = qG c := (qG_up fA (by decide) (by decide) (by decide)).trans ((qG_up r4 (by decide) (by decide) (by decide)).trans (qG_up fc (by decide) (by decide) (by decide)))
    have hR3 : qR 0 c0 m0 A3 M := by
      refine qR_up hR4 (fH_sub t2 (by decide) (by decide)) (fH_sub fM (by decide) (by decide)) ?_ ?_ ?_ ?_
      · rw [t3.2 6 (by decide), u6, v35]
      · rw [v35]; omega
      · rw [v35]; have := hR4.2.1.2.1; omega
      · rw [v35, z34]; exact l4
    have cm4 : M 74 0 (M 15 0 44) = m_q 74 0 (m_q 15 0 44) := by rw [fM.1 74 (by decide) (by decide), fM.2 44 (by decide), f4.1 74 (by decide) (by decide), f4.2 44 (by decide)]
    have cmono : m3 74 0 (m3 15 0 44) ≤ M 74 0 (M 15 0 44) := by
      rw [cm4]
      rcases r10 with h | h
      · omega
      · omega
    have hcnt : 0 ≤ m3 74 0 (m3 15 0 44) := hR1.2.2.2.2.1.2.1
    have hB3 : qB H A3 M := by
      obtain ⟨s1, s2, s3, s4, s5⟩ := hB1
      have g5 : A3 2 0 5 = c1 2 0 5 := (t2.2 5 (by decide)).trans (r14.2 5 (by decide))
      refine ⟨?_, qO_up s2 ((t2.2 16 (by decide)).trans (r14.2 16 (by decide))) ((t2.1 25 (by decide) (by decide)).trans (r14.1 25 (by decide) (by decide))) (fmM.2 58 (by decide)) (fmM.1 89 (by decide) (by decide)) (fmM.1 90 (by decide) (by decide)) (fmM.1 91 (by decide) (by decide)) cmono, ?_, ?_, ?_⟩
      · have hS := qS_var r6 s1 (by omega) (by omega) r16 hcnt
        exact qS_up hS ((fM.2 44 (by decide)).trans (f4.2 44 (by decide))) ((fM.1 74 (by decide) (by decide)).trans (f4.1 74 (by decide) (by decide))) ((fM.1 84 (by decide) (by decide)).trans (f4.1 84 (by decide) (by decide))) (by rw [v35]; omega)
      · rw [g5, fmM.2 45 (by decide)]; exact s3
      · rw [g5]; exact s4
      · intro z z0 z1
        rw [g5]
        exact s5 z (by omega) z1
    have hv : qVr v := ⟨r7, r8⟩
    have hY : 4 * M 73 0 (M 15 0 44) + 32 * M 15 0 44 = 4 * m 73 0 (m 15 0 44) + 32 * m 15 0 44 := by rw [v44, v73]
    have hnew : pFd (fun j => decide (A 22 0 j ≠ w)) (A 2 0 13) < 0 → qBt (M 15 0 45) v ≠ 1 := by
      intro h
      have h1 := t1
      rw [fn120_is, if_pos h] at h1
      have e13 : A 2 0 13 = m3 74 0 (m3 15 0 44) := by
        rw [fA.2 13 (by decide), r4.2 13 (by decide)]; exact hR1.2.2.2.2.1.1
      have hv13 : v = A 2 0 13 := by
        by_cases h8 : A 2 0 13 < 8
        · rw [if_pos h8] at h1
          exact (congrArg (fun r => r.2.1) h1).symm
        · rw [if_neg h8] at h1
          have := congrArg (fun r => r.2.1) h1
          simp only at this
          omega
      rw [fmM.2 45 (by decide), ← hB1.2.2.1]
      exact hB1.2.2.2.2 v (by omega) r8
    /- what is behind it -/
    have good : ∀ c_q m_q_q, qGd H c0 m0 A3 M (qG A) c_q m_q_q → gGo (sN c0 m0) (m 15 0 45) (m_q_q 15 0 45) (qG c) (m 73 0 (m 15 0 44) + 8 * m 15 0 44) c_q m_q_q → qGl H c0 m0 c m c_q m_q_q := by
      intro c_q m_q_q g hgo
      obtain ⟨g1, g2, g3, g4, g5, g6⟩ := g
      refine ⟨g1, g2, ?_, fH_trans (fH_sub fcA (by decide) (by decide)) (fH_sub g3 (by decide) (by decide)), fH_trans (fH_trans (fH_sub fm (by decide) (by decide)) (fH_sub fmM (by decide) (by decide))) (fH_sub g4 (by decide) (by decide)), ?_, hgo⟩
      · rw [g3.2 16 (by decide), fcA.2 16 (by decide)]; omega
      · intro G h z z2
        rw [g5 G h z (by rw [hGA]; exact z2), fcA.1 G (memG z).2.2.2.1 (memG z).1]
    have h79 : m3 79 0 (m 73 0 (m 15 0 44) + 8 * m 15 0 44) = m 15 0 45 := by rw [← e3, rUp_at]
    have cmp := compv_two (p := p) (wh := p) hR3 hB3 h00 hlim t1 hv (by rw [v34]; omega) (by rw [hY, fM.1 80 (by decide) (by decide)]; exact q80) (by rw [hY, fM.1 81 (by decide) (by decide)]; exact q81) hnew
    have cmp2 : (∃ c_q m_q_q, fn155 [w, p] A = (0, 1, c_q) ∧ fn40 [p] M = (0, 1, m_q_q) ∧ qGl H c0 m0 c m c_q m_q_q) ∨ (∃ c_q m_q_q, fn155 [w, p] A = (0, 0, c_q) ∧ fn40 [p] M = (0, 0, m_q_q) ∧ qZ c0 m0 c_q m_q_q) := by
      rcases cmp with ⟨c_q, m_q_q, g1, g2, g3, g4, g5, g6, g7, g8, g9⟩ | h
      · rw [hGA, v44, v73, v45] at g9
        refine Or.inl ⟨c_q, m_q_q, g1, g2, good c_q m_q_q ⟨g3, g4, fH_sub g5 (by decide) (by decide), fH_sub g6 (by decide) (by decide), g7, g8⟩ ⟨?_, Or.inr (Or.inl ⟨g9, (g6.2 45 (by decide)).trans v45⟩)⟩⟩
        rw [g6.1 79 (by decide) (by decide), fmM.1 79 (by decide) (by decide)]
        exact h79
      · exact Or.inr h
    by_cases hq : q < m 15 0 34
    · rw [if_pos (l6.2 hq)] at E
      have hb2 : (0 : Int) ≤ -q + m 15 0 34 + -1 := by omega
      by_cases hs : pSm (m 59 0 q) = true
      · rw [if_pos (show pSm L2 = true by rw [qL_sm l5, pB_in hq]; exact hs)] at E
        have E2 : fn42 [] m = qRk M (m 15 0 34) (m 15 0 44) (m 73 0 (m 15 0 44)) (m 15 0 45) p v q := by
          unfold fn42 qRk
          simp only [zLet, k2, f33, yl, e3, f6p, fn9_eq, pBit_ge, h20, r12, r13, hm4, l2, v35, fn6_eq, v59, v34, pB_in hq]
          rw [if_pos hb1, if_pos h33m, if_neg hsm, if_pos (show (1 : Int) ≤ 1 by decide), if_neg (show ¬ (1 : Int) ≠ 1 from fun z => z rfl), if_pos hb2, if_pos hs]
        have rk := reck_two (p := p) hR3 hB3 h00 hlim t1 hv (by rw [cm4]; exact r9) (by rw [v34]; omega) (by rw [v35, v34]; exact hq) (by rw [v59, v35]; exact hs) (by rw [hY, fM.1 81 (by decide) (by decide)]; exact q81)
        rw [v34, v44, v73, v45, v35, hGA] at rk
        rw [E, E2]
        rcases rk with ⟨c_q, m_q_q, g1, g2, g3, g4, g5⟩ | ⟨c_q, m_q_q, g1, g2, g3⟩
        · rw [g1, g2]
          refine Or.inl ⟨c_q, m_q_q, rfl, rfl, good c_q m_q_q (by rw [hGA]; exact g3) ⟨?_, Or.inr (Or.inr ⟨g4, g5⟩)⟩⟩
          rw [g3.2.2.2.1.1 79 (by decide) (by decide), fmM.1 79 (by decide) (by decide)]
          exact h79
        · rw [g1, g2]
          exact Or.inr ⟨c_q, m_q_q, rfl, rfl, g3⟩
      · rw [if_neg (show ¬ pSm L2 = true by rw [qL_sm l5, pB_in hq]; exact hs)] at E
        have E2 : fn42 [] m = if 1 ≤ (fn40 [p] M).2.1 then (0, 1, (fn40 [p] M).2.2) else (0, 0, (fn40 [p] M).2.2) := by
          unfold fn42
          simp only [zLet, k2, f33, yl, e3, f6p, fn9_eq, pBit_ge, h20, r12, r13, hm4, l2, v35, fn6_eq, v59, v34, pB_in hq]
          rw [if_pos hb1, if_pos h33m, if_neg hsm, if_pos (show (1 : Int) ≤ 1 by decide), if_neg (show ¬ (1 : Int) ≠ 1 from fun z => z rfl), if_pos hb2, if_neg hs]
        rw [E, E2]
        rcases cmp2 with ⟨c_q, m_q_q, g1, g2, g3⟩ | ⟨c_q, m_q_q, g1, g2, g3⟩
        · rw [g1, g2]
          exact Or.inl ⟨c_q, m_q_q, rfl, rfl, g3⟩
        · rw [g1, g2]
          exact Or.inr ⟨c_q, m_q_q, rfl, rfl, g3⟩
    · rw [if_neg (fun z => hq (l6.1 z))] at E
      have E2 : fn42 [] m = (0, 0, (fn40 [p] M).2.2) := by
        unfold fn42
        simp only [zLet, k2, f33, yl, e3, f6p, fn9_eq, pBit_ge, h20, r12, r13, hm4, l2, v35, fn6_eq, v59, v34]
        rw [if_pos hb1, if_pos h33m, if_neg hsm, if_pos (show (1 : Int) ≤ 1 by decide), if_neg (show ¬ (1 : Int) ≠ 1 from fun z => z rfl), if_neg (show ¬ (0 : Int) ≤ -q + m 15 0 34 + -1 by omega)]
      rw [E, E2]
      rcases cmp2 with ⟨c_q, m_q_q, g1, g2, g3⟩ | ⟨c_q, m_q_q, g1, g2, g3⟩
      · rw [g1, g2]
        exact Or.inr ⟨c_q, m_q_q, rfl, rfl, qZ_up g3.1 (by decide) fH_refl fH_refl⟩
      · rw [g1, g2]
        exact Or.inr ⟨c_q, m_q_q, rfl, rfl, g3⟩
  · have h20 := item_var (any := 0) hsk hn3 hca3 r2 (Or.inl rfl)
    refine Or.inr ⟨c2, m_q, ?_, ?_, r3⟩
    · unfold fn157
      simp only [zLet, k1, x6, fn106_eq, pBit_ge, r1]
      rw [if_pos hL, if_pos h33, if_pos hca_q, if_neg (show ¬ (1 : Int) ≤ 0 by decide)]
    · unfold fn42
      simp only [zLet, k2, f33, yl, e3, f6p, fn9_eq, pBit_ge, h20]
      rw [if_pos hb1, if_pos h33m, if_neg hsm, if_neg (show ¬ (1 : Int) ≤ 0 by decide)]
  · have h20 := item_var (any := 0) hsk hn3 hca3 r6 (Or.inl rfl)
    have E2 : fn42 [] m = (0, 0, m_q) := by
      unfold fn42
      simp only [zLet, k2, f33, yl, e3, f6p, fn9_eq, pBit_ge, h20]
      rw [if_pos hb1, if_pos h33m, if_neg hsm, if_neg (show ¬ (1 : Int) ≤ 0 by decide)]
    have E := E1 c2 w r1 r2
    have fA : fH 2 [] [6] c2 (fn114 [] c2).2.2 := by rw [fn114_eq]; exact fH_fld fH_refl (by decide)
    generalize (fn114 [] c2).2.2 = A at *
    generalize (fn114 [] c2).2.1 = L2 at *
    have e22 : A 22 = c2 22 := fA.1 22 (by decide) (by decide)
    have e13 : A 2 0 13 = c2 2 0 13 := fA.2 13 (by decide)
    have no : pFd (fun j => decide (A 22 0 j ≠ w)) (A 2 0 13) < 0 ∧ ¬ A 2 0 13 < 8 := by
      rw [e22, e13]
      rw [fn120_is] at r5
      have h13 : 0 ≤ c2 2 0 13 := by
        rw [r4.2 13 (by decide), hR1.2.2.2.2.1.1]; exact hR1.2.2.2.2.1.2.1
      by_cases h1 : pFd (fun j => decide (c2 22 0 j ≠ w)) (c2 2 0 13) < 0
      · refine ⟨h1, fun h2 => ?_⟩
        rw [if_pos h1, if_pos h2] at r5
        have := congrArg (fun r => r.2.1) r5
        simp only at this
        omega
      · rw [if_neg h1] at r5
        have := congrArg (fun r => r.2.1) r5
        simp only at this
        omega
    obtain ⟨x1, i1, i2⟩ := fn155_no (p := p) no.1
    obtain ⟨x2, i3, i4⟩ := fn156_no (p := p) no.1 no.2
    rw [i1, i3] at E
    rw [E, E2]
    by_cases h1 : 0 ≤ L2
    · rw [if_pos h1]
      by_cases h2 : pSm L2 = true
      · rw [if_pos h2]
        exact Or.inr ⟨x2, m_q, rfl, rfl, qZ_more r7 (fH_trans (fH_sub fA (by decide) (by decide)) i4) fH_refl⟩
      · rw [if_neg h2]
        exact Or.inr ⟨x1, m_q, rfl, rfl, qZ_more r7 (fH_trans (fH_sub fA (by decide) (by decide)) i2) fH_refl⟩
    · rw [if_neg h1]
      exact Or.inr ⟨x1, m_q, rfl, rfl, qZ_more r7 (fH_trans (fH_sub fA (by decide) (by decide)) i2) fH_refl⟩
/-- a GOAL -/
theorem goal_two {H : Int → Prop} {c0 m0 c m : rHp} (hR : qR 0 c0 m0 c m) (hB : qB H c m) (h00 : 0 ≤ c0 1000 0 0) (hlim : 2 * c0 1000 0 0 + m0 15 0 34 ≤ 10239) (hst : c 2 0 16 ≤ 28) (hpu : c 2 0 7 = 0) : qGo H c0 m0 c m (fn157 [] c) (fn42 [] m) := by
  obtain ⟨p, L, k1, k2, k3, k4, k5, k6, k7⟩ := look_two hR.1 hR.2.1 [] []
  by_cases hn : p < m 15 0 34
  · have hL := k6.2 hn
    rw [pB_in hn] at k5
    by_cases h33 : m 59 0 p = 33
    · exact goal_not hR hB h00 hlim hst hpu k1 k2 k3 hn hL k5 k7 h33
    · by_cases hca : pCa (m 59 0 p) = true
      · exact goal_var hR hB h00 hlim k1 k2 k3 hn hL k5 k7 hca
      · by_cases hsm : pSm (m 59 0 p) = true
        · exact goal_name hR hB h00 hlim hst hpu k1 k2 k3 hn hL k5 k7 hsm
        · by_cases hd : pDg (m 59 0 p) = true ∨ m 59 0 p = 45
          · exact goal_num hR hB h00 hlim k1 k2 k3 hn hL k5 k7 hd
          · exact goal_bad hR hB k1 k2 k3 hn hL k5 k7 h33 hca hsm (fun z => hd (Or.inl z)) (fun z => hd (Or.inr z))
  · exact goal_out hR hB k1 k2 k3 k4 hn (fun z => hn (k6.1 z)) k7
