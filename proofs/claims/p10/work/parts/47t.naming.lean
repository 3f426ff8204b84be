/-! ===== a FACT is named, by both ===== -/
noncomputable def qNg (h : Int) (c : rHp) : zR :=
  if 1 ≤ (fn146 [] c).2.1 then (if 1 ≤ (fn148 [h] (fn146 [] c).2.2).2.1 then (if 1 ≤ (fn149 [] (fn148 [h] (fn146 [] c).2.2).2.2).2.1 then (0, 1, (fn149 [] (fn148 [h] (fn146 [] c).2.2).2.2).2.2) else (0, 0, (fn149 [] (fn148 [h] (fn146 [] c).2.2).2.2).2.2)) else (0, 0, (fn148 [h] (fn146 [] c).2.2).2.2)) else (0, 0, (fn146 [] c).2.2)
noncomputable def qNk (n2 : Int) (g : rHp) : zR := if g 15 0 35 = n2 then (0, 1, g) else (0, 0, (fn8 [g 15 0 35] g).2.2)
noncomputable def qNj (n2 : Int) (g : rHp) : zR :=
  if 0 ≤ -g 15 0 35 + n2 + (-1) then (if pB (g 59 0) (g 15 0 34) (g 15 0 35) ≠ 46 then (0, 0, (fn8 [g 15 0 35] g).2.2) else (if 1 ≤ (fn31 [] g).2.1 then qNk n2 (fn7 [] (rUp (fn31 [] g).2.2 15 0 35 (g 15 0 35 + 1))).2.2 else (0, 0, (fn31 [] g).2.2))) else (0, 0, (fn8 [g 15 0 35] g).2.2)
noncomputable def qNh (n2 : Int) (m : rHp) : zR := if 1 ≤ (fn27 [] m).2.1 then qNj n2 (fn7 [] (fn27 [] m).2.2).2.2 else (0, 0, (fn27 [] m).2.2)
theorem qNg_o {cU c1 : rHp} {h : Int} (e : fn146 [] cU = qH6 c1) : fO (qH0 c1) c1 (qNg h cU).2.2 := by
  unfold qNg
  rw [e]
  have a1 : fO (qH0 c1) c1 (qH6 c1).2.2 := qH6_o
  have a2 : fO (qH0 c1) c1 (fn148 [h] (qH6 c1).2.2).2.2 := fO_tr a1 fn148_o
  have a3 : fO (qH0 c1) c1 (fn149 [] (fn148 [h] (qH6 c1).2.2).2.2).2.2 := fO_tr a2 fn149_o
  split
  · split
    · split
      · exact a3
      · exact a3
    · exact a2
  · exact a1
theorem qNk_y {n q : Int} {m : rHp} : fY q m (qNk n m).2.2 := by
  unfold qNk
  split
  · exact fY_refl
  · exact fn8_y
theorem qNh_y {n q : Int} {m : rHp} : fY q m (qNh n m).2.2 := by
  unfold qNh qNj
  have a1 : fY q m (fn27 [] m).2.2 := fn27_y
  have a2 : fY q m (fn7 [] (fn27 [] m).2.2).2.2 := fY_tr a1 fn7_y
  split
  · generalize (fn7 [] (fn27 [] m).2.2).2.2 = g at *
    split
    · split
      · exact fY_tr a2 fn8_y
      · split
        · exact fY_tr (fY_tr (fY_15 (fY_tr a2 fn31_y) (by decide)) fn7_y) qNk_y
        · exact fY_tr a2 fn31_y
    · exact fY_tr a2 fn8_y
  · exact a1
/-- a text with nothing in it has no HEAD -/
theorem head_e {c0 m1 c1 : rHp} (hR : qR 0 c0 m1 c1 m1) (hl : m1 15 0 34 = 0) : ∃ c_q m_q, qH6 c1 = (0, 0, c_q) ∧ fn27 [] m1 = (0, 0, m_q) ∧ fH 2 [] [4, 6] c1 c_q ∧ fH 15 [] [35, 36] m1 m_q := by
  obtain ⟨q, L, l1, l2, l3, l4, l5, l6, l7⟩ := look_two hR.1 hR.2.1 [] []
  have a0 := hR.2.1.2.1
  have hq : ¬ q < m1 15 0 34 := by omega
  refine ⟨rUp (rUp c1 2 0 6 q) 2 0 4 (rUp c1 2 0 6 q 2 0 6), rUp (rUp m1 15 0 35 q) 15 0 36 q, ?_, ?_, fH_fld (fH_fld fH_refl (by decide)) (by decide), fH_fld (fH_fld fH_refl (by decide)) (by decide)⟩
  · unfold qH6
    rw [l1]
    exact if_neg (fun z => hq (l6.1 z.1))
  · have e := fn23_is l2 l4
    rw [if_neg (fun z => hq z.1)] at e
    unfold fn27 dn27
    simp only [zLet, e]
    rw [if_neg (show ¬ (1 : Int) ≤ 0 by decide)]
    rfl
/-- what reading leaves, where both came to an end -/
theorem read_D {c0 m1 c1 c_q m_q : rHp} {r : Int} (hR : qR 0 c0 m1 c1 m1) (o : fO (qH0 c1) c1 c_q) (y : ∀ q, fY q m1 m_q) (e : m1 15 0 34 = 0 → fD (c1 40 0 (c1 1 0 10)) c1 c_q ∧ fE r m1 m_q) (fc : c_q 2 0 3 = c0 2 0 3) (fm : m_q 15 0 34 = m1 15 0 34) : fD (c1 40 0 (c1 1 0 10)) c1 c_q ∧ fE r m1 m_q := by
  by_cases hl : m1 15 0 34 = 0
  · exact e hl
  · have l03 : c0 2 0 3 = m1 15 0 34 := by rw [← hR.2.2.2.2.2.1.2 3 (by decide)]; exact hR.1.1
    exact ⟨fD_o o (by rw [fc, l03]; exact hl) (by unfold qH0; omega) (by unfold qH0; omega), fE_y (y (8 * r)) (by rw [fm]; exact hl) (Int.le_refl _)⟩
theorem naming_D {c0 m1 cU c1 c_q m_q : rHp} {h r : Int} (e : fn146 [] cU = qH6 c1) (hR : qR 0 c0 m1 c1 m1) (hc : (qNg h cU).2.2 = c_q) (hm : (qNh (m1 15 0 34) m1).2.2 = m_q) (fc : c_q 2 0 3 = c0 2 0 3) (fm : m_q 15 0 34 = m1 15 0 34) : fD (c1 40 0 (c1 1 0 10)) c1 c_q ∧ fE r m1 m_q := by
  have o := qNg_o (h := h) e
  have y := fun q => qNh_y (n := m1 15 0 34) (q := q) (m := m1)
  rw [hc] at o
  rw [hm] at y
  refine read_D hR o y (fun hl => ?_) fc fm
  obtain ⟨a, b, z1, z2, z3, z4⟩ := head_e hR hl
  have q1 : c_q = a := by
    rw [← hc]
    unfold qNg
    rw [e, z1]
    exact congrArg (fun r : zR => r.2.2) (if_neg (show ¬ (1 : Int) ≤ 0 by decide))
  have q2 : m_q = b := by
    rw [← hm]
    unfold qNh
    rw [z2]
    exact congrArg (fun r : zR => r.2.2) (if_neg (show ¬ (1 : Int) ≤ 0 by decide))
  rw [q1, q2]
  exact ⟨fD_H z3 (by decide), fE_H z4 (by decide) (by decide)⟩
theorem naming_two {c0 m1 cU c1 : rHp} {h : Int} (e1 : rUp (rUp (fn110 [] cU).2.2 9 (cU 40 0 (cU 1 0 10)) 2 0) 9 (cU 40 0 (cU 1 0 10)) 3 0 = c1) (hR : qR 0 c0 m1 c1 m1) (hB : qB (fun _ => False) c1 m1) (h00 : 0 ≤ c0 1000 0 0) (hlim : 2 * c0 1000 0 0 + m1 15 0 34 ≤ 10239) (hh : h = 9 * c1 40 0 (c1 1 0 10)) (hp : c1 2 0 7 = 1) :
    (∃ i P c_q m_q, qNg h cU = (0, 1, c_q) ∧ qNh (m1 15 0 34) m1 = (0, 1, m_q) ∧ qR 0 c0 m1 c_q m_q ∧ qHt c_q m_q h i ∧ (∀ k, 0 ≤ k → k < i → c_q 43 h k = 0) ∧ (∀ k, i ≤ k → k < 4 → c_q 46 h k = 0) ∧ 0 ≤ i ∧ i ≤ 4 ∧ c_q 10 h 8 = P ∧ fn21 [m_q 15 0 46, m_q 15 0 47, m_q 15 0 48] m_q = (0, P, m_q) ∧ (P = -1 ∨ 0 ≤ P ∧ P < m_q 15 0 14 ∧ m_q 66 0 P = i)) ∨
    (∃ c_q m_q, qNg h cU = (0, 0, c_q) ∧ qNh (m1 15 0 34) m1 = (0, 0, m_q) ∧ qZ c0 m1 c_q m_q) := by
  have hw := head_two hR hB h00 hlim hh
  have e146 : fn146 [] cU = qH6 c1 := by rw [fn146_eq, e1]
  unfold qNg qNh
  rw [e146]
  rcases hw with ⟨H, i, w, c9, m9, w1, w2, w3, w4, w5, w6, w7, w8, w9, w10, w11, w12, w13⟩ | ⟨c_q, m_q, w1, w2, w3⟩
  · obtain ⟨s1, s2, s3, s4, s5, s6, s7, s8, s9⟩ := w4
    have h7 : c9 2 0 7 = 1 := by rw [w7.2 7 (by decide)]; exact hp
    have hh9 : h = 9 * c9 40 0 (c9 1 0 10) := by rw [w7.1 40 (by decide) (by decide), w7.1 1 (by decide) (by decide)]; exact hh
    obtain ⟨P, h125, h21, hP⟩ := pred_two (n := i) w3.2.2.2.1 w10
    have e133 : fn133 [] c9 = (0, 1, rUp c9 10 h 8 P) := fn133_1 hh9 h7 (by rw [w9, s3]; exact h125)
    rw [w1, e133, w2]
    simp only
    rw [if_pos (show (1 : Int) ≤ 1 by decide)]
    simp only
    rw [if_pos (show (1 : Int) ≤ 1 by decide)]
    have f10 : fH 2 [10] [] c9 (rUp c9 10 h 8 P) := fH_grp fH_refl (by decide) (by decide)
    have o8 : rUp c9 10 h 8 P 10 h 8 = P := rUp_at
    have o5 : rUp c9 10 h 8 P 10 h 5 = c9 10 h 5 := rUp_ne (fun y => absurd y.2.2 (by decide))
    generalize rUp c9 10 h 8 P = c10 at *
    have hR10 : qR 0 c0 m1 c10 m9 := by
      refine qR_up w3 (fH_sub f10 (by decide) (by decide)) fH_refl ?_ (Int.le_refl _) w3.2.1.2.1 w3.2.1.2.2
      rw [f10.2 6 (by decide)]; exact w3.2.1.1
    have ht10 : qHt c10 m9 h i := qHt_up (L2 := []) (J2 := []) ⟨s3, s4, s7⟩ f10 (by decide) o5 fH_refl (by decide) (by decide)
    have l1 : m1 15 0 34 = m9 15 0 34 := (w8.2 34 (by decide)).symm
    rw [l1]
    obtain ⟨q, L, k1, k2, k3, k4, k5, k6, k7⟩ := look_two hR10.1 hR10.2.1 [] []
    have a0 := hR10.2.1.2.1
    rw [k2]
    have fc : fH 2 [] [6] c10 (rUp c10 2 0 6 q) := fH_fld fH_refl (by decide)
    have fm : fH 15 [] [35] m9 (rUp m9 15 0 35 q) := fH_fld fH_refl (by decide)
    have t6 : rUp c10 2 0 6 q 2 0 6 = q := rUp_at
    have u35 : rUp m9 15 0 35 q 15 0 35 = q := rUp_at
    have u34 : rUp m9 15 0 35 q 15 0 34 = m9 15 0 34 := rUp_ne (by decide)
    have u59 : rUp m9 15 0 35 q 59 = m9 59 := rUp_grp (by decide)
    have E148 : fn148 [h] c10 = if 0 ≤ L ∧ L = 46 then (if 1 ≤ (fn147 [h] (rUp (rUp c10 2 0 6 q) 2 0 6 (q + 1))).2.1 then (0, 1, (fn147 [h] (rUp (rUp c10 2 0 6 q) 2 0 6 (q + 1))).2.2) else (0, 0, (fn147 [h] (rUp (rUp c10 2 0 6 q) 2 0 6 (q + 1))).2.2)) else (0, 0, rUp (rUp c10 2 0 6 q) 2 0 4 q) := by
      unfold fn148
      simp only [zLet, List.getD_cons_zero, k1, t6, fn109_eq]
      by_cases b1 : 0 ≤ L
      · rw [if_pos b1]
        by_cases b2 : L = 46
        · rw [if_pos b2, if_pos (show 0 ≤ L ∧ L = 46 from ⟨b1, b2⟩)]
        · rw [if_neg b2, if_neg (show ¬ (0 ≤ L ∧ L = 46) from fun z => b2 z.2)]
      · rw [if_neg b1, if_neg (show ¬ (0 ≤ L ∧ L = 46) from fun z => b1 z.1)]
    unfold qNj
    simp only [u35, u34, u59]
    have f8 : (fn8 [q] (rUp m9 15 0 35 q)).2.2 = rUp (rUp m9 15 0 35 q) 15 0 36 q := fn8_ge (by rw [u34]; exact k4)
    by_cases h46 : q < m9 15 0 34 ∧ m9 59 0 q = 46
    · have hL : 0 ≤ L ∧ L = 46 := ⟨k6.2 h46.1, by rw [qL_is k5 (by decide) (by decide), pB_in h46.1]; exact h46.2⟩
      rw [if_pos hL] at E148
      rw [if_pos (show (0 : Int) ≤ -q + m9 15 0 34 + -1 by omega), pB_in h46.1, if_neg (show ¬ m9 59 0 q ≠ 46 from fun z => z h46.2)]
      have f12 : fH 2 [] [6] c10 (rUp (rUp c10 2 0 6 q) 2 0 6 (q + 1)) := fH_fld fc (by decide)
      have t12 : rUp (rUp c10 2 0 6 q) 2 0 6 (q + 1) 2 0 6 = q + 1 := rUp_at
      generalize rUp (rUp c10 2 0 6 q) 2 0 6 (q + 1) = c12 at *
      have ht12 : qHt c12 (rUp m9 15 0 35 q) h i := qHt_up ht10 f12 (by decide) (by rw [f12.1 10 (by decide) (by decide)]) fm (by decide) (by decide)
      obtain ⟨ci1, ci2⟩ := const_iff ht12
      by_cases hc : ∀ k, 0 ≤ k → k < i → c12 43 h k = 0
      · have e147 := fn147_eq.1 (ci1.2 hc)
        have e31 := fn31_eq.1 (ci2.2 hc)
        rw [e147] at E148
        rw [if_pos (show (1 : Int) ≤ 1 by decide)] at E148
        rw [E148, e31]
        simp only
        rw [if_pos (show (1 : Int) ≤ 1 by decide), if_pos (show (1 : Int) ≤ 1 by decide)]
        have fm12 : fH 15 [] [35] m9 (rUp (rUp m9 15 0 35 q) 15 0 35 (q + 1)) := fH_fld fm (by decide)
        have v35 : rUp (rUp m9 15 0 35 q) 15 0 35 (q + 1) 15 0 35 = q + 1 := rUp_at
        generalize rUp (rUp m9 15 0 35 q) 15 0 35 (q + 1) = m12 at *
        have hR12 : qR 0 c0 m1 c12 m12 := by
          refine qR_up hR10 (fH_sub f12 (by decide) (by decide)) (fH_sub fm12 (by decide) (by decide)) ?_ ?_ ?_ ?_
          · rw [t12, v35]
          · rw [v35]; omega
          · rw [v35]; omega
          · rw [v35]; omega
        have v34 : m12 15 0 34 = m9 15 0 34 := fm12.2 34 (by decide)
        obtain ⟨q2, L2, j1, j2, j3, j4, j5, j6, j7⟩ := look_two hR12.1 hR12.2.1 [] []
        rw [j2]
        have b0 := hR12.2.1.2.1
        have g13 : fH 2 [] [6] c12 (rUp c12 2 0 6 q2) := fH_fld fH_refl (by decide)
        have n13 : fH 15 [] [35] m12 (rUp m12 15 0 35 q2) := fH_fld fH_refl (by decide)
        have tq : rUp c12 2 0 6 q2 2 0 6 = q2 := rUp_at
        have uq : rUp m12 15 0 35 q2 15 0 35 = q2 := rUp_at
        have E149 : fn149 [] c12 = if 0 ≤ L2 then (0, 0, rUp (rUp c12 2 0 6 q2) 2 0 4 q2) else (0, 1, rUp c12 2 0 6 q2) := by
          unfold fn149
          simp only [zLet, j1, tq, fn109_eq]
        unfold qNk
        simp only [uq]
        have f82 : (fn8 [q2] (rUp m12 15 0 35 q2)).2.2 = rUp (rUp m12 15 0 35 q2) 15 0 36 q2 := fn8_ge (by rw [rUp_ne (by decide)]; exact j4)
        have hR13 : qR 0 c0 m1 (rUp c12 2 0 6 q2) (rUp m12 15 0 35 q2) := by
          refine qR_up hR12 (fH_sub g13 (by decide) (by decide)) (fH_sub n13 (by decide) (by decide)) ?_ ?_ ?_ ?_
          · rw [tq, uq]
          · rw [uq]; omega
          · rw [uq]; omega
          · rw [uq]; exact j4
        by_cases hend : q2 < m12 15 0 34
        · rw [if_pos (j6.2 hend)] at E149
          rw [E149, if_neg (show ¬ q2 = m9 15 0 34 by omega), f82]
          exact Or.inr ⟨_, _, if_neg (show ¬ (1 : Int) ≤ 0 by decide), rfl, qZ_up hR13 (by decide) (fH_fld fH_refl (by decide)) (fH_fld fH_refl (by decide))⟩
        · rw [if_neg (fun z => hend (j6.1 z))] at E149
          rw [E149, if_pos (show q2 = m9 15 0 34 by omega)]
          have F : fH 2 [] [6] c10 (rUp c12 2 0 6 q2) := fH_trans f12 g13
          have M : fH 15 [] [35] m9 (rUp m12 15 0 35 q2) := fH_trans fm12 n13
          have h43 : ∀ k, 0 ≤ k → k < i → rUp c12 2 0 6 q2 43 h k = 0 := fun k z1 z2 => by rw [g13.1 43 (by decide) (by decide)]; exact hc k z1 z2
          generalize rUp c12 2 0 6 q2 = cF at *
          generalize rUp m12 15 0 35 q2 = mF at *
          refine Or.inl ⟨i, P, cF, mF, if_pos (show (1 : Int) ≤ 1 by decide), rfl, hR13, qHt_up ht10 F (by decide) (by rw [F.1 10 (by decide) (by decide)]) M (by decide) (by decide), h43, ?_, by omega, w6, by rw [F.1 10 (by decide) (by decide)]; exact o8, ?_, ?_⟩
          · rw [F.1 46 (by decide) (by decide), f10.1 46 (by decide) (by decide)]; exact w11
          · have hW : qW pSm (mF 59 0) (m9 15 0 34) w (mF 15 0 46) (mF 15 0 47) := by
              rw [M.1 59 (by decide) (by decide), M.2 46 (by decide), M.2 47 (by decide)]; exact w10
            have e48 : mF 15 0 48 = i := (M.2 48 (by decide)).trans s4
            obtain ⟨P_q, z1, z2, z3⟩ := pred_two (n := i) hR13.2.2.2.1 hW
            have zP : P_q = P := by
              have y1 := fn125_eq w i cF
              have y2 := fn125_eq w i c9
              rw [h125] at y2
              rw [z1] at y1
              have y3 := congrArg (fun r => r.2.1) y1
              have y4 := congrArg (fun r => r.2.1) y2
              simp only at y3 y4
              rw [y3, y4, F.1 16 (by decide) (by decide), F.1 17 (by decide) (by decide), F.1 1 (by decide) (by decide), f10.1 16 (by decide) (by decide), f10.1 17 (by decide) (by decide), f10.1 1 (by decide) (by decide)]
            rw [e48, z2, zP]
          · rw [M.2 14 (by decide), M.1 66 (by decide) (by decide)]; exact hP
      · obtain ⟨p, e147⟩ := fn147_eq.2 (fun z => hc (ci1.1 z))
        obtain ⟨m_q, e31, f31⟩ := fn31_eq.2 (fun z => hc (ci2.1 z))
        rw [e147] at E148
        rw [if_neg (show ¬ (1 : Int) ≤ 0 by decide)] at E148
        rw [E148, e31]
        simp only
        rw [if_neg (show ¬ (1 : Int) ≤ 0 by decide), if_neg (show ¬ (1 : Int) ≤ 0 by decide)]
        exact Or.inr ⟨_, _, rfl, rfl, qZ_up hR10 (by decide) (fH_fld (fH_sub f12 (by decide) (by decide)) (by decide)) (fH_trans (fH_sub fm (by decide) (by decide)) (fH_sub f31 (by decide) (by decide)))⟩
    · have hL : ¬ (0 ≤ L ∧ L = 46) := fun z => h46 ⟨k6.1 z.1, by
        have z2 := z.2
        rw [qL_is k5 (by decide) (by decide), pB_in (k6.1 z.1)] at z2
        exact z2⟩
      rw [if_neg hL] at E148
      rw [E148]
      refine Or.inr ⟨_, rUp (rUp m9 15 0 35 q) 15 0 36 q, if_neg (show ¬ (1 : Int) ≤ 0 by decide), ?_, qZ_up hR10 (by decide) (fH_fld (fH_fld fH_refl (by decide)) (by decide)) (fH_fld (fH_fld fH_refl (by decide)) (by decide))⟩
      by_cases b1 : q < m9 15 0 34
      · rw [if_pos (show (0 : Int) ≤ -q + m9 15 0 34 + -1 by omega), pB_in b1, if_pos (show m9 59 0 q ≠ 46 from fun z => h46 ⟨b1, z⟩), f8]
        exact if_pos (show (1 : Int) ≤ 1 by decide)
      · rw [if_neg (show ¬ (0 : Int) ≤ -q + m9 15 0 34 + -1 by omega), f8]
        exact if_pos (show (1 : Int) ≤ 1 by decide)
  · rw [w1, w2]
    exact Or.inr ⟨c_q, m_q, rfl, rfl, w3⟩
