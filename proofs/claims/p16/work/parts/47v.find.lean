/-! ===== find: what reading leaves ===== -/
noncomputable def qFg (h : Int) (c : rHp) : zR :=
  if 1 ≤ (fn146 [] c).2.1 then (if 1 ≤ (fn147 [h] (fn146 [] c).2.2).2.1 then (if 1 ≤ (fn149 [] (fn147 [h] (fn146 [] c).2.2).2.2).2.1 then (0, 1, (fn149 [] (fn147 [h] (fn146 [] c).2.2).2.2).2.2) else (0, 0, (fn149 [] (fn147 [h] (fn146 [] c).2.2).2.2).2.2)) else (0, 0, (fn147 [h] (fn146 [] c).2.2).2.2)) else (0, 0, (fn146 [] c).2.2)
noncomputable def qFh (n2 : Int) (m : rHp) : zR :=
  if 1 ≤ (fn27 [] m).2.1 then (if 1 ≤ (fn31 [] (fn27 [] m).2.2).2.1 then qNk n2 (fn7 [] (fn31 [] (fn27 [] m).2.2).2.2).2.2 else (0, 0, (fn31 [] (fn27 [] m).2.2).2.2)) else (0, 0, (fn27 [] m).2.2)
theorem fn147_fr {c : rHp} {h : Int} : fH 2 [] [4] c (fn147 [h] c).2.2 := by
  by_cases b : c 10 h 5 ≤ pIx (fun k => decide (c 43 h k = 0)) (c 10 h 5) 0
  · rw [fn147_eq.1 b]; exact fH_refl
  · obtain ⟨p, e⟩ := fn147_eq.2 b
    rw [e]
    exact fH_fld fH_refl (by decide)
theorem fn31_fr {m : rHp} : fH 15 [] [36] m (fn31 [] m).2.2 := by
  by_cases b : m 15 0 48 ≤ pIx (fun k => decide (m 85 0 k = 0)) (m 15 0 48) 0
  · rw [fn31_eq.1 b]; exact fH_refl
  · obtain ⟨p, e, f⟩ := fn31_eq.2 b
    rw [e]
    exact f
theorem fn149_fr {c : rHp} : fH 2 [] [4, 6] c (fn149 [] c).2.2 := by
  unfold fn149
  simp only [zLet, fn114_eq, fn109_eq]
  split
  · exact fH_fld (fH_fld fH_refl (by decide)) (by decide)
  · exact fH_fld fH_refl (by decide)
theorem fn7_fr {m : rHp} : fH 15 [] [35] m (fn7 [] m).2.2 := by
  rw [fn7_eq]
  exact fH_fld fH_refl (by decide)
theorem qNk_fr {n : Int} {m : rHp} : fH 15 [] [36] m (qNk n m).2.2 := by
  unfold qNk
  split
  · exact fH_refl
  · exact fn8_fr
theorem calling_Z {c0 m1 cU c1 : rHp} {h n2 : Int} (e1 : rUp (rUp (fn110 [] cU).2.2 9 (cU 40 0 (cU 1 0 10)) 2 0) 9 (cU 40 0 (cU 1 0 10)) 3 0 = c1) (hR : qR 0 c0 m1 c1 m1) (hB : qB (fun _ => False) c1 m1) (h00 : 0 ≤ c0 1000 0 0) (hlim : 2 * c0 1000 0 0 + m1 15 0 34 ≤ 10239) (hh : h = 9 * c1 40 0 (c1 1 0 10)) (hp : c1 2 0 7 = 1) :
    qZ c0 m1 (qFg h cU).2.2 (qFh n2 m1).2.2 := by
  have hw := head_two hR hB h00 hlim hh
  have e146 : fn146 [] cU = qH6 c1 := by rw [fn146_eq, e1]
  unfold qFg qFh
  rw [e146]
  rcases hw with ⟨H, i, w, c9, m9, w1, w2, w3, w4, w5, w6, w7, w8, w9, w10, w11, w12, w13⟩ | ⟨c_q, m_q, w1, w2, w3⟩
  · obtain ⟨s1, s2, s3, s4, s5, s6, s7, s8, s9⟩ := w4
    have h7 : c9 2 0 7 = 1 := by rw [w7.2 7 (by decide)]; exact hp
    have hh9 : h = 9 * c9 40 0 (c9 1 0 10) := by rw [w7.1 40 (by decide) (by decide), w7.1 1 (by decide) (by decide)]; exact hh
    obtain ⟨P, h125, h21, hP⟩ := pred_two (n := i) w3.2.2.2.1 w10
    have e133 : fn133 [] c9 = (0, 1, rUp c9 10 h 8 P) := fn133_1 hh9 h7 (by rw [w9, s3]; exact h125)
    rw [w1, e133, w2]
    simp only
    rw [if_pos (show (1 : Int) ≤ 1 by decide)]
    simp only
    rw [if_pos (show (1 : Int) ≤ 1 by decide), if_pos (show (1 : Int) ≤ 1 by decide)]
    refine qZ_up w3 (by decide) ?_ ?_
    · have f10 : fH 2 lC jC c9 (rUp c9 10 h 8 P) := fH_grp fH_refl (by decide) (by decide)
      split
      · split
        · exact fH_trans f10 (fH_trans (fH_sub fn147_fr (by decide) (by decide)) (fH_sub fn149_fr (by decide) (by decide)))
        · exact fH_trans f10 (fH_trans (fH_sub fn147_fr (by decide) (by decide)) (fH_sub fn149_fr (by decide) (by decide)))
      · exact fH_trans f10 (fH_sub fn147_fr (by decide) (by decide))
    · split
      · exact fH_trans (fH_sub fn31_fr (by decide) (by decide)) (fH_trans (fH_sub fn7_fr (by decide) (by decide)) (fH_sub qNk_fr (by decide) (by decide)))
      · exact fH_sub fn31_fr (by decide) (by decide)
  · rw [w1, w2]
    exact w3
