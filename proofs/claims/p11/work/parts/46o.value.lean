/-! ===== a VALUE by both ===== -/
theorem fn119_two {c : rHp} {w : Int} (h0 : 0 ≤ c 2 0 13) : ∃ u, fn119 [w] c = (0, u, c) ∧ (u = -1 ∨ 0 ≤ u ∧ u < c 2 0 13) := by
  refine ⟨_, fn119_eq w c, ?_⟩
  unfold pFd
  split
  · exact Or.inl rfl
  · have : 0 ≤ pIx (fun j => decide (c 22 0 j ≠ w)) (c 2 0 13) 0 := pIx_le
    exact Or.inr ⟨this, by omega⟩
theorem fn120_old {c : rHp} {w u : Int} (h : fn119 [w] c = (0, u, c)) (hu : 0 ≤ u) : fn120 [w] c = (0, u, rUp c 23 0 u (zF2 .iadd (c 23 0 u) 1)) := by
  unfold fn120
  simp only [zLet, List.getD_cons_zero, h]
  rw [if_neg (by omega)]
theorem fn120_new {c : rHp} {w : Int} (h : fn119 [w] c = (0, -1, c)) : (fn120 [w] c).2.1 = if c 2 0 13 < 8 then c 2 0 13 else -1 := by
  unfold fn120
  simp only [zLet, List.getD_cons_zero, h]
  rw [if_pos (by decide)]
  split <;> rfl
/-- the reference's VALUE, its item being read -/
theorem fn34_eq {m m1 m_q : rHp} {k : Int} (h7 : fn7 [] m = (0, 0, m1)) (h20 : fn20 [0] m1 = (0, 1, m_q)) (hv : m_q 15 0 40 = 1 → qVr (m_q 15 0 39)) (hA : m1 15 0 35 ≤ m_q 15 0 34) : fn34 [k] m =
    (if m_q 15 0 40 = 1 ∧ qBt (m_q 15 0 45) (m_q 15 0 39) ≠ 1 then (0, 0, rUp m_q 15 0 36 (m1 15 0 35)) else (0, 1, rUp (rUp m_q 80 0 (4 * m 73 0 (m 15 0 44) + (32 * m 15 0 44 + k)) (m_q 15 0 40)) 81 0 (4 * m 73 0 (m 15 0 44) + (32 * m 15 0 44 + k)) (m_q 15 0 39))) := by
  have f33 : ∀ g : rHp, (fn33 [] g).2.2 = g := fun g => rfl
  unfold fn34
  simp only [zLet, List.getD_cons_zero, h7, h20, f33]
  rw [if_pos (show (1 : Int) ≤ 1 by decide)]
  by_cases hs : m_q 15 0 40 = 1
  · rw [if_neg (show ¬ m_q 15 0 40 ≠ 1 from fun q => q hs)]
    simp only [fn19_eq (hv hs), fn8_eq hA, one_bit]
    by_cases hb : qBt (m_q 15 0 45) (m_q 15 0 39) = 1
    · rw [if_pos hb, if_neg (show ¬ (m_q 15 0 40 = 1 ∧ qBt (m_q 15 0 45) (m_q 15 0 39) ≠ 1) from fun q => q.2 hb)]
    · rw [if_neg hb, if_pos (show m_q 15 0 40 = 1 ∧ qBt (m_q 15 0 45) (m_q 15 0 39) ≠ 1 from ⟨hs, hb⟩)]
  · rw [if_pos (show m_q 15 0 40 ≠ 1 from hs), if_neg (show ¬ (m_q 15 0 40 = 1 ∧ qBt (m_q 15 0 45) (m_q 15 0 39) ≠ 1) from fun q => hs q.1)]
theorem fn34_no {m m1 m_q : rHp} {k : Int} (h7 : fn7 [] m = (0, 0, m1)) (h20 : fn20 [0] m1 = (0, 0, m_q)) : fn34 [k] m = (0, 0, m_q) := by
  unfold fn34
  simp only [zLet, List.getD_cons_zero, h7, h20]
  rw [if_neg (show ¬ (1 : Int) ≤ 0 by decide)]
theorem value_two {H : Int → Prop} {c0 m0 c m : rHp} {k : Int} (hR : qR 0 c0 m0 c m) (hB : qB H c m) (h00 : 0 ≤ c0 1000 0 0) (hlim : 2 * c0 1000 0 0 + m0 15 0 34 ≤ 10239) (hz : c 10 (qG c) 5 < 4) :
    (∃ c_q m_q, fn139 [qG c] c = (0, 1, c_q) ∧ fn34 [k] m = (0, 1, m_q) ∧ qR 1 c0 m0 c_q m_q ∧ qB H c_q m_q ∧ fH 2 [3, 26, 22, 23, 10, 43, 44, 45, 46] [6, 8, 9, 10, 13] c c_q ∧ fH 15 [61, 62, 63, 74, 82, 83, 84, 80, 81] [8, 9, 35, 37, 38, 39, 40] m m_q ∧
      c_q 10 (qG c) 5 = c 10 (qG c) 5 + 1 ∧ (∀ h j, ¬ (h = qG c ∧ j = 5) → c_q 10 h j = c 10 h j) ∧ (∀ G h, G ∈ [10, 43, 44, 45, 46] → h ≠ qG c → c_q G h = c G h) ∧ m 15 0 35 < m_q 15 0 35 ∧ m 74 0 (m 15 0 44) ≤ m_q 74 0 (m_q 15 0 44) ∧ qVa (sN c0 m0) (m 15 0 45) (qG c) (c 10 (qG c) 5) (4 * m 73 0 (m 15 0 44) + (32 * m 15 0 44 + k)) c m c_q m_q) ∨
    (∃ c_q m_q, fn139 [qG c] c = (0, 0, c_q) ∧ fn34 [k] m = (0, 0, m_q) ∧ qZ c0 m0 c_q m_q) := by
  obtain ⟨s1, s2, s3, s4, s5⟩ := hB
  obtain ⟨p, L, k1, k2, k3, k4, k5, k6, k7⟩ := look_two hR.1 hR.2.1 [] []
  have a2 := hR.2.1.2.1
  have hR1 : qR 0 c0 m0 (rUp c 2 0 6 p) (rUp m 15 0 35 p) := by
    refine qR_up hR (fH_fld fH_refl (by decide)) (fH_fld fH_refl (by decide)) ?_ ?_ ?_ ?_
    · rw [rUp_at, rUp_at]
    · rw [rUp_at]; omega
    · rw [rUp_at]; omega
    · rw [rUp_at]; exact k4
  have hS1 : qS (rUp m 15 0 35 p) := qS_up s1 (rUp_ne (by decide)) (rUp_grp (by decide)) (rUp_grp (by decide)) (by rw [rUp_at]; exact k3)
  have fc1 : fH 2 [] [6] c (rUp c 2 0 6 p) := fH_fld fH_refl (by decide)
  have fm1 : fH 15 [] [35] m (rUp m 15 0 35 p) := fH_fld fH_refl (by decide)
  have x6 : rUp c 2 0 6 p 2 0 6 = p := rUp_at
  have y35 : rUp m 15 0 35 p 15 0 35 = p := rUp_at
  have y34 : rUp m 15 0 35 p 15 0 34 = m 15 0 34 := rUp_ne (by decide)
  have y59 : rUp m 15 0 35 p 59 = m 59 := rUp_grp (by decide)
  generalize rUp c 2 0 6 p = c1 at *
  generalize rUp m 15 0 35 p = m1 at *
  have hsk : pSk (m1 59 0) (m1 15 0 34) (m1 15 0 35) = m1 15 0 35 := by rw [y59, y34, y35]; exact k7
  have h10 : c1 10 = c 10 := fc1.1 10 (by decide) (by decide)
  have hb : pB (m1 59 0) (m1 15 0 34) (m1 15 0 35) = pB (m 59 0) (m 15 0 34) p := by rw [y59, y34, y35]
  have hcnt : m1 74 0 (m1 15 0 44) = m 74 0 (m 15 0 44) := by rw [fm1.1 74 (by decide) (by decide), fm1.2 44 (by decide)]
  have e34 : m 15 0 34 = m0 15 0 34 := hR.2.2.2.2.2.2.2.1.2 34 (by decide)
  /- what is left to show of a success -/
  have fin : ∀ (c3 m_q : rHp) (kd pl sl v X : Int), qR 1 c0 m0 c3 m_q → qS m_q → fH 2 [3, 26, 22, 23] [6, 8, 9, 10, 13] c c3 → fH 15 [61, 62, 63, 74, 82, 83, 84] [8, 9, 35, 37, 38, 39, 40] m m_q → m 74 0 (m 15 0 44) ≤ m_q 74 0 (m_q 15 0 44) → m 15 0 35 < m_q 15 0 35 →
      fn139 [qG c] c = (0, 1, (fn104 [qG c, kd, pl, sl, v] c3).2.2) → fn34 [k] m = (0, 1, rUp (rUp m_q 80 0 X (m_q 15 0 40)) 81 0 X (m_q 15 0 39)) → X = 4 * m 73 0 (m 15 0 44) + (32 * m 15 0 44 + k) → ((kd = 0 ∧ m_q 15 0 40 = 0 ∧ vE (sN c0 m0) v (m_q 15 0 39)) ∨ (kd = 1 ∧ m_q 15 0 40 = 1 ∧ sl = m_q 15 0 39 ∧ qVr sl ∧ qBt (m 15 0 45) sl = 1)) →
      (∃ c_q m_q, fn139 [qG c] c = (0, 1, c_q) ∧ fn34 [k] m = (0, 1, m_q) ∧ qR 1 c0 m0 c_q m_q ∧ qB H c_q m_q ∧ fH 2 [3, 26, 22, 23, 10, 43, 44, 45, 46] [6, 8, 9, 10, 13] c c_q ∧ fH 15 [61, 62, 63, 74, 82, 83, 84, 80, 81] [8, 9, 35, 37, 38, 39, 40] m m_q ∧
        c_q 10 (qG c) 5 = c 10 (qG c) 5 + 1 ∧ (∀ h j, ¬ (h = qG c ∧ j = 5) → c_q 10 h j = c 10 h j) ∧ (∀ G h, G ∈ [10, 43, 44, 45, 46] → h ≠ qG c → c_q G h = c G h) ∧ m 15 0 35 < m_q 15 0 35 ∧ m 74 0 (m 15 0 44) ≤ m_q 74 0 (m_q 15 0 44) ∧ qVa (sN c0 m0) (m 15 0 45) (qG c) (c 10 (qG c) 5) (4 * m 73 0 (m 15 0 44) + (32 * m 15 0 44 + k)) c m c_q m_q) := by
    intro c3 m_q kd pl sl v X q1 q2 q3 q4 q5 q6 q7 q8 q9 q10
    have f10 : c3 10 = c 10 := q3.1 10 (by decide) (by decide)
    have hz3 : c3 10 (qG c) 5 < 4 := by rw [f10]; exact hz
    have fx : fH 15 [80, 81] [] m_q (rUp (rUp m_q 80 0 X (m_q 15 0 40)) 81 0 X (m_q 15 0 39)) := fH_grp (fH_grp fH_refl (by decide) (by decide)) (by decide) (by decide)
    have gp : fH 2 [10, 43, 44, 45, 46] [] c3 (fn104 [qG c, kd, pl, sl, v] c3).2.2 := fn104_fr
    have p10 : ∀ h j, (fn104 [qG c, kd, pl, sl, v] c3).2.2 10 h j = if h = qG c ∧ j = 5 then c 10 (qG c) 5 + 1 else c 10 h j := fun h j => by rw [put10 hz3, f10]
    have po : ∀ G h, G ∈ [10, 43, 44, 45, 46] → h ≠ qG c → (fn104 [qG c, kd, pl, sl, v] c3).2.2 G h = c G h := fun G h x1 x2 => by
      rw [put_oth x2]
      refine congrFun (q3.1 G ?_ (memG x1).1) h
      simp only [List.mem_cons, List.not_mem_nil, or_false] at x1 ⊢
      omega
    have pc : ∀ j, (fn104 [qG c, kd, pl, sl, v] c3).2.2 43 (qG c) j = (if j = c 10 (qG c) 5 then kd else c 43 (qG c) j) ∧ (fn104 [qG c, kd, pl, sl, v] c3).2.2 44 (qG c) j = (if j = c 10 (qG c) 5 then sl else c 44 (qG c) j) ∧ (fn104 [qG c, kd, pl, sl, v] c3).2.2 46 (qG c) j = (if j = c 10 (qG c) 5 then v else c 46 (qG c) j) := fun j => by
      obtain ⟨u1, u2, u3⟩ := put_con (k := kd) (p := pl) (s := sl) (v := v) hz3 j
      rw [u1, u2, u3, f10, q3.1 43 (by decide) (by decide), q3.1 44 (by decide) (by decide), q3.1 46 (by decide) (by decide)]
      exact ⟨rfl, rfl, rfl⟩
    have px : ∀ y, rUp (rUp m_q 80 0 X (m_q 15 0 40)) 81 0 X (m_q 15 0 39) 80 0 y = (if y = X then m_q 15 0 40 else m 80 0 y) ∧ rUp (rUp m_q 80 0 X (m_q 15 0 40)) 81 0 X (m_q 15 0 39) 81 0 y = (if y = X then m_q 15 0 39 else m 81 0 y) := fun y => by
      by_cases e : y = X
      · rw [if_pos e, if_pos e, e, rUp_grp (by decide), rUp_at, rUp_at]
        exact ⟨rfl, rfl⟩
      · rw [if_neg e, if_neg e, rUp_grp (by decide), rUp_ne (fun z => e z.2.2), rUp_ne (fun z => e z.2.2), rUp_grp (by decide), q4.1 80 (by decide) (by decide), q4.1 81 (by decide) (by decide)]
        exact ⟨rfl, rfl⟩
    generalize (fn104 [qG c, kd, pl, sl, v] c3).2.2 = c4 at *
    generalize rUp (rUp m_q 80 0 X (m_q 15 0 40)) 81 0 X (m_q 15 0 39) = m4 at *
    have e5 : c4 2 0 5 = c 2 0 5 := (gp.2 5 (by decide)).trans (q3.2 5 (by decide))
    have e16 : c4 2 0 16 = c 2 0 16 := (gp.2 16 (by decide)).trans (q3.2 16 (by decide))
    have e25 : c4 25 = c 25 := (gp.1 25 (by decide) (by decide)).trans (q3.1 25 (by decide) (by decide))
    have g35 : m4 15 0 35 = m_q 15 0 35 := fx.2 35 (by decide)
    have g74 : m4 74 0 (m4 15 0 44) = m_q 74 0 (m_q 15 0 44) := by rw [fx.1 74 (by decide) (by decide), fx.2 44 (by decide)]
    have g45 : m4 15 0 45 = m 15 0 45 := (fx.2 45 (by decide)).trans (q4.2 45 (by decide))
    refine ⟨c4, m4, q7, q8, ?_, ⟨?_, ?_, ?_, ?_, ?_⟩, ?_, ?_, ?_, ?_, po, ?_, by rw [g74]; exact q5, ?_, ?_, ?_⟩
    · refine qR_up q1 (fH_sub gp (by decide) (by decide)) (fH_sub fx (by decide) (by decide)) ?_ ?_ ?_ ?_
      · rw [gp.2 6 (by decide), g35]; exact q1.2.1.1
      · rw [g35]; exact Int.le_refl _
      · rw [g35]; exact q1.2.1.2.1
      · rw [g35]; exact q1.2.1.2.2
    · exact qS_up q2 (fx.2 44 (by decide)) (fx.1 74 (by decide) (by decide)) (fx.1 84 (by decide) (by decide)) (by rw [g35]; exact Int.le_refl _)
    · exact qO_up s2 e16 e25 ((fx.2 58 (by decide)).trans (q4.2 58 (by decide))) ((fx.1 89 (by decide) (by decide)).trans (q4.1 89 (by decide) (by decide))) ((fx.1 90 (by decide) (by decide)).trans (q4.1 90 (by decide) (by decide))) ((fx.1 91 (by decide) (by decide)).trans (q4.1 91 (by decide) (by decide))) (by rw [g74]; exact q5)
    · rw [e5, g45]; exact s3
    · rw [e5]; exact s4
    · intro v v0 v1
      rw [e5]
      rw [g74] at v0
      exact s5 v (by omega) v1
    · exact fH_trans (fH_sub q3 (by decide) (by decide)) (fH_sub gp (by decide) (by decide))
    · exact fH_trans (fH_sub q4 (by decide) (by decide)) (fH_sub fx (by decide) (by decide))
    · rw [p10, if_pos ⟨rfl, rfl⟩]
    · intro h j q
      rw [p10, if_neg q]
    · rw [g35]; exact q6
    · intro j hj
      obtain ⟨u1, u2, u3⟩ := pc j
      rw [u1, u2, u3, if_neg hj, if_neg hj, if_neg hj]
      exact ⟨rfl, rfl, rfl⟩
    · intro y hy
      rw [(px y).1, (px y).2, q9, if_neg hy, if_neg hy]
      exact ⟨rfl, rfl⟩
    · unfold gVl
      obtain ⟨u1, u2, u3⟩ := pc (c 10 (qG c) 5)
      rw [u1, u2, u3, if_pos rfl, if_pos rfl, if_pos rfl, ← q9, (px X).1, (px X).2, if_pos rfl, if_pos rfl]
      rcases q10 with ⟨z1, z2, z3⟩ | ⟨z1, z2, z3, z4, z5⟩
      · exact Or.inl ⟨z1, z2, z3⟩
      · exact Or.inr ⟨z1, z2, z3, z4, z5⟩
  by_cases hn : p < m 15 0 34
  · have hL : 0 ≤ L := k6.2 hn
    have hbb : pB (m 59 0) (m 15 0 34) p = m 59 0 p := pB_in hn
    rw [hbb] at hb k5
    by_cases hca : pCa (m 59 0 p) = true
    · have hca_q : pCa L = true := by rw [qL_ca k5]; exact hca
      have hca1 : pCa (m1 59 0 (m1 15 0 35)) = true := by rw [y59, y35]; exact hca
      have hn1 : m1 15 0 35 < m1 15 0 34 := by rw [y35, y34]; exact hn
      have h139 : ∀ c2, fn115 [] c1 = (0, 1, c2) → fn139 [qG c] c = (0, (if 1 ≤ (fn138 [qG c, c2 2 0 8, p] c2).2.1 then 1 else 0), (fn138 [qG c, c2 2 0 8, p] c2).2.2) := by
        intro c2 q
        unfold fn139
        simp only [zLet, List.getD_cons_zero, k1, fn106_eq, pBit_ge, q, x6]
        rw [if_pos hL, if_pos hca_q, if_pos (show (1 : Int) ≤ 1 by decide)]
        split <;> rfl
      rcases var_R hR1 hn1 hca1 [] [] with ⟨w, c2, v, c3, m_q, h1, h2, h3, h4, h5, h6, h7, h8, h9, h10_q, h11, h12, h13, h14, h15, h16, h17, h18⟩ | ⟨c2, m_q, h1, h2, h3⟩ | ⟨w, c2, m_q, h1, h2, h3, h4, h5, h6, h7⟩
      · have hm20 : fn20 [0] m1 = (0, 1, m_q) := item_var hsk hn1 hca1 h6 (Or.inr rfl)
        have x13 : c2 2 0 13 = m 74 0 (m 15 0 44) := by rw [h4.2 13 (by decide), hR1.2.2.2.2.1.1, hcnt]
        obtain ⟨u, u1, u2⟩ := fn119_two (c := c2) (w := w) (by rw [x13, ← hcnt]; exact hR1.2.2.2.2.1.2.1)
        have e5 : c2 2 0 5 = c 2 0 5 := (h4.2 5 (by decide)).trans (fc1.2 5 (by decide))
        have m45 : m_q 15 0 45 = c 2 0 5 := by rw [h15.2 45 (by decide), fm1.2 45 (by decide)]; exact s3.symm
        have h34 := fn34_eq (k := k) k2 hm20 (fun _ => by rw [h12]; exact ⟨h7, h8⟩) (by rw [h15.2 34 (by decide)]; omega)
        rw [h12, h13, m45] at h34
        have hS_q : qS m_q := qS_var h6 hS1 (by omega) (by omega) h16 hR1.2.2.2.2.1.2.1
        have h139_q := h139 c2 h1
        rw [h2] at h139_q
        rcases u2 with u2 | u2
        · rw [u2] at u1
          have hv := fn120_new u1
          rw [h5, x13] at hv
          have hv : v = if m 74 0 (m 15 0 44) < 8 then m 74 0 (m 15 0 44) else -1 := hv
          have hv2 : v = m 74 0 (m 15 0 44) := by
            by_cases q : m 74 0 (m 15 0 44) < 8
            · rw [if_pos q] at hv; exact hv
            · rw [if_neg q] at hv; omega
          rw [if_pos ⟨rfl, s5 v (by omega) h8⟩] at h34
          have h138 : fn138 [qG c, w, p] c2 = (0, 0, rUp c2 2 0 4 p) := by
            unfold fn138
            simp only [zLet, List.getD_cons_zero, List.getD_cons_succ, u1, fn109_eq]
            rw [if_pos (by decide)]
          rw [h138] at h139_q
          refine Or.inr ⟨_, _, h139_q.trans (by rw [if_neg (show ¬ (1 : Int) ≤ 0 by decide)]), h34, ?_⟩
          have hz1 : qZ c0 m0 c3 m_q := qZ_up h11 (by decide) fH_refl fH_refl
          obtain ⟨z1, z2, z3, z4, z5, z6, z7⟩ := hz1
          have z := qZ_up hR1 (by decide) (c_q := rUp c2 2 0 4 p) (m_q := m1) (fH_fld (fH_sub h4 (by decide) (by decide)) (by decide)) fH_refl
          obtain ⟨y1, y2, y3, y4, y5, y6, y7⟩ := z
          have kk : ∀ G, G ∉ [74, 82, 83, 84] → G ≠ 15 → rUp m_q 15 0 36 (m1 15 0 35) G = m1 G := fun G q1 q2 => (rUp_grp q2).trans (h15.1 G q1 q2)
          have kj : ∀ j, j ∉ [35, 37, 38, 39, 40] → j ≠ 36 → rUp m_q 15 0 36 (m1 15 0 35) 15 0 j = m1 15 0 j := fun j q1 q2 => (rUp_ne (fun x => q2 x.2.2)).trans (h15.2 j q1)
          refine ⟨qN_up y1 rfl rfl (kj 8 (by decide) (by decide)) (kj 9 (by decide) (by decide)) (kk 61 (by decide) (by decide)) (kk 62 (by decide) (by decide)) (kk 63 (by decide) (by decide)), qP_up y2 rfl rfl rfl (kj 14 (by decide) (by decide)) (kk 64 (by decide) (by decide)) (kk 65 (by decide) (by decide)) (kk 66 (by decide) (by decide)), y3, y4, fH_fld z5 (by decide), ⟨?_, ?_⟩, ?_⟩
          · rw [kj 14 (by decide) (by decide)]; exact y6.1
          · rw [kk 66 (by decide) (by decide)]; exact y6.2
          · exact ⟨by first | exact y7.1 | (rw [rUp_grp (by decide)]; exact y7.1), pU_up y7.2 (kj 14 (by decide) (by decide)) (by first | rfl | rw [rUp_grp (by decide)]) (by first | rfl | rw [rUp_grp (by decide)]) (by first | rfl | rw [rUp_grp (by decide)]) (kk 64 (by decide) (by decide)) (kk 65 (by decide) (by decide)) (kk 66 (by decide) (by decide))⟩
        · have h120 := fn120_old u1 u2.1
          rw [h5] at h120
          have hvu : v = u := congrArg (fun q => q.2.1) h120
          have hc3 : c3 = rUp c2 23 0 u (zF2 .iadd (c2 23 0 u) 1) := congrArg (fun q => q.2.2) h120
          by_cases hbit : qBt (c 2 0 5) v = 1
          · rw [if_neg (fun q => q.2 hbit)] at h34
            have h138 : fn138 [qG c, w, p] c2 = (0, 1, (fn104 [qG c, 1, p, v, 0] c3).2.2) := by
              unfold fn138
              simp only [zLet, List.getD_cons_zero, List.getD_cons_succ, u1, fn117_eq, e5, one_bit]
              rw [if_neg (show ¬ u < 0 by omega), if_pos (by rw [← hvu]; exact hbit), ← hc3, ← hvu]
            rw [h138] at h139_q
            refine Or.inl (fin c3 m_q 1 p v 0 _ ?_ hS_q ?_ ?_ ?_ ?_ (h139_q.trans (by rw [if_pos (show (1 : Int) ≤ 1 by decide)])) (by rw [h12, h13]; exact h34) rfl (Or.inr ⟨rfl, h13, h12.symm, ⟨h7, h8⟩, by rw [← s3]; exact hbit⟩))
            · exact qR_up h11 fH_refl fH_refl h11.2.1.1 (by omega) h11.2.1.2.1 h11.2.1.2.2
            · exact fH_trans (fH_sub fc1 (by decide) (by decide)) (fH_sub h14 (by decide) (by decide))
            · exact fH_trans (fH_sub fm1 (by decide) (by decide)) (fH_sub h15 (by decide) (by decide))
            · omega
            · omega
          · rw [if_pos ⟨rfl, hbit⟩] at h34
            have h138 : fn138 [qG c, w, p] c2 = (0, 0, rUp c2 2 0 4 p) := by
              unfold fn138
              simp only [zLet, List.getD_cons_zero, List.getD_cons_succ, u1, fn117_eq, e5, one_bit, fn109_eq]
              rw [if_neg (show ¬ u < 0 by omega), if_neg (by rw [← hvu]; exact hbit)]
            rw [h138] at h139_q
            refine Or.inr ⟨_, _, h139_q.trans (by rw [if_neg (show ¬ (1 : Int) ≤ 0 by decide)]), h34, ?_⟩
            have hz1 : qZ c0 m0 c3 m_q := qZ_up h11 (by decide) fH_refl fH_refl
            obtain ⟨z1, z2, z3, z4, z5, z6, z7⟩ := hz1
            have z := qZ_up hR1 (by decide) (c_q := rUp c2 2 0 4 p) (m_q := m1) (fH_fld (fH_sub h4 (by decide) (by decide)) (by decide)) fH_refl
            obtain ⟨y1, y2, y3, y4, y5, y6, y7⟩ := z
            have kk : ∀ G, G ∉ [74, 82, 83, 84] → G ≠ 15 → rUp m_q 15 0 36 (m1 15 0 35) G = m1 G := fun G q1 q2 => (rUp_grp q2).trans (h15.1 G q1 q2)
            have kj : ∀ j, j ∉ [35, 37, 38, 39, 40] → j ≠ 36 → rUp m_q 15 0 36 (m1 15 0 35) 15 0 j = m1 15 0 j := fun j q1 q2 => (rUp_ne (fun x => q2 x.2.2)).trans (h15.2 j q1)
            refine ⟨qN_up y1 rfl rfl (kj 8 (by decide) (by decide)) (kj 9 (by decide) (by decide)) (kk 61 (by decide) (by decide)) (kk 62 (by decide) (by decide)) (kk 63 (by decide) (by decide)), qP_up y2 rfl rfl rfl (kj 14 (by decide) (by decide)) (kk 64 (by decide) (by decide)) (kk 65 (by decide) (by decide)) (kk 66 (by decide) (by decide)), y3, y4, fH_fld z5 (by decide), ⟨?_, ?_⟩, ?_⟩
            · rw [kj 14 (by decide) (by decide)]; exact y6.1
            · rw [kk 66 (by decide) (by decide)]; exact y6.2
            · exact ⟨by first | exact y7.1 | (rw [rUp_grp (by decide)]; exact y7.1), pU_up y7.2 (kj 14 (by decide) (by decide)) (by first | rfl | rw [rUp_grp (by decide)]) (by first | rfl | rw [rUp_grp (by decide)]) (by first | rfl | rw [rUp_grp (by decide)]) (kk 64 (by decide) (by decide)) (kk 65 (by decide) (by decide)) (kk 66 (by decide) (by decide))⟩
      · refine Or.inr ⟨c2, m_q, ?_, fn34_no k2 (item_var hsk hn1 hca1 h2 (Or.inl rfl)), h3⟩
        unfold fn139
        simp only [zLet, List.getD_cons_zero, k1, fn106_eq, pBit_ge, h1]
        rw [if_pos hL, if_pos hca_q, if_neg (by decide)]
      · have x13 : c2 2 0 13 = m 74 0 (m 15 0 44) := by rw [h4.2 13 (by decide), hR1.2.2.2.2.1.1, hcnt]
        obtain ⟨u, u1, u2⟩ := fn119_two (c := c2) (w := w) (by rw [x13, ← hcnt]; exact hR1.2.2.2.2.1.2.1)
        have hu : u = -1 := by
          rcases u2 with q | q
          · exact q
          · have h120 := fn120_old u1 q.1
            rw [h5] at h120
            have : (-1 : Int) = u := congrArg (fun q => q.2.1) h120
            omega
        rw [hu] at u1
        have h138 : fn138 [qG c, w, p] c2 = (0, 0, rUp c2 2 0 4 p) := by
          unfold fn138
          simp only [zLet, List.getD_cons_zero, List.getD_cons_succ, u1, fn109_eq]
          rw [if_pos (by decide)]
        have h139_q := h139 c2 h1
        rw [h2, h138] at h139_q
        exact Or.inr ⟨_, m_q, h139_q.trans (by rw [if_neg (show ¬ (1 : Int) ≤ 0 by decide)]), fn34_no k2 (item_var hsk hn1 hca1 h6 (Or.inl rfl)), qZ_more h7 (fH_fld fH_refl (by decide)) fH_refl⟩
    · have hca_q : ¬ pCa L = true := by rw [qL_ca k5]; exact hca
      have hcaf : pCa (pB (m1 59 0) (m1 15 0 34) (m1 15 0 35)) = false := by rw [hb]; simpa using hca
      have h139 : fn139 [qG c] c = (0, (if 1 ≤ (fn136 [qG c] c1).2.1 then 1 else 0), (fn136 [qG c] c1).2.2) := by
        unfold fn139
        simp only [zLet, List.getD_cons_zero, k1, fn106_eq, pBit_ge]
        rw [if_pos hL, if_neg hca_q]
        split <;> rfl
      rcases const_two (any := 0) (g := qG c) hR1 hlim hsk hcaf (Or.inl rfl) with ⟨c3, m_q, v, h1, h2, h3, h4, h5, h6, h7, h8, -, -⟩ | ⟨c_q, m_q, h1, h2, h3⟩
      · rw [h1] at h139
        have h34 := fn34_eq (k := k) k2 h2 (fun q => by rw [h7] at q; exact absurd q (by decide)) (by rw [h5.2 34 (by decide)]; omega)
        rw [if_neg (fun q => by rw [h7] at q; exact absurd q.1 (by decide))] at h34
        refine Or.inl (fin c3 m_q 0 _ 0 v _ h3 ?_ ?_ ?_ ?_ ?_ (h139.trans (by rw [if_pos (show (1 : Int) ≤ 1 by decide)])) h34 rfl (Or.inl ⟨rfl, h7, vE_of h3 (by decide) hlim h6⟩))
        · exact qS_up hS1 (h5.2 44 (by decide)) (h5.1 74 (by decide) (by decide)) (h5.1 84 (by decide) (by decide)) (by omega)
        · exact fH_trans (fH_sub fc1 (by decide) (by decide)) (fH_sub h4 (by decide) (by decide))
        · exact fH_trans (fH_sub fm1 (by decide) (by decide)) (fH_sub h5 (by decide) (by decide))
        · rw [h5.1 74 (by decide) (by decide), h5.2 44 (by decide), hcnt]; exact Int.le_refl _
        · omega
      · rw [h1] at h139
        exact Or.inr ⟨c_q, m_q, h139.trans (by rw [if_neg (show ¬ (1 : Int) ≤ 0 by decide)]), fn34_no k2 h2, h3⟩
  · have hL : ¬ 0 ≤ L := fun q => hn (k6.1 q)
    have hn1 : ¬ m1 15 0 35 < m1 15 0 34 := by rw [y35, y34]; exact hn
    have hbo : pB (m1 59 0) (m1 15 0 34) (m1 15 0 35) = -1 := pB_out (by omega)
    have h139 : fn139 [qG c] c = (0, 0, (fn136 [qG c] c1).2.2) := by
      unfold fn139
      simp only [zLet, List.getD_cons_zero, k1, fn106_eq]
      rw [if_neg hL]
    rcases const_two (any := 0) (g := qG c) hR1 hlim hsk (by rw [hbo]; decide) (Or.inl rfl) with ⟨c3, m_q, v, h1, h2, h3⟩ | ⟨c_q, m_q, h1, h2, h3⟩
    · have := item_end (any := 0) hsk hn1
      rw [h2] at this
      exact absurd this (show ¬ (1 : Int) = 0 by decide)
    · rw [h1] at h139
      exact Or.inr ⟨c_q, m_q, h139, fn34_no k2 h2, h3⟩
