/-! ===== a GOAL by both, when told ===== -/
noncomputable def lG : List Nat := [3, 26, 22, 23, 10, 43, 44, 45, 46, 24, 25, 1, 16, 17]
noncomputable def jG : List Int := [6, 8, 9, 10, 13, 5, 16]
noncomputable def lH : List Nat := [61, 62, 63, 74, 82, 83, 84, 80, 81, 88, 89, 90, 91, 64, 65, 66, 77, 78, 79]
noncomputable def jH : List Int := [8, 9, 35, 37, 38, 39, 40, 58, 14, 45]
/-- what holds behind a GOAL -/
noncomputable def qGl (H : Int → Prop) (c0 m0 c m c_q m_q : rHp) : Prop := qR 1 c0 m0 c_q m_q ∧ qB H c_q m_q ∧ c_q 2 0 16 ≤ c 2 0 16 + 4 ∧ fH 2 lG jG c c_q ∧ fH 15 lH jH m m_q ∧ (∀ G h, G ∈ [10, 43, 44, 45, 46] → h ≠ qG c → c_q G h = c G h) ∧ gGo (sN c0 m0) (m 15 0 45) (m_q 15 0 45) (qG c) (m 73 0 (m 15 0 44) + 8 * m 15 0 44) c_q m_q
/-- both read it, or both find it BROKEN -/
noncomputable def qGo (H : Int → Prop) (c0 m0 c m : rHp) (r s : zR) : Prop := (∃ c_q m_q, r = (0, 1, c_q) ∧ s = (0, 1, m_q) ∧ qGl H c0 m0 c m c_q m_q) ∨ (∃ c_q m_q, r = (0, 0, c_q) ∧ s = (0, 0, m_q) ∧ qZ c0 m0 c_q m_q)
theorem fn40_look {g : rHp} {wh : Int} : fn40 [wh] (rUp g 15 0 35 (pSk (g 59 0) (g 15 0 34) (g 15 0 35))) = fn40 [wh] g := by
  have f33 : ∀ g : rHp, (fn33 [] g).2.2 = g := fun g => rfl
  have key : fn7 [] (rUp g 15 0 35 (pSk (g 59 0) (g 15 0 34) (g 15 0 35))) = fn7 [] g := by
    rw [fn7_eq, fn7_eq, rUp_at, rUp_two, rUp_grp (show (59 : Nat) ≠ 15 by decide), rUp_ne (show ¬ ((15 : Nat) = 15 ∧ (0 : Int) = 0 ∧ (34 : Int) = 35) by decide), pSk_idem]
  have k : ∀ G : Nat, G ≠ 15 → rUp g 15 0 35 (pSk (g 59 0) (g 15 0 34) (g 15 0 35)) G = g G := fun G q => rUp_grp q
  have k34 : rUp g 15 0 35 (pSk (g 59 0) (g 15 0 34) (g 15 0 35)) 15 0 34 = g 15 0 34 := rUp_ne (by decide)
  have k44 : rUp g 15 0 35 (pSk (g 59 0) (g 15 0 34) (g 15 0 35)) 15 0 44 = g 15 0 44 := rUp_ne (by decide)
  have k73 := k 73 (by decide)
  have k80 := k 80 (by decide)
  have k81 := k 81 (by decide)
  unfold fn40
  simp only [zLet, f33, key, k34, k44, k73, k80, k81]
/-- where a GOAL begins -/
theorem goal_pre {H : Int → Prop} {c0 m0 c m : rHp} {p : Int} (hR : qR 0 c0 m0 c m) (hB : qB H c m) (k3 : m 15 0 35 ≤ p) (k4 : p ≤ m 15 0 34) (k7 : pSk (m 59 0) (m 15 0 34) p = p) :
    ∃ c1 m3, rUp c 2 0 6 p = c1 ∧ rUp (rUp m 15 0 35 p) 79 0 (m 73 0 (m 15 0 44) + 8 * m 15 0 44) (m 15 0 45) = m3 ∧ qR 0 c0 m0 c1 m3 ∧ qB H c1 m3 ∧ fH 2 [] [6] c c1 ∧ fH 15 [79] [35] m m3 ∧ m3 15 0 35 = p ∧ c1 2 0 6 = p ∧ pSk (m3 59 0) (m3 15 0 34) (m3 15 0 35) = m3 15 0 35 ∧ (∀ i, fn6 [i] m3 = (0, pB (m 59 0) (m 15 0 34) i, m3)) := by
  have fc : fH 2 [] [6] c (rUp c 2 0 6 p) := fH_fld fH_refl (by decide)
  have fm : fH 15 [79] [35] m (rUp (rUp m 15 0 35 p) 79 0 (m 73 0 (m 15 0 44) + 8 * m 15 0 44) (m 15 0 45)) := fH_grp (fH_fld fH_refl (by decide)) (by decide) (by decide)
  have y35 : rUp (rUp m 15 0 35 p) 79 0 (m 73 0 (m 15 0 44) + 8 * m 15 0 44) (m 15 0 45) 15 0 35 = p := by rw [rUp_grp (by decide), rUp_at]
  have x6 : rUp c 2 0 6 p 2 0 6 = p := rUp_at
  have a0 := hR.2.1.2.1
  refine ⟨_, _, rfl, rfl, ?_, ?_, fc, fm, y35, x6, ?_, fun i => ?_⟩
  · refine qR_up hR (fH_sub fc (by decide) (by decide)) (fH_sub fm (by decide) (by decide)) ?_ ?_ ?_ ?_
    · rw [x6, y35]
    · rw [y35]; omega
    · rw [y35]; omega
    · rw [y35]; exact k4
  · obtain ⟨s1, s2, s3, s4, s5⟩ := hB
    have g74 : rUp (rUp m 15 0 35 p) 79 0 (m 73 0 (m 15 0 44) + 8 * m 15 0 44) (m 15 0 45) 74 0 (rUp (rUp m 15 0 35 p) 79 0 (m 73 0 (m 15 0 44) + 8 * m 15 0 44) (m 15 0 45) 15 0 44) = m 74 0 (m 15 0 44) := by rw [fm.1 74 (by decide) (by decide), fm.2 44 (by decide)]
    refine ⟨qS_up s1 (fm.2 44 (by decide)) (fm.1 74 (by decide) (by decide)) (fm.1 84 (by decide) (by decide)) (by rw [y35]; exact k3), qO_up s2 (fc.2 16 (by decide)) (fc.1 25 (by decide) (by decide)) (fm.2 58 (by decide)) (fm.1 89 (by decide) (by decide)) (fm.1 90 (by decide) (by decide)) (fm.1 91 (by decide) (by decide)) (by rw [g74]; exact Int.le_refl _), ?_, ?_, ?_⟩
    · rw [fc.2 5 (by decide), fm.2 45 (by decide)]; exact s3
    · rw [fc.2 5 (by decide)]; exact s4
    · rw [fc.2 5 (by decide), g74]; exact s5
  · rw [y35, fm.1 59 (by decide) (by decide), fm.2 34 (by decide)]; exact k7
  · rw [fn6_eq, fm.1 59 (by decide) (by decide), fm.2 34 (by decide)]
/-- a comparison behind its CONSTANT: cL as the class goes on, mL as the reference does -/
theorem goal_cmp {H : Int → Prop} {c0 m0 c m c7 m4 : rHp} (hR : qR 1 c0 m0 c7 m4) (hB : qB H c7 m4) (h00 : 0 ≤ c0 1000 0 0) (hlim : 2 * c0 1000 0 0 + m0 15 0 34 ≤ 10239) (hz : c7 10 (qG c) 5 < 4) (hG : qG c7 = qG c) (hs : m4 80 0 (4 * m4 73 0 (m4 15 0 44) + 32 * m4 15 0 44) ≠ 1)
    (hc : fH 2 lG jG c c7) (hm : fH 15 lH jH m m4) (h16 : c7 2 0 16 = c 2 0 16) (ho : ∀ G h, G ∈ [10, 43, 44, 45, 46] → h ≠ qG c → c7 G h = c G h) (h5 : c7 10 (qG c) 5 = 1) (hV : gVl (sN c0 m0) (m 15 0 45) (qG c) 0 (4 * (m 73 0 (m 15 0 44) + 8 * m 15 0 44)) c7 m4) (h79 : m4 79 0 (m 73 0 (m 15 0 44) + 8 * m 15 0 44) = m 15 0 45) (h45 : m4 15 0 45 = m 15 0 45) (wh : Int) :
    qGo H c0 m0 c m (if 1 ≤ (fn154 [] c7).2.1 then (if 1 ≤ (fn139 [qG c] (fn154 [] c7).2.2).2.1 then (0, 1, (fn139 [qG c] (fn154 [] c7).2.2).2.2) else (0, 0, (fn139 [qG c] (fn154 [] c7).2.2).2.2)) else (0, 0, (fn154 [] c7).2.2)) (if 1 ≤ (fn40 [wh] m4).2.1 then (0, 1, (fn40 [wh] m4).2.2) else (0, 0, (fn40 [wh] m4).2.2)) := by
  rcases comp_two hR (Or.inr rfl) hB h00 hlim (by rw [hG]; exact hz) hs (by rw [hG]; exact h5) (by rw [hG, h45, hm.1 73 (by decide) (by decide), hm.2 44 (by decide)]; exact hV) with ⟨c5, c_q, m_q, a1, a2, a3, a4, a5, a6, a7, a8, a9, a10⟩ | ⟨c5, m_q, a1, a2, a3⟩ | ⟨c5, c_q, m_q, a1, a2, a3, a4⟩
  · rw [hG] at a2 a8
    rw [hG, h45, hm.1 73 (by decide) (by decide), hm.2 44 (by decide)] at a10
    refine Or.inl ⟨c_q, m_q, ?_, ?_, a4, a5, ?_, fH_trans hc (fH_sub a6 (by decide) (by decide)), fH_trans hm (fH_sub a7 (by decide) (by decide)), ?_, by rw [a7.1 79 (by decide) (by decide)]; exact h79, Or.inr (Or.inl ⟨a10, (a7.2 45 (by decide)).trans h45⟩)⟩
    · rw [a1]
      simp only [a2]
      rfl
    · rw [a3 wh]; rfl
    · rw [a6.2 16 (by decide), h16]; omega
    · intro G h q q2
      rw [a8 G h q q2, ho G h q q2]
  · refine Or.inr ⟨c5, m_q, ?_, ?_, a3⟩
    · rw [a1]; rfl
    · rw [a2 wh]; rfl
  · rw [hG] at a2
    refine Or.inr ⟨c_q, m_q, ?_, ?_, a4⟩
    · rw [a1]
      simp only [a2]
      rfl
    · rw [a3 wh]; rfl
/-- a number begins it -/
theorem goal_num {H : Int → Prop} {c0 m0 c m : rHp} {p L : Int} (hR : qR 0 c0 m0 c m) (hB : qB H c m) (h00 : 0 ≤ c0 1000 0 0) (hlim : 2 * c0 1000 0 0 + m0 15 0 34 ≤ 10239) (k1 : fn114 [] c = (0, L, rUp c 2 0 6 p)) (k2 : fn7 [] m = (0, 0, rUp m 15 0 35 p)) (k3 : m 15 0 35 ≤ p) (hn : p < m 15 0 34) (hL : 0 ≤ L) (k5 : qL L (m 59 0 p)) (k7 : pSk (m 59 0) (m 15 0 34) p = p)
    (hd : pDg (m 59 0 p) = true ∨ m 59 0 p = 45) : qGo H c0 m0 c m (fn157 [] c) (fn42 [] m) := by
  obtain ⟨c1, m3, e1, e3, hR1, hB1, fc, fm, y35, x6, hsk, f6⟩ := goal_pre hR hB k3 (by omega) k7
  rw [e1] at k1
  have f33 : ∀ g : rHp, (fn33 [] g).2.2 = g := fun g => rfl
  have a0 := hR.2.1.2.1
  have hG : c 9 (c 40 0 (c 1 0 10)) 2 + 9 * c 40 0 (c 1 0 10) + 1 = qG c := rfl
  have ha : pDg (m 59 0 p) = true → 48 ≤ m 59 0 p ∧ m 59 0 p ≤ 57 := fun h => pDg_rg h
  have rg : 45 ≤ m 59 0 p ∧ m 59 0 p ≤ 57 := by
    rcases hd with h | h
    · have := ha h; omega
    · omega
  have hca : ¬ pCa (m 59 0 p) = true := by
    simp only [pCa, Bool.and_eq_true, decide_eq_true_eq]; omega
  have hsm : ¬ pSm (m 59 0 p) = true := by
    simp only [pSm, Bool.and_eq_true, decide_eq_true_eq]; omega
  have hca_q : ¬ pCa L = true := by rw [qL_ca k5]; exact hca
  have hsm_q : ¬ pSm L = true := by rw [qL_sm k5]; exact hsm
  have hd_q : pDg L = pDg (m 59 0 p) := qL_dg k5
  have h45 : (L = 45) = (m 59 0 p = 45) := qL_is k5 (by decide) (by decide)
  have h33 : L ≠ 33 := by
    rw [ne_eq, qL_is k5 (by decide) (by decide)]; omega
  have y34 : m3 15 0 34 = m 15 0 34 := fm.2 34 (by decide)
  have y59 : m3 59 = m 59 := fm.1 59 (by decide) (by decide)
  have hdc : ∀ (X Y : zR), (if pDg L = true then X else if L = 45 then X else Y) = X := by
    intro X Y
    by_cases h : pDg (m 59 0 p) = true
    · rw [if_pos (by rw [hd_q]; exact h)]
    · rw [if_neg (by rw [hd_q]; exact h), if_pos (by rw [h45]; exact hd.resolve_left h)]
  have hdm : ∀ (X Y : zR), (if m 59 0 p = 45 then X else if pDg (m 59 0 p) = true then X else Y) = X := by
    intro X Y
    by_cases h : m 59 0 p = 45
    · rw [if_pos h]
    · rw [if_neg h, if_pos (hd.resolve_right h)]
  have hb1 : (0 : Int) ≤ -p + m 15 0 34 + -1 := by omega
  have hb3 : (0 : Int) ≤ -m3 15 0 35 + m3 15 0 34 + -1 := by omega
  have f7 : fn7 [] m3 = (0, 0, m3) := by rw [fn7_eq, hsk, rUp_self rfl]
  have f6p : fn6 [p] m3 = (0, m 59 0 p, m3) := by rw [f6, pB_in hn]
  have yl : rUp m 15 0 35 p 15 0 35 = p := rUp_at
  have h33m : m 59 0 p ≠ 33 := by omega
  have h20 : ∀ X, fn14 [] m3 = X → fn20 [0] m3 = if 1 ≤ X.2.1 then (0, 1, X.2.2) else (0, 0, X.2.2) := by
    intro X hX
    unfold fn20
    simp only [zLet, List.getD_cons_zero, f7, y35, f6p, fn10_eq, fn9_eq, fn11_eq, pBit_ge, y34, hX]
    rw [if_pos hb1, if_neg hca, if_neg hsm, if_pos trivial, hdm]
  rcases num_two hR1.1 hR1.2.1 (by omega) [] [] with ⟨e, v, w1, w2, w3, w4, w5⟩ | ⟨e, v, w1, w2⟩
  · have hX20 := h20 _ w2
    have fX : fH 2 [] [6, 10] c1 (rUp (rUp c1 2 0 6 e) 2 0 10 v) := fH_fld (fH_fld fH_refl (by decide)) (by decide)
    have x10 : rUp (rUp c1 2 0 6 e) 2 0 10 v 2 0 10 = v := rUp_at
    have x6e : rUp (rUp c1 2 0 6 e) 2 0 10 v 2 0 6 = e := by rw [rUp_ne (by decide), rUp_at]
    have fN : fH 15 [] [35, 39, 40] m3 (rUp (rUp (rUp m3 15 0 35 e) 15 0 39 v) 15 0 40 0) := fH_fld (fH_fld (fH_fld fH_refl (by decide)) (by decide)) (by decide)
    have n40 : rUp (rUp (rUp m3 15 0 35 e) 15 0 39 v) 15 0 40 0 15 0 40 = 0 := rUp_at
    have n39 : rUp (rUp (rUp m3 15 0 35 e) 15 0 39 v) 15 0 40 0 15 0 39 = v := by rw [rUp_ne (by decide), rUp_at]
    have n35 : rUp (rUp (rUp m3 15 0 35 e) 15 0 39 v) 15 0 40 0 15 0 35 = e := by rw [rUp_ne (by decide), rUp_ne (by decide), rUp_at]
    rw [if_pos (show (1 : Int) ≤ 1 by decide)] at hX20
    generalize rUp (rUp c1 2 0 6 e) 2 0 10 v = X at *
    generalize rUp (rUp (rUp m3 15 0 35 e) 15 0 39 v) 15 0 40 0 = N at *
    obtain ⟨cb, b1, b2, b3, b4, b5, b6⟩ := fn103_all (c := X) (k := 4) (w := 0) (p := p)
    have hGX : qG X = qG c := (qG_up fX (by decide) (by decide) (by decide)).trans (qG_up fc (by decide) (by decide) (by decide))
    rw [hGX] at b3 b4 b5 b6
    have fx := fn104_fr (g := qG c) (k := 0) (p := p) (s := 0) (v := v) (c := cb)
    have p10 := put10 (g := qG c) (k := 0) (p := p) (s := 0) (v := v) (c := cb) (by rw [b4]; decide)
    have po : ∀ G h, h ≠ qG c → (fn104 [qG c, 0, p, 0, v] cb).2.2 G h = cb G h := fun G h hh => put_oth hh
    have pc := put_con (g := qG c) (k := 0) (p := p) (s := 0) (v := v) (c := cb) (by rw [b4]; decide) 0
    rw [b4, if_pos rfl, if_pos rfl, if_pos rfl] at pc
    have h79 : m3 79 0 (m 73 0 (m 15 0 44) + 8 * m 15 0 44) = m 15 0 45 := by rw [← e3, rUp_at]
    have q81 : rUp (rUp N 80 0 (4 * m 73 0 (m 15 0 44) + 32 * m 15 0 44) 0) 81 0 (4 * m 73 0 (m 15 0 44) + 32 * m 15 0 44) v 81 0 (4 * m 73 0 (m 15 0 44) + 32 * m 15 0 44) = v := rUp_at
    have fq : fH 15 [80, 81] [] N (rUp (rUp N 80 0 (4 * m 73 0 (m 15 0 44) + 32 * m 15 0 44) 0) 81 0 (4 * m 73 0 (m 15 0 44) + 32 * m 15 0 44) v) := fH_grp (fH_grp fH_refl (by decide) (by decide)) (by decide) (by decide)
    have q80 : rUp (rUp N 80 0 (4 * m 73 0 (m 15 0 44) + 32 * m 15 0 44) 0) 81 0 (4 * m 73 0 (m 15 0 44) + 32 * m 15 0 44) v 80 0 (4 * m 73 0 (m 15 0 44) + 32 * m 15 0 44) = 0 := by rw [rUp_grp (by decide), rUp_at]
    have E1 : fn157 [] c = (if 1 ≤ (fn154 [] (fn104 [qG c, 0, p, 0, v] cb).2.2).2.1 then (if 1 ≤ (fn139 [qG c] (fn154 [] (fn104 [qG c, 0, p, 0, v] cb).2.2).2.2).2.1 then (0, 1, (fn139 [qG c] (fn154 [] (fn104 [qG c, 0, p, 0, v] cb).2.2).2.2).2.2) else (0, 0, (fn139 [qG c] (fn154 [] (fn104 [qG c, 0, p, 0, v] cb).2.2).2.2).2.2)) else (0, 0, (fn154 [] (fn104 [qG c, 0, p, 0, v] cb).2.2).2.2)) := by
      unfold fn157
      simp only [zLet, k1, x6, fn106_eq, fn105_eq, fn107_eq, pBit_ge, w1, x10, b1, hG]
      rw [if_pos hL, if_pos h33, if_neg hca_q, if_neg hsm_q, hdc, if_pos (show (1 : Int) ≤ 1 by decide)]
    have E2 : fn42 [] m = (if 1 ≤ (fn40 [p] (rUp (rUp N 80 0 (4 * m 73 0 (m 15 0 44) + 32 * m 15 0 44) 0) 81 0 (4 * m 73 0 (m 15 0 44) + 32 * m 15 0 44) v)).2.1 then (0, 1, (fn40 [p] (rUp (rUp N 80 0 (4 * m 73 0 (m 15 0 44) + 32 * m 15 0 44) 0) 81 0 (4 * m 73 0 (m 15 0 44) + 32 * m 15 0 44) v)).2.2) else (0, 0, (fn40 [p] (rUp (rUp N 80 0 (4 * m 73 0 (m 15 0 44) + 32 * m 15 0 44) 0) 81 0 (4 * m 73 0 (m 15 0 44) + 32 * m 15 0 44) v)).2.2)) := by
      rw [← fn40_look (g := rUp (rUp N 80 0 (4 * m 73 0 (m 15 0 44) + 32 * m 15 0 44) 0) 81 0 (4 * m 73 0 (m 15 0 44) + 32 * m 15 0 44) v)]
      unfold fn42
      simp only [zLet, k2, f33, yl, e3, f6p, fn9_eq, pBit_ge, hX20, n40, n39, fn7_eq [] (rUp (rUp N 80 0 (4 * m 73 0 (m 15 0 44) + 32 * m 15 0 44) 0) 81 0 (4 * m 73 0 (m 15 0 44) + 32 * m 15 0 44) v)]
      rw [if_pos hb1, if_pos h33m, if_neg hsm, if_pos (show (1 : Int) ≤ 1 by decide), if_pos (show (0 : Int) ≠ 1 by decide)]
    rw [E1, E2]
    generalize (fn104 [qG c, 0, p, 0, v] cb).2.2 = c7 at *
    generalize rUp (rUp N 80 0 (4 * m 73 0 (m 15 0 44) + 32 * m 15 0 44) 0) 81 0 (4 * m 73 0 (m 15 0 44) + 32 * m 15 0 44) v = m4 at *
    have fc7 : fH 2 [10, 43, 44, 45, 46] [6, 10] c1 c7 := fH_trans (fH_trans (fH_sub fX (by decide) (by decide)) (fH_sub b2 (by decide) (by decide))) (fH_sub fx (by decide) (by decide))
    have fm4 : fH 15 [80, 81] [35, 39, 40] m3 m4 := fH_trans (fH_sub fN (by decide) (by decide)) (fH_sub fq (by decide) (by decide))
    have z35 : m4 15 0 35 = e := (fq.2 35 (by decide)).trans n35
    have z6 : c7 2 0 6 = e := (fx.2 6 (by decide)).trans ((b2.2 6 (by decide)).trans x6e)
    have z44 : m4 15 0 44 = m 15 0 44 := (fm4.2 44 (by decide)).trans (fm.2 44 (by decide))
    have z73 : m4 73 = m 73 := (fm4.1 73 (by decide) (by decide)).trans (fm.1 73 (by decide) (by decide))
    rw [y35] at w3
    rw [y34] at w4
    refine goal_cmp (H := H) (c0 := c0) (m0 := m0) (c := c) (m := m) (c7 := c7) (m4 := m4) ?_ ?_ h00 hlim ?_ ?_ ?_ ?_ ?_ ?_ ?_ ?_ ?_ ?_ ?_ p
    · refine qR_up hR1 (fH_sub fc7 (by decide) (by decide)) (fH_sub fm4 (by decide) (by decide)) ?_ ?_ ?_ ?_
      · rw [z6, z35]
      · rw [z35, y35]; omega
      · rw [z35]; omega
      · rw [z35, y34]; exact w4
    · obtain ⟨s1, s2, s3, s4, s5⟩ := hB1
      have g74 : m4 74 0 (m4 15 0 44) = m3 74 0 (m3 15 0 44) := by rw [fm4.1 74 (by decide) (by decide), fm4.2 44 (by decide)]
      refine ⟨qS_up s1 (fm4.2 44 (by decide)) (fm4.1 74 (by decide) (by decide)) (fm4.1 84 (by decide) (by decide)) (by rw [z35, y35]; omega), qO_up s2 (fc7.2 16 (by decide)) (fc7.1 25 (by decide) (by decide)) (fm4.2 58 (by decide)) (fm4.1 89 (by decide) (by decide)) (fm4.1 90 (by decide) (by decide)) (fm4.1 91 (by decide) (by decide)) (by rw [g74]; exact Int.le_refl _), ?_, ?_, ?_⟩
      · rw [fc7.2 5 (by decide), fm4.2 45 (by decide)]; exact s3
      · rw [fc7.2 5 (by decide)]; exact s4
      · rw [fc7.2 5 (by decide), g74]; exact s5
    · rw [p10, if_pos ⟨rfl, rfl⟩, b4]; decide
    · exact (qG_up fc7 (by decide) (by decide) (by decide)).trans (qG_up fc (by decide) (by decide) (by decide))
    · rw [z44, z73, q80]; decide
    · exact fH_trans (fH_sub fc (by decide) (by decide)) (fH_sub fc7 (by decide) (by decide))
    · exact fH_trans (fH_sub fm (by decide) (by decide)) (fH_sub fm4 (by decide) (by decide))
    · exact (fc7.2 16 (by decide)).trans (fc.2 16 (by decide))
    · intro G h q q2
      have hm := memG q
      rw [po G h q2, b6 G h q2, fX.1 G hm.2.2.2.2.2 hm.1, fc.1 G hm.2.2.2.2.2 hm.1]
    · have := p10 (qG c) 5
      rw [if_pos ⟨rfl, rfl⟩, b4] at this
      omega
    · rw [show 4 * (m 73 0 (m 15 0 44) + 8 * m 15 0 44) = 4 * m 73 0 (m 15 0 44) + 32 * m 15 0 44 by omega]
      refine Or.inl ⟨pc.1, q80, ?_⟩
      rw [pc.2.2, q81]
      exact fun _ => ⟨rfl, Or.inl ⟨by omega, by omega⟩⟩
    · rw [fm4.1 79 (by decide) (by decide)]; exact h79
    · exact (fm4.2 45 (by decide)).trans (fm.2 45 (by decide))
  · have hX20 := h20 _ w2
    rw [if_neg (show ¬ (1 : Int) ≤ 0 by decide)] at hX20
    refine Or.inr ⟨_, _, ?_, ?_, qZ_up hR1 (by decide) (c_q := rUp (rUp (rUp c1 2 0 6 e) 2 0 10 v) 2 0 4 (m3 15 0 35)) (m_q := rUp m3 15 0 36 (m3 15 0 35)) (fH_fld (fH_fld (fH_fld fH_refl (by decide)) (by decide)) (by decide)) (fH_fld fH_refl (by decide))⟩
    · unfold fn157
      simp only [zLet, k1, x6, fn106_eq, fn105_eq, fn107_eq, pBit_ge, w1]
      rw [if_pos hL, if_pos h33, if_neg hca_q, if_neg hsm_q, hdc, if_neg (show ¬ (1 : Int) ≤ 0 by decide)]
    · unfold fn42
      simp only [zLet, k2, f33, yl, e3, f6p, fn9_eq, pBit_ge, hX20]
      rw [if_pos hb1, if_pos h33m, if_neg hsm, if_neg (show ¬ (1 : Int) ≤ 0 by decide)]
