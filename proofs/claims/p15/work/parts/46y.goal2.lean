/-! ===== a GOAL that a NAME or a ! begins ===== -/
theorem item_out {m : rHp} {any : Int} (hsk : pSk (m 59 0) (m 15 0 34) (m 15 0 35) = m 15 0 35) (hn : ¬ m 15 0 35 < m 15 0 34) (hA : m 15 0 35 ≤ m 15 0 34) : fn20 [any] m = (0, 0, rUp m 15 0 36 (m 15 0 35)) := by
  have f7 : fn7 [] m = (0, 0, m) := by rw [fn7_eq, hsk, rUp_self rfl]
  unfold fn20
  simp only [zLet, List.getD_cons_zero, f7, fn6_eq, fn10_eq, fn9_eq, fn11_eq, fn8_eq hA]
  rw [if_neg (by omega)]
/-- nothing more is there -/
theorem goal_out {H : Int → Prop} {c0 m0 c m : rHp} {p L : Int} (hR : qR 0 c0 m0 c m) (hB : qB H c m) (k1 : fn114 [] c = (0, L, rUp c 2 0 6 p)) (k2 : fn7 [] m = (0, 0, rUp m 15 0 35 p)) (k3 : m 15 0 35 ≤ p) (k4 : p ≤ m 15 0 34) (hn : ¬ p < m 15 0 34) (hL : ¬ 0 ≤ L) (k7 : pSk (m 59 0) (m 15 0 34) p = p) : qGo H c0 m0 c m (fn157 [] c) (fn42 [] m) := by
  obtain ⟨c1, m3, e1, e3, hR1, hB1, fc, fm, y35, x6, hsk, f6⟩ := goal_pre hR hB k3 k4 k7
  rw [e1] at k1
  have f33 : ∀ g : rHp, (fn33 [] g).2.2 = g := fun g => rfl
  have yl : rUp m 15 0 35 p 15 0 35 = p := rUp_at
  have y34 : m3 15 0 34 = m 15 0 34 := fm.2 34 (by decide)
  have h20 := item_out (any := 0) hsk (by omega) (by omega)
  refine Or.inr ⟨rUp c1 2 0 4 p, rUp m3 15 0 36 (m3 15 0 35), ?_, ?_, qZ_up hR1 (by decide) (fH_fld fH_refl (by decide)) (fH_fld fH_refl (by decide))⟩
  · unfold fn157
    simp only [zLet, k1, x6, fn106_eq, fn105_eq, fn107_eq, fn109_eq]
    rw [if_neg hL]
  · unfold fn42
    simp only [zLet, k2, f33, yl, e3, f6, fn9_eq, h20]
    rw [if_neg (by omega)]
/-- no GOAL begins so -/
theorem goal_bad {H : Int → Prop} {c0 m0 c m : rHp} {p L : Int} (hR : qR 0 c0 m0 c m) (hB : qB H c m) (k1 : fn114 [] c = (0, L, rUp c 2 0 6 p)) (k2 : fn7 [] m = (0, 0, rUp m 15 0 35 p)) (k3 : m 15 0 35 ≤ p) (hn : p < m 15 0 34) (hL : 0 ≤ L) (k5 : qL L (m 59 0 p)) (k7 : pSk (m 59 0) (m 15 0 34) p = p)
    (h33 : m 59 0 p ≠ 33) (hca : ¬ pCa (m 59 0 p) = true) (hsm : ¬ pSm (m 59 0 p) = true) (hd1 : ¬ pDg (m 59 0 p) = true) (hd2 : m 59 0 p ≠ 45) : qGo H c0 m0 c m (fn157 [] c) (fn42 [] m) := by
  obtain ⟨c1, m3, e1, e3, hR1, hB1, fc, fm, y35, x6, hsk, f6⟩ := goal_pre hR hB k3 (by omega) k7
  rw [e1] at k1
  have f33 : ∀ g : rHp, (fn33 [] g).2.2 = g := fun g => rfl
  have yl : rUp m 15 0 35 p 15 0 35 = p := rUp_at
  have y34 : m3 15 0 34 = m 15 0 34 := fm.2 34 (by decide)
  have f7 : fn7 [] m3 = (0, 0, m3) := by rw [fn7_eq, hsk, rUp_self rfl]
  have f6p : fn6 [p] m3 = (0, m 59 0 p, m3) := by rw [f6, pB_in hn]
  have hb1 : (0 : Int) ≤ -p + m 15 0 34 + -1 := by omega
  have h20 : fn20 [0] m3 = (0, 0, rUp m3 15 0 36 p) := by
    unfold fn20
    simp only [zLet, List.getD_cons_zero, f7, y35, f6p, fn10_eq, fn9_eq, fn11_eq, pBit_ge, y34, fn8_eq (show p ≤ m3 15 0 34 by omega)]
    rw [if_pos hb1, if_neg hca, if_neg hsm, if_pos trivial, if_neg hd2, if_neg hd1]
  refine Or.inr ⟨rUp c1 2 0 4 p, rUp m3 15 0 36 p, ?_, ?_, qZ_up hR1 (by decide) (fH_fld fH_refl (by decide)) (fH_fld fH_refl (by decide))⟩
  · unfold fn157
    simp only [zLet, k1, x6, fn106_eq, fn105_eq, fn107_eq, pBit_ge, fn109_eq]
    rw [if_pos hL, if_pos (by rw [ne_eq, qL_is k5 (by decide) (by decide)]; exact h33), if_neg (by rw [qL_ca k5]; exact hca), if_neg (by rw [qL_sm k5]; exact hsm), if_neg (by rw [qL_dg k5]; exact hd1), if_neg (by rw [qL_is k5 (by decide) (by decide)]; exact hd2)]
  · unfold fn42
    simp only [zLet, k2, f33, yl, e3, f6p, fn9_eq, pBit_ge, h20]
    rw [if_pos hb1, if_pos h33, if_neg hsm, if_neg (show ¬ (1 : Int) ≤ 0 by decide)]
theorem qE_qGl {H : Int → Prop} {kind : Int} {c0 m0 c m c1 m1 c_q m_q : rHp} (h : qE H kind c1 m1 c0 m0 c_q m_q) (hc : fH 2 [] [6, 8, 9] c c1) (hm : fH 15 [79] [35, 37, 38] m m1) (hkd : kind = 1 ∨ kind = 2) : qGl H c0 m0 c m c_q m_q := by
  obtain ⟨a1, a2, a3, a4, a5, a6, a7, a8, a9, a10, a11, a12⟩ := h
  have hG : qG c1 = qG c := qG_up hc (by decide) (by decide) (by decide)
  refine ⟨qR_up a1 fH_refl fH_refl a1.2.1.1 (by omega) a1.2.1.2.1 a1.2.1.2.2, ⟨a2, a3, a4, a5, a6⟩, by rw [← hc.2 16 (by decide)]; exact a7, fH_trans (fH_sub hc (by decide) (by decide)) (fH_sub a10 (by decide) (by decide)), fH_trans (fH_sub hm (by decide) (by decide)) (fH_sub a11 (by decide) (by decide)), ?_, ?_⟩
  · intro G h q q2
    rw [a9 G h q (by rw [hG]; exact q2), hc.1 G (memG q).2.2.2.2.2 (memG q).1]
  · rw [hG, hm.1 73 (by decide) (by decide), hm.2 44 (by decide), hm.2 45 (by decide)] at a12
    rw [hG] at a8
    refine ⟨a12.2.1, Or.inl ⟨by rw [a8]; exact hkd, ?_⟩⟩
    rw [a8]
    exact a12
/-- a NAME begins it -/
theorem goal_name {H : Int → Prop} {c0 m0 c m : rHp} {p L : Int} (hR : qR 0 c0 m0 c m) (hB : qB H c m) (h00 : 0 ≤ c0 1000 0 0) (hlim : 2 * c0 1000 0 0 + m0 15 0 34 ≤ 10239) (hst : c 2 0 16 ≤ 28) (hpu : c 2 0 7 = 0) (k1 : fn114 [] c = (0, L, rUp c 2 0 6 p)) (k2 : fn7 [] m = (0, 0, rUp m 15 0 35 p)) (k3 : m 15 0 35 ≤ p) (hn : p < m 15 0 34) (hL : 0 ≤ L) (k5 : qL L (m 59 0 p)) (k7 : pSk (m 59 0) (m 15 0 34) p = p)
    (hsm : pSm (m 59 0 p) = true) : qGo H c0 m0 c m (fn157 [] c) (fn42 [] m) := by
  obtain ⟨c1, m3, e1, e3, hR1, hB1, fc, fm, y35, x6, hsk, f6⟩ := goal_pre hR hB k3 (by omega) k7
  rw [e1] at k1
  have f33 : ∀ g : rHp, (fn33 [] g).2.2 = g := fun g => rfl
  have a0 := hR.2.1.2.1
  have hG : c 9 (c 40 0 (c 1 0 10)) 2 + 9 * c 40 0 (c 1 0 10) + 1 = qG c := rfl
  have yl : rUp m 15 0 35 p 15 0 35 = p := rUp_at
  have y34 : m3 15 0 34 = m 15 0 34 := fm.2 34 (by decide)
  have y59 : m3 59 = m 59 := fm.1 59 (by decide) (by decide)
  have f6p : fn6 [p] m3 = (0, m 59 0 p, m3) := by rw [f6, pB_in hn]
  have hb1 : (0 : Int) ≤ -p + m 15 0 34 + -1 := by omega
  have rg : 97 ≤ m 59 0 p := by
    have h := hsm
    simp only [pSm, Bool.and_eq_true, decide_eq_true_eq] at h
    omega
  have h33m : m 59 0 p ≠ 33 := by omega
  have h33 : L ≠ 33 := by rw [ne_eq, qL_is k5 (by decide) (by decide)]; exact h33m
  have hca_q : ¬ pCa L = true := by
    rw [qL_ca k5]
    simp only [pCa, Bool.and_eq_true, decide_eq_true_eq]; omega
  have hsm_q : pSm L = true := by rw [qL_sm k5]; exact hsm
  rcases word_two (q := pSm) hR1.1 hR1.2.1 (by omega) (by rw [y59, y35]; exact hsm) [] [] with ⟨e, w, w1, w2, w3, w4, w5⟩ | ⟨e, w, w1, w2⟩
  · rw [y35] at w1 w2 w3 w5
    rw [y34] at w4 w5
    have fA : fH 2 [] [6, 8, 9] c1 (rUp (rUp (rUp c1 2 0 9 p) 2 0 8 w) 2 0 6 e) := fH_fld (fH_fld (fH_fld fH_refl (by decide)) (by decide)) (by decide)
    have x8 : rUp (rUp (rUp c1 2 0 9 p) 2 0 8 w) 2 0 6 e 2 0 8 = w := by rw [rUp_ne (by decide), rUp_at]
    have x6e : rUp (rUp (rUp c1 2 0 9 p) 2 0 8 w) 2 0 6 e 2 0 6 = e := rUp_at
    have fM : fH 15 [] [35, 37, 38] m3 (rUp (rUp (rUp m3 15 0 37 p) 15 0 38 (e - p)) 15 0 35 e) := fH_fld (fH_fld (fH_fld fH_refl (by decide)) (by decide)) (by decide)
    have z35 : rUp (rUp (rUp m3 15 0 37 p) 15 0 38 (e - p)) 15 0 35 e 15 0 35 = e := rUp_at
    have z38 : rUp (rUp (rUp m3 15 0 37 p) 15 0 38 (e - p)) 15 0 35 e 15 0 38 = e - p := by rw [rUp_ne (by decide), rUp_at]
    have z37 : rUp (rUp (rUp m3 15 0 37 p) 15 0 38 (e - p)) 15 0 35 e 15 0 37 = p := by rw [rUp_ne (by decide), rUp_ne (by decide), rUp_at]
    generalize rUp (rUp (rUp c1 2 0 9 p) 2 0 8 w) 2 0 6 e = A at *
    generalize rUp (rUp (rUp m3 15 0 37 p) 15 0 38 (e - p)) 15 0 35 e = M at *
    have z34 : M 15 0 34 = m 15 0 34 := (fM.2 34 (by decide)).trans y34
    have z59 : M 59 = m 59 := (fM.1 59 (by decide) (by decide)).trans y59
    have hRA : qR 0 c0 m0 A M := by
      refine qR_up hR1 (fH_sub fA (by decide) (by decide)) (fH_sub fM (by decide) (by decide)) ?_ ?_ ?_ ?_
      · rw [x6e, z35]
      · rw [z35, y35]; omega
      · rw [z35]; omega
      · rw [z35, y34]; exact w4
    obtain ⟨q, L2, l1, l2, l3, l4, l5, l6, l7⟩ := look_two hRA.1 hRA.2.1 [] []
    rw [z35] at l3
    rw [z34] at l4 l5 l6 l7
    rw [z59] at l5 l7
    have fA2 : fH 2 [] [6] A (rUp A 2 0 6 q) := fH_fld fH_refl (by decide)
    have fM2 : fH 15 [] [35] M (rUp M 15 0 35 q) := fH_fld fH_refl (by decide)
    have u6 : rUp A 2 0 6 q 2 0 6 = q := rUp_at
    have u8 : rUp A 2 0 6 q 2 0 8 = w := by rw [rUp_ne (by decide)]; exact x8
    have v35 : rUp M 15 0 35 q 15 0 35 = q := rUp_at
    have v37 : rUp M 15 0 35 q 15 0 37 = p := by rw [rUp_ne (by decide)]; exact z37
    have v38 : rUp M 15 0 35 q 15 0 38 = e - p := by rw [rUp_ne (by decide)]; exact z38
    generalize rUp A 2 0 6 q = A2 at *
    generalize rUp M 15 0 35 q = M2 at *
    have v34 : M2 15 0 34 = m 15 0 34 := (fM2.2 34 (by decide)).trans z34
    have v59 : M2 59 = m 59 := (fM2.1 59 (by decide) (by decide)).trans z59
    have fcA : fH 2 [] [6, 8, 9] c A2 := fH_trans (fH_trans (fH_sub fc (by decide) (by decide)) fA) (fH_sub fA2 (by decide) (by decide))
    have fmM : fH 15 [79] [35, 37, 38] m M2 := fH_trans (fH_trans (fH_sub fm (by decide) (by decide)) (fH_sub fM (by decide) (by decide))) (fH_sub fM2 (by decide) (by decide))
    have hR2 : qR 0 c0 m0 A2 M2 := by
      refine qR_up hRA (fH_sub fA2 (by decide) (by decide)) (fH_sub fM2 (by decide) (by decide)) ?_ ?_ ?_ ?_
      · rw [u6, v35]
      · rw [v35, z35]; omega
      · rw [v35]; omega
      · rw [v35, z34]; exact l4
    have hB2 : qB H A2 M2 := by
      obtain ⟨s1, s2, s3, s4, s5⟩ := hB
      have g74 : M2 74 0 (M2 15 0 44) = m 74 0 (m 15 0 44) := by rw [fmM.1 74 (by decide) (by decide), fmM.2 44 (by decide)]
      refine ⟨qS_up s1 (fmM.2 44 (by decide)) (fmM.1 74 (by decide) (by decide)) (fmM.1 84 (by decide) (by decide)) (by rw [v35]; omega), qO_up s2 (fcA.2 16 (by decide)) (fcA.1 25 (by decide) (by decide)) (fmM.2 58 (by decide)) (fmM.1 89 (by decide) (by decide)) (fmM.1 90 (by decide) (by decide)) (fmM.1 91 (by decide) (by decide)) (by rw [g74]; exact Int.le_refl _), ?_, ?_, ?_⟩
      · rw [fcA.2 5 (by decide), fmM.2 45 (by decide)]; exact s3
      · rw [fcA.2 5 (by decide)]; exact s4
      · rw [fcA.2 5 (by decide), g74]; exact s5
    have hW2 : qW pSm (M2 59 0) (M2 15 0 34) w (M2 15 0 37) (M2 15 0 38) := by
      rw [v59, v34, v37, v38]
      rw [y59] at w5
      exact w5
    have hb2 : q < m 15 0 34 → (0 : Int) ≤ -q + m 15 0 34 + -1 := fun h => by omega
    have i40 : (L2 = 40) = (pB (m 59 0) (m 15 0 34) q = 40) := qL_is l5 (by decide) (by decide)
    by_cases h40 : q < m 15 0 34 ∧ m 59 0 q = 40
    · have hL2 : 0 ≤ L2 := l6.2 h40.1
      have hL40 : L2 = 40 := by rw [i40, pB_in h40.1]; exact h40.2
      have at2 := atom_two (kind := 1) (n0 := 0) hR2 hB2 h00 hlim (Or.inl ⟨rfl, rfl⟩) (by rw [fcA.2 16 (by decide)]; exact hst) (by rw [fcA.2 7 (by decide)]; exact hpu) (by rw [u8]; exact hW2) (by rw [v59, v34, v35]; exact l7) (by rw [v35, v34]; exact h40.1) (by rw [v59, v35]; exact h40.2)
      have E1 : fn157 [] c = if 1 ≤ (fn145 [1] A2).2.1 then (0, 1, (fn145 [1] A2).2.2) else (0, 0, (fn145 [1] A2).2.2) := by
        unfold fn157
        simp only [zLet, k1, x6, fn106_eq, fn105_eq, pBit_ge, w1, l1]
        rw [if_pos hL, if_pos h33, if_neg hca_q, if_pos hsm_q, if_pos (show (1 : Int) ≤ 1 by decide), if_pos hL2, if_neg (fun z => z hL40)]
      have E2 : fn42 [] m = if 1 ≤ (fn41 [0] M2).2.1 then (0, 1, (fn41 [0] M2).2.2) else (0, 0, (fn41 [0] M2).2.2) := by
        unfold fn42
        simp only [zLet, k2, f33, yl, e3, f6p, fn9_eq, pBit_ge, w2, l2, fn6_eq, v35, v59, v34, pB_in h40.1]
        rw [if_pos hb1, if_pos h33m, if_pos hsm, if_pos (show (1 : Int) ≤ 1 by decide), if_pos (hb2 h40.1), if_neg (fun z => z h40.2)]
      rw [E1, E2]
      rcases at2 with ⟨c_q, m_q, r1, r2, r3⟩ | ⟨c_q, m_q, r1, r2, r3⟩
      · rw [r1, r2]
        exact Or.inl ⟨c_q, m_q, rfl, rfl, qE_qGl r3 fcA fmM (Or.inl rfl)⟩
      · rw [r1, r2]
        exact Or.inr ⟨c_q, m_q, rfl, rfl, r3⟩
    · obtain ⟨cb, b1, b2, b3, b4, b5, b6⟩ := fn103_all (c := A2) (k := 4) (w := 0) (p := p)
      have hGA : qG A2 = qG c := qG_up fcA (by decide) (by decide) (by decide)
      rw [hGA] at b3 b4 b5 b6
      have hRb : qR 0 c0 m0 cb M2 := by
        refine qR_up hR2 (fH_sub b2 (by decide) (by decide)) fH_refl ?_ (Int.le_refl _) hR2.2.1.2.1 hR2.2.1.2.2
        rw [b2.2 6 (by decide)]; exact hR2.2.1.1
      have hBb : qB H cb M2 := qB_c hB2 (b2.2 5 (by decide)) (b2.2 16 (by decide)) (b2.1 25 (by decide) (by decide))
      have cnt : 2 * c 3 0 1 ≤ 2 * c0 1000 0 0 + m 15 0 35 + 0 := hR.2.2.2.2.2.2.2.2.2.1
      obtain ⟨k, k_q, cn, mn, n1, n2, n3, nv, n4, n5, n6, -, -⟩ := qR_name hRb hlim (w := w) hW2 (by rw [b2.1 3 (by decide) (by decide), fcA.1 3 (by decide) (by decide), v35]; omega) []
      have fcn : fH 2 [3, 26] [] cb cn := ⟨fun G g1 g2 => n5 G (fun q => g1 (by rw [q]; decide)) (fun q => g1 (by rw [q]; decide)), fun j _ => by rw [n5 2 (by decide) (by decide)]⟩
      have zb : cn 10 (qG c) 5 = 0 := by rw [n5 10 (by decide) (by decide)]; exact b4
      have fx := fn104_fr (g := qG c) (k := 0) (p := p) (s := 0) (v := k + 1099511627776) (c := cn)
      have p10 := put10 (g := qG c) (k := 0) (p := p) (s := 0) (v := k + 1099511627776) (c := cn) (by rw [zb]; decide)
      have po : ∀ G h, h ≠ qG c → (fn104 [qG c, 0, p, 0, k + 1099511627776] cn).2.2 G h = cn G h := fun G h hh => put_oth hh
      have pc := put_con (g := qG c) (k := 0) (p := p) (s := 0) (v := k + 1099511627776) (c := cn) (by rw [zb]; decide) 0
      rw [zb, if_pos rfl, if_pos rfl, if_pos rfl] at pc
      have h79 : m3 79 0 (m 73 0 (m 15 0 44) + 8 * m 15 0 44) = m 15 0 45 := by rw [← e3, rUp_at]
      have q81 : rUp (rUp (rUp (rUp mn 15 0 39 (k_q + 1099511627776)) 15 0 40 0) 80 0 (4 * m 73 0 (m 15 0 44) + 32 * m 15 0 44) 0) 81 0 (4 * m 73 0 (m 15 0 44) + 32 * m 15 0 44) (k_q + 1099511627776) 81 0 (4 * m 73 0 (m 15 0 44) + 32 * m 15 0 44) = k_q + 1099511627776 := rUp_at
      have h135 : fn135 [qG c, w, p] cb = (0, 1, (fn104 [qG c, 0, p, 0, k + 1099511627776] cn).2.2) := by
        unfold fn135
        simp only [zLet, List.getD_cons_zero, List.getD_cons_succ, n1]
        rw [if_pos (show k ≥ 0 from n3)]
      generalize (fn104 [qG c, 0, p, 0, k + 1099511627776] cn).2.2 = c7 at *
      have fq : fH 15 [80, 81] [39, 40] mn (rUp (rUp (rUp (rUp mn 15 0 39 (k_q + 1099511627776)) 15 0 40 0) 80 0 (4 * m 73 0 (m 15 0 44) + 32 * m 15 0 44) 0) 81 0 (4 * m 73 0 (m 15 0 44) + 32 * m 15 0 44) (k_q + 1099511627776)) := fH_grp (fH_grp (fH_fld (fH_fld fH_refl (by decide)) (by decide)) (by decide) (by decide)) (by decide) (by decide)
      have q80 : rUp (rUp (rUp (rUp mn 15 0 39 (k_q + 1099511627776)) 15 0 40 0) 80 0 (4 * m 73 0 (m 15 0 44) + 32 * m 15 0 44) 0) 81 0 (4 * m 73 0 (m 15 0 44) + 32 * m 15 0 44) (k_q + 1099511627776) 80 0 (4 * m 73 0 (m 15 0 44) + 32 * m 15 0 44) = 0 := by rw [rUp_grp (by decide), rUp_at]
      have q7 := fn7_eq [] (rUp (rUp (rUp (rUp mn 15 0 39 (k_q + 1099511627776)) 15 0 40 0) 80 0 (4 * m 73 0 (m 15 0 44) + 32 * m 15 0 44) 0) 81 0 (4 * m 73 0 (m 15 0 44) + 32 * m 15 0 44) (k_q + 1099511627776))
      have q40 := fun wh => fn40_look (g := rUp (rUp (rUp (rUp mn 15 0 39 (k_q + 1099511627776)) 15 0 40 0) 80 0 (4 * m 73 0 (m 15 0 44) + 32 * m 15 0 44) 0) 81 0 (4 * m 73 0 (m 15 0 44) + 32 * m 15 0 44) (k_q + 1099511627776)) (wh := wh)
      generalize hm4 : rUp (rUp (rUp (rUp mn 15 0 39 (k_q + 1099511627776)) 15 0 40 0) 80 0 (4 * m 73 0 (m 15 0 44) + 32 * m 15 0 44) 0) 81 0 (4 * m 73 0 (m 15 0 44) + 32 * m 15 0 44) (k_q + 1099511627776) = m4 at *
      have fc7 : fH 2 [3, 26, 10, 43, 44, 45, 46] [] A2 c7 := fH_trans (fH_trans (fH_sub b2 (by decide) (by decide)) (fH_sub fcn (by decide) (by decide))) (fH_sub fx (by decide) (by decide))
      have fm4 : fH 15 [61, 62, 63, 80, 81] [8, 9, 39, 40] M2 m4 := fH_trans (fH_sub n6 (by decide) (by decide)) (fH_sub fq (by decide) (by decide))
      have t35 : m4 15 0 35 = q := (fm4.2 35 (by decide)).trans v35
      have t6 : c7 2 0 6 = q := (fc7.2 6 (by decide)).trans u6
      have t44 : m4 15 0 44 = m 15 0 44 := (fm4.2 44 (by decide)).trans (fmM.2 44 (by decide))
      have t73 : m4 73 = m 73 := (fm4.1 73 (by decide) (by decide)).trans (fmM.1 73 (by decide) (by decide))
      have fin := goal_cmp (H := H) (c0 := c0) (m0 := m0) (c := c) (m := m) (c7 := c7) (m4 := m4) (by
          refine qR_up n4 (fH_sub fx (by decide) (by decide)) (fH_sub fq (by decide) (by decide)) ?_ ?_ ?_ ?_
          · rw [fx.2 6 (by decide), fq.2 35 (by decide)]; exact n4.2.1.1
          · rw [fq.2 35 (by decide)]; exact Int.le_refl _
          · rw [fq.2 35 (by decide)]; exact n4.2.1.2.1
          · rw [fq.2 35 (by decide)]; exact n4.2.1.2.2) (by
          obtain ⟨s1, s2, s3, s4, s5⟩ := hB2
          have g74 : m4 74 0 (m4 15 0 44) = M2 74 0 (M2 15 0 44) := by rw [fm4.1 74 (by decide) (by decide), fm4.2 44 (by decide)]
          refine ⟨qS_up s1 (fm4.2 44 (by decide)) (fm4.1 74 (by decide) (by decide)) (fm4.1 84 (by decide) (by decide)) (by rw [t35, v35]; exact Int.le_refl _), qO_up s2 (fc7.2 16 (by decide)) (fc7.1 25 (by decide) (by decide)) (fm4.2 58 (by decide)) (fm4.1 89 (by decide) (by decide)) (fm4.1 90 (by decide) (by decide)) (fm4.1 91 (by decide) (by decide)) (by rw [g74]; exact Int.le_refl _), ?_, ?_, ?_⟩
          · rw [fc7.2 5 (by decide), fm4.2 45 (by decide)]; exact s3
          · rw [fc7.2 5 (by decide)]; exact s4
          · rw [fc7.2 5 (by decide), g74]; exact s5) h00 hlim (by rw [p10, if_pos ⟨rfl, rfl⟩, zb]; decide) ((qG_up fc7 (by decide) (by decide) (by decide)).trans hGA) (by rw [t44, t73, q80]; decide)
          (fH_trans (fH_sub fcA (by decide) (by decide)) (fH_sub fc7 (by decide) (by decide))) (fH_trans (fH_sub fmM (by decide) (by decide)) (fH_sub fm4 (by decide) (by decide))) ((fc7.2 16 (by decide)).trans (fcA.2 16 (by decide))) (by
          intro G h z z2
          have hm := memG z
          rw [po G h z2, n5 G (by rintro rfl; exact absurd z (by decide)) (by rintro rfl; exact absurd z (by decide)), b6 G h z2, fcA.1 G hm.2.2.2.2.2 hm.1]) (by
          have := p10 (qG c) 5
          rw [if_pos ⟨rfl, rfl⟩, zb] at this
          omega) (by
          rw [show 4 * (m 73 0 (m 15 0 44) + 8 * m 15 0 44) = 4 * m 73 0 (m 15 0 44) + 32 * m 15 0 44 by omega]
          refine Or.inl ⟨pc.1, q80, ?_⟩
          rw [pc.2.2, q81]
          exact vE_of n4 (by decide) hlim nv) (by rw [fm4.1 79 (by decide) (by decide), fM2.1 79 (by decide) (by decide), fM.1 79 (by decide) (by decide)]; exact h79) ((fm4.2 45 (by decide)).trans (fmM.2 45 (by decide))) p
      by_cases hq : q < m 15 0 34
      · have hL2 : 0 ≤ L2 := l6.2 hq
        have hne : m 59 0 q ≠ 40 := fun z => h40 ⟨hq, z⟩
        have hL40 : L2 ≠ 40 := by rw [ne_eq, i40, pB_in hq]; exact hne
        have E1 : fn157 [] c = (if 1 ≤ (fn154 [] c7).2.1 then (if 1 ≤ (fn139 [qG c] (fn154 [] c7).2.2).2.1 then (0, 1, (fn139 [qG c] (fn154 [] c7).2.2).2.2) else (0, 0, (fn139 [qG c] (fn154 [] c7).2.2).2.2)) else (0, 0, (fn154 [] c7).2.2)) := by
          unfold fn157
          simp only [zLet, k1, x6, fn106_eq, fn105_eq, pBit_ge, w1, l1, b1, x8, hG, h135]
          rw [if_pos hL, if_pos h33, if_neg hca_q, if_pos hsm_q, if_pos (show (1 : Int) ≤ 1 by decide), if_pos hL2, if_pos hL40, if_pos (show (1 : Int) ≤ 1 by decide)]
        have E2 : fn42 [] m = (if 1 ≤ (fn40 [p] m4).2.1 then (0, 1, (fn40 [p] m4).2.2) else (0, 0, (fn40 [p] m4).2.2)) := by
          rw [← q40 p]
          unfold fn42
          simp only [zLet, k2, f33, yl, e3, f6p, fn9_eq, pBit_ge, w2, l2, fn6_eq, v35, v59, v34, pB_in hq, n2, hm4, q7]
          rw [if_pos hb1, if_pos h33m, if_pos hsm, if_pos (show (1 : Int) ≤ 1 by decide), if_pos (hb2 hq), if_pos hne]
        rw [E1, E2]
        exact fin
      · have hL2 : ¬ 0 ≤ L2 := fun z => hq (l6.1 z)
        have E1 : fn157 [] c = (0, 0, (fn154 [] c7).2.2) := by
          unfold fn157
          simp only [zLet, k1, x6, fn106_eq, fn105_eq, pBit_ge, w1, l1, b1, x8, hG, h135]
          rw [if_pos hL, if_pos h33, if_neg hca_q, if_pos hsm_q, if_pos (show (1 : Int) ≤ 1 by decide), if_neg hL2, if_pos (show (1 : Int) ≤ 1 by decide)]
        have E2 : fn42 [] m = (0, 0, (fn40 [p] m4).2.2) := by
          rw [← q40 p]
          unfold fn42
          simp only [zLet, k2, f33, yl, e3, f6p, fn9_eq, pBit_ge, w2, l2, fn6_eq, v35, v59, v34, n2, hm4, q7]
          rw [if_pos hb1, if_pos h33m, if_pos hsm, if_pos (show (1 : Int) ≤ 1 by decide), if_neg (show ¬ (0 : Int) ≤ -q + m 15 0 34 + -1 by omega)]
        rw [E1, E2]
        have hR7 : qR 1 c0 m0 c7 m4 := by
          refine qR_up n4 (fH_sub fx (by decide) (by decide)) (fH_sub fq (by decide) (by decide)) ?_ ?_ ?_ ?_
          · rw [fx.2 6 (by decide), fq.2 35 (by decide)]; exact n4.2.1.1
          · rw [fq.2 35 (by decide)]; exact Int.le_refl _
          · rw [fq.2 35 (by decide)]; exact n4.2.1.2.1
          · rw [fq.2 35 (by decide)]; exact n4.2.1.2.2
        rcases sign_two hR7 (Or.inr rfl) with ⟨c5, m5, a1, a2, a3, a4, a5, a6, a7⟩ | ⟨c5, m5, a1, a2, a3⟩
        · exfalso
          have := a2.2.1.2.2
          have := a4.2 34 (by decide)
          have := fm4.2 34 (by decide)
          omega
        · rw [a1, a2 p]
          exact Or.inr ⟨c5, m5, rfl, rfl, a3⟩
  · rw [y35] at w1 w2
    refine Or.inr ⟨_, _, ?_, ?_, qZ_up hR1 (by decide) (c_q := rUp (rUp (rUp (rUp c1 2 0 9 p) 2 0 8 w) 2 0 6 e) 2 0 4 p) (m_q := rUp (rUp (rUp m3 15 0 37 p) 15 0 38 (e - p)) 15 0 36 p) (fH_fld (fH_fld (fH_fld (fH_fld fH_refl (by decide)) (by decide)) (by decide)) (by decide)) (fH_fld (fH_fld (fH_fld fH_refl (by decide)) (by decide)) (by decide))⟩
    · unfold fn157
      simp only [zLet, k1, x6, fn106_eq, fn105_eq, pBit_ge, w1]
      rw [if_pos hL, if_pos h33, if_neg hca_q, if_pos hsm_q, if_neg (show ¬ (1 : Int) ≤ 0 by decide)]
    · unfold fn42
      simp only [zLet, k2, f33, yl, e3, f6p, fn9_eq, pBit_ge, w2]
      rw [if_pos hb1, if_pos h33m, if_pos hsm, if_neg (show ¬ (1 : Int) ≤ 0 by decide)]
