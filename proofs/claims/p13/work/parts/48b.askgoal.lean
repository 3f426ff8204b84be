/-! ===== a GOAL by both, when asked ===== -/
noncomputable def fnQ (x : List Int) (g0 : rHp) : zR :=
  zLet (g0 15 0 34) fun n1 =>
  zLet (g0 15 0 44) fun n8 =>
  zLet (g0 73 0 n8) fun n9 =>
  zLet (g0 15 0 45) fun n17 =>
  zLet (fn7 [] g0) fun p0 =>
  zLet p0.2.2 fun g1 =>
  zLet (g1 15 0 35) fun n18 =>
  zLet (fn33 [] g1) fun p1 =>
  zLet p1.2.2 fun g2 =>
  zLet (rUp g2 79 0 (n9 + 8 * n8) n17) fun g3 =>
  zLet (fn6 [n18] g3) fun p3 =>
  zLet p3.2.2 fun g4 =>
  if 0 ≤ -n18 + n1 + (-1) then
    zLet (p3.2.1) fun n19 =>
    if n19 ≠ 33 then
      zLet (fn9 [n19] g4) fun p4 =>
      zLet p4.2.2 fun g5 =>
      if 1 ≤ p4.2.1 then
        zLet (fn12 [] g5) fun p5 =>
        zLet p5.2.2 fun g6 =>
        if 1 ≤ p5.2.1 then
          zLet (fn7 [] g6) fun p6 =>
          zLet p6.2.2 fun g7 =>
          zLet (g7 15 0 35) fun n22 =>
          zLet (fn6 [n22] g7) fun p7 =>
          zLet p7.2.2 fun g8 =>
          if 0 ≤ -n22 + n1 + (-1) then
            zLet (p7.2.1) fun n23 =>
            if n23 ≠ 40 then
              zLet (fn15 [] g8) fun p8 =>
              zLet p8.2.2 fun g9 =>
              zLet (p8.2.1) fun n24 =>
              zLet (rUp g9 15 0 39 n24) fun g10 =>
              zLet (rUp g10 15 0 40 0) fun g11 =>
              zLet (rUp g11 80 0 (4 * n9 + 32 * n8) 0) fun g12 =>
              zLet (rUp g12 81 0 (4 * n9 + 32 * n8) n24) fun g13 =>
              zLet (fn7 [] g13) fun p13 =>
              zLet p13.2.2 fun g14 =>
              zLet (fn40 [n18] g14) fun p14 =>
              zLet p14.2.2 fun g15 =>
              if 1 ≤ p14.2.1 then
                (0, 1, g15)
              else
                (0, 0, g15)
            else
              zLet (fn36 [0, 0] g8) fun p8 =>
              zLet p8.2.2 fun g9 =>
              if 1 ≤ p8.2.1 then
                (0, 1, g9)
              else
                (0, 0, g9)
          else
            zLet (fn15 [] g8) fun p8 =>
            zLet p8.2.2 fun g9 =>
            zLet (p8.2.1) fun n23 =>
            zLet (rUp g9 15 0 39 n23) fun g10 =>
            zLet (rUp g10 15 0 40 0) fun g11 =>
            zLet (rUp g11 80 0 (4 * n9 + 32 * n8) 0) fun g12 =>
            zLet (rUp g12 81 0 (4 * n9 + 32 * n8) n23) fun g13 =>
            zLet (fn7 [] g13) fun p13 =>
            zLet p13.2.2 fun g14 =>
            zLet (fn40 [n18] g14) fun p14 =>
            zLet p14.2.2 fun g15 =>
            (0, 0, g15)
        else
          (0, 0, g6)
      else
        zLet (fn20 [0] g5) fun p5 =>
        zLet p5.2.2 fun g6 =>
        if 1 ≤ p5.2.1 then
          zLet (g6 15 0 39) fun n24 =>
          zLet (g6 15 0 40) fun n25 =>
          zLet (rUp g6 80 0 (4 * n9 + 32 * n8) n25) fun g7 =>
          zLet (rUp g7 81 0 (4 * n9 + 32 * n8) n24) fun g8 =>
          zLet (fn7 [] g8) fun p8 =>
          zLet p8.2.2 fun g9 =>
          zLet (g9 15 0 35) fun n28 =>
          if n25 ≠ 1 then
            zLet (fn40 [n18] g9) fun p9 =>
            zLet p9.2.2 fun g10 =>
            if 1 ≤ p9.2.1 then
              (0, 1, g10)
            else
              (0, 0, g10)
          else
            zLet (fn6 [n28] g9) fun p9 =>
            zLet p9.2.2 fun g10 =>
            if 0 ≤ -n28 + n1 + (-1) then
              zLet (p9.2.1) fun n29 =>
              zLet (fn9 [n29] g10) fun p10 =>
              zLet p10.2.2 fun g11 =>
              if 1 ≤ p10.2.1 then
                zLet (fn12 [] g11) fun p11 =>
                zLet p11.2.2 fun g12 =>
                if 1 ≤ p11.2.1 then
                  zLet (fn13 [105, 115, 0, 0, 0] g12) fun p12 =>
                  zLet p12.2.2 fun g13 =>
                  if 1 ≤ p12.2.1 then
                    zLet (fn18 [n24] g13) fun p13 =>
                    zLet p13.2.2 fun g14 =>
                    if 1 ≤ p13.2.1 then
                      zLet (fn8 [n18] g14) fun p14 =>
                      zLet p14.2.2 fun g15 =>
                      (0, 0, g15)
                    else
                      zLet (fn34 [1] g14) fun p14 =>
                      zLet p14.2.2 fun g15 =>
                      if 1 ≤ p14.2.1 then
                        zLet (fn7 [] g15) fun p15 =>
                        zLet p15.2.2 fun g16 =>
                        zLet (g16 15 0 35) fun n38 =>
                        zLet (fn6 [n38] g16) fun p16 =>
                        zLet p16.2.2 fun g17 =>
                        if 0 ≤ -n38 + n1 + (-1) then
                          zLet (p16.2.1) fun n39 =>
                          if n39 = 43 then
                            zLet (rUp g17 15 0 35 (n38 + 1)) fun g18 =>
                            zLet (rUp g18 77 0 (n9 + 8 * n8) 5) fun g19 =>
                            zLet (fn34 [2] g19) fun p19 =>
                            zLet p19.2.2 fun g20 =>
                            if 1 ≤ p19.2.1 then
                              zLet (zF2 .ishl 1 n24) fun n46 =>
                              zLet (zF2 .ior n17 n46) fun n47 =>
                              zLet (rUp g20 15 0 45 n47) fun g21 =>
                              (0, 1, g21)
                            else
                              (0, 0, g20)
                          else
                            if n39 = 45 then
                              zLet (rUp g17 15 0 35 (n38 + 1)) fun g18 =>
                              zLet (rUp g18 77 0 (n9 + 8 * n8) 6) fun g19 =>
                              zLet (fn34 [2] g19) fun p19 =>
                              zLet p19.2.2 fun g20 =>
                              if 1 ≤ p19.2.1 then
                                zLet (zF2 .ishl 1 n24) fun n46 =>
                                zLet (zF2 .ior n17 n46) fun n47 =>
                                zLet (rUp g20 15 0 45 n47) fun g21 =>
                                (0, 1, g21)
                              else
                                (0, 0, g20)
                            else
                              if n39 = 42 then
                                zLet (rUp g17 15 0 35 (n38 + 1)) fun g18 =>
                                zLet (rUp g18 77 0 (n9 + 8 * n8) 7) fun g19 =>
                                zLet (fn34 [2] g19) fun p19 =>
                                zLet p19.2.2 fun g20 =>
                                if 1 ≤ p19.2.1 then
                                  zLet (zF2 .ishl 1 n24) fun n46 =>
                                  zLet (zF2 .ior n17 n46) fun n47 =>
                                  zLet (rUp g20 15 0 45 n47) fun g21 =>
                                  (0, 1, g21)
                                else
                                  (0, 0, g20)
                              else
                                zLet (fn8 [n38] g17) fun p17 =>
                                zLet p17.2.2 fun g18 =>
                                (0, 0, g18)
                        else
                          zLet (fn8 [n38] g17) fun p17 =>
                          zLet p17.2.2 fun g18 =>
                          (0, 0, g18)
                      else
                        (0, 0, g15)
                  else
                    zLet (fn8 [n28] g13) fun p13 =>
                    zLet p13.2.2 fun g14 =>
                    (0, 0, g14)
                else
                  (0, 0, g12)
              else
                zLet (fn40 [n18] g11) fun p11 =>
                zLet p11.2.2 fun g12 =>
                if 1 ≤ p11.2.1 then
                  (0, 1, g12)
                else
                  (0, 0, g12)
            else
              zLet (fn9 [(-1)] g10) fun p10 =>
              zLet p10.2.2 fun g11 =>
              zLet (fn40 [n18] g11) fun p11 =>
              zLet p11.2.2 fun g12 =>
              (0, 0, g12)
        else
          (0, 0, g6)
    else
      zLet (rUp g4 15 0 35 (n18 + 1)) fun g5 =>
      zLet (fn23 [] g5) fun p5 =>
      zLet p5.2.2 fun g6 =>
      if 1 ≤ p5.2.1 then
        zLet (fn7 [] g6) fun p6 =>
        zLet p6.2.2 fun g7 =>
        zLet (g7 15 0 35) fun n23 =>
        zLet (fn6 [n23] g7) fun p7 =>
        zLet p7.2.2 fun g8 =>
        if 0 ≤ -n23 + n1 + (-1) then
          zLet (p7.2.1) fun n24 =>
          if n24 ≠ 40 then
            zLet (fn8 [n23] g8) fun p8 =>
            zLet p8.2.2 fun g9 =>
            (0, 0, g9)
          else
            zLet (fn36 [1, 0] g8) fun p8 =>
            zLet p8.2.2 fun g9 =>
            if 1 ≤ p8.2.1 then
              (0, 1, g9)
            else
              (0, 0, g9)
        else
          zLet (fn8 [n23] g8) fun p8 =>
          zLet p8.2.2 fun g9 =>
          (0, 0, g9)
      else
        (0, 0, g6)
  else
    zLet (fn9 [(-1)] g4) fun p4 =>
    zLet p4.2.2 fun g5 =>
    zLet (fn20 [0] g5) fun p5 =>
    zLet p5.2.2 fun g6 =>
    (0, 0, g6)
theorem fn35_is : fn35 = fn40 := rfl
theorem zLetB {α β : Type} (a : α) (f : α → β) : zLet a f = f a := rfl
theorem fn37_is (m : rHp) : fn37 [0] m = fnQ [] m := by
  unfold fn37 fnQ
  rw [fn35_is, List.getD_cons_zero]
  exact zLetB 0 _
theorem goal_num_a {H : Int → Prop} {c0 m0 c m : rHp} {p L : Int} (hR : qR 0 c0 m0 c m) (hB : qB H c m) (h00 : 0 ≤ c0 1000 0 0) (hlim : 2 * c0 1000 0 0 + m0 15 0 34 ≤ 10239) (k1 : fn114 [] c = (0, L, rUp c 2 0 6 p)) (k2 : fn7 [] m = (0, 0, rUp m 15 0 35 p)) (k3 : m 15 0 35 ≤ p) (hn : p < m 15 0 34) (hL : 0 ≤ L) (k5 : qL L (m 59 0 p)) (k7 : pSk (m 59 0) (m 15 0 34) p = p)
    (hd : pDg (m 59 0 p) = true ∨ m 59 0 p = 45) : qGo H c0 m0 c m (fn157 [] c) (fnQ [] m) := by
  obtain ⟨c1, m3, e1, e3, hR1, hB1, fc, fm, y35, x6, hsk, f6⟩ := goal_pre hR hB k3 (by omega) k7
  rw [e1] at k1
  have f33 : ∀ g : rHp, (fn33 [] g).2.2 = g := fun g => rfl
  have a0 := hR.2.1.2.1
  have hG : c 9 (c 40 0 (c 1 0 10)) 2 + 9 * c 40 0 (c 1 0 10) + 1 = qG c := rfl
  have ha : pDg (m 59 0 p) = true → 48 ≤ m 59 0 p ∧ m 59 0 p ≤ 57 := fun h => pDg_rg h
  have rg : 45 ≤ m 59 0 p ∧ m 59 0 p ≤ 57 := by
    rcases hd with h | h
    · have := ha h; omega
    · omega
  have hca : ¬ pCa (m 59 0 p) = true := by
    simp only [pCa, Bool.and_eq_true, decide_eq_true_eq]; omega
  have hsm : ¬ pSm (m 59 0 p) = true := by
    simp only [pSm, Bool.and_eq_true, decide_eq_true_eq]; omega
  have hca_q : ¬ pCa L = true := by rw [qL_ca k5]; exact hca
  have hsm_q : ¬ pSm L = true := by rw [qL_sm k5]; exact hsm
  have hd_q : pDg L = pDg (m 59 0 p) := qL_dg k5
  have h45 : (L = 45) = (m 59 0 p = 45) := qL_is k5 (by decide) (by decide)
  have h33 : L ≠ 33 := by
    rw [ne_eq, qL_is k5 (by decide) (by decide)]; omega
  have y34 : m3 15 0 34 = m 15 0 34 := fm.2 34 (by decide)
  have y59 : m3 59 = m 59 := fm.1 59 (by decide) (by decide)
  have hdc : ∀ (X Y : zR), (if pDg L = true then X else if L = 45 then X else Y) = X := by
    intro X Y
    by_cases h : pDg (m 59 0 p) = true
    · rw [if_pos (by rw [hd_q]; exact h)]
    · rw [if_neg (by rw [hd_q]; exact h), if_pos (by rw [h45]; exact hd.resolve_left h)]
  have hdm : ∀ (X Y : zR), (if m 59 0 p = 45 then X else if pDg (m 59 0 p) = true then X else Y) = X := by
    intro X Y
    by_cases h : m 59 0 p = 45
    · rw [if_pos h]
    · rw [if_neg h, if_pos (hd.resolve_right h)]
  have hb1 : (0 : Int) ≤ -p + m 15 0 34 + -1 := by omega
  have hb3 : (0 : Int) ≤ -m3 15 0 35 + m3 15 0 34 + -1 := by omega
  have f7 : fn7 [] m3 = (0, 0, m3) := by rw [fn7_eq, hsk, rUp_self rfl]
  have f6p : fn6 [p] m3 = (0, m 59 0 p, m3) := by rw [f6, pB_in hn]
  have yl : rUp m 15 0 35 p 15 0 35 = p := rUp_at
  have h33m : m 59 0 p ≠ 33 := by omega
  have h20 : ∀ X, fn14 [] m3 = X → fn20 [0] m3 = if 1 ≤ X.2.1 then (0, 1, X.2.2) else (0, 0, X.2.2) := by
    intro X hX
    unfold fn20
    simp only [zLet, List.getD_cons_zero, f7, y35, f6p, fn10_eq, fn9_eq, fn11_eq, pBit_ge, y34, hX]
    rw [if_pos hb1, if_neg hca, if_neg hsm, if_pos trivial, hdm]
  rcases num_two hR1.1 hR1.2.1 (by omega) [] [] with ⟨e, v, w1, w2, w3, w4, w5⟩ | ⟨e, v, w1, w2⟩
  · have hX20 := h20 _ w2
    have fX : fH 2 [] [6, 10] c1 (rUp (rUp c1 2 0 6 e) 2 0 10 v) := fH_fld (fH_fld fH_refl (by decide)) (by decide)
    have x10 : rUp (rUp c1 2 0 6 e) 2 0 10 v 2 0 10 = v := rUp_at
    have x6e : rUp (rUp c1 2 0 6 e) 2 0 10 v 2 0 6 = e := by rw [rUp_ne (by decide), rUp_at]
    have fN : fH 15 [] [35, 39, 40] m3 (rUp (rUp (rUp m3 15 0 35 e) 15 0 39 v) 15 0 40 0) := fH_fld (fH_fld (fH_fld fH_refl (by decide)) (by decide)) (by decide)
    have n40 : rUp (rUp (rUp m3 15 0 35 e) 15 0 39 v) 15 0 40 0 15 0 40 = 0 := rUp_at
    have n39 : rUp (rUp (rUp m3 15 0 35 e) 15 0 39 v) 15 0 40 0 15 0 39 = v := by rw [rUp_ne (by decide), rUp_at]
    have n35 : rUp (rUp (rUp m3 15 0 35 e) 15 0 39 v) 15 0 40 0 15 0 35 = e := by rw [rUp_ne (by decide), rUp_ne (by decide), rUp_at]
    rw [if_pos (show (1 : Int) ≤ 1 by decide)] at hX20
    generalize rUp (rUp c1 2 0 6 e) 2 0 10 v = X at *
    generalize rUp (rUp (rUp m3 15 0 35 e) 15 0 39 v) 15 0 40 0 = N at *
    obtain ⟨cb, b1, b2, b3, b4, b5, b6⟩ := fn103_all (c := X) (k := 4) (w := 0) (p := p)
    have hGX : qG X = qG c := (qG_up fX (by decide) (by decide) (by decide)).trans (qG_up fc (by decide) (by decide) (by decide))
    rw [hGX] at b3 b4 b5 b6
    have fx := fn104_fr (g := qG c) (k := 0) (p := p) (s := 0) (v := v) (c := cb)
    have p10 := put10 (g := qG c) (k := 0) (p := p) (s := 0) (v := v) (c := cb) (by rw [b4]; decide)
    have po : ∀ G h, h ≠ qG c → (fn104 [qG c, 0, p, 0, v] cb).2.2 G h = cb G h := fun G h hh => put_oth hh
    have pc := put_con (g := qG c) (k := 0) (p := p) (s := 0) (v := v) (c := cb) (by rw [b4]; decide) 0
    rw [b4, if_pos rfl, if_pos rfl, if_pos rfl] at pc
    have h79 : m3 79 0 (m 73 0 (m 15 0 44) + 8 * m 15 0 44) = m 15 0 45 := by rw [← e3, rUp_at]
    have q81 : rUp (rUp N 80 0 (4 * m 73 0 (m 15 0 44) + 32 * m 15 0 44) 0) 81 0 (4 * m 73 0 (m 15 0 44) + 32 * m 15 0 44) v 81 0 (4 * m 73 0 (m 15 0 44) + 32 * m 15 0 44) = v := rUp_at
    have fq : fH 15 [80, 81] [] N (rUp (rUp N 80 0 (4 * m 73 0 (m 15 0 44) + 32 * m 15 0 44) 0) 81 0 (4 * m 73 0 (m 15 0 44) + 32 * m 15 0 44) v) := fH_grp (fH_grp fH_refl (by decide) (by decide)) (by decide) (by decide)
    have q80 : rUp (rUp N 80 0 (4 * m 73 0 (m 15 0 44) + 32 * m 15 0 44) 0) 81 0 (4 * m 73 0 (m 15 0 44) + 32 * m 15 0 44) v 80 0 (4 * m 73 0 (m 15 0 44) + 32 * m 15 0 44) = 0 := by rw [rUp_grp (by decide), rUp_at]
    have E1 : fn157 [] c = (if 1 ≤ (fn154 [] (fn104 [qG c, 0, p, 0, v] cb).2.2).2.1 then (if 1 ≤ (fn139 [qG c] (fn154 [] (fn104 [qG c, 0, p, 0, v] cb).2.2).2.2).2.1 then (0, 1, (fn139 [qG c] (fn154 [] (fn104 [qG c, 0, p, 0, v] cb).2.2).2.2).2.2) else (0, 0, (fn139 [qG c] (fn154 [] (fn104 [qG c, 0, p, 0, v] cb).2.2).2.2).2.2)) else (0, 0, (fn154 [] (fn104 [qG c, 0, p, 0, v] cb).2.2).2.2)) := by
      unfold fn157
      simp only [zLet, k1, x6, fn106_eq, fn105_eq, fn107_eq, pBit_ge, w1, x10, b1, hG]
      rw [if_pos hL, if_pos h33, if_neg hca_q, if_neg hsm_q, hdc, if_pos (show (1 : Int) ≤ 1 by decide)]
    have E2 : fnQ [] m = (if 1 ≤ (fn40 [p] (rUp (rUp N 80 0 (4 * m 73 0 (m 15 0 44) + 32 * m 15 0 44) 0) 81 0 (4 * m 73 0 (m 15 0 44) + 32 * m 15 0 44) v)).2.1 then (0, 1, (fn40 [p] (rUp (rUp N 80 0 (4 * m 73 0 (m 15 0 44) + 32 * m 15 0 44) 0) 81 0 (4 * m 73 0 (m 15 0 44) + 32 * m 15 0 44) v)).2.2) else (0, 0, (fn40 [p] (rUp (rUp N 80 0 (4 * m 73 0 (m 15 0 44) + 32 * m 15 0 44) 0) 81 0 (4 * m 73 0 (m 15 0 44) + 32 * m 15 0 44) v)).2.2)) := by
      rw [← fn40_look (g := rUp (rUp N 80 0 (4 * m 73 0 (m 15 0 44) + 32 * m 15 0 44) 0) 81 0 (4 * m 73 0 (m 15 0 44) + 32 * m 15 0 44) v)]
      unfold fnQ
      simp only [zLet, k2, f33, yl, e3, f6p, fn9_eq, pBit_ge, hX20, n40, n39, fn7_eq [] (rUp (rUp N 80 0 (4 * m 73 0 (m 15 0 44) + 32 * m 15 0 44) 0) 81 0 (4 * m 73 0 (m 15 0 44) + 32 * m 15 0 44) v)]
      rw [if_pos hb1, if_pos h33m, if_neg hsm, if_pos (show (1 : Int) ≤ 1 by decide), if_pos (show (0 : Int) ≠ 1 by decide)]
    rw [E1, E2]
    generalize (fn104 [qG c, 0, p, 0, v] cb).2.2 = c7 at *
    generalize rUp (rUp N 80 0 (4 * m 73 0 (m 15 0 44) + 32 * m 15 0 44) 0) 81 0 (4 * m 73 0 (m 15 0 44) + 32 * m 15 0 44) v = m4 at *
    have fc7 : fH 2 [10, 43, 44, 45, 46] [6, 10] c1 c7 := fH_trans (fH_trans (fH_sub fX (by decide) (by decide)) (fH_sub b2 (by decide) (by decide))) (fH_sub fx (by decide) (by decide))
    have fm4 : fH 15 [80, 81] [35, 39, 40] m3 m4 := fH_trans (fH_sub fN (by decide) (by decide)) (fH_sub fq (by decide) (by decide))
    have z35 : m4 15 0 35 = e := (fq.2 35 (by decide)).trans n35
    have z6 : c7 2 0 6 = e := (fx.2 6 (by decide)).trans ((b2.2 6 (by decide)).trans x6e)
    have z44 : m4 15 0 44 = m 15 0 44 := (fm4.2 44 (by decide)).trans (fm.2 44 (by decide))
    have z73 : m4 73 = m 73 := (fm4.1 73 (by decide) (by decide)).trans (fm.1 73 (by decide) (by decide))
    rw [y35] at w3
    rw [y34] at w4
    refine goal_cmp (H := H) (c0 := c0) (m0 := m0) (c := c) (m := m) (c7 := c7) (m4 := m4) ?_ ?_ h00 hlim ?_ ?_ ?_ ?_ ?_ ?_ ?_ ?_ ?_ ?_ ?_ p
    · refine qR_up hR1 (fH_sub fc7 (by decide) (by decide)) (fH_sub fm4 (by decide) (by decide)) ?_ ?_ ?_ ?_
      · rw [z6, z35]
      · rw [z35, y35]; omega
      · rw [z35]; omega
      · rw [z35, y34]; exact w4
    · obtain ⟨s1, s2, s3, s4, s5⟩ := hB1
      have g74 : m4 74 0 (m4 15 0 44) = m3 74 0 (m3 15 0 44) := by rw [fm4.1 74 (by decide) (by decide), fm4.2 44 (by decide)]
      refine ⟨qS_up s1 (fm4.2 44 (by decide)) (fm4.1 74 (by decide) (by decide)) (fm4.1 84 (by decide) (by decide)) (by rw [z35, y35]; omega), qO_up s2 (fc7.2 16 (by decide)) (fc7.1 25 (by decide) (by decide)) (fm4.2 58 (by decide)) (fm4.1 89 (by decide) (by decide)) (fm4.1 90 (by decide) (by decide)) (fm4.1 91 (by decide) (by decide)) (by rw [g74]; exact Int.le_refl _), ?_, ?_, ?_⟩
      · rw [fc7.2 5 (by decide), fm4.2 45 (by decide)]; exact s3
      · rw [fc7.2 5 (by decide)]; exact s4
      · rw [fc7.2 5 (by decide), g74]; exact s5
    · rw [p10, if_pos ⟨rfl, rfl⟩, b4]; decide
    · exact (qG_up fc7 (by decide) (by decide) (by decide)).trans (qG_up fc (by decide) (by decide) (by decide))
    · rw [z44, z73, q80]; decide
    · exact fH_trans (fH_sub fc (by decide) (by decide)) (fH_sub fc7 (by decide) (by decide))
    · exact fH_trans (fH_sub fm (by decide) (by decide)) (fH_sub fm4 (by decide) (by decide))
    · exact (fc7.2 16 (by decide)).trans (fc.2 16 (by decide))
    · intro G h q q2
      have hm := memG q
      rw [po G h q2, b6 G h q2, fX.1 G hm.2.2.2.2.2 hm.1, fc.1 G hm.2.2.2.2.2 hm.1]
    · have := p10 (qG c) 5
      rw [if_pos ⟨rfl, rfl⟩, b4] at this
      omega
    · rw [show 4 * (m 73 0 (m 15 0 44) + 8 * m 15 0 44) = 4 * m 73 0 (m 15 0 44) + 32 * m 15 0 44 by omega]
      refine Or.inl ⟨pc.1, q80, ?_⟩
      rw [pc.2.2, q81]
      exact fun _ => ⟨rfl, Or.inl ⟨by omega, by omega⟩⟩
    · rw [fm4.1 79 (by decide) (by decide)]; exact h79
    · exact (fm4.2 45 (by decide)).trans (fm.2 45 (by decide))
  · have hX20 := h20 _ w2
    rw [if_neg (show ¬ (1 : Int) ≤ 0 by decide)] at hX20
    refine Or.inr ⟨_, _, ?_, ?_, qZ_up hR1 (by decide) (c_q := rUp (rUp (rUp c1 2 0 6 e) 2 0 10 v) 2 0 4 (m3 15 0 35)) (m_q := rUp m3 15 0 36 (m3 15 0 35)) (fH_fld (fH_fld (fH_fld fH_refl (by decide)) (by decide)) (by decide)) (fH_fld fH_refl (by decide))⟩
    · unfold fn157
      simp only [zLet, k1, x6, fn106_eq, fn105_eq, fn107_eq, pBit_ge, w1]
      rw [if_pos hL, if_pos h33, if_neg hca_q, if_neg hsm_q, hdc, if_neg (show ¬ (1 : Int) ≤ 0 by decide)]
    · unfold fnQ
      simp only [zLet, k2, f33, yl, e3, f6p, fn9_eq, pBit_ge, hX20]
      rw [if_pos hb1, if_pos h33m, if_neg hsm, if_neg (show ¬ (1 : Int) ≤ 0 by decide)]
theorem goal_out_a {H : Int → Prop} {c0 m0 c m : rHp} {p L : Int} (hR : qR 0 c0 m0 c m) (hB : qB H c m) (k1 : fn114 [] c = (0, L, rUp c 2 0 6 p)) (k2 : fn7 [] m = (0, 0, rUp m 15 0 35 p)) (k3 : m 15 0 35 ≤ p) (k4 : p ≤ m 15 0 34) (hn : ¬ p < m 15 0 34) (hL : ¬ 0 ≤ L) (k7 : pSk (m 59 0) (m 15 0 34) p = p) : qGo H c0 m0 c m (fn157 [] c) (fnQ [] m) := by
  obtain ⟨c1, m3, e1, e3, hR1, hB1, fc, fm, y35, x6, hsk, f6⟩ := goal_pre hR hB k3 k4 k7
  rw [e1] at k1
  have f33 : ∀ g : rHp, (fn33 [] g).2.2 = g := fun g => rfl
  have yl : rUp m 15 0 35 p 15 0 35 = p := rUp_at
  have y34 : m3 15 0 34 = m 15 0 34 := fm.2 34 (by decide)
  have h20 := item_out (any := 0) hsk (by omega) (by omega)
  refine Or.inr ⟨rUp c1 2 0 4 p, rUp m3 15 0 36 (m3 15 0 35), ?_, ?_, qZ_up hR1 (by decide) (fH_fld fH_refl (by decide)) (fH_fld fH_refl (by decide))⟩
  · unfold fn157
    simp only [zLet, k1, x6, fn106_eq, fn105_eq, fn107_eq, fn109_eq]
    rw [if_neg hL]
  · unfold fnQ
    simp only [zLet, k2, f33, yl, e3, f6, fn9_eq, h20]
    rw [if_neg (by omega)]
theorem goal_bad_a {H : Int → Prop} {c0 m0 c m : rHp} {p L : Int} (hR : qR 0 c0 m0 c m) (hB : qB H c m) (k1 : fn114 [] c = (0, L, rUp c 2 0 6 p)) (k2 : fn7 [] m = (0, 0, rUp m 15 0 35 p)) (k3 : m 15 0 35 ≤ p) (hn : p < m 15 0 34) (hL : 0 ≤ L) (k5 : qL L (m 59 0 p)) (k7 : pSk (m 59 0) (m 15 0 34) p = p)
    (h33 : m 59 0 p ≠ 33) (hca : ¬ pCa (m 59 0 p) = true) (hsm : ¬ pSm (m 59 0 p) = true) (hd1 : ¬ pDg (m 59 0 p) = true) (hd2 : m 59 0 p ≠ 45) : qGo H c0 m0 c m (fn157 [] c) (fnQ [] m) := by
  obtain ⟨c1, m3, e1, e3, hR1, hB1, fc, fm, y35, x6, hsk, f6⟩ := goal_pre hR hB k3 (by omega) k7
  rw [e1] at k1
  have f33 : ∀ g : rHp, (fn33 [] g).2.2 = g := fun g => rfl
  have yl : rUp m 15 0 35 p 15 0 35 = p := rUp_at
  have y34 : m3 15 0 34 = m 15 0 34 := fm.2 34 (by decide)
  have f7 : fn7 [] m3 = (0, 0, m3) := by rw [fn7_eq, hsk, rUp_self rfl]
  have f6p : fn6 [p] m3 = (0, m 59 0 p, m3) := by rw [f6, pB_in hn]
  have hb1 : (0 : Int) ≤ -p + m 15 0 34 + -1 := by omega
  have h20 : fn20 [0] m3 = (0, 0, rUp m3 15 0 36 p) := by
    unfold fn20
    simp only [zLet, List.getD_cons_zero, f7, y35, f6p, fn10_eq, fn9_eq, fn11_eq, pBit_ge, y34, fn8_eq (show p ≤ m3 15 0 34 by omega)]
    rw [if_pos hb1, if_neg hca, if_neg hsm, if_pos trivial, if_neg hd2, if_neg hd1]
  refine Or.inr ⟨rUp c1 2 0 4 p, rUp m3 15 0 36 p, ?_, ?_, qZ_up hR1 (by decide) (fH_fld fH_refl (by decide)) (fH_fld fH_refl (by decide))⟩
  · unfold fn157
    simp only [zLet, k1, x6, fn106_eq, fn105_eq, fn107_eq, pBit_ge, fn109_eq]
    rw [if_pos hL, if_pos (by rw [ne_eq, qL_is k5 (by decide) (by decide)]; exact h33), if_neg (by rw [qL_ca k5]; exact hca), if_neg (by rw [qL_sm k5]; exact hsm), if_neg (by rw [qL_dg k5]; exact hd1), if_neg (by rw [qL_is k5 (by decide) (by decide)]; exact hd2)]
  · unfold fnQ
    simp only [zLet, k2, f33, yl, e3, f6p, fn9_eq, pBit_ge, h20]
    rw [if_pos hb1, if_pos h33, if_neg hsm, if_neg (show ¬ (1 : Int) ≤ 0 by decide)]
theorem goal_name_a {H : Int → Prop} {c0 m0 c m : rHp} {p L : Int} (hR : qR 0 c0 m0 c m) (hB : qB H c m) (h00 : 0 ≤ c0 1000 0 0) (hlim : 2 * c0 1000 0 0 + m0 15 0 34 ≤ 10239) (hst : c 2 0 16 ≤ 28) (hpu : c 2 0 7 = 2) (k1 : fn114 [] c = (0, L, rUp c 2 0 6 p)) (k2 : fn7 [] m = (0, 0, rUp m 15 0 35 p)) (k3 : m 15 0 35 ≤ p) (hn : p < m 15 0 34) (hL : 0 ≤ L) (k5 : qL L (m 59 0 p)) (k7 : pSk (m 59 0) (m 15 0 34) p = p)
    (hsm : pSm (m 59 0 p) = true) : qGo H c0 m0 c m (fn157 [] c) (fnQ [] m) := by
  obtain ⟨c1, m3, e1, e3, hR1, hB1, fc, fm, y35, x6, hsk, f6⟩ := goal_pre hR hB k3 (by omega) k7
  rw [e1] at k1
  have f33 : ∀ g : rHp, (fn33 [] g).2.2 = g := fun g => rfl
  have a0 := hR.2.1.2.1
  have hG : c 9 (c 40 0 (c 1 0 10)) 2 + 9 * c 40 0 (c 1 0 10) + 1 = qG c := rfl
  have yl : rUp m 15 0 35 p 15 0 35 = p := rUp_at
  have y34 : m3 15 0 34 = m 15 0 34 := fm.2 34 (by decide)
  have y59 : m3 59 = m 59 := fm.1 59 (by decide) (by decide)
  have f6p : fn6 [p] m3 = (0, m 59 0 p, m3) := by rw [f6, pB_in hn]
  have hb1 : (0 : Int) ≤ -p + m 15 0 34 + -1 := by omega
  have rg : 97 ≤ m 59 0 p := by
    have h := hsm
    simp only [pSm, Bool.and_eq_true, decide_eq_true_eq] at h
    omega
  have h33m : m 59 0 p ≠ 33 := by omega
  have h33 : L ≠ 33 := by rw [ne_eq, qL_is k5 (by decide) (by decide)]; exact h33m
  have hca_q : ¬ pCa L = true := by
    rw [qL_ca k5]
    simp only [pCa, Bool.and_eq_true, decide_eq_true_eq]; omega
  have hsm_q : pSm L = true := by rw [qL_sm k5]; exact hsm
  rcases word_two (q := pSm) hR1.1 hR1.2.1 (by omega) (by rw [y59, y35]; exact hsm) [] [] with ⟨e, w, w1, w2, w3, w4, w5⟩ | ⟨e, w, w1, w2⟩
  · rw [y35] at w1 w2 w3 w5
    rw [y34] at w4 w5
    have fA : fH 2 [] [6, 8, 9] c1 (rUp (rUp (rUp c1 2 0 9 p) 2 0 8 w) 2 0 6 e) := fH_fld (fH_fld (fH_fld fH_refl (by decide)) (by decide)) (by decide)
    have x8 : rUp (rUp (rUp c1 2 0 9 p) 2 0 8 w) 2 0 6 e 2 0 8 = w := by rw [rUp_ne (by decide), rUp_at]
    have x6e : rUp (rUp (rUp c1 2 0 9 p) 2 0 8 w) 2 0 6 e 2 0 6 = e := rUp_at
    have fM : fH 15 [] [35, 37, 38] m3 (rUp (rUp (rUp m3 15 0 37 p) 15 0 38 (e - p)) 15 0 35 e) := fH_fld (fH_fld (fH_fld fH_refl (by decide)) (by decide)) (by decide)
    have z35 : rUp (rUp (rUp m3 15 0 37 p) 15 0 38 (e - p)) 15 0 35 e 15 0 35 = e := rUp_at
    have z38 : rUp (rUp (rUp m3 15 0 37 p) 15 0 38 (e - p)) 15 0 35 e 15 0 38 = e - p := by rw [rUp_ne (by decide), rUp_at]
    have z37 : rUp (rUp (rUp m3 15 0 37 p) 15 0 38 (e - p)) 15 0 35 e 15 0 37 = p := by rw [rUp_ne (by decide), rUp_ne (by decide), rUp_at]
    generalize rUp (rUp (rUp c1 2 0 9 p) 2 0 8 w) 2 0 6 e = A at *
    generalize rUp (rUp (rUp m3 15 0 37 p) 15 0 38 (e - p)) 15 0 35 e = M at *
    have z34 : M 15 0 34 = m 15 0 34 := (fM.2 34 (by decide)).trans y34
    have z59 : M 59 = m 59 := (fM.1 59 (by decide) (by decide)).trans y59
    have hRA : qR 0 c0 m0 A M := by
      refine qR_up hR1 (fH_sub fA (by decide) (by decide)) (fH_sub fM (by decide) (by decide)) ?_ ?_ ?_ ?_
      · rw [x6e, z35]
      · rw [z35, y35]; omega
      · rw [z35]; omega
      · rw [z35, y34]; exact w4
    obtain ⟨q, L2, l1, l2, l3, l4, l5, l6, l7⟩ := look_two hRA.1 hRA.2.1 [] []
    rw [z35] at l3
    rw [z34] at l4 l5 l6 l7
    rw [z59] at l5 l7
    have fA2 : fH 2 [] [6] A (rUp A 2 0 6 q) := fH_fld fH_refl (by decide)
    have fM2 : fH 15 [] [35] M (rUp M 15 0 35 q) := fH_fld fH_refl (by decide)
    have u6 : rUp A 2 0 6 q 2 0 6 = q := rUp_at
    have u8 : rUp A 2 0 6 q 2 0 8 = w := by rw [rUp_ne (by decide)]; exact x8
    have v35 : rUp M 15 0 35 q 15 0 35 = q := rUp_at
    have v37 : rUp M 15 0 35 q 15 0 37 = p := by rw [rUp_ne (by decide)]; exact z37
    have v38 : rUp M 15 0 35 q 15 0 38 = e - p := by rw [rUp_ne (by decide)]; exact z38
    generalize rUp A 2 0 6 q = A2 at *
    generalize rUp M 15 0 35 q = M2 at *
    have v34 : M2 15 0 34 = m 15 0 34 := (fM2.2 34 (by decide)).trans z34
    have v59 : M2 59 = m 59 := (fM2.1 59 (by decide) (by decide)).trans z59
    have fcA : fH 2 [] [6, 8, 9] c A2 := fH_trans (fH_trans (fH_sub fc (by decide) (by decide)) fA) (fH_sub fA2 (by decide) (by decide))
    have fmM : fH 15 [79] [35, 37, 38] m M2 := fH_trans (fH_trans (fH_sub fm (by decide) (by decide)) (fH_sub fM (by decide) (by decide))) (fH_sub fM2 (by decide) (by decide))
    have hR2 : qR 0 c0 m0 A2 M2 := by
      refine qR_up hRA (fH_sub fA2 (by decide) (by decide)) (fH_sub fM2 (by decide) (by decide)) ?_ ?_ ?_ ?_
      · rw [u6, v35]
      · rw [v35, z35]; omega
      · rw [v35]; omega
      · rw [v35, z34]; exact l4
    have hB2 : qB H A2 M2 := by
      obtain ⟨s1, s2, s3, s4, s5⟩ := hB
      have g74 : M2 74 0 (M2 15 0 44) = m 74 0 (m 15 0 44) := by rw [fmM.1 74 (by decide) (by decide), fmM.2 44 (by decide)]
      refine ⟨qS_up s1 (fmM.2 44 (by decide)) (fmM.1 74 (by decide) (by decide)) (fmM.1 84 (by decide) (by decide)) (by rw [v35]; omega), qO_up s2 (fcA.2 16 (by decide)) (fcA.1 25 (by decide) (by decide)) (fmM.2 58 (by decide)) (fmM.1 89 (by decide) (by decide)) (fmM.1 90 (by decide) (by decide)) (fmM.1 91 (by decide) (by decide)) (by rw [g74]; exact Int.le_refl _), ?_, ?_, ?_⟩
      · rw [fcA.2 5 (by decide), fmM.2 45 (by decide)]; exact s3
      · rw [fcA.2 5 (by decide)]; exact s4
      · rw [fcA.2 5 (by decide), g74]; exact s5
    have hW2 : qW pSm (M2 59 0) (M2 15 0 34) w (M2 15 0 37) (M2 15 0 38) := by
      rw [v59, v34, v37, v38]
      rw [y59] at w5
      exact w5
    have hb2 : q < m 15 0 34 → (0 : Int) ≤ -q + m 15 0 34 + -1 := fun h => by omega
    have i40 : (L2 = 40) = (pB (m 59 0) (m 15 0 34) q = 40) := qL_is l5 (by decide) (by decide)
    by_cases h40 : q < m 15 0 34 ∧ m 59 0 q = 40
    · have hL2 : 0 ≤ L2 := l6.2 h40.1
      have hL40 : L2 = 40 := by rw [i40, pB_in h40.1]; exact h40.2
      have at2 := atom_two_a (kind := 1) (n0 := 0) hR2 hB2 h00 hlim (Or.inl ⟨rfl, rfl⟩) (by rw [fcA.2 16 (by decide)]; exact hst) (by rw [fcA.2 7 (by decide)]; exact hpu) (by rw [u8]; exact hW2) (by rw [v59, v34, v35]; exact l7) (by rw [v35, v34]; exact h40.1) (by rw [v59, v35]; exact h40.2)
      have E1 : fn157 [] c = if 1 ≤ (fn145 [1] A2).2.1 then (0, 1, (fn145 [1] A2).2.2) else (0, 0, (fn145 [1] A2).2.2) := by
        unfold fn157
        simp only [zLet, k1, x6, fn106_eq, fn105_eq, pBit_ge, w1, l1]
        rw [if_pos hL, if_pos h33, if_neg hca_q, if_pos hsm_q, if_pos (show (1 : Int) ≤ 1 by decide), if_pos hL2, if_neg (fun z => z hL40)]
      have E2 : fnQ [] m = if 1 ≤ (fn36 [0, 0] M2).2.1 then (0, 1, (fn36 [0, 0] M2).2.2) else (0, 0, (fn36 [0, 0] M2).2.2) := by
        unfold fnQ
        simp only [zLet, k2, f33, yl, e3, f6p, fn9_eq, pBit_ge, w2, l2, fn6_eq, v35, v59, v34, pB_in h40.1]
        rw [if_pos hb1, if_pos h33m, if_pos hsm, if_pos (show (1 : Int) ≤ 1 by decide), if_pos (hb2 h40.1), if_neg (fun z => z h40.2)]
      rw [E1, E2]
      rcases at2 with ⟨c_q, m_q, r1, r2, r3⟩ | ⟨c_q, m_q, r1, r2, r3⟩
      · rw [r1, r2]
        exact Or.inl ⟨c_q, m_q, rfl, rfl, qE_qGl r3 fcA fmM (Or.inl rfl)⟩
      · rw [r1, r2]
        exact Or.inr ⟨c_q, m_q, rfl, rfl, r3⟩
    · obtain ⟨cb, b1, b2, b3, b4, b5, b6⟩ := fn103_all (c := A2) (k := 4) (w := 0) (p := p)
      have hGA : qG A2 = qG c := qG_up fcA (by decide) (by decide) (by decide)
      rw [hGA] at b3 b4 b5 b6
      have hRb : qR 0 c0 m0 cb M2 := by
        refine qR_up hR2 (fH_sub b2 (by decide) (by decide)) fH_refl ?_ (Int.le_refl _) hR2.2.1.2.1 hR2.2.1.2.2
        rw [b2.2 6 (by decide)]; exact hR2.2.1.1
      have hBb : qB H cb M2 := qB_c hB2 (b2.2 5 (by decide)) (b2.2 16 (by decide)) (b2.1 25 (by decide) (by decide))
      have cnt : 2 * c 3 0 1 ≤ 2 * c0 1000 0 0 + m 15 0 35 + 0 := hR.2.2.2.2.2.2.2.2.2.1
      obtain ⟨k, k_q, cn, mn, n1, n2, n3, nv, n4, n5, n6, -, -⟩ := qR_name hRb hlim (w := w) hW2 (by rw [b2.1 3 (by decide) (by decide), fcA.1 3 (by decide) (by decide), v35]; omega) []
      have fcn : fH 2 [3, 26] [] cb cn := ⟨fun G g1 g2 => n5 G (fun q => g1 (by rw [q]; decide)) (fun q => g1 (by rw [q]; decide)), fun j _ => by rw [n5 2 (by decide) (by decide)]⟩
      have zb : cn 10 (qG c) 5 = 0 := by rw [n5 10 (by decide) (by decide)]; exact b4
      have fx := fn104_fr (g := qG c) (k := 0) (p := p) (s := 0) (v := k + 1099511627776) (c := cn)
      have p10 := put10 (g := qG c) (k := 0) (p := p) (s := 0) (v := k + 1099511627776) (c := cn) (by rw [zb]; decide)
      have po : ∀ G h, h ≠ qG c → (fn104 [qG c, 0, p, 0, k + 1099511627776] cn).2.2 G h = cn G h := fun G h hh => put_oth hh
      have pc := put_con (g := qG c) (k := 0) (p := p) (s := 0) (v := k + 1099511627776) (c := cn) (by rw [zb]; decide) 0
      rw [zb, if_pos rfl, if_pos rfl, if_pos rfl] at pc
      have h79 : m3 79 0 (m 73 0 (m 15 0 44) + 8 * m 15 0 44) = m 15 0 45 := by rw [← e3, rUp_at]
      have q81 : rUp (rUp (rUp (rUp mn 15 0 39 (k_q + 1099511627776)) 15 0 40 0) 80 0 (4 * m 73 0 (m 15 0 44) + 32 * m 15 0 44) 0) 81 0 (4 * m 73 0 (m 15 0 44) + 32 * m 15 0 44) (k_q + 1099511627776) 81 0 (4 * m 73 0 (m 15 0 44) + 32 * m 15 0 44) = k_q + 1099511627776 := rUp_at
      have h135 : fn135 [qG c, w, p] cb = (0, 1, (fn104 [qG c, 0, p, 0, k + 1099511627776] cn).2.2) := by
        unfold fn135
        simp only [zLet, List.getD_cons_zero, List.getD_cons_succ, n1]
        rw [if_pos (show k ≥ 0 from n3)]
      generalize (fn104 [qG c, 0, p, 0, k + 1099511627776] cn).2.2 = c7 at *
      have fq : fH 15 [80, 81] [39, 40] mn (rUp (rUp (rUp (rUp mn 15 0 39 (k_q + 1099511627776)) 15 0 40 0) 80 0 (4 * m 73 0 (m 15 0 44) + 32 * m 15 0 44) 0) 81 0 (4 * m 73 0 (m 15 0 44) + 32 * m 15 0 44) (k_q + 1099511627776)) := fH_grp (fH_grp (fH_fld (fH_fld fH_refl (by decide)) (by decide)) (by decide) (by decide)) (by decide) (by decide)
      have q80 : rUp (rUp (rUp (rUp mn 15 0 39 (k_q + 1099511627776)) 15 0 40 0) 80 0 (4 * m 73 0 (m 15 0 44) + 32 * m 15 0 44) 0) 81 0 (4 * m 73 0 (m 15 0 44) + 32 * m 15 0 44) (k_q + 1099511627776) 80 0 (4 * m 73 0 (m 15 0 44) + 32 * m 15 0 44) = 0 := by rw [rUp_grp (by decide), rUp_at]
      have q7 := fn7_eq [] (rUp (rUp (rUp (rUp mn 15 0 39 (k_q + 1099511627776)) 15 0 40 0) 80 0 (4 * m 73 0 (m 15 0 44) + 32 * m 15 0 44) 0) 81 0 (4 * m 73 0 (m 15 0 44) + 32 * m 15 0 44) (k_q + 1099511627776))
      have q40 := fun wh => fn40_look (g := rUp (rUp (rUp (rUp mn 15 0 39 (k_q + 1099511627776)) 15 0 40 0) 80 0 (4 * m 73 0 (m 15 0 44) + 32 * m 15 0 44) 0) 81 0 (4 * m 73 0 (m 15 0 44) + 32 * m 15 0 44) (k_q + 1099511627776)) (wh := wh)
      generalize hm4 : rUp (rUp (rUp (rUp mn 15 0 39 (k_q + 1099511627776)) 15 0 40 0) 80 0 (4 * m 73 0 (m 15 0 44) + 32 * m 15 0 44) 0) 81 0 (4 * m 73 0 (m 15 0 44) + 32 * m 15 0 44) (k_q + 1099511627776) = m4 at *
      have fc7 : fH 2 [3, 26, 10, 43, 44, 45, 46] [] A2 c7 := fH_trans (fH_trans (fH_sub b2 (by decide) (by decide)) (fH_sub fcn (by decide) (by decide))) (fH_sub fx (by decide) (by decide))
      have fm4 : fH 15 [61, 62, 63, 80, 81] [8, 9, 39, 40] M2 m4 := fH_trans (fH_sub n6 (by decide) (by decide)) (fH_sub fq (by decide) (by decide))
      have t35 : m4 15 0 35 = q := (fm4.2 35 (by decide)).trans v35
      have t6 : c7 2 0 6 = q := (fc7.2 6 (by decide)).trans u6
      have t44 : m4 15 0 44 = m 15 0 44 := (fm4.2 44 (by decide)).trans (fmM.2 44 (by decide))
      have t73 : m4 73 = m 73 := (fm4.1 73 (by decide) (by decide)).trans (fmM.1 73 (by decide) (by decide))
      have fin := goal_cmp (H := H) (c0 := c0) (m0 := m0) (c := c) (m := m) (c7 := c7) (m4 := m4) (by
          refine qR_up n4 (fH_sub fx (by decide) (by decide)) (fH_sub fq (by decide) (by decide)) ?_ ?_ ?_ ?_
          · rw [fx.2 6 (by decide), fq.2 35 (by decide)]; exact n4.2.1.1
          · rw [fq.2 35 (by decide)]; exact Int.le_refl _
          · rw [fq.2 35 (by decide)]; exact n4.2.1.2.1
          · rw [fq.2 35 (by decide)]; exact n4.2.1.2.2) (by
          obtain ⟨s1, s2, s3, s4, s5⟩ := hB2
          have g74 : m4 74 0 (m4 15 0 44) = M2 74 0 (M2 15 0 44) := by rw [fm4.1 74 (by decide) (by decide), fm4.2 44 (by decide)]
          refine ⟨qS_up s1 (fm4.2 44 (by decide)) (fm4.1 74 (by decide) (by decide)) (fm4.1 84 (by decide) (by decide)) (by rw [t35, v35]; exact Int.le_refl _), qO_up s2 (fc7.2 16 (by decide)) (fc7.1 25 (by decide) (by decide)) (fm4.2 58 (by decide)) (fm4.1 89 (by decide) (by decide)) (fm4.1 90 (by decide) (by decide)) (fm4.1 91 (by decide) (by decide)) (by rw [g74]; exact Int.le_refl _), ?_, ?_, ?_⟩
          · rw [fc7.2 5 (by decide), fm4.2 45 (by decide)]; exact s3
          · rw [fc7.2 5 (by decide)]; exact s4
          · rw [fc7.2 5 (by decide), g74]; exact s5) h00 hlim (by rw [p10, if_pos ⟨rfl, rfl⟩, zb]; decide) ((qG_up fc7 (by decide) (by decide) (by decide)).trans hGA) (by rw [t44, t73, q80]; decide)
          (fH_trans (fH_sub fcA (by decide) (by decide)) (fH_sub fc7 (by decide) (by decide))) (fH_trans (fH_sub fmM (by decide) (by decide)) (fH_sub fm4 (by decide) (by decide))) ((fc7.2 16 (by decide)).trans (fcA.2 16 (by decide))) (by
          intro G h z z2
          have hm := memG z
          rw [po G h z2, n5 G (by rintro rfl; exact absurd z (by decide)) (by rintro rfl; exact absurd z (by decide)), b6 G h z2, fcA.1 G hm.2.2.2.2.2 hm.1]) (by
          have := p10 (qG c) 5
          rw [if_pos ⟨rfl, rfl⟩, zb] at this
          omega) (by
          rw [show 4 * (m 73 0 (m 15 0 44) + 8 * m 15 0 44) = 4 * m 73 0 (m 15 0 44) + 32 * m 15 0 44 by omega]
          refine Or.inl ⟨pc.1, q80, ?_⟩
          rw [pc.2.2, q81]
          exact vE_of n4 (by decide) hlim nv) (by rw [fm4.1 79 (by decide) (by decide), fM2.1 79 (by decide) (by decide), fM.1 79 (by decide) (by decide)]; exact h79) ((fm4.2 45 (by decide)).trans (fmM.2 45 (by decide))) p
      by_cases hq : q < m 15 0 34
      · have hL2 : 0 ≤ L2 := l6.2 hq
        have hne : m 59 0 q ≠ 40 := fun z => h40 ⟨hq, z⟩
        have hL40 : L2 ≠ 40 := by rw [ne_eq, i40, pB_in hq]; exact hne
        have E1 : fn157 [] c = (if 1 ≤ (fn154 [] c7).2.1 then (if 1 ≤ (fn139 [qG c] (fn154 [] c7).2.2).2.1 then (0, 1, (fn139 [qG c] (fn154 [] c7).2.2).2.2) else (0, 0, (fn139 [qG c] (fn154 [] c7).2.2).2.2)) else (0, 0, (fn154 [] c7).2.2)) := by
          unfold fn157
          simp only [zLet, k1, x6, fn106_eq, fn105_eq, pBit_ge, w1, l1, b1, x8, hG, h135]
          rw [if_pos hL, if_pos h33, if_neg hca_q, if_pos hsm_q, if_pos (show (1 : Int) ≤ 1 by decide), if_pos hL2, if_pos hL40, if_pos (show (1 : Int) ≤ 1 by decide)]
        have E2 : fnQ [] m = (if 1 ≤ (fn40 [p] m4).2.1 then (0, 1, (fn40 [p] m4).2.2) else (0, 0, (fn40 [p] m4).2.2)) := by
          rw [← q40 p]
          unfold fnQ
          simp only [zLet, k2, f33, yl, e3, f6p, fn9_eq, pBit_ge, w2, l2, fn6_eq, v35, v59, v34, pB_in hq, n2, hm4, q7]
          rw [if_pos hb1, if_pos h33m, if_pos hsm, if_pos (show (1 : Int) ≤ 1 by decide), if_pos (hb2 hq), if_pos hne]
        rw [E1, E2]
        exact fin
      · have hL2 : ¬ 0 ≤ L2 := fun z => hq (l6.1 z)
        have E1 : fn157 [] c = (0, 0, (fn154 [] c7).2.2) := by
          unfold fn157
          simp only [zLet, k1, x6, fn106_eq, fn105_eq, pBit_ge, w1, l1, b1, x8, hG, h135]
          rw [if_pos hL, if_pos h33, if_neg hca_q, if_pos hsm_q, if_pos (show (1 : Int) ≤ 1 by decide), if_neg hL2, if_pos (show (1 : Int) ≤ 1 by decide)]
        have E2 : fnQ [] m = (0, 0, (fn40 [p] m4).2.2) := by
          rw [← q40 p]
          unfold fnQ
          simp only [zLet, k2, f33, yl, e3, f6p, fn9_eq, pBit_ge, w2, l2, fn6_eq, v35, v59, v34, n2, hm4, q7]
          rw [if_pos hb1, if_pos h33m, if_pos hsm, if_pos (show (1 : Int) ≤ 1 by decide), if_neg (show ¬ (0 : Int) ≤ -q + m 15 0 34 + -1 by omega)]
        rw [E1, E2]
        have hR7 : qR 1 c0 m0 c7 m4 := by
          refine qR_up n4 (fH_sub fx (by decide) (by decide)) (fH_sub fq (by decide) (by decide)) ?_ ?_ ?_ ?_
          · rw [fx.2 6 (by decide), fq.2 35 (by decide)]; exact n4.2.1.1
          · rw [fq.2 35 (by decide)]; exact Int.le_refl _
          · rw [fq.2 35 (by decide)]; exact n4.2.1.2.1
          · rw [fq.2 35 (by decide)]; exact n4.2.1.2.2
        rcases sign_two hR7 (Or.inr rfl) with ⟨c5, m5, a1, a2, a3, a4, a5, a6, a7⟩ | ⟨c5, m5, a1, a2, a3⟩
        · exfalso
          have := a2.2.1.2.2
          have := a4.2 34 (by decide)
          have := fm4.2 34 (by decide)
          omega
        · rw [a1, a2 p]
          exact Or.inr ⟨c5, m5, rfl, rfl, a3⟩
  · rw [y35] at w1 w2
    refine Or.inr ⟨_, _, ?_, ?_, qZ_up hR1 (by decide) (c_q := rUp (rUp (rUp (rUp c1 2 0 9 p) 2 0 8 w) 2 0 6 e) 2 0 4 p) (m_q := rUp (rUp (rUp m3 15 0 37 p) 15 0 38 (e - p)) 15 0 36 p) (fH_fld (fH_fld (fH_fld (fH_fld fH_refl (by decide)) (by decide)) (by decide)) (by decide)) (fH_fld (fH_fld (fH_fld fH_refl (by decide)) (by decide)) (by decide))⟩
    · unfold fn157
      simp only [zLet, k1, x6, fn106_eq, fn105_eq, pBit_ge, w1]
      rw [if_pos hL, if_pos h33, if_neg hca_q, if_pos hsm_q, if_neg (show ¬ (1 : Int) ≤ 0 by decide)]
    · unfold fnQ
      simp only [zLet, k2, f33, yl, e3, f6p, fn9_eq, pBit_ge, w2]
      rw [if_pos hb1, if_pos h33m, if_pos hsm, if_neg (show ¬ (1 : Int) ≤ 0 by decide)]
theorem goal_not_a {H : Int → Prop} {c0 m0 c m : rHp} {p L : Int} (hR : qR 0 c0 m0 c m) (hB : qB H c m) (h00 : 0 ≤ c0 1000 0 0) (hlim : 2 * c0 1000 0 0 + m0 15 0 34 ≤ 10239) (hst : c 2 0 16 ≤ 28) (hpu : c 2 0 7 = 2) (k1 : fn114 [] c = (0, L, rUp c 2 0 6 p)) (k2 : fn7 [] m = (0, 0, rUp m 15 0 35 p)) (k3 : m 15 0 35 ≤ p) (hn : p < m 15 0 34) (hL : 0 ≤ L) (k5 : qL L (m 59 0 p)) (k7 : pSk (m 59 0) (m 15 0 34) p = p)
    (h33 : m 59 0 p = 33) : qGo H c0 m0 c m (fn157 [] c) (fnQ [] m) := by
  obtain ⟨c1, m3, e1, e3, hR1, hB1, fc, fm, y35, x6, hsk, f6⟩ := goal_pre hR hB k3 (by omega) k7
  rw [e1] at k1
  have f33 : ∀ g : rHp, (fn33 [] g).2.2 = g := fun g => rfl
  have a0 := hR.2.1.2.1
  have yl : rUp m 15 0 35 p 15 0 35 = p := rUp_at
  have y34 : m3 15 0 34 = m 15 0 34 := fm.2 34 (by decide)
  have y59 : m3 59 = m 59 := fm.1 59 (by decide) (by decide)
  have f6p : fn6 [p] m3 = (0, m 59 0 p, m3) := by rw [f6, pB_in hn]
  have hb1 : (0 : Int) ≤ -p + m 15 0 34 + -1 := by omega
  have hL33 : L = 33 := by rw [qL_is k5 (by decide) (by decide)]; exact h33
  have fc2 : fH 2 [] [6] c (rUp c1 2 0 6 (p + 1)) := fH_fld fc (by decide)
  have fm2 : fH 15 [79] [35] m (rUp m3 15 0 35 (p + 1)) := fH_fld fm (by decide)
  have x62 : rUp c1 2 0 6 (p + 1) 2 0 6 = p + 1 := rUp_at
  have y352 : rUp m3 15 0 35 (p + 1) 15 0 35 = p + 1 := rUp_at
  have E1 : fn157 [] c = (if 0 ≤ (fn114 [] (rUp c1 2 0 6 (p + 1))).2.1 then (if pSm (fn114 [] (rUp c1 2 0 6 (p + 1))).2.1 = true then (if 1 ≤ (fn115 [] (fn114 [] (rUp c1 2 0 6 (p + 1))).2.2).2.1 then (if 1 ≤ (fn145 [2] (fn115 [] (fn114 [] (rUp c1 2 0 6 (p + 1))).2.2).2.2).2.1 then (0, 1, (fn145 [2] (fn115 [] (fn114 [] (rUp c1 2 0 6 (p + 1))).2.2).2.2).2.2) else (0, 0, (fn145 [2] (fn115 [] (fn114 [] (rUp c1 2 0 6 (p + 1))).2.2).2.2).2.2)) else (0, 0, (fn115 [] (fn114 [] (rUp c1 2 0 6 (p + 1))).2.2).2.2)) else (0, 0, rUp (fn114 [] (rUp c1 2 0 6 (p + 1))).2.2 2 0 4 ((fn114 [] (rUp c1 2 0 6 (p + 1))).2.2 2 0 6))) else (0, 0, rUp (fn114 [] (rUp c1 2 0 6 (p + 1))).2.2 2 0 4 ((fn114 [] (rUp c1 2 0 6 (p + 1))).2.2 2 0 6))) := by
    unfold fn157
    simp only [zLet, k1, x6, fn105_eq, pBit_ge, fn109_eq]
    rw [if_pos hL, if_neg (fun z => z hL33)]
  have E2 : fnQ [] m = (if 1 ≤ (fn23 [] (rUp m3 15 0 35 (p + 1))).2.1 then (if 0 ≤ -(fn7 [] (fn23 [] (rUp m3 15 0 35 (p + 1))).2.2).2.2 15 0 35 + m 15 0 34 + (-1) then (if pB ((fn7 [] (fn23 [] (rUp m3 15 0 35 (p + 1))).2.2).2.2 59 0) ((fn7 [] (fn23 [] (rUp m3 15 0 35 (p + 1))).2.2).2.2 15 0 34) ((fn7 [] (fn23 [] (rUp m3 15 0 35 (p + 1))).2.2).2.2 15 0 35) ≠ 40 then (0, 0, (fn8 [(fn7 [] (fn23 [] (rUp m3 15 0 35 (p + 1))).2.2).2.2 15 0 35] (fn7 [] (fn23 [] (rUp m3 15 0 35 (p + 1))).2.2).2.2).2.2) else (if 1 ≤ (fn36 [1, 0] (fn7 [] (fn23 [] (rUp m3 15 0 35 (p + 1))).2.2).2.2).2.1 then (0, 1, (fn36 [1, 0] (fn7 [] (fn23 [] (rUp m3 15 0 35 (p + 1))).2.2).2.2).2.2) else (0, 0, (fn36 [1, 0] (fn7 [] (fn23 [] (rUp m3 15 0 35 (p + 1))).2.2).2.2).2.2))) else (0, 0, (fn8 [(fn7 [] (fn23 [] (rUp m3 15 0 35 (p + 1))).2.2).2.2 15 0 35] (fn7 [] (fn23 [] (rUp m3 15 0 35 (p + 1))).2.2).2.2).2.2)) else (0, 0, (fn23 [] (rUp m3 15 0 35 (p + 1))).2.2)) := by
    unfold fnQ
    simp only [zLet, k2, f33, yl, e3, f6p, fn6_eq]
    rw [if_pos hb1, if_neg (fun z => z h33)]
  generalize rUp c1 2 0 6 (p + 1) = cA at *
  generalize rUp m3 15 0 35 (p + 1) = mA at *
  have yA34 : mA 15 0 34 = m 15 0 34 := fm2.2 34 (by decide)
  have yA59 : mA 59 = m 59 := fm2.1 59 (by decide) (by decide)
  have hRA : qR 0 c0 m0 cA mA := by
    refine qR_up hR (fH_sub fc2 (by decide) (by decide)) (fH_sub fm2 (by decide) (by decide)) ?_ ?_ ?_ ?_
    · rw [x62, y352]
    · rw [y352]; omega
    · rw [y352]; omega
    · rw [y352]; omega
  obtain ⟨q, L2, l1, l2, l3, l4, l5, l6, l7⟩ := look_two hRA.1 hRA.2.1 [] []
  rw [y352] at l3
  rw [yA34] at l4 l5 l6 l7
  rw [yA59] at l5 l7
  have fcB : fH 2 [] [6] cA (rUp cA 2 0 6 q) := fH_fld fH_refl (by decide)
  have fmB : fH 15 [] [35] mA (rUp mA 15 0 35 q) := fH_fld fH_refl (by decide)
  have xB : rUp cA 2 0 6 q 2 0 6 = q := rUp_at
  have yB : rUp mA 15 0 35 q 15 0 35 = q := rUp_at
  have hRB : qR 0 c0 m0 (rUp cA 2 0 6 q) (rUp mA 15 0 35 q) := by
    refine qR_up hRA (fH_sub fcB (by decide) (by decide)) (fH_sub fmB (by decide) (by decide)) ?_ ?_ ?_ ?_
    · rw [xB, yB]
    · rw [yB]; omega
    · rw [yB]; omega
    · rw [yB, yA34]; exact l4
  have h23 : fn23 [] mA = if q < m 15 0 34 ∧ pSm (m 59 0 q) = true then (if 1 ≤ (fn12 [] (rUp mA 15 0 35 q)).2.1 then (0, 1, (fn12 [] (rUp mA 15 0 35 q)).2.2) else (0, 0, (fn12 [] (rUp mA 15 0 35 q)).2.2)) else (0, 0, rUp (rUp mA 15 0 35 q) 15 0 36 q) := by
    have z59 : rUp mA 15 0 35 q 59 = m 59 := by rw [rUp_grp (by decide)]; exact yA59
    have z34 : rUp mA 15 0 35 q 15 0 34 = m 15 0 34 := by rw [rUp_ne (by decide)]; exact yA34
    unfold fn23
    simp only [zLet, l2, yB, yA34, fn6_eq, z59, z34, fn9_eq, pBit_ge, fn8_eq (show q ≤ rUp mA 15 0 35 q 15 0 34 by rw [z34]; exact l4)]
    by_cases hq : q < m 15 0 34
    · rw [if_pos (show (0 : Int) ≤ -q + m 15 0 34 + -1 by omega), pB_in hq]
      by_cases hs : pSm (m 59 0 q) = true
      · rw [if_pos hs, if_pos (show q < m 15 0 34 ∧ pSm (m 59 0 q) = true from ⟨hq, hs⟩)]
      · rw [if_neg hs, if_neg (show ¬ (q < m 15 0 34 ∧ pSm (m 59 0 q) = true) from fun z => hs z.2)]
    · rw [if_neg (show ¬ (0 : Int) ≤ -q + m 15 0 34 + -1 by omega), if_neg (show ¬ (q < m 15 0 34 ∧ pSm (m 59 0 q) = true) from fun z => hq z.1)]
  rw [l1] at E1
  simp only at E1
  have hzB : qZ c0 m0 (rUp (rUp cA 2 0 6 q) 2 0 4 q) (rUp (rUp mA 15 0 35 q) 15 0 36 q) := qZ_up hRB (by decide) (fH_fld fH_refl (by decide)) (fH_fld fH_refl (by decide))
  by_cases hq : q < m 15 0 34 ∧ pSm (m 59 0 q) = true
  · rw [if_pos hq] at h23
    have hL2 : 0 ≤ L2 := l6.2 hq.1
    have hs2 : pSm L2 = true := by rw [qL_sm l5, pB_in hq.1]; exact hq.2
    rw [if_pos hL2, if_pos hs2] at E1
    rcases word_two (q := pSm) hRB.1 hRB.2.1 (by rw [yB, rUp_ne (by decide), yA34]; exact hq.1) (by rw [yB, rUp_grp (by decide), yA59]; exact hq.2) [] [] with ⟨e, w, w1, w2, w3, w4, w5⟩ | ⟨e, w, w1, w2⟩
    · rw [yB] at w1 w2 w3 w5
      rw [rUp_ne (show ¬ ((15 : Nat) = 15 ∧ (0 : Int) = 0 ∧ (34 : Int) = 35) by decide), yA34] at w4 w5
      rw [rUp_grp (show (59 : Nat) ≠ 15 by decide), yA59] at w5
      rw [w2] at h23
      rw [if_pos (show (1 : Int) ≤ 1 by decide)] at h23
      rw [w1] at E1
      rw [if_pos (show (1 : Int) ≤ 1 by decide)] at E1
      simp only at E1 h23
      have fA : fH 2 [] [6, 8, 9] c (rUp (rUp (rUp (rUp cA 2 0 6 q) 2 0 9 q) 2 0 8 w) 2 0 6 e) := fH_fld (fH_fld (fH_fld (fH_fld (fH_sub fc2 (by decide) (by decide)) (by decide)) (by decide)) (by decide)) (by decide)
      have x8 : rUp (rUp (rUp (rUp cA 2 0 6 q) 2 0 9 q) 2 0 8 w) 2 0 6 e 2 0 8 = w := by rw [rUp_ne (by decide), rUp_at]
      have x6e : rUp (rUp (rUp (rUp cA 2 0 6 q) 2 0 9 q) 2 0 8 w) 2 0 6 e 2 0 6 = e := rUp_at
      have fM : fH 15 [79] [35, 37, 38] m (rUp (rUp (rUp (rUp mA 15 0 35 q) 15 0 37 q) 15 0 38 (e - q)) 15 0 35 e) := fH_fld (fH_fld (fH_fld (fH_fld (fH_sub fm2 (by decide) (by decide)) (by decide)) (by decide)) (by decide)) (by decide)
      have z35 : rUp (rUp (rUp (rUp mA 15 0 35 q) 15 0 37 q) 15 0 38 (e - q)) 15 0 35 e 15 0 35 = e := rUp_at
      have z38 : rUp (rUp (rUp (rUp mA 15 0 35 q) 15 0 37 q) 15 0 38 (e - q)) 15 0 35 e 15 0 38 = e - q := by rw [rUp_ne (by decide), rUp_at]
      have z37 : rUp (rUp (rUp (rUp mA 15 0 35 q) 15 0 37 q) 15 0 38 (e - q)) 15 0 35 e 15 0 37 = q := by rw [rUp_ne (by decide), rUp_ne (by decide), rUp_at]
      generalize rUp (rUp (rUp (rUp cA 2 0 6 q) 2 0 9 q) 2 0 8 w) 2 0 6 e = A at *
      generalize rUp (rUp (rUp (rUp mA 15 0 35 q) 15 0 37 q) 15 0 38 (e - q)) 15 0 35 e = M at *
      have z34 : M 15 0 34 = m 15 0 34 := fM.2 34 (by decide)
      have z59 : M 59 = m 59 := fM.1 59 (by decide) (by decide)
      have hRM : qR 0 c0 m0 A M := by
        refine qR_up hR (fH_sub fA (by decide) (by decide)) (fH_sub fM (by decide) (by decide)) ?_ ?_ ?_ ?_
        · rw [x6e, z35]
        · rw [z35]; omega
        · rw [z35]; omega
        · rw [z35]; exact w4
      obtain ⟨q2, L3, j1, j2, j3, j4, j5, j6, j7⟩ := look_two hRM.1 hRM.2.1 [] []
      rw [z35] at j3
      rw [z34] at j4 j5 j6 j7
      rw [z59] at j5 j7
      have elook : fn145 [2] (rUp A 2 0 6 q2) = fn145 [2] A := by
        have := congrArg (fun r => r.2.2) (j1.symm.trans (fn114_eq [] A))
        simp only at this
        rw [this]
        exact fn145_look
      rw [← elook] at E1
      rw [h23] at E2
      simp only [j2] at E2
      rw [if_pos (show (1 : Int) ≤ 1 by decide)] at E2
      have fcA : fH 2 [] [6, 8, 9] c (rUp A 2 0 6 q2) := fH_fld fA (by decide)
      have fmM : fH 15 [79] [35, 37, 38] m (rUp M 15 0 35 q2) := fH_fld fM (by decide)
      have u6 : rUp A 2 0 6 q2 2 0 6 = q2 := rUp_at
      have u8 : rUp A 2 0 6 q2 2 0 8 = w := by rw [rUp_ne (by decide)]; exact x8
      have v35 : rUp M 15 0 35 q2 15 0 35 = q2 := rUp_at
      have v37 : rUp M 15 0 35 q2 15 0 37 = q := by rw [rUp_ne (by decide)]; exact z37
      have v38 : rUp M 15 0 35 q2 15 0 38 = e - q := by rw [rUp_ne (by decide)]; exact z38
      generalize rUp A 2 0 6 q2 = A2 at *
      generalize rUp M 15 0 35 q2 = M2 at *
      have v34 : M2 15 0 34 = m 15 0 34 := fmM.2 34 (by decide)
      have v59 : M2 59 = m 59 := fmM.1 59 (by decide) (by decide)
      rw [v35, v34, v59] at E2
      have hR2 : qR 0 c0 m0 A2 M2 := by
        refine qR_up hR (fH_sub fcA (by decide) (by decide)) (fH_sub fmM (by decide) (by decide)) ?_ ?_ ?_ ?_
        · rw [u6, v35]
        · rw [v35]; omega
        · rw [v35]; omega
        · rw [v35]; exact j4
      have hB2 : qB H A2 M2 := by
        obtain ⟨s1, s2, s3, s4, s5⟩ := hB
        have g74 : M2 74 0 (M2 15 0 44) = m 74 0 (m 15 0 44) := by rw [fmM.1 74 (by decide) (by decide), fmM.2 44 (by decide)]
        refine ⟨qS_up s1 (fmM.2 44 (by decide)) (fmM.1 74 (by decide) (by decide)) (fmM.1 84 (by decide) (by decide)) (by rw [v35]; omega), qO_up s2 (fcA.2 16 (by decide)) (fcA.1 25 (by decide) (by decide)) (fmM.2 58 (by decide)) (fmM.1 89 (by decide) (by decide)) (fmM.1 90 (by decide) (by decide)) (fmM.1 91 (by decide) (by decide)) (by rw [g74]; exact Int.le_refl _), ?_, ?_, ?_⟩
        · rw [fcA.2 5 (by decide), fmM.2 45 (by decide)]; exact s3
        · rw [fcA.2 5 (by decide)]; exact s4
        · rw [fcA.2 5 (by decide), g74]; exact s5
      have hW2 : qW pSm (M2 59 0) (M2 15 0 34) (A2 2 0 8) (M2 15 0 37) (M2 15 0 38) := by
        rw [v59, v34, v37, v38, u8]
        exact w5
      have hsk2 : pSk (M2 59 0) (M2 15 0 34) (M2 15 0 35) = M2 15 0 35 := by rw [v59, v34, v35]; exact j7
      rw [E1, E2]
      by_cases h40 : q2 < m 15 0 34 ∧ m 59 0 q2 = 40
      · rw [if_pos (show (0 : Int) ≤ -q2 + m 15 0 34 + -1 by omega), pB_in h40.1, if_neg (show ¬ m 59 0 q2 ≠ 40 from fun z => z h40.2)]
        rcases atom_two_a (kind := 2) (n0 := 1) hR2 hB2 h00 hlim (Or.inr ⟨rfl, rfl⟩) (by rw [fcA.2 16 (by decide)]; exact hst) (by rw [fcA.2 7 (by decide)]; exact hpu) hW2 hsk2 (by rw [v35, v34]; exact h40.1) (by rw [v59, v35]; exact h40.2) with ⟨c_q, m_q, r1, r2, r3⟩ | ⟨c_q, m_q, r1, r2, r3⟩
        · rw [r1, r2]
          exact Or.inl ⟨c_q, m_q, rfl, rfl, qE_qGl r3 fcA fmM (Or.inr rfl)⟩
        · rw [r1, r2]
          exact Or.inr ⟨c_q, m_q, rfl, rfl, r3⟩
      · obtain ⟨c_q, r1, r2⟩ := atom_not (kind := 2) hR2 hsk2 (by rw [v35, v34, v59]; exact h40)
        have f8 : (fn8 [q2] M2).2.2 = rUp M2 15 0 36 q2 := fn8_ge (by rw [v34]; exact j4)
        refine Or.inr ⟨c_q, rUp M2 15 0 36 q2, by rw [r1]; rfl, ?_, qZ_up hR2 (by decide) r2 (fH_fld fH_refl (by decide))⟩
        by_cases hq2 : q2 < m 15 0 34
        · rw [if_pos (show (0 : Int) ≤ -q2 + m 15 0 34 + -1 by omega), pB_in hq2, if_pos (show m 59 0 q2 ≠ 40 from fun z => h40 ⟨hq2, z⟩), f8]
        · rw [if_neg (show ¬ (0 : Int) ≤ -q2 + m 15 0 34 + -1 by omega), f8]
    · rw [yB] at w1 w2
      rw [w2] at h23
      rw [if_neg (show ¬ (1 : Int) ≤ 0 by decide)] at h23
      rw [w1] at E1
      rw [if_neg (show ¬ (1 : Int) ≤ 0 by decide)] at E1
      rw [E1, E2, h23]
      exact Or.inr ⟨_, _, rfl, rfl, qZ_up hRB (by decide) (fH_fld (fH_fld (fH_fld (fH_fld fH_refl (by decide)) (by decide)) (by decide)) (by decide)) (fH_fld (fH_fld (fH_fld fH_refl (by decide)) (by decide)) (by decide))⟩
  · rw [if_neg hq] at h23
    rw [E1, E2, h23, xB]
    refine Or.inr ⟨_, _, ?_, rfl, hzB⟩
    by_cases hL2 : 0 ≤ L2
    · rw [if_pos hL2, if_neg (fun z => hq ⟨l6.1 hL2, by rw [qL_sm l5, pB_in (l6.1 hL2)] at z; exact z⟩)]
    · rw [if_neg hL2]
theorem goal_var_a {H : Int → Prop} {c0 m0 c m : rHp} {p L : Int} (hR : qR 0 c0 m0 c m) (hB : qB H c m) (h00 : 0 ≤ c0 1000 0 0) (hlim : 2 * c0 1000 0 0 + m0 15 0 34 ≤ 10239) (k1 : fn114 [] c = (0, L, rUp c 2 0 6 p)) (k2 : fn7 [] m = (0, 0, rUp m 15 0 35 p)) (k3 : m 15 0 35 ≤ p) (hn : p < m 15 0 34) (hL : 0 ≤ L) (k5 : qL L (m 59 0 p)) (k7 : pSk (m 59 0) (m 15 0 34) p = p)
    (hca : pCa (m 59 0 p) = true) : qGo H c0 m0 c m (fn157 [] c) (fnQ [] m) := by
  obtain ⟨c1, m3, e1, e3, hR1, hB1, fc, fm, y35, x6, hsk, f6⟩ := goal_pre hR hB k3 (by omega) k7
  rw [e1] at k1
  have f33 : ∀ g : rHp, (fn33 [] g).2.2 = g := fun g => rfl
  have a0 := hR.2.1.2.1
  have e34 : m 15 0 34 = m0 15 0 34 := hR.2.2.2.2.2.2.2.1.2 34 (by decide)
  have yl : rUp m 15 0 35 p 15 0 35 = p := rUp_at
  have y34 : m3 15 0 34 = m 15 0 34 := fm.2 34 (by decide)
  have y59 : m3 59 = m 59 := fm.1 59 (by decide) (by decide)
  have f6p : fn6 [p] m3 = (0, m 59 0 p, m3) := by rw [f6, pB_in hn]
  have hb1 : (0 : Int) ≤ -p + m 15 0 34 + -1 := by omega
  have rg : 65 ≤ m 59 0 p ∧ m 59 0 p ≤ 90 := by
    have h := hca
    simp only [pCa, Bool.and_eq_true, decide_eq_true_eq] at h
    omega
  have h33m : m 59 0 p ≠ 33 := by omega
  have h33 : L ≠ 33 := by rw [ne_eq, qL_is k5 (by decide) (by decide)]; exact h33m
  have hca_q : pCa L = true := by rw [qL_ca k5]; exact hca
  have hsm : ¬ pSm (m 59 0 p) = true := by
    simp only [pSm, Bool.and_eq_true, decide_eq_true_eq]; omega
  have hn3 : m3 15 0 35 < m3 15 0 34 := by omega
  have hca3 : pCa (m3 59 0 (m3 15 0 35)) = true := by rw [y59, y35]; exact hca
  /- the class -/
  have E1 : ∀ c2 w, fn115 [] c1 = (0, 1, c2) → c2 2 0 8 = w → fn157 [] c = (if 0 ≤ (fn114 [] c2).2.1 then (if pSm (fn114 [] c2).2.1 = true then (if 1 ≤ (fn156 [w, p] (fn114 [] c2).2.2).2.1 then (0, 1, (fn156 [w, p] (fn114 [] c2).2.2).2.2) else (0, 0, (fn156 [w, p] (fn114 [] c2).2.2).2.2)) else (if 1 ≤ (fn155 [w, p] (fn114 [] c2).2.2).2.1 then (0, 1, (fn155 [w, p] (fn114 [] c2).2.2).2.2) else (0, 0, (fn155 [w, p] (fn114 [] c2).2.2).2.2))) else (0, 0, (fn155 [w, p] (fn114 [] c2).2.2).2.2)) := by
    intro c2 w h1 h2
    unfold fn157
    simp only [zLet, k1, x6, fn106_eq, fn105_eq, pBit_ge, h1, h2]
    rw [if_pos hL, if_pos h33, if_pos hca_q, if_pos (show (1 : Int) ≤ 1 by decide)]
  rcases var_R hR1 hn3 hca3 [] [] with ⟨w, c2, v, c3, m_q, r1, r2, r3, r4, r5, r6, r7, r8, r9, r10, r11, r12, r13, r14, r15, r16, r17, r18⟩ | ⟨c2, m_q, r1, r2, r3⟩ | ⟨w, c2, m_q, r1, r2, r3, r4, r5, r6, r7⟩
  · have h20 := item_var (any := 0) hsk hn3 hca3 r6 (Or.inr rfl)
    have fmt := meet_fr r5
    have f4 : fH 15 [80, 81] [] m_q (rUp (rUp m_q 80 0 (4 * m 73 0 (m 15 0 44) + 32 * m 15 0 44) 1) 81 0 (4 * m 73 0 (m 15 0 44) + 32 * m 15 0 44) v) := fH_grp (fH_grp fH_refl (by decide) (by decide)) (by decide) (by decide)
    have q80 : rUp (rUp m_q 80 0 (4 * m 73 0 (m 15 0 44) + 32 * m 15 0 44) 1) 81 0 (4 * m 73 0 (m 15 0 44) + 32 * m 15 0 44) v 80 0 (4 * m 73 0 (m 15 0 44) + 32 * m 15 0 44) = 1 := by rw [rUp_grp (by decide), rUp_at]
    have q81 : rUp (rUp m_q 80 0 (4 * m 73 0 (m 15 0 44) + 32 * m 15 0 44) 1) 81 0 (4 * m 73 0 (m 15 0 44) + 32 * m 15 0 44) v 81 0 (4 * m 73 0 (m 15 0 44) + 32 * m 15 0 44) = v := rUp_at
    generalize hm4 : rUp (rUp m_q 80 0 (4 * m 73 0 (m 15 0 44) + 32 * m 15 0 44) 1) 81 0 (4 * m 73 0 (m 15 0 44) + 32 * m 15 0 44) v = m4 at *
    have z34 : m4 15 0 34 = m 15 0 34 := (f4.2 34 (by decide)).trans ((r15.2 34 (by decide)).trans y34)
    have z59 : m4 59 = m 59 := (f4.1 59 (by decide) (by decide)).trans ((r15.1 59 (by decide) (by decide)).trans y59)
    have z35 : m4 15 0 35 = m_q 15 0 35 := f4.2 35 (by decide)
    have hR4 : qR 0 c0 m0 c3 m4 := by
      refine qR_up r11 fH_refl (fH_sub f4 (by decide) (by decide)) ?_ ?_ ?_ ?_
      · rw [z35]; exact r11.2.1.1
      · rw [z35]; exact Int.le_refl _
      · rw [z35]; exact r11.2.1.2.1
      · rw [z35]; exact r11.2.1.2.2
    have hT2 : qT c2 m4 := qT_c hR4.1 (fmt.2 3 (by decide)).symm (fmt.1 21 (by decide) (by decide)).symm
    have hA2 : qA c2 m4 := ⟨(fmt.2 6 (by decide)).symm.trans hR4.2.1.1, hR4.2.1.2⟩
    obtain ⟨q, L2, l1, l2, l3, l4, l5, l6, l7⟩ := look_two hT2 hA2 [] []
    rw [z34] at l4 l5 l6 l7
    rw [z59] at l5 l7
    have fA : fH 2 [] [6] c2 (rUp c2 2 0 6 q) := fH_fld fH_refl (by decide)
    have fM : fH 15 [] [35] m4 (rUp m4 15 0 35 q) := fH_fld fH_refl (by decide)
    have u6 : rUp c2 2 0 6 q 2 0 6 = q := rUp_at
    have v35 : rUp m4 15 0 35 q 15 0 35 = q := rUp_at
    have E := E1 c2 w r1 r2
    rw [l1] at E
    simp only at E
    generalize rUp c2 2 0 6 q = A at *
    generalize hM : rUp m4 15 0 35 q = M at *
    obtain ⟨A3, t1, t2, t3⟩ := meet_both r5 fA (by decide) (by decide) (by decide)
    have v34 : M 15 0 34 = m 15 0 34 := (fM.2 34 (by decide)).trans z34
    have v59 : M 59 = m 59 := (fM.1 59 (by decide) (by decide)).trans z59
    have fmM : fH 15 [74, 82, 83, 84, 80, 81] [35, 37, 38, 39, 40] m3 M := fH_trans (fH_trans (fH_sub r15 (by decide) (by decide)) (fH_sub f4 (by decide) (by decide))) (fH_sub fM (by decide) (by decide))
    have v44 : M 15 0 44 = m 15 0 44 := (fmM.2 44 (by decide)).trans (fm.2 44 (by decide))
    have v73 : M 73 = m 73 := (fmM.1 73 (by decide) (by decide)).trans (fm.1 73 (by decide) (by decide))
    have v45 : M 15 0 45 = m 15 0 45 := (fmM.2 45 (by decide)).trans (fm.2 45 (by decide))
    have fcA : fH 2 [22, 23] [6, 8, 9, 13] c A3 := fH_trans (fH_trans (fH_sub fc (by decide) (by decide)) r14) (fH_sub t2 (by decide) (by decide))
    have hGA : qG A = qG c := (qG_up fA (by decide) (by decide) (by decide)).trans ((qG_up r4 (by decide) (by decide) (by decide)).trans (qG_up fc (by decide) (by decide) (by decide)))
    have hR3 : qR 0 c0 m0 A3 M := by
      refine qR_up hR4 (fH_sub t2 (by decide) (by decide)) (fH_sub fM (by decide) (by decide)) ?_ ?_ ?_ ?_
      · rw [t3.2 6 (by decide), u6, v35]
      · rw [v35]; omega
      · rw [v35]; have := hR4.2.1.2.1; omega
      · rw [v35, z34]; exact l4
    have cm4 : M 74 0 (M 15 0 44) = m_q 74 0 (m_q 15 0 44) := by rw [fM.1 74 (by decide) (by decide), fM.2 44 (by decide), f4.1 74 (by decide) (by decide), f4.2 44 (by decide)]
    have cmono : m3 74 0 (m3 15 0 44) ≤ M 74 0 (M 15 0 44) := by
      rw [cm4]
      rcases r10 with h | h
      · omega
      · omega
    have hcnt : 0 ≤ m3 74 0 (m3 15 0 44) := hR1.2.2.2.2.1.2.1
    have hB3 : qB H A3 M := by
      obtain ⟨s1, s2, s3, s4, s5⟩ := hB1
      have g5 : A3 2 0 5 = c1 2 0 5 := (t2.2 5 (by decide)).trans (r14.2 5 (by decide))
      refine ⟨?_, qO_up s2 ((t2.2 16 (by decide)).trans (r14.2 16 (by decide))) ((t2.1 25 (by decide) (by decide)).trans (r14.1 25 (by decide) (by decide))) (fmM.2 58 (by decide)) (fmM.1 89 (by decide) (by decide)) (fmM.1 90 (by decide) (by decide)) (fmM.1 91 (by decide) (by decide)) cmono, ?_, ?_, ?_⟩
      · have hS := qS_var r6 s1 (by omega) (by omega) r16 hcnt
        exact qS_up hS ((fM.2 44 (by decide)).trans (f4.2 44 (by decide))) ((fM.1 74 (by decide) (by decide)).trans (f4.1 74 (by decide) (by decide))) ((fM.1 84 (by decide) (by decide)).trans (f4.1 84 (by decide) (by decide))) (by rw [v35]; omega)
      · rw [g5, fmM.2 45 (by decide)]; exact s3
      · rw [g5]; exact s4
      · intro z z0 z1
        rw [g5]
        exact s5 z (by omega) z1
    have hv : qVr v := ⟨r7, r8⟩
    have hY : 4 * M 73 0 (M 15 0 44) + 32 * M 15 0 44 = 4 * m 73 0 (m 15 0 44) + 32 * m 15 0 44 := by rw [v44, v73]
    have hnew : pFd (fun j => decide (A 22 0 j ≠ w)) (A 2 0 13) < 0 → qBt (M 15 0 45) v ≠ 1 := by
      intro h
      have h1 := t1
      rw [fn120_is, if_pos h] at h1
      have e13 : A 2 0 13 = m3 74 0 (m3 15 0 44) := by
        rw [fA.2 13 (by decide), r4.2 13 (by decide)]; exact hR1.2.2.2.2.1.1
      have hv13 : v = A 2 0 13 := by
        by_cases h8 : A 2 0 13 < 8
        · rw [if_pos h8] at h1
          exact (congrArg (fun r => r.2.1) h1).symm
        · rw [if_neg h8] at h1
          have := congrArg (fun r => r.2.1) h1
          simp only at this
          omega
      rw [fmM.2 45 (by decide), ← hB1.2.2.1]
      exact hB1.2.2.2.2 v (by omega) r8
    /- what is behind it -/
    have good : ∀ c_q m_q_q, qGd H c0 m0 A3 M (qG A) c_q m_q_q → gGo (sN c0 m0) (m 15 0 45) (m_q_q 15 0 45) (qG c) (m 73 0 (m 15 0 44) + 8 * m 15 0 44) c_q m_q_q → qGl H c0 m0 c m c_q m_q_q := by
      intro c_q m_q_q g hgo
      obtain ⟨g1, g2, g3, g4, g5, g6⟩ := g
      refine ⟨g1, g2, ?_, fH_trans (fH_sub fcA (by decide) (by decide)) (fH_sub g3 (by decide) (by decide)), fH_trans (fH_trans (fH_sub fm (by decide) (by decide)) (fH_sub fmM (by decide) (by decide))) (fH_sub g4 (by decide) (by decide)), ?_, hgo⟩
      · rw [g3.2 16 (by decide), fcA.2 16 (by decide)]; omega
      · intro G h z z2
        rw [g5 G h z (by rw [hGA]; exact z2), fcA.1 G (memG z).2.2.2.1 (memG z).1]
    have h79 : m3 79 0 (m 73 0 (m 15 0 44) + 8 * m 15 0 44) = m 15 0 45 := by rw [← e3, rUp_at]
    have cmp := compv_two (p := p) (wh := p) hR3 hB3 h00 hlim t1 hv (by rw [v34]; omega) (by rw [hY, fM.1 80 (by decide) (by decide)]; exact q80) (by rw [hY, fM.1 81 (by decide) (by decide)]; exact q81) hnew
    have cmp2 : (∃ c_q m_q_q, fn155 [w, p] A = (0, 1, c_q) ∧ fn40 [p] M = (0, 1, m_q_q) ∧ qGl H c0 m0 c m c_q m_q_q) ∨ (∃ c_q m_q_q, fn155 [w, p] A = (0, 0, c_q) ∧ fn40 [p] M = (0, 0, m_q_q) ∧ qZ c0 m0 c_q m_q_q) := by
      rcases cmp with ⟨c_q, m_q_q, g1, g2, g3, g4, g5, g6, g7, g8, g9⟩ | h
      · rw [hGA, v44, v73, v45] at g9
        refine Or.inl ⟨c_q, m_q_q, g1, g2, good c_q m_q_q ⟨g3, g4, fH_sub g5 (by decide) (by decide), fH_sub g6 (by decide) (by decide), g7, g8⟩ ⟨?_, Or.inr (Or.inl ⟨g9, (g6.2 45 (by decide)).trans v45⟩)⟩⟩
        rw [g6.1 79 (by decide) (by decide), fmM.1 79 (by decide) (by decide)]
        exact h79
      · exact Or.inr h
    by_cases hq : q < m 15 0 34
    · rw [if_pos (l6.2 hq)] at E
      have hb2 : (0 : Int) ≤ -q + m 15 0 34 + -1 := by omega
      by_cases hs : pSm (m 59 0 q) = true
      · rw [if_pos (show pSm L2 = true by rw [qL_sm l5, pB_in hq]; exact hs)] at E
        have E2 : fnQ [] m = qRk M (m 15 0 34) (m 15 0 44) (m 73 0 (m 15 0 44)) (m 15 0 45) p v q := by
          unfold fnQ qRk
          simp only [zLet, k2, f33, yl, e3, f6p, fn9_eq, pBit_ge, h20, r12, r13, hm4, l2, v35, fn6_eq, v59, v34, pB_in hq]
          rw [if_pos hb1, if_pos h33m, if_neg hsm, if_pos (show (1 : Int) ≤ 1 by decide), if_neg (show ¬ (1 : Int) ≠ 1 from fun z => z rfl), if_pos hb2, if_pos hs]
        have rk := reck_two (p := p) hR3 hB3 h00 hlim t1 hv (by rw [cm4]; exact r9) (by rw [v34]; omega) (by rw [v35, v34]; exact hq) (by rw [v59, v35]; exact hs) (by rw [hY, fM.1 81 (by decide) (by decide)]; exact q81)
        rw [v34, v44, v73, v45, v35, hGA] at rk
        rw [E, E2]
        rcases rk with ⟨c_q, m_q_q, g1, g2, g3, g4, g5⟩ | ⟨c_q, m_q_q, g1, g2, g3⟩
        · rw [g1, g2]
          refine Or.inl ⟨c_q, m_q_q, rfl, rfl, good c_q m_q_q (by rw [hGA]; exact g3) ⟨?_, Or.inr (Or.inr ⟨g4, g5⟩)⟩⟩
          rw [g3.2.2.2.1.1 79 (by decide) (by decide), fmM.1 79 (by decide) (by decide)]
          exact h79
        · rw [g1, g2]
          exact Or.inr ⟨c_q, m_q_q, rfl, rfl, g3⟩
      · rw [if_neg (show ¬ pSm L2 = true by rw [qL_sm l5, pB_in hq]; exact hs)] at E
        have E2 : fnQ [] m = if 1 ≤ (fn40 [p] M).2.1 then (0, 1, (fn40 [p] M).2.2) else (0, 0, (fn40 [p] M).2.2) := by
          unfold fnQ
          simp only [zLet, k2, f33, yl, e3, f6p, fn9_eq, pBit_ge, h20, r12, r13, hm4, l2, v35, fn6_eq, v59, v34, pB_in hq]
          rw [if_pos hb1, if_pos h33m, if_neg hsm, if_pos (show (1 : Int) ≤ 1 by decide), if_neg (show ¬ (1 : Int) ≠ 1 from fun z => z rfl), if_pos hb2, if_neg hs]
        rw [E, E2]
        rcases cmp2 with ⟨c_q, m_q_q, g1, g2, g3⟩ | ⟨c_q, m_q_q, g1, g2, g3⟩
        · rw [g1, g2]
          exact Or.inl ⟨c_q, m_q_q, rfl, rfl, g3⟩
        · rw [g1, g2]
          exact Or.inr ⟨c_q, m_q_q, rfl, rfl, g3⟩
    · rw [if_neg (fun z => hq (l6.1 z))] at E
      have E2 : fnQ [] m = (0, 0, (fn40 [p] M).2.2) := by
        unfold fnQ
        simp only [zLet, k2, f33, yl, e3, f6p, fn9_eq, pBit_ge, h20, r12, r13, hm4, l2, v35, fn6_eq, v59, v34]
        rw [if_pos hb1, if_pos h33m, if_neg hsm, if_pos (show (1 : Int) ≤ 1 by decide), if_neg (show ¬ (1 : Int) ≠ 1 from fun z => z rfl), if_neg (show ¬ (0 : Int) ≤ -q + m 15 0 34 + -1 by omega)]
      rw [E, E2]
      rcases cmp2 with ⟨c_q, m_q_q, g1, g2, g3⟩ | ⟨c_q, m_q_q, g1, g2, g3⟩
      · rw [g1, g2]
        exact Or.inr ⟨c_q, m_q_q, rfl, rfl, qZ_up g3.1 (by decide) fH_refl fH_refl⟩
      · rw [g1, g2]
        exact Or.inr ⟨c_q, m_q_q, rfl, rfl, g3⟩
  · have h20 := item_var (any := 0) hsk hn3 hca3 r2 (Or.inl rfl)
    refine Or.inr ⟨c2, m_q, ?_, ?_, r3⟩
    · unfold fn157
      simp only [zLet, k1, x6, fn106_eq, pBit_ge, r1]
      rw [if_pos hL, if_pos h33, if_pos hca_q, if_neg (show ¬ (1 : Int) ≤ 0 by decide)]
    · unfold fnQ
      simp only [zLet, k2, f33, yl, e3, f6p, fn9_eq, pBit_ge, h20]
      rw [if_pos hb1, if_pos h33m, if_neg hsm, if_neg (show ¬ (1 : Int) ≤ 0 by decide)]
  · have h20 := item_var (any := 0) hsk hn3 hca3 r6 (Or.inl rfl)
    have E2 : fnQ [] m = (0, 0, m_q) := by
      unfold fnQ
      simp only [zLet, k2, f33, yl, e3, f6p, fn9_eq, pBit_ge, h20]
      rw [if_pos hb1, if_pos h33m, if_neg hsm, if_neg (show ¬ (1 : Int) ≤ 0 by decide)]
    have E := E1 c2 w r1 r2
    have fA : fH 2 [] [6] c2 (fn114 [] c2).2.2 := by rw [fn114_eq]; exact fH_fld fH_refl (by decide)
    generalize (fn114 [] c2).2.2 = A at *
    generalize (fn114 [] c2).2.1 = L2 at *
    have e22 : A 22 = c2 22 := fA.1 22 (by decide) (by decide)
    have e13 : A 2 0 13 = c2 2 0 13 := fA.2 13 (by decide)
    have no : pFd (fun j => decide (A 22 0 j ≠ w)) (A 2 0 13) < 0 ∧ ¬ A 2 0 13 < 8 := by
      rw [e22, e13]
      rw [fn120_is] at r5
      have h13 : 0 ≤ c2 2 0 13 := by
        rw [r4.2 13 (by decide), hR1.2.2.2.2.1.1]; exact hR1.2.2.2.2.1.2.1
      by_cases h1 : pFd (fun j => decide (c2 22 0 j ≠ w)) (c2 2 0 13) < 0
      · refine ⟨h1, fun h2 => ?_⟩
        rw [if_pos h1, if_pos h2] at r5
        have := congrArg (fun r => r.2.1) r5
        simp only at this
        omega
      · rw [if_neg h1] at r5
        have := congrArg (fun r => r.2.1) r5
        simp only at this
        omega
    obtain ⟨x1, i1, i2⟩ := fn155_no (p := p) no.1
    obtain ⟨x2, i3, i4⟩ := fn156_no (p := p) no.1 no.2
    rw [i1, i3] at E
    rw [E, E2]
    by_cases h1 : 0 ≤ L2
    · rw [if_pos h1]
      by_cases h2 : pSm L2 = true
      · rw [if_pos h2]
        exact Or.inr ⟨x2, m_q, rfl, rfl, qZ_more r7 (fH_trans (fH_sub fA (by decide) (by decide)) i4) fH_refl⟩
      · rw [if_neg h2]
        exact Or.inr ⟨x1, m_q, rfl, rfl, qZ_more r7 (fH_trans (fH_sub fA (by decide) (by decide)) i2) fH_refl⟩
    · rw [if_neg h1]
      exact Or.inr ⟨x1, m_q, rfl, rfl, qZ_more r7 (fH_trans (fH_sub fA (by decide) (by decide)) i2) fH_refl⟩
theorem goal_two_a {H : Int → Prop} {c0 m0 c m : rHp} (hR : qR 0 c0 m0 c m) (hB : qB H c m) (h00 : 0 ≤ c0 1000 0 0) (hlim : 2 * c0 1000 0 0 + m0 15 0 34 ≤ 10239) (hst : c 2 0 16 ≤ 28) (hpu : c 2 0 7 = 2) : qGo H c0 m0 c m (fn157 [] c) (fnQ [] m) := by
  obtain ⟨p, L, k1, k2, k3, k4, k5, k6, k7⟩ := look_two hR.1 hR.2.1 [] []
  by_cases hn : p < m 15 0 34
  · have hL := k6.2 hn
    rw [pB_in hn] at k5
    by_cases h33 : m 59 0 p = 33
    · exact goal_not_a hR hB h00 hlim hst hpu k1 k2 k3 hn hL k5 k7 h33
    · by_cases hca : pCa (m 59 0 p) = true
      · exact goal_var_a hR hB h00 hlim k1 k2 k3 hn hL k5 k7 hca
      · by_cases hsm : pSm (m 59 0 p) = true
        · exact goal_name_a hR hB h00 hlim hst hpu k1 k2 k3 hn hL k5 k7 hsm
        · by_cases hd : pDg (m 59 0 p) = true ∨ m 59 0 p = 45
          · exact goal_num_a hR hB h00 hlim k1 k2 k3 hn hL k5 k7 hd
          · exact goal_bad_a hR hB k1 k2 k3 hn hL k5 k7 h33 hca hsm (fun z => hd (Or.inl z)) (fun z => hd (Or.inr z))
  · exact goal_out_a hR hB k1 k2 k3 k4 hn (fun z => hn (k6.1 z)) k7
