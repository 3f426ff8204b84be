/-! ===== the GOALS by both, when asked ===== -/
theorem fnQ_look {g : rHp} : fnQ [] (rUp g 15 0 35 (pSk (g 59 0) (g 15 0 34) (g 15 0 35))) = fnQ [] g := by
  have key : fn7 [] (rUp g 15 0 35 (pSk (g 59 0) (g 15 0 34) (g 15 0 35))) = fn7 [] g := by
    rw [fn7_eq, fn7_eq, rUp_at, rUp_two, rUp_grp (show (59 : Nat) ≠ 15 by decide), rUp_ne (show ¬ ((15 : Nat) = 15 ∧ (0 : Int) = 0 ∧ (34 : Int) = 35) by decide), pSk_idem]
  have k34 : rUp g 15 0 35 (pSk (g 59 0) (g 15 0 34) (g 15 0 35)) 15 0 34 = g 15 0 34 := rUp_ne (by decide)
  have k44 : rUp g 15 0 35 (pSk (g 59 0) (g 15 0 34) (g 15 0 35)) 15 0 44 = g 15 0 44 := rUp_ne (by decide)
  have k45 : rUp g 15 0 35 (pSk (g 59 0) (g 15 0 34) (g 15 0 35)) 15 0 45 = g 15 0 45 := rUp_ne (by decide)
  have k73 : rUp g 15 0 35 (pSk (g 59 0) (g 15 0 34) (g 15 0 35)) 73 = g 73 := rUp_grp (by decide)
  unfold fnQ
  simp only [zLet, key, k34, k44, k45, k73]
noncomputable def qSa (g : rHp) : zSt :=
  if 0 ≤ (fn114 [] g).2.1 then
    (if (fn114 [] g).2.1 = 44 then .inl (0, [], rUp (fn114 [] g).2.2 2 0 6 ((fn114 [] g).2.2 2 0 6 + 1)) else .inr (0, 0, rUp (fn114 [] g).2.2 2 0 4 ((fn114 [] g).2.2 2 0 6)))
  else (if 1 ≤ (fn152 [] (rUp (fn114 [] g).2.2 2 0 6 ((fn114 [] g).2.2 2 0 6 + 1))).2.1 then .inr (0, 1, (fn152 [] (rUp (fn114 [] g).2.2 2 0 6 ((fn114 [] g).2.2 2 0 6 + 1))).2.2) else .inr (0, 0, (fn152 [] (rUp (fn114 [] g).2.2 2 0 6 ((fn114 [] g).2.2 2 0 6 + 1))).2.2))
theorem en159_go {cS c c3 : rHp} {n1 i : Int} (hn : cS 40 0 (cS 1 0 10) = n1) (hi : c 9 n1 2 = i) (h8 : i < 8) (h : fn157 [] c = (0, 1, c3)) : en159 cS (0, [], c) = qSa (qNx n1 i (c 9 n1 3) c3) := by
  have f132 : ∀ x (g : rHp), (fn132 x g).2.2 = g := fun x g => rfl
  unfold en159 qSa qNx
  simp only [zLet, ↓reduceIte, hn, hi, f132, h, fn109_eq]
  rw [if_neg (show ¬ i ≥ 8 by omega), if_pos (show (1 : Int) ≤ 1 by decide)]
  by_cases k3 : 3 ≤ c3 10 (i + 9 * n1 + 1) 4
  · rw [if_pos k3, if_neg (show ¬ c3 10 (i + 9 * n1 + 1) 4 = 1 by omega)]
    split <;> rfl
  · rw [if_neg k3]
    by_cases k1 : c3 10 (i + 9 * n1 + 1) 4 = 1
    · rw [if_neg (fun z => z k1), if_pos k1]
    · rw [if_pos k1, if_neg k1]
theorem en159_bad {cS c c3 : rHp} {n1 i : Int} (hn : cS 40 0 (cS 1 0 10) = n1) (hi : c 9 n1 2 = i) (h8 : i < 8) (h : fn157 [] c = (0, 0, c3)) : en159 cS (0, [], c) = .inr (0, 0, c3) := by
  have f132 : ∀ x (g : rHp), (fn132 x g).2.2 = g := fun x g => rfl
  unfold en159
  simp only [zLet, ↓reduceIte, hn, hi, f132, h]
  rw [if_neg (show ¬ i ≥ 8 by omega), if_neg (show ¬ (1 : Int) ≤ 0 by decide)]
theorem en159_full {cS c : rHp} {n1 : Int} (hn : cS 40 0 (cS 1 0 10) = n1) (hi : c 9 n1 2 = 8) : ∃ p, en159 cS (0, [], c) = .inr (0, 0, rUp (fn114 [] c).2.2 2 0 4 p) := by
  refine ⟨(fn114 [] c).2.2 2 0 6, ?_⟩
  unfold en159
  simp only [zLet, ↓reduceIte, hn, hi, fn109_eq]
  rw [if_pos (show (8 : Int) ≥ 8 by decide)]
  split <;> rfl
theorem en38_go {mS m m3 : rHp} {i n8 : Int} (h44 : mS 15 0 44 = n8) (hi : m 73 0 n8 = i) (h8 : i ≠ 8) (h : fn37 [0] (fn7 [] m).2.2 = (0, 1, m3)) : en38 mS (0, [0, 1], m) =
    (if 0 ≤ -(fn7 [] (rUp m3 73 0 n8 (i + 1))).2.2 15 0 35 + mS 15 0 34 + (-1) then (if pB ((fn7 [] (rUp m3 73 0 n8 (i + 1))).2.2 59 0) ((fn7 [] (rUp m3 73 0 n8 (i + 1))).2.2 15 0 34) ((fn7 [] (rUp m3 73 0 n8 (i + 1))).2.2 15 0 35) ≠ 44 then .inl (0, [0, 0], (fn7 [] (rUp m3 73 0 n8 (i + 1))).2.2) else .inl (0, [0, 1], rUp (fn7 [] (rUp m3 73 0 n8 (i + 1))).2.2 15 0 35 ((fn7 [] (rUp m3 73 0 n8 (i + 1))).2.2 15 0 35 + 1))) else .inl (0, [0, 0], (fn7 [] (rUp m3 73 0 n8 (i + 1))).2.2)) := by
  unfold en38
  simp only [zLet, ↓reduceIte, List.getD_cons_zero, List.getD_cons_succ, h44, hi, h, fn6_eq]
  rw [if_neg (show ¬ (1 : Int) = 0 by decide), if_pos h8, if_pos (show (1 : Int) ≤ 1 by decide)]
  split <;> rfl
theorem en38_bad {mS m m3 : rHp} {i n8 : Int} (h44 : mS 15 0 44 = n8) (hi : m 73 0 n8 = i) (h8 : i ≠ 8) (h : fn37 [0] (fn7 [] m).2.2 = (0, 0, m3)) : en38 mS (0, [0, 1], m) = .inr (0, 0, m3) := by
  unfold en38
  simp only [zLet, ↓reduceIte, List.getD_cons_zero, List.getD_cons_succ, h44, hi, h, fn6_eq]
  rw [if_neg (show ¬ (1 : Int) = 0 by decide), if_pos h8, if_neg (show ¬ (1 : Int) ≤ 0 by decide)]
theorem en38_full {mS m : rHp} {n8 : Int} (h44 : mS 15 0 44 = n8) (hi : m 73 0 n8 = 8) : en38 mS (0, [0, 1], m) = .inr (0, 0, (fn8 [(fn7 [] m).2.2 15 0 35] (fn7 [] m).2.2).2.2) := by
  unfold en38
  simp only [zLet, ↓reduceIte, List.getD_cons_zero, List.getD_cons_succ, h44, hi]
  rw [if_neg (show ¬ (1 : Int) = 0 by decide), if_neg (fun z => z rfl)]
theorem en38_end {mS m : rHp} : en38 mS (0, [0, 0], m) = .inr (0, 1, m) := by
  unfold en38
  simp only [zLet, ↓reduceIte, List.getD_cons_zero, List.getD_cons_succ]
theorem fn152_fr {c : rHp} : fH 2 [] [4] c (fn152 [] c).2.2 := by
  rw [fn152_eq]
  split
  · exact fH_refl
  · exact fH_fld fH_refl (by decide)
theorem goals_loop_a {H : Int → Prop} {c0 m0 cS mS : rHp} {n1 n8 : Int} (h00 : 0 ≤ c0 1000 0 0) (hlim : 2 * c0 1000 0 0 + m0 15 0 34 ≤ 10239) (hn1 : cS 40 0 (cS 1 0 10) = n1) (hn8 : mS 15 0 44 = n8) (hpu : cS 2 0 7 = 2) (hcS : ∀ j, j ≠ 7 → cS 1 0 j = c0 1 0 j) (hne : m0 15 0 34 ≠ 0) :
    ∀ (k : Nat) (i : Int) (c m : rHp), i + k = 8 → 0 ≤ i → qR 0 c0 m0 c m → qB H c m → qI (sN c0 m0) cS mS n1 n8 i c m →
    qZ c0 m0 (zLoop (en159 cS) (0, [], c)).2.2 (zLoop (en38 mS) (0, [0, 1], m)).2.2 ∧ fD n1 cS (zLoop (en159 cS) (0, [], c)).2.2 ∧ fE n8 mS (zLoop (en38 mS) (0, [0, 1], m)).2.2 := by
  intro k
  induction k with
  | zero =>
    intro i c m hk hi hR hB hI
    obtain ⟨i1, i2, i3, i4, i5, i6, i7, i8, i9⟩ := hI
    have h8 : i = 8 := by omega
    subst h8
    obtain ⟨p, e1⟩ := en159_full hn1 i1
    have e2 := en38_full hn8 i2
    rw [zLoop_inr e1, zLoop_inr e2]
    have u1 : fH 2 [] [4, 6] c (rUp (fn114 [] c).2.2 2 0 4 p) := by
      rw [fn114_eq]
      exact fH_fld (fH_fld fH_refl (by decide)) (by decide)
    have u2 : fH 15 [] [35, 36] m (fn8 [(fn7 [] m).2.2 15 0 35] (fn7 [] m).2.2).2.2 := by
      rw [fn7_eq]
      exact fH_trans (fH_fld fH_refl (by decide)) (fH_sub fn8_fr (by decide) (by decide))
    exact ⟨qZ_up hR (by decide) (fH_sub u1 (by decide) (by decide)) (fH_sub u2 (by decide) (by decide)), fD_tr i7 (fD_H u1 (by decide)), fE_tr i8 (fE_H u2 (by decide) (by decide))⟩
  | succ k ih =>
    intro i c m hk hi hR hB hI
    obtain ⟨i1, i2, i3, i4, i5, i6, i7, i8, i9⟩ := hI
    have h8 : i < 8 := by omega
    have hpc : c 2 0 7 = 2 := by rw [i4.2 7 (by decide)]; exact hpu
    have c10 : ∀ j, j ≠ 7 → c 1 0 j = cS 1 0 j := fun j hj => by rw [hcS j hj]; exact hR.2.2.2.2.2.2.1 j hj
    have hn1c : c 40 0 (c 1 0 10) = n1 := by rw [i4.1 40 (by decide) (by decide), c10 10 (by decide)]; exact hn1
    have hG : qG c = i + 9 * n1 + 1 := by
      unfold qG
      rw [hn1c, i1]
    have e42 : fn37 [0] (fn7 [] m).2.2 = fnQ [] m := by rw [fn37_is, fn7_eq]; exact fnQ_look
    have hQ : qQ0 m = i + 8 * n8 := by
      unfold qQ0
      rw [i5.2 44 (by decide), hn8, i2]
    have hc0 : c0 2 0 3 = m0 15 0 34 := by
      rw [← hR.2.2.2.2.2.1.2 3 (by decide), hR.1.1]
      exact hR.2.2.2.2.2.2.2.1.2 34 (by decide)
    have oc : fO (qG c) c (fn157 [] c).2.2 := fn157_o
    have ym : fY (qQ0 m) m (fnQ [] m).2.2 := by rw [← fn37_is]; exact fn37_y
    rcases goal_two_a hR hB h00 hlim (by omega) hpc with ⟨c3, m3, g1, g2, g3⟩ | ⟨c3, m3, g1, g2, g3⟩
    · obtain ⟨r1, r2, r3, r4, r5, r6, r7⟩ := g3
      rw [g1] at oc
      rw [g2] at ym
      have oc : fO (qG c) c c3 := oc
      have ym : fY (qQ0 m) m m3 := ym
      have nc3 : c3 2 0 3 ≠ 0 := by rw [r1.2.2.2.2.2.1.2 3 (by decide), hc0]; exact hne
      have nm3 : m3 15 0 34 ≠ 0 := by rw [r1.2.2.2.2.2.2.2.1.2 34 (by decide)]; exact hne
      obtain ⟨w1, w2, w3, w4, w5, w6, w7⟩ := ym nm3
      have D3 : fD n1 cS c3 := fD_tr i7 (fD_o oc nc3 (by rw [hG]; omega) (by rw [hG]; omega))
      have E3 : fE n8 mS m3 := fE_tr i8 (fE_y ym nm3 (by rw [hQ]; omega))
      have a1 := en159_go hn1 i1 h8 g1
      have a2 := en38_go hn8 i2 (show i ≠ 8 by omega) (e42.trans g2)
      obtain ⟨x1, x2, x3⟩ := qNx_fr (n1 := n1) (i := i) (a := c 9 n1 3) (c3 := c3)
      obtain ⟨x4, x5, x6, x7⟩ := qNx_in (n1 := n1) (i := i) (a := c 9 n1 3) (c3 := c3) hi h8
      have d3 : c3 9 n1 3 = c 9 n1 3 := by rw [(oc nc3).2.2.2.1]
      rw [d3] at x6
      generalize qNx n1 i (c 9 n1 3) c3 = c4 at *
      have y1 : fH 15 [73] [] m3 (rUp m3 73 0 n8 (i + 1)) := fH_grp fH_refl (by decide) (by decide)
      have y2 : rUp m3 73 0 n8 (i + 1) 73 0 n8 = i + 1 := rUp_at
      have y3 : fE n8 m3 (rUp m3 73 0 n8 (i + 1)) := fE_73
      generalize rUp m3 73 0 n8 (i + 1) = m4 at *
      have D4 : fD n1 cS c4 := fD_tr D3 x4
      have E4 : fE n8 mS m4 := fE_tr E3 y3
      have G4 : gGs (sN c0 m0) n8 n1 (i + 1) (mS 15 0 45) c4 m4 := by
        rw [hQ] at w4 w5
        rw [hG, i5.2 44 (by decide), hn8, i2] at r7
        rw [show i + 9 * n1 + 1 = 9 * n1 + (i + 1) by omega] at r7 x3 x5 x6
        refine gGs_add i9 hi h8 (by rw [← r2.2.2.1]; exact r2.2.2.2.1) r7 (fun K g z g0 g1 => ?_) (fun K x z1 z2 => by rw [y1.1 K (by rcases z1 with rfl | rfl | rfl <;> decide) (by omega)]; exact w4 K x z1 z2) (fun K x z1 z2 => by rw [y1.1 K (by rcases z1 with rfl | rfl <;> decide) (by omega)]; exact w5 K x z1 z2) (by rw [y1.2 14 (by decide)]; exact w6) (fun p z => by rw [y1.1 66 (by decide) (by decide)]; exact w7 p z) (fun j z => x5 j z) (fun K z => ?_) (fun K z => y1.1 K (by rcases z with rfl | rfl | rfl | rfl | rfl | rfl <;> decide) (by omega)) (y1.2 14 (by decide)) (y1.2 45 (by decide)) x6
        · rw [x3 K _ (by omega) (by omega)]
          exact r6 K _ (by rcases z with rfl | rfl | rfl | rfl <;> decide) (by rw [hG]; omega)
        · rw [x7 K z]
      have hR4 : qR 1 c0 m0 c4 m4 := by
        refine qR_up r1 (fH_sub x1 (by decide) (by decide)) (fH_sub y1 (by decide) (by decide)) ?_ ?_ ?_ ?_
        · rw [x1.2 6 (by decide), y1.2 35 (by decide)]; exact r1.2.1.1
        · rw [y1.2 35 (by decide)]; exact Int.le_refl _
        · rw [y1.2 35 (by decide)]; exact r1.2.1.2.1
        · rw [y1.2 35 (by decide)]; exact r1.2.1.2.2
      have hB4 : qB H c4 m4 := by
        obtain ⟨s1, s2, s3, s4, s5⟩ := r2
        have g74 : m4 74 0 (m4 15 0 44) = m3 74 0 (m3 15 0 44) := by rw [y1.1 74 (by decide) (by decide), y1.2 44 (by decide)]
        refine ⟨qS_up s1 (y1.2 44 (by decide)) (y1.1 74 (by decide) (by decide)) (y1.1 84 (by decide) (by decide)) (by rw [y1.2 35 (by decide)]; exact Int.le_refl _), qO_up s2 (x1.2 16 (by decide)) (x1.1 25 (by decide) (by decide)) (y1.2 58 (by decide)) (y1.1 89 (by decide) (by decide)) (y1.1 90 (by decide) (by decide)) (y1.1 91 (by decide) (by decide)) (by rw [g74]; exact Int.le_refl _), ?_, ?_, ?_⟩
        · rw [x1.2 5 (by decide), y1.2 45 (by decide)]; exact s3
        · rw [x1.2 5 (by decide)]; exact s4
        · rw [x1.2 5 (by decide), g74]; exact s5
      have F4 : fH 2 (9 :: lG) jG cS c4 := fH_trans (fH_trans i4 (fH_sub r4 (by decide) (by decide))) (fH_sub x1 (by decide) (by decide))
      have M4 : fH 15 (73 :: lH) jH mS m4 := fH_trans (fH_trans i5 (fH_sub r5 (by decide) (by decide))) (fH_sub y1 (by decide) (by decide))
      have hd4 : ∀ G, G ∈ [10, 43, 44, 45, 46] → c4 G (9 * n1) = cS G (9 * n1) := by
        intro G q
        rw [x3 G (9 * n1) (by omega) (by rintro rfl; exact absurd q (by decide)), r6 G (9 * n1) q (by rw [hG]; omega)]
        exact i6 G q
      have l4 : mS 15 0 34 = m4 15 0 34 := (M4.2 34 (by decide)).symm
      obtain ⟨q, L, k1, k2, k3, k4, k5, k6, k7⟩ := look_two hR4.1 hR4.2.1 [] []
      have n6 : rUp c4 2 0 6 q 2 0 6 = q := rUp_at
      have n35 : rUp m4 15 0 35 q 15 0 35 = q := rUp_at
      have n34 : rUp m4 15 0 35 q 15 0 34 = m4 15 0 34 := rUp_ne (by decide)
      have n59 : rUp m4 15 0 35 q 59 = m4 59 := rUp_grp (by decide)
      have at0 := hR4.2.1.2.1
      rw [k2] at a2
      simp only [n35, n34, n59, l4] at a2
      unfold qSa at a1
      rw [k1] at a1
      simp only [n6] at a1
      have i44 : (L = 44) = (pB (m4 59 0) (m4 15 0 34) q = 44) := qL_is k5 (by decide) (by decide)
      have i46 : (L = 46) = (pB (m4 59 0) (m4 15 0 34) q = 46) := qL_is k5 (by decide) (by decide)
      by_cases hq : q < m4 15 0 34
      · have hL := k6.2 hq
        have hb : (0 : Int) ≤ -q + m4 15 0 34 + -1 := by omega
        rw [if_pos hL] at a1
        rw [if_pos hb] at a2
        by_cases h44 : L = 44
        · rw [if_pos h44] at a1
          have h44m : pB (m4 59 0) (m4 15 0 34) q = 44 := by rw [← i44]; exact h44
          rw [if_neg (fun z => z h44m)] at a2
          rw [zLoop_inl a1, zLoop_inl a2]
          have o35 : rUp (rUp m4 15 0 35 q) 15 0 35 (q + 1) 15 0 35 = q + 1 := rUp_at
          have o6 : rUp (rUp c4 2 0 6 q) 2 0 6 (q + 1) 2 0 6 = q + 1 := rUp_at
          have fc : fH 2 [] [6] c4 (rUp (rUp c4 2 0 6 q) 2 0 6 (q + 1)) := fH_fld (fH_fld fH_refl (by decide)) (by decide)
          have fm : fH 15 [] [35] m4 (rUp (rUp m4 15 0 35 q) 15 0 35 (q + 1)) := fH_fld (fH_fld fH_refl (by decide)) (by decide)
          generalize rUp (rUp c4 2 0 6 q) 2 0 6 (q + 1) = c5 at *
          generalize rUp (rUp m4 15 0 35 q) 15 0 35 (q + 1) = m5 at *
          refine ih (i + 1) c5 m5 (by omega) (by omega) ?_ ?_ ⟨?_, ?_, ?_, ?_, ?_, ?_, fD_tr D4 (fD_H fc (by decide)), fE_tr E4 (fE_H fm (by decide) (by decide)), gGs_H G4 (by omega) (by omega) fc (by decide) fm (by decide) (by decide)⟩
          · refine qR_up hR4 (fH_sub fc (by decide) (by decide)) (fH_sub fm (by decide) (by decide)) ?_ ?_ ?_ ?_
            · rw [o6, o35]
            · rw [o35]; omega
            · rw [o35]; omega
            · rw [o35]; omega
          · exact qB_sign hB4 (fH_sub fc (by decide) (by decide)) (fH_sub fm (by decide) (by decide)) (by rw [o35]; omega)
          · rw [fc.1 9 (by decide) (by decide)]; exact x2
          · rw [fm.1 73 (by decide) (by decide)]; exact y2
          · rw [fc.2 16 (by decide), x1.2 16 (by decide)]; omega
          · exact fH_trans F4 (fH_sub fc (by decide) (by decide))
          · exact fH_trans M4 (fH_sub fm (by decide) (by decide))
          · intro G z
            rw [fc.1 G (memG z).2.2.2.2.2 (memG z).1]; exact hd4 G z
        · have h44m : pB (m4 59 0) (m4 15 0 34) q ≠ 44 := by rw [ne_eq, ← i44]; exact h44
          rw [if_neg h44] at a1
          rw [if_pos h44m] at a2
          rw [zLoop_inl a2, zLoop_inr en38_end, zLoop_inr a1]
          exact ⟨qZ_up hR4 (by decide) (fH_fld (fH_fld fH_refl (by decide)) (by decide)) (fH_fld fH_refl (by decide)), fD_tr D4 (fD_H (L := []) (J := [4, 6]) (fH_fld (fH_fld fH_refl (by decide)) (by decide)) (by decide)), fE_tr E4 (fE_H (L := []) (J := [35]) (fH_fld fH_refl (by decide)) (by decide) (by decide))⟩
      · have hb : ¬ (0 : Int) ≤ -q + m4 15 0 34 + -1 := by omega
        rw [if_neg (fun z => hq (k6.1 z))] at a1
        rw [if_neg hb] at a2
        have e1 : (zLoop (en159 cS) (0, [], c)).2.2 = (fn152 [] (rUp (rUp c4 2 0 6 q) 2 0 6 (q + 1))).2.2 := by
          split at a1
          · rw [zLoop_inr a1]
          · rw [zLoop_inr a1]
        rw [zLoop_inl a2, zLoop_inr en38_end, e1]
        exact ⟨qZ_up hR4 (by decide) (fH_trans (fH_fld (fH_fld fH_refl (by decide)) (by decide)) (fH_sub fn152_fr (by decide) (by decide))) (fH_fld fH_refl (by decide)), fD_tr D4 (fD_H (L := []) (J := [4, 6]) (fH_trans (fH_fld (fH_fld fH_refl (by decide)) (by decide)) (fH_sub fn152_fr (by decide) (by decide))) (by decide)), fE_tr E4 (fE_H (L := []) (J := [35]) (fH_fld fH_refl (by decide)) (by decide) (by decide))⟩
    · rw [zLoop_inr (en159_bad hn1 i1 h8 g1), zLoop_inr (en38_bad hn8 i2 (show i ≠ 8 by omega) (e42.trans g2))]
      rw [g1] at oc
      rw [g2] at ym
      have oc : fO (qG c) c c3 := oc
      have ym : fY (qQ0 m) m m3 := ym
      have nc3 : c3 2 0 3 ≠ 0 := by rw [g3.2.2.1.2 3 (by decide), hc0]; exact hne
      have nm3 : m3 15 0 34 ≠ 0 := by rw [g3.2.2.2.2.1.2 34 (by decide)]; exact hne
      exact ⟨g3, fD_tr i7 (fD_o oc nc3 (by rw [hG]; omega) (by rw [hG]; omega)), fE_tr i8 (fE_y ym nm3 (by rw [hQ]; omega))⟩
