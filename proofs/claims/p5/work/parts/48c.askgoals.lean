/-! ===== the GOALS by both, when asked ===== -/
theorem fnQ_look {g : rHp} : fnQ [] (rUp g 15 0 35 (pSk (g 59 0) (g 15 0 34) (g 15 0 35))) = fnQ [] g := by
  have key : fn7 [] (rUp g 15 0 35 (pSk (g 59 0) (g 15 0 34) (g 15 0 35))) = fn7 [] g := by
    rw [fn7_eq, fn7_eq, rUp_at, rUp_two, rUp_grp (show (59 : Nat) ≠ 15 by decide), rUp_ne (show ¬ ((15 : Nat) = 15 ∧ (0 : Int) = 0 ∧ (34 : Int) = 35) by decide), pSk_idem]
  have k34 : rUp g 15 0 35 (pSk (g 59 0) (g 15 0 34) (g 15 0 35)) 15 0 34 = g 15 0 34 := rUp_ne (by decide)
  have k44 : rUp g 15 0 35 (pSk (g 59 0) (g 15 0 34) (g 15 0 35)) 15 0 44 = g 15 0 44 := rUp_ne (by decide)
  have k45 : rUp g 15 0 35 (pSk (g 59 0) (g 15 0 34) (g 15 0 35)) 15 0 45 = g 15 0 45 := rUp_ne (by decide)
  have k73 : rUp g 15 0 35 (pSk (g 59 0) (g 15 0 34) (g 15 0 35)) 73 = g 73 := rUp_grp (by decide)
  unfold fnQ
  simp only [zLet, key, k34, k44, k45, k73]
noncomputable def qSa (g : rHp) : zSt :=
  if 0 ≤ (fn114 [] g).2.1 then
    (if (fn114 [] g).2.1 = 44 then .inl (0, [], rUp (fn114 [] g).2.2 2 0 6 ((fn114 [] g).2.2 2 0 6 + 1)) else .inr (0, 0, rUp (fn114 [] g).2.2 2 0 4 ((fn114 [] g).2.2 2 0 6)))
  else (if 1 ≤ (fn152 [] (rUp (fn114 [] g).2.2 2 0 6 ((fn114 [] g).2.2 2 0 6 + 1))).2.1 then .inr (0, 1, (fn152 [] (rUp (fn114 [] g).2.2 2 0 6 ((fn114 [] g).2.2 2 0 6 + 1))).2.2) else .inr (0, 0, (fn152 [] (rUp (fn114 [] g).2.2 2 0 6 ((fn114 [] g).2.2 2 0 6 + 1))).2.2))
theorem en159_go {cS c c3 : rHp} {n1 i : Int} (hn : cS 40 0 (cS 1 0 10) = n1) (hi : c 9 n1 2 = i) (h8 : i < 8) (h : fn157 [] c = (0, 1, c3)) : en159 cS (0, [], c) = qSa (qNx n1 i (c 9 n1 3) c3) := by
  have f132 : ∀ x (g : rHp), (fn132 x g).2.2 = g := fun x g => rfl
  unfold en159 qSa qNx
  simp only [zLet, ↓reduceIte, hn, hi, f132, h, fn109_eq]
  rw [if_neg (show ¬ i ≥ 8 by omega), if_pos (show (1 : Int) ≤ 1 by decide)]
  by_cases k3 : 3 ≤ c3 10 (i + 9 * n1 + 1) 4
  · rw [if_pos k3, if_neg (show ¬ c3 10 (i + 9 * n1 + 1) 4 = 1 by omega)]
    split <;> rfl
  · rw [if_neg k3]
    by_cases k1 : c3 10 (i + 9 * n1 + 1) 4 = 1
    · rw [if_neg (fun z => z k1), if_pos k1]
    · rw [if_pos k1, if_neg k1]
theorem en159_bad {cS c c3 : rHp} {n1 i : Int} (hn : cS 40 0 (cS 1 0 10) = n1) (hi : c 9 n1 2 = i) (h8 : i < 8) (h : fn157 [] c = (0, 0, c3)) : en159 cS (0, [], c) = .inr (0, 0, c3) := by
  have f132 : ∀ x (g : rHp), (fn132 x g).2.2 = g := fun x g => rfl
  unfold en159
  simp only [zLet, ↓reduceIte, hn, hi, f132, h]
  rw [if_neg (show ¬ i ≥ 8 by omega), if_neg (show ¬ (1 : Int) ≤ 0 by decide)]
theorem en159_full {cS c : rHp} {n1 : Int} (hn : cS 40 0 (cS 1 0 10) = n1) (hi : c 9 n1 2 = 8) : ∃ p, en159 cS (0, [], c) = .inr (0, 0, rUp (fn114 [] c).2.2 2 0 4 p) := by
  refine ⟨(fn114 [] c).2.2 2 0 6, ?_⟩
  unfold en159
  simp only [zLet, ↓reduceIte, hn, hi, fn109_eq]
  rw [if_pos (show (8 : Int) ≥ 8 by decide)]
  split <;> rfl
theorem en38_go {mS m m3 : rHp} {i n8 : Int} (h44 : mS 15 0 44 = n8) (hi : m 73 0 n8 = i) (h8 : i ≠ 8) (h : fn37 [0] (fn7 [] m).2.2 = (0, 1, m3)) : en38 mS (0, [0, 1], m) =
    (if 0 ≤ -(fn7 [] (rUp m3 73 0 n8 (i + 1))).2.2 15 0 35 + mS 15 0 34 + (-1) then (if pB ((fn7 [] (rUp m3 73 0 n8 (i + 1))).2.2 59 0) ((fn7 [] (rUp m3 73 0 n8 (i + 1))).2.2 15 0 34) ((fn7 [] (rUp m3 73 0 n8 (i + 1))).2.2 15 0 35) ≠ 44 then .inl (0, [0, 0], (fn7 [] (rUp m3 73 0 n8 (i + 1))).2.2) else .inl (0, [0, 1], rUp (fn7 [] (rUp m3 73 0 n8 (i + 1))).2.2 15 0 35 ((fn7 [] (rUp m3 73 0 n8 (i + 1))).2.2 15 0 35 + 1))) else .inl (0, [0, 0], (fn7 [] (rUp m3 73 0 n8 (i + 1))).2.2)) := by
  unfold en38
  simp only [zLet, ↓reduceIte, List.getD_cons_zero, List.getD_cons_succ, h44, hi, h, fn6_eq]
  rw [if_neg (show ¬ (1 : Int) = 0 by decide), if_pos h8, if_pos (show (1 : Int) ≤ 1 by decide)]
  split <;> rfl
theorem en38_bad {mS m m3 : rHp} {i n8 : Int} (h44 : mS 15 0 44 = n8) (hi : m 73 0 n8 = i) (h8 : i ≠ 8) (h : fn37 [0] (fn7 [] m).2.2 = (0, 0, m3)) : en38 mS (0, [0, 1], m) = .inr (0, 0, m3) := by
  unfold en38
  simp only [zLet, ↓reduceIte, List.getD_cons_zero, List.getD_cons_succ, h44, hi, h, fn6_eq]
  rw [if_neg (show ¬ (1 : Int) = 0 by decide), if_pos h8, if_neg (show ¬ (1 : Int) ≤ 0 by decide)]
theorem en38_full {mS m : rHp} {n8 : Int} (h44 : mS 15 0 44 = n8) (hi : m 73 0 n8 = 8) : en38 mS (0, [0, 1], m) = .inr (0, 0, (fn8 [(fn7 [] m).2.2 15 0 35] (fn7 [] m).2.2).2.2) := by
  unfold en38
  simp only [zLet, ↓reduceIte, List.getD_cons_zero, List.getD_cons_succ, h44, hi]
  rw [if_neg (show ¬ (1 : Int) = 0 by decide), if_neg (fun z => z rfl)]
theorem en38_end {mS m : rHp} : en38 mS (0, [0, 0], m) = .inr (0, 1, m) := by
  unfold en38
  simp only [zLet, ↓reduceIte, List.getD_cons_zero, List.getD_cons_succ]
theorem fn152_fr {c : rHp} : fH 2 [] [4] c (fn152 [] c).2.2 := by
  rw [fn152_eq]
  split
  · exact fH_refl
  · exact fH_fld fH_refl (by decide)
theorem goals_loop_a {H : Int → Prop} {c0 m0 cS mS : rHp} {n1 n8 : Int} (h00 : 0 ≤ c0 1000 0 0) (hlim : 2 * c0 1000 0 0 + m0 15 0 34 ≤ 10239) (hn1 : cS 40 0 (cS 1 0 10) = n1) (hn8 : mS 15 0 44 = n8) (hpu : cS 2 0 7 = 2) (hcS : ∀ j, j ≠ 7 → cS 1 0 j = c0 1 0 j) :
    ∀ (k : Nat) (i : Int) (c m : rHp), i + k = 8 → 0 ≤ i → qR 0 c0 m0 c m → qB H c m → qI cS mS n1 n8 i c m →
    qZ c0 m0 (zLoop (en159 cS) (0, [], c)).2.2 (zLoop (en38 mS) (0, [0, 1], m)).2.2 := by
  intro k
  induction k with
  | zero =>
    intro i c m hk hi hR hB hI
    obtain ⟨i1, i2, i3, i4, i5, i6⟩ := hI
    have h8 : i = 8 := by omega
    subst h8
    obtain ⟨p, e1⟩ := en159_full hn1 i1
    have e2 := en38_full hn8 i2
    rw [zLoop_inr e1, zLoop_inr e2]
    refine qZ_up hR (by decide) ?_ ?_
    · rw [fn114_eq]
      exact fH_fld (fH_fld fH_refl (by decide)) (by decide)
    · rw [fn7_eq]
      exact fH_trans (fH_fld fH_refl (by decide)) (fH_sub fn8_fr (by decide) (by decide))
  | succ k ih =>
    intro i c m hk hi hR hB hI
    obtain ⟨i1, i2, i3, i4, i5, i6⟩ := hI
    have h8 : i < 8 := by omega
    have hpc : c 2 0 7 = 2 := by rw [i4.2 7 (by decide)]; exact hpu
    have c10 : ∀ j, j ≠ 7 → c 1 0 j = cS 1 0 j := fun j hj => by rw [hcS j hj]; exact hR.2.2.2.2.2.2.1 j hj
    have hn1c : c 40 0 (c 1 0 10) = n1 := by rw [i4.1 40 (by decide) (by decide), c10 10 (by decide)]; exact hn1
    have hG : qG c = i + 9 * n1 + 1 := by
      unfold qG
      rw [hn1c, i1]
    have e42 : fn37 [0] (fn7 [] m).2.2 = fnQ [] m := by rw [fn37_is, fn7_eq]; exact fnQ_look
    rcases goal_two_a hR hB h00 hlim (by omega) hpc with ⟨c3, m3, g1, g2, g3⟩ | ⟨c3, m3, g1, g2, g3⟩
    · obtain ⟨r1, r2, r3, r4, r5, r6⟩ := g3
      have a1 := en159_go hn1 i1 h8 g1
      have a2 := en38_go hn8 i2 (show i ≠ 8 by omega) (e42.trans g2)
      obtain ⟨x1, x2, x3⟩ := qNx_fr (n1 := n1) (i := i) (a := c 9 n1 3) (c3 := c3)
      generalize qNx n1 i (c 9 n1 3) c3 = c4 at *
      have y1 : fH 15 [73] [] m3 (rUp m3 73 0 n8 (i + 1)) := fH_grp fH_refl (by decide) (by decide)
      have y2 : rUp m3 73 0 n8 (i + 1) 73 0 n8 = i + 1 := rUp_at
      generalize rUp m3 73 0 n8 (i + 1) = m4 at *
      have hR4 : qR 1 c0 m0 c4 m4 := by
        refine qR_up r1 (fH_sub x1 (by decide) (by decide)) (fH_sub y1 (by decide) (by decide)) ?_ ?_ ?_ ?_
        · rw [x1.2 6 (by decide), y1.2 35 (by decide)]; exact r1.2.1.1
        · rw [y1.2 35 (by decide)]; exact Int.le_refl _
        · rw [y1.2 35 (by decide)]; exact r1.2.1.2.1
        · rw [y1.2 35 (by decide)]; exact r1.2.1.2.2
      have hB4 : qB H c4 m4 := by
        obtain ⟨s1, s2, s3, s4, s5⟩ := r2
        have g74 : m4 74 0 (m4 15 0 44) = m3 74 0 (m3 15 0 44) := by rw [y1.1 74 (by decide) (by decide), y1.2 44 (by decide)]
        refine ⟨qS_up s1 (y1.2 44 (by decide)) (y1.1 74 (by decide) (by decide)) (y1.1 84 (by decide) (by decide)) (by rw [y1.2 35 (by decide)]; exact Int.le_refl _), qO_up s2 (x1.2 16 (by decide)) (x1.1 25 (by decide) (by decide)) (y1.2 58 (by decide)) (y1.1 89 (by decide) (by decide)) (y1.1 90 (by decide) (by decide)) (y1.1 91 (by decide) (by decide)) (by rw [g74]; exact Int.le_refl _), ?_, ?_, ?_⟩
        · rw [x1.2 5 (by decide), y1.2 45 (by decide)]; exact s3
        · rw [x1.2 5 (by decide)]; exact s4
        · rw [x1.2 5 (by decide), g74]; exact s5
      have F4 : fH 2 (9 :: lG) jG cS c4 := fH_trans (fH_trans i4 (fH_sub r4 (by decide) (by decide))) (fH_sub x1 (by decide) (by decide))
      have M4 : fH 15 (73 :: lH) jH mS m4 := fH_trans (fH_trans i5 (fH_sub r5 (by decide) (by decide))) (fH_sub y1 (by decide) (by decide))
      have hd4 : ∀ G, G ∈ [10, 43, 44, 45, 46] → c4 G (9 * n1) = cS G (9 * n1) := by
        intro G q
        rw [x3 G (9 * n1) (by omega) (by rintro rfl; exact absurd q (by decide)), r6 G (9 * n1) q (by rw [hG]; omega)]
        exact i6 G q
      have l4 : mS 15 0 34 = m4 15 0 34 := (M4.2 34 (by decide)).symm
      obtain ⟨q, L, k1, k2, k3, k4, k5, k6, k7⟩ := look_two hR4.1 hR4.2.1 [] []
      have n6 : rUp c4 2 0 6 q 2 0 6 = q := rUp_at
      have n35 : rUp m4 15 0 35 q 15 0 35 = q := rUp_at
      have n34 : rUp m4 15 0 35 q 15 0 34 = m4 15 0 34 := rUp_ne (by decide)
      have n59 : rUp m4 15 0 35 q 59 = m4 59 := rUp_grp (by decide)
      have at0 := hR4.2.1.2.1
      rw [k2] at a2
      simp only [n35, n34, n59, l4] at a2
      unfold qSa at a1
      rw [k1] at a1
      simp only [n6] at a1
      have i44 : (L = 44) = (pB (m4 59 0) (m4 15 0 34) q = 44) := qL_is k5 (by decide) (by decide)
      have i46 : (L = 46) = (pB (m4 59 0) (m4 15 0 34) q = 46) := qL_is k5 (by decide) (by decide)
      by_cases hq : q < m4 15 0 34
      · have hL := k6.2 hq
        have hb : (0 : Int) ≤ -q + m4 15 0 34 + -1 := by omega
        rw [if_pos hL] at a1
        rw [if_pos hb] at a2
        by_cases h44 : L = 44
        · rw [if_pos h44] at a1
          have h44m : pB (m4 59 0) (m4 15 0 34) q = 44 := by rw [← i44]; exact h44
          rw [if_neg (fun z => z h44m)] at a2
          rw [zLoop_inl a1, zLoop_inl a2]
          have o35 : rUp (rUp m4 15 0 35 q) 15 0 35 (q + 1) 15 0 35 = q + 1 := rUp_at
          have o6 : rUp (rUp c4 2 0 6 q) 2 0 6 (q + 1) 2 0 6 = q + 1 := rUp_at
          have fc : fH 2 [] [6] c4 (rUp (rUp c4 2 0 6 q) 2 0 6 (q + 1)) := fH_fld (fH_fld fH_refl (by decide)) (by decide)
          have fm : fH 15 [] [35] m4 (rUp (rUp m4 15 0 35 q) 15 0 35 (q + 1)) := fH_fld (fH_fld fH_refl (by decide)) (by decide)
          generalize rUp (rUp c4 2 0 6 q) 2 0 6 (q + 1) = c5 at *
          generalize rUp (rUp m4 15 0 35 q) 15 0 35 (q + 1) = m5 at *
          refine ih (i + 1) c5 m5 (by omega) (by omega) ?_ ?_ ⟨?_, ?_, ?_, ?_, ?_, ?_⟩
          · refine qR_up hR4 (fH_sub fc (by decide) (by decide)) (fH_sub fm (by decide) (by decide)) ?_ ?_ ?_ ?_
            · rw [o6, o35]
            · rw [o35]; omega
            · rw [o35]; omega
            · rw [o35]; omega
          · exact qB_sign hB4 (fH_sub fc (by decide) (by decide)) (fH_sub fm (by decide) (by decide)) (by rw [o35]; omega)
          · rw [fc.1 9 (by decide) (by decide)]; exact x2
          · rw [fm.1 73 (by decide) (by decide)]; exact y2
          · rw [fc.2 16 (by decide), x1.2 16 (by decide)]; omega
          · exact fH_trans F4 (fH_sub fc (by decide) (by decide))
          · exact fH_trans M4 (fH_sub fm (by decide) (by decide))
          · intro G z
            rw [fc.1 G (memG z).2.2.2.2.2 (memG z).1]; exact hd4 G z
        · have h44m : pB (m4 59 0) (m4 15 0 34) q ≠ 44 := by rw [ne_eq, ← i44]; exact h44
          rw [if_neg h44] at a1
          rw [if_pos h44m] at a2
          rw [zLoop_inl a2, zLoop_inr en38_end, zLoop_inr a1]
          exact qZ_up hR4 (by decide) (fH_fld (fH_fld fH_refl (by decide)) (by decide)) (fH_fld fH_refl (by decide))
      · have hb : ¬ (0 : Int) ≤ -q + m4 15 0 34 + -1 := by omega
        rw [if_neg (fun z => hq (k6.1 z))] at a1
        rw [if_neg hb] at a2
        have e1 : (zLoop (en159 cS) (0, [], c)).2.2 = (fn152 [] (rUp (rUp c4 2 0 6 q) 2 0 6 (q + 1))).2.2 := by
          split at a1
          · rw [zLoop_inr a1]
          · rw [zLoop_inr a1]
        rw [zLoop_inl a2, zLoop_inr en38_end, e1]
        exact qZ_up hR4 (by decide) (fH_trans (fH_fld (fH_fld fH_refl (by decide)) (by decide)) (fH_sub fn152_fr (by decide) (by decide))) (fH_fld fH_refl (by decide))
    · rw [zLoop_inr (en159_bad hn1 i1 h8 g1), zLoop_inr (en38_bad hn8 i2 (show i ≠ 8 by omega) (e42.trans g2))]
      exact g3
theorem goals_two_a {H : Int → Prop} {c0 m0 c m : rHp} {n1 : Int} (hR : qR 0 c0 m0 c m) (hB : qB H c m) (h00 : 0 ≤ c0 1000 0 0) (hlim : 2 * c0 1000 0 0 + m0 15 0 34 ≤ 10239) (hn1 : c 40 0 (c 1 0 10) = n1) (h16 : c 2 0 16 = 0) (h73 : m 73 0 (m 15 0 44) = 0) (hpu : c 2 0 7 = 2) :
    qZ c0 m0 (fn159 [] c).2.2 (fn38 [0] m).2.2 := by
  have e1 : fn159 [] c = zLoop (en159 c) (0, [], rUp (rUp c 9 n1 2 0) 9 n1 3 0) := by
    unfold fn159 dn159
    simp only [zLet, hn1]
    rfl
  have e2 : fn38 [0] m = zLoop (en38 m) (0, [0, 1], m) := rfl
  have fc : fH 2 [9] [] c (rUp (rUp c 9 n1 2 0) 9 n1 3 0) := fH_grp (fH_grp fH_refl (by decide) (by decide)) (by decide) (by decide)
  have x2 : rUp (rUp c 9 n1 2 0) 9 n1 3 0 9 n1 2 = 0 := by rw [rUp_ne (fun y => absurd y.2.2 (by decide)), rUp_at]
  rw [e1, e2]
  generalize rUp (rUp c 9 n1 2 0) 9 n1 3 0 = c1 at *
  refine goals_loop_a (H := H) (n1 := n1) (n8 := m 15 0 44) h00 hlim hn1 rfl hpu (fun j hj => hR.2.2.2.2.2.2.1 j hj) 8 0 c1 m (by decide) (by decide) ?_ ?_ ⟨x2, h73, ?_, ?_, fH_refl, ?_⟩
  · refine qR_up hR (fH_sub fc (by decide) (by decide)) fH_refl ?_ (Int.le_refl _) hR.2.1.2.1 hR.2.1.2.2
    rw [fc.2 6 (by decide)]; exact hR.2.1.1
  · exact qB_c hB (fc.2 5 (by decide)) (fc.2 16 (by decide)) (fc.1 25 (by decide) (by decide))
  · rw [fc.2 16 (by decide), h16]; decide
  · exact fH_sub fc (by decide) (by decide)
  · intro G z
    rw [fc.1 G (by simp only [List.mem_cons, List.not_mem_nil, or_false] at z ⊢; omega) (memG z).1]
