/-! ===== a question by both, with what it holds ===== -/
theorem stray_iff {c m : rHp} (hV : qV c m) (hB : qB (fun _ => False) c m) :
    (c 2 0 16 ≤ pIx (fun i => decide (c 23 0 (c 25 0 i) ≤ 1)) (c 2 0 16) 0) ↔ m 15 0 58 ≤ pIx (qPd m) (m 15 0 58) 0 := by
  obtain ⟨s1, ⟨a1, a2, a3, a4, a5, a6⟩, s3, s4, s5⟩ := hB
  obtain ⟨v1, v2, v3, v4⟩ := hV
  rw [pIx_all, pIx_all]
  constructor
  · intro x2 k k0 k1
    obtain ⟨b1, b2, b3⟩ := a4 k k0 k1
    have t : m 91 0 k ≠ 0 := fun t => (a6 (m 89 0 k)).1 ⟨k, k0, k1, t, rfl⟩
    unfold qPd
    rw [if_neg t]
    by_cases hb : qBt (m 90 0 k) (m 89 0 k) = 1
    · simp [hb]
    · obtain ⟨i, i0, i1, i2⟩ := (a5 _).2 ⟨k, k0, k1, b3.resolve_left t, rfl, hb⟩
      have y := x2 i i0 i1
      simp only [decide_eq_true_eq, i2] at y
      have y2 := (v4 _ b1.1 b2).2
      have y3 := s1 _ b1.1 b2
      have z : m 84 0 (m 89 0 k) = 1 := by omega
      simp [z]
  · intro x i i0 i1
    obtain ⟨k, k0, k1, k2, k3, k4⟩ := (a5 (c 25 0 i)).1 ⟨i, i0, i1, rfl⟩
    obtain ⟨b1, b2, b3⟩ := a4 k k0 k1
    have y := x k k0 k1
    unfold qPd at y
    rw [if_neg (by omega), k3] at y
    rw [k3] at b1 b2
    have y2 := (v4 _ b1.1 b2).2
    have y4 : m 84 0 (c 25 0 i) = 1 := by
      simpa [k4] using y
    simp only [decide_eq_true_eq]
    omega
theorem ask_end {c m : rHp} (hV : qV c m) (hB : qB (fun _ => False) c m) : (fn152 [] c = (0, 1, c) ∧ fn28 [] m = (0, 1, m)) ∨ (∃ c_q m_q, fn152 [] c = (0, 0, c_q) ∧ fn28 [] m = (0, 0, m_q)) := by
  have key := stray_iff hV hB
  have g28 := fn28_eq [] m
  have g152 := fn152_eq [] c
  by_cases x2 : c 2 0 16 ≤ pIx (fun i => decide (c 23 0 (c 25 0 i) ≤ 1)) (c 2 0 16) 0
  · rw [if_pos x2] at g152
    rw [if_pos (key.1 x2)] at g28
    exact Or.inl ⟨g152, g28⟩
  · rw [if_neg x2] at g152
    rw [if_neg (fun z => x2 (key.2 z))] at g28
    exact Or.inr ⟨_, _, g152, g28⟩
theorem fn7_stay {m4 : rHp} {q : Int} (k7 : pSk (m4 59 0) (m4 15 0 34) q = q) : fn7 [] (rUp m4 15 0 35 q) = (0, 0, rUp m4 15 0 35 q) := by
  rw [fn7_eq, rUp_at, rUp_two, rUp_grp (show (59 : Nat) ≠ 15 by decide), rUp_ne (show ¬ ((15 : Nat) = 15 ∧ (0 : Int) = 0 ∧ (34 : Int) = 35) by decide), k7]
/-- both find the question BROKEN, or both take it -/
noncomputable def qAk (E : Prop) (n1 n8 : Int) (mS : rHp) (r s : zR) : Prop :=
  ((∃ c_q, r = (0, 0, c_q)) ∧ ((∃ m_q, s = (0, 0, m_q)) ∨ ∃ m_q, s = (0, 1, m_q) ∧ fn7 [] m_q = (0, 0, m_q) ∧ (m_q 15 0 35 ≠ mS 15 0 34 ∨ ∃ m_q_q, fn28 [] m_q = (0, 0, m_q_q))))
  ∨ (∃ c_q m_q n, r = (0, 1, c_q) ∧ s = (0, 1, m_q) ∧ fn7 [] m_q = (0, 0, m_q) ∧ m_q 15 0 35 = mS 15 0 34 ∧ fn28 [] m_q = (0, 1, m_q) ∧ c_q 2 0 5 = m_q 15 0 45 ∧ qKr (m_q 15 0 45) ∧ m_q 15 0 44 = n8 ∧ 0 ≤ n ∧ n ≤ 8 ∧ c_q 9 n1 2 = n ∧ m_q 73 0 n8 = n ∧ gGs E n8 n1 n (mS 15 0 45) c_q m_q)
theorem goals_loop_b {c0 m0 cS mS : rHp} {n1 n8 : Int} (h00 : 0 ≤ c0 1000 0 0) (hlim : 2 * c0 1000 0 0 + m0 15 0 34 ≤ 10239) (hn1 : cS 40 0 (cS 1 0 10) = n1) (hn8 : mS 15 0 44 = n8) (hpu : cS 2 0 7 = 2) (hcS : ∀ j, j ≠ 7 → cS 1 0 j = c0 1 0 j) (hne : m0 15 0 34 ≠ 0) :
    ∀ (k : Nat) (i : Int) (c m : rHp), i + k = 8 → 0 ≤ i → qR 0 c0 m0 c m → qB (fun _ => False) c m → qI (sN c0 m0) cS mS n1 n8 i c m →
    qAk (sN c0 m0) n1 n8 mS (zLoop (en159 cS) (0, [], c)) (zLoop (en38 mS) (0, [0, 1], m)) := by
  intro k
  induction k with
  | zero =>
    intro i c m hk hi hR hB hI
    obtain ⟨i1, i2, i3, i4, i5, i6, i7, i8, i9⟩ := hI
    have h8 : i = 8 := by omega
    subst h8
    obtain ⟨p, e1⟩ := en159_full hn1 i1
    have e2 := en38_full hn8 i2
    rw [zLoop_inr e1, zLoop_inr e2]
    exact Or.inl ⟨⟨_, rfl⟩, Or.inl ⟨_, rfl⟩⟩
  | succ k ih =>
    intro i c m hk hi hR hB hI
    obtain ⟨i1, i2, i3, i4, i5, i6, i7, i8, i9⟩ := hI
    have h8 : i < 8 := by omega
    have hpc : c 2 0 7 = 2 := by rw [i4.2 7 (by decide)]; exact hpu
    have c10 : ∀ j, j ≠ 7 → c 1 0 j = cS 1 0 j := fun j hj => by rw [hcS j hj]; exact hR.2.2.2.2.2.2.1 j hj
    have hn1c : c 40 0 (c 1 0 10) = n1 := by rw [i4.1 40 (by decide) (by decide), c10 10 (by decide)]; exact hn1
    have hG : qG c = i + 9 * n1 + 1 := by
      unfold qG
      rw [hn1c, i1]
    have e42 : fn37 [0] (fn7 [] m).2.2 = fnQ [] m := by rw [fn37_is, fn7_eq]; exact fnQ_look
    have hQ : qQ0 m = i + 8 * n8 := by
      unfold qQ0
      rw [i5.2 44 (by decide), hn8, i2]
    have hc0 : c0 2 0 3 = m0 15 0 34 := by
      rw [← hR.2.2.2.2.2.1.2 3 (by decide), hR.1.1]
      exact hR.2.2.2.2.2.2.2.1.2 34 (by decide)
    have oc : fO (qG c) c (fn157 [] c).2.2 := fn157_o
    have ym : fY (qQ0 m) m (fnQ [] m).2.2 := by rw [← fn37_is]; exact fn37_y
    rcases goal_two_a hR hB h00 hlim (by omega) hpc with ⟨c3, m3, g1, g2, g3⟩ | ⟨c3, m3, g1, g2, g3⟩
    · obtain ⟨r1, r2, r3, r4, r5, r6, r7⟩ := g3
      rw [g1] at oc
      rw [g2] at ym
      have oc : fO (qG c) c c3 := oc
      have ym : fY (qQ0 m) m m3 := ym
      have nc3 : c3 2 0 3 ≠ 0 := by rw [r1.2.2.2.2.2.1.2 3 (by decide), hc0]; exact hne
      have nm3 : m3 15 0 34 ≠ 0 := by rw [r1.2.2.2.2.2.2.2.1.2 34 (by decide)]; exact hne
      obtain ⟨w1, w2, w3, w4, w5, w6, w7⟩ := ym nm3
      have D3 : fD n1 cS c3 := fD_tr i7 (fD_o oc nc3 (by rw [hG]; omega) (by rw [hG]; omega))
      have E3 : fE n8 mS m3 := fE_tr i8 (fE_y ym nm3 (by rw [hQ]; omega))
      have a1 := en159_go hn1 i1 h8 g1
      have a2 := en38_go hn8 i2 (show i ≠ 8 by omega) (e42.trans g2)
      obtain ⟨x1, x2, x3⟩ := qNx_fr (n1 := n1) (i := i) (a := c 9 n1 3) (c3 := c3)
      obtain ⟨x4, x5, x6, x7⟩ := qNx_in (n1 := n1) (i := i) (a := c 9 n1 3) (c3 := c3) hi h8
      have d3 : c3 9 n1 3 = c 9 n1 3 := by rw [(oc nc3).2.2.2.1]
      rw [d3] at x6
      generalize qNx n1 i (c 9 n1 3) c3 = c4 at *
      have y1 : fH 15 [73] [] m3 (rUp m3 73 0 n8 (i + 1)) := fH_grp fH_refl (by decide) (by decide)
      have y2 : rUp m3 73 0 n8 (i + 1) 73 0 n8 = i + 1 := rUp_at
      have y3 : fE n8 m3 (rUp m3 73 0 n8 (i + 1)) := fE_73
      generalize rUp m3 73 0 n8 (i + 1) = m4 at *
      have D4 : fD n1 cS c4 := fD_tr D3 x4
      have E4 : fE n8 mS m4 := fE_tr E3 y3
      have G4 : gGs (sN c0 m0) n8 n1 (i + 1) (mS 15 0 45) c4 m4 := by
        rw [hQ] at w4 w5
        rw [hG, i5.2 44 (by decide), hn8, i2] at r7
        rw [show i + 9 * n1 + 1 = 9 * n1 + (i + 1) by omega] at r7 x3 x5 x6
        refine gGs_add i9 hi h8 (by rw [← r2.2.2.1]; exact r2.2.2.2.1) r7 (fun K g z g0 g1 => ?_) (fun K x z1 z2 => by rw [y1.1 K (by rcases z1 with rfl | rfl | rfl <;> decide) (by omega)]; exact w4 K x z1 z2) (fun K x z1 z2 => by rw [y1.1 K (by rcases z1 with rfl | rfl <;> decide) (by omega)]; exact w5 K x z1 z2) (by rw [y1.2 14 (by decide)]; exact w6) (fun p z => by rw [y1.1 66 (by decide) (by decide)]; exact w7 p z) (fun j z => x5 j z) (fun K z => ?_) (fun K z => y1.1 K (by rcases z with rfl | rfl | rfl | rfl | rfl | rfl <;> decide) (by omega)) (y1.2 14 (by decide)) (y1.2 45 (by decide)) x6
        · rw [x3 K _ (by omega) (by omega)]
          exact r6 K _ (by rcases z with rfl | rfl | rfl | rfl <;> decide) (by rw [hG]; omega)
        · rw [x7 K z]
      have hR4 : qR 1 c0 m0 c4 m4 := by
        refine qR_up r1 (fH_sub x1 (by decide) (by decide)) (fH_sub y1 (by decide) (by decide)) ?_ ?_ ?_ ?_
        · rw [x1.2 6 (by decide), y1.2 35 (by decide)]; exact r1.2.1.1
        · rw [y1.2 35 (by decide)]; exact Int.le_refl _
        · rw [y1.2 35 (by decide)]; exact r1.2.1.2.1
        · rw [y1.2 35 (by decide)]; exact r1.2.1.2.2
      have hB4 : qB (fun _ => False) c4 m4 := by
        obtain ⟨s1, s2, s3, s4, s5⟩ := r2
        have g74 : m4 74 0 (m4 15 0 44) = m3 74 0 (m3 15 0 44) := by rw [y1.1 74 (by decide) (by decide), y1.2 44 (by decide)]
        refine ⟨qS_up s1 (y1.2 44 (by decide)) (y1.1 74 (by decide) (by decide)) (y1.1 84 (by decide) (by decide)) (by rw [y1.2 35 (by decide)]; exact Int.le_refl _), qO_up s2 (x1.2 16 (by decide)) (x1.1 25 (by decide) (by decide)) (y1.2 58 (by decide)) (y1.1 89 (by decide) (by decide)) (y1.1 90 (by decide) (by decide)) (y1.1 91 (by decide) (by decide)) (by rw [g74]; exact Int.le_refl _), ?_, ?_, ?_⟩
        · rw [x1.2 5 (by decide), y1.2 45 (by decide)]; exact s3
        · rw [x1.2 5 (by decide)]; exact s4
        · rw [x1.2 5 (by decide), g74]; exact s5
      have F4 : fH 2 (9 :: lG) jG cS c4 := fH_trans (fH_trans i4 (fH_sub r4 (by decide) (by decide))) (fH_sub x1 (by decide) (by decide))
      have M4 : fH 15 (73 :: lH) jH mS m4 := fH_trans (fH_trans i5 (fH_sub r5 (by decide) (by decide))) (fH_sub y1 (by decide) (by decide))
      have hd4 : ∀ G, G ∈ [10, 43, 44, 45, 46] → c4 G (9 * n1) = cS G (9 * n1) := by
        intro G q
        rw [x3 G (9 * n1) (by omega) (by rintro rfl; exact absurd q (by decide)), r6 G (9 * n1) q (by rw [hG]; omega)]
        exact i6 G q
      have l4 : mS 15 0 34 = m4 15 0 34 := (M4.2 34 (by decide)).symm
      obtain ⟨q, L, k1, k2, k3, k4, k5, k6, k7⟩ := look_two hR4.1 hR4.2.1 [] []
      have n6 : rUp c4 2 0 6 q 2 0 6 = q := rUp_at
      have n35 : rUp m4 15 0 35 q 15 0 35 = q := rUp_at
      have n34 : rUp m4 15 0 35 q 15 0 34 = m4 15 0 34 := rUp_ne (by decide)
      have n59 : rUp m4 15 0 35 q 59 = m4 59 := rUp_grp (by decide)
      have at0 := hR4.2.1.2.1
      rw [k2] at a2
      simp only [n35, n34, n59, l4] at a2
      unfold qSa at a1
      rw [k1] at a1
      simp only [n6] at a1
      have i44 : (L = 44) = (pB (m4 59 0) (m4 15 0 34) q = 44) := qL_is k5 (by decide) (by decide)
      have i46 : (L = 46) = (pB (m4 59 0) (m4 15 0 34) q = 46) := qL_is k5 (by decide) (by decide)
      by_cases hq : q < m4 15 0 34
      · have hL := k6.2 hq
        have hb : (0 : Int) ≤ -q + m4 15 0 34 + -1 := by omega
        rw [if_pos hL] at a1
        rw [if_pos hb] at a2
        by_cases h44 : L = 44
        · rw [if_pos h44] at a1
          have h44m : pB (m4 59 0) (m4 15 0 34) q = 44 := by rw [← i44]; exact h44
          rw [if_neg (fun z => z h44m)] at a2
          rw [zLoop_inl a1, zLoop_inl a2]
          have o35 : rUp (rUp m4 15 0 35 q) 15 0 35 (q + 1) 15 0 35 = q + 1 := rUp_at
          have o6 : rUp (rUp c4 2 0 6 q) 2 0 6 (q + 1) 2 0 6 = q + 1 := rUp_at
          have fc : fH 2 [] [6] c4 (rUp (rUp c4 2 0 6 q) 2 0 6 (q + 1)) := fH_fld (fH_fld fH_refl (by decide)) (by decide)
          have fm : fH 15 [] [35] m4 (rUp (rUp m4 15 0 35 q) 15 0 35 (q + 1)) := fH_fld (fH_fld fH_refl (by decide)) (by decide)
          generalize rUp (rUp c4 2 0 6 q) 2 0 6 (q + 1) = c5 at *
          generalize rUp (rUp m4 15 0 35 q) 15 0 35 (q + 1) = m5 at *
          refine ih (i + 1) c5 m5 (by omega) (by omega) ?_ ?_ ⟨?_, ?_, ?_, ?_, ?_, ?_, fD_tr D4 (fD_H fc (by decide)), fE_tr E4 (fE_H fm (by decide) (by decide)), gGs_H G4 (by omega) (by omega) fc (by decide) fm (by decide) (by decide)⟩
          · refine qR_up hR4 (fH_sub fc (by decide) (by decide)) (fH_sub fm (by decide) (by decide)) ?_ ?_ ?_ ?_
            · rw [o6, o35]
            · rw [o35]; omega
            · rw [o35]; omega
            · rw [o35]; omega
          · exact qB_sign hB4 (fH_sub fc (by decide) (by decide)) (fH_sub fm (by decide) (by decide)) (by rw [o35]; omega)
          · rw [fc.1 9 (by decide) (by decide)]; exact x2
          · rw [fm.1 73 (by decide) (by decide)]; exact y2
          · rw [fc.2 16 (by decide), x1.2 16 (by decide)]; omega
          · exact fH_trans F4 (fH_sub fc (by decide) (by decide))
          · exact fH_trans M4 (fH_sub fm (by decide) (by decide))
          · intro G z
            rw [fc.1 G (memG z).2.2.2.2.2 (memG z).1]; exact hd4 G z
        · have h44m : pB (m4 59 0) (m4 15 0 34) q ≠ 44 := by rw [ne_eq, ← i44]; exact h44
          rw [if_neg h44] at a1
          rw [if_pos h44m] at a2
          rw [zLoop_inl a2, zLoop_inr en38_end, zLoop_inr a1]
          exact Or.inl ⟨⟨_, rfl⟩, Or.inr ⟨_, rfl, fn7_stay k7, Or.inl (by rw [n35, l4]; omega)⟩⟩
      · have hb : ¬ (0 : Int) ≤ -q + m4 15 0 34 + -1 := by omega
        rw [if_neg (fun z => hq (k6.1 z))] at a1
        rw [if_neg hb] at a2
        have n6_q : rUp (rUp c4 2 0 6 q) 2 0 6 (q + 1) 2 0 6 = q + 1 := rUp_at
        have fc : fH 2 [] [6] c4 (rUp (rUp c4 2 0 6 q) 2 0 6 (q + 1)) := fH_fld (fH_fld fH_refl (by decide)) (by decide)
        have fm : fH 15 [] [35] m4 (rUp m4 15 0 35 q) := fH_fld fH_refl (by decide)
        have f7 := fn7_stay k7
        have ql : q = m4 15 0 34 := by omega
        rw [zLoop_inl a2, zLoop_inr en38_end]
        generalize rUp (rUp c4 2 0 6 q) 2 0 6 (q + 1) = c5 at *
        generalize rUp m4 15 0 35 q = m5 at *
        have hV5 : qV c5 m5 := qV_up hR4.2.2.2.2.1 (fc.2 13 (by decide)) (fc.1 22 (by decide) (by decide)) (fc.1 23 (by decide) (by decide)) (fm.2 44 (by decide)) (fm.2 34 (by decide)) (fm.1 59 (by decide) (by decide)) (fm.1 74 (by decide) (by decide)) (fm.1 82 (by decide) (by decide)) (fm.1 83 (by decide) (by decide)) (fm.1 84 (by decide) (by decide))
        have hB5 : qB (fun _ => False) c5 m5 := qB_sign hB4 (fH_sub fc (by decide) (by decide)) (fH_sub fm (by decide) (by decide)) (by rw [n35]; omega)
        rcases ask_end hV5 hB5 with ⟨z1, z2⟩ | ⟨c_q, m_q, z1, z2⟩
        · rw [z1] at a1
          have a1 : en159 cS (0, [], c) = .inr (0, 1, c5) := a1.trans (if_pos (Int.le_refl 1))
          rw [zLoop_inr a1]
          refine Or.inr ⟨c5, m5, i + 1, rfl, rfl, f7, by rw [n35, l4]; exact ql, z2, hB5.2.2.1, by rw [← hB5.2.2.1]; exact hB5.2.2.2.1, ?_, by omega, by omega, by rw [fc.1 9 (by decide) (by decide)]; exact x2, by rw [fm.1 73 (by decide) (by decide)]; exact y2, gGs_H G4 (by omega) (by omega) fc (by decide) fm (by decide) (by decide)⟩
          rw [fm.2 44 (by decide), M4.2 44 (by decide)]
          exact hn8
        · rw [z1] at a1
          have a1 : en159 cS (0, [], c) = .inr (0, 0, c_q) := a1.trans (if_neg (show ¬ (1 : Int) ≤ 0 by decide))
          rw [zLoop_inr a1]
          exact Or.inl ⟨⟨_, rfl⟩, Or.inr ⟨_, rfl, f7, Or.inr ⟨_, z2⟩⟩⟩
    · rw [zLoop_inr (en159_bad hn1 i1 h8 g1), zLoop_inr (en38_bad hn8 i2 (show i ≠ 8 by omega) (e42.trans g2))]
      exact Or.inl ⟨⟨_, rfl⟩, Or.inl ⟨_, rfl⟩⟩
