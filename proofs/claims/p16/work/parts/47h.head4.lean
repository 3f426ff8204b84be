/-! ===== the loop over the HEAD's ARGS; the HEAD ===== -/
theorem qHs_9 {H : Int → Prop} {c m : rHp} {h i x : Int} (hs : qHs H c m h i) : qHs H (rUp c 10 h 9 x) m h i := by
  obtain ⟨s1, s2, s3, s4, s5, s6, s7, s8, s9, s10⟩ := hs
  have f : fH 2 [10] [] c (rUp c 10 h 9 x) := fH_grp fH_refl (by decide) (by decide)
  have o : ∀ j, j ≠ 9 → rUp c 10 h 9 x 10 h j = c 10 h j := fun j z => rUp_ne (fun y => z y.2.2)
  refine ⟨qB_c s1 (f.2 5 (by decide)) (f.2 16 (by decide)) (f.1 25 (by decide) (by decide)), by rw [o 4 (by decide)]; exact s2, by rw [o 5 (by decide)]; exact s3, s4, by rw [o 12 (by decide)]; exact s5, by rw [o 12 (by decide)]; exact s6, ?_, by rw [o 12 (by decide), o 14 (by decide)]; exact s8, by rw [o 12 (by decide), f.1 43 (by decide) (by decide)]; exact s9, by unfold qHx; rw [o 12 (by decide), o 13 (by decide), o 14 (by decide), f.1 43 (by decide) (by decide), f.1 46 (by decide) (by decide)]; exact s10⟩
  intro k k0 k1
  unfold hArg
  rw [f.1 43 (by decide) (by decide), f.1 44 (by decide) (by decide), f.1 46 (by decide) (by decide)]
  rcases s7 k k0 k1 with ⟨q1, q2, q3⟩ | q | q
  · exact Or.inl ⟨q1, q2, vR_up q3 (f.1 3 (by decide) (by decide)) (f.1 26 (by decide) (by decide)) rfl rfl rfl rfl rfl⟩
  · exact Or.inr (Or.inl q)
  · exact Or.inr (Or.inr q)
/-- both take the HEAD (the class has still to find its PREDICATE), or both find it BROKEN -/
noncomputable def qHr (c0 m0 cS mS : rHp) (h w : Int) (r s : zR) : Prop :=
  (∃ H i c9 m9, r = (if 1 ≤ (fn133 [] c9).2.1 then (0, 1, (fn133 [] c9).2.2) else (0, 0, (fn133 [] c9).2.2)) ∧ s = (0, 1, m9) ∧ qR 0 c0 m0 c9 m9 ∧ qHs H c9 m9 h i ∧ 1 ≤ i ∧ i ≤ 4 ∧ fH 2 lP jP cS c9 ∧ fH 15 lQ jQ mS m9 ∧ gNc cS c9 ∧ gNm mS m9 ∧ c9 10 h 6 = w ∧ ∀ k, i ≤ k → k < 4 → c9 46 h k = 0) ∨
  (∃ c_q m_q, r = (0, 0, c_q) ∧ s = (0, 0, m_q) ∧ qZ c0 m0 c_q m_q)
theorem head_loop {c0 m0 cS mS cB mB : rHp} {h w : Int} (h40 : cB 40 = cS 40) (hlS : mS 15 0 34 = mB 15 0 34) (h00 : 0 ≤ c0 1000 0 0) (hlim : 2 * c0 1000 0 0 + m0 15 0 34 ≤ 10239) (hh : h = 9 * cS 40 0 (cS 1 0 10)) (hcS : ∀ j, j ≠ 7 → cS 1 0 j = c0 1 0 j) :
    ∀ (k : Nat) (i : Int) (H : Int → Prop) (c m : rHp), i + k = 4 → 0 ≤ i → qR 0 c0 m0 c m → qHs H c m h i → fH 2 lP jP cB c → fH 15 lQ jQ mB m → gNc cB c → gNm mB m → c 10 h 6 = w → (∀ k, i ≤ k → k < 4 → c 46 h k = 0) →
    qHr c0 m0 cB mB h w (zLoop (en144 cS) (0, [i], c)) (zLoop (en27 mS) (0, [1], m)) := by
  intro k
  induction k with
  | zero =>
    intro i H c m hk hi hR hs F M gc gm hw h0
    have h4 : i = 4 := by omega
    subst h4
    obtain ⟨p, e1⟩ := en144_four (cS := cS) (c := c)
    rw [zLoop_inr e1, zLoop_inr (en27_four hs.2.2.2.1)]
    refine Or.inr ⟨_, _, rfl, rfl, qZ_up hR (by decide) ?_ ?_⟩
    · rw [fn114_eq]
      exact fH_fld (fH_fld fH_refl (by decide)) (by decide)
    · rw [fn7_eq]
      exact fH_trans (fH_fld fH_refl (by decide)) (fH_sub fn8_fr (by decide) (by decide))
  | succ k ih =>
    intro i H c m hk hi hR hs F M gc gm hw h0
    have hi4 : i < 4 := by omega
    have c10 : ∀ j, j ≠ 7 → c 1 0 j = cS 1 0 j := fun j hj => by rw [hcS j hj]; exact hR.2.2.2.2.2.2.1 j hj
    have hhc : h = 9 * c 40 0 (c 1 0 10) := by rw [F.1 40 (by decide) (by decide), h40, c10 10 (by decide)]; exact hh
    have l34 : m 15 0 34 = mS 15 0 34 := (M.2 34 (by decide)).trans hlS.symm
    have ha := harg_two hhc hR hs hi hi4 h00 hlim
    rw [l34] at ha
    rcases ha with ⟨H_q, c_q, m5, a1, a2, a3, a4, a5, a6, a7, a8, a9, a10⟩ | ⟨c_q, m5, a1, a2, a3⟩
    · obtain ⟨c_q_q, b1, b2⟩ := en144_more hh hi4 a1
      have fc_q_q : fH 2 [10] [] c_q c_q_q ∧ qHs H_q c_q_q m5 h (i + 1) ∧ c_q_q 10 h 6 = w := by
        rcases b1 with rfl | rfl
        · exact ⟨fH_refl, a4, by rw [a9]; exact hw⟩
        · exact ⟨fH_grp fH_refl (by decide) (by decide), qHs_9 a4, by rw [rUp_ne (fun y => absurd y.2.2 (by decide)), a9]; exact hw⟩
      obtain ⟨f2, hs2, hw2⟩ := fc_q_q
      clear b1
      have z2 : ∀ k, i + 1 ≤ k → k < 4 → c_q_q 46 h k = 0 := fun k k0 k1 => by rw [f2.1 46 (by decide) (by decide), a10 k (by omega)]; exact h0 k (by omega) k1
      have e2 := en27_more hs.2.2.2.1 (show i ≠ 4 by omega) a2
      have hR2 : qR 1 c0 m0 c_q_q m5 := by
        refine qR_up a3 (fH_sub f2 (by decide) (by decide)) fH_refl ?_ (Int.le_refl _) a3.2.1.2.1 a3.2.1.2.2
        rw [f2.2 6 (by decide)]; exact a3.2.1.1
      have F2 : fH 2 lP jP cB c_q_q := fH_trans (fH_trans F a5) (fH_sub f2 (by decide) (by decide))
      have M2 : fH 15 lQ jQ mB m5 := fH_trans M a6
      have l5 : mS 15 0 34 = m5 15 0 34 := hlS.trans (M2.2 34 (by decide)).symm
      have gc2 : gNc cB c_q_q := gNc_trans (gNc_trans gc a7) (gNc_fl f2 (by decide) (by decide))
      have gm2 : gNm mB m5 := gNm_trans gm a8
      obtain ⟨q, L, k1, k2, k3, k4, k5, k6, k7⟩ := look_two hR2.1 hR2.2.1 [] []
      have at0 := hR2.2.1.2.1
      have n6 : rUp c_q_q 2 0 6 q 2 0 6 = q := rUp_at
      have n35 : rUp m5 15 0 35 q 15 0 35 = q := rUp_at
      have n34 : rUp m5 15 0 35 q 15 0 34 = m5 15 0 34 := rUp_ne (by decide)
      have n59 : rUp m5 15 0 35 q 59 = m5 59 := rUp_grp (by decide)
      rw [k2] at e2
      simp only [n35, n34, n59, l5] at e2
      unfold qAh at b2
      rw [k1] at b2
      simp only [n6] at b2
      have i44 : (L = 44) = (pB (m5 59 0) (m5 15 0 34) q = 44) := qL_is k5 (by decide) (by decide)
      have i41 : (L = 41) = (pB (m5 59 0) (m5 15 0 34) q = 41) := qL_is k5 (by decide) (by decide)
      have hz : qZ c0 m0 (rUp (rUp c_q_q 2 0 6 q) 2 0 4 q) (rUp (rUp m5 15 0 35 q) 15 0 36 q) := qZ_up hR2 (by decide) (fH_fld (fH_fld fH_refl (by decide)) (by decide)) (fH_fld (fH_fld fH_refl (by decide)) (by decide))
      have h24 := fn24_eq (x := 41) (m := rUp m5 15 0 35 q) (by rw [n59, n34, n35]; exact k7) (by rw [n34, n35]; exact k4)
      rw [n35, n34, n59] at h24
      have fc9 : fH 2 [] [6] c_q_q (rUp (rUp c_q_q 2 0 6 q) 2 0 6 (q + 1)) := fH_fld (fH_fld fH_refl (by decide)) (by decide)
      have fm9 : fH 15 [] [35] m5 (rUp (rUp m5 15 0 35 q) 15 0 35 (q + 1)) := fH_fld (fH_fld fH_refl (by decide)) (by decide)
      have o35 : rUp (rUp m5 15 0 35 q) 15 0 35 (q + 1) 15 0 35 = q + 1 := rUp_at
      have o6 : rUp (rUp c_q_q 2 0 6 q) 2 0 6 (q + 1) 2 0 6 = q + 1 := rUp_at
      by_cases hq : q < m5 15 0 34
      · rw [if_pos (k6.2 hq)] at b2
        rw [if_pos (show (0 : Int) ≤ -q + m5 15 0 34 + -1 by omega)] at e2
        have hR9 : qR 0 c0 m0 (rUp (rUp c_q_q 2 0 6 q) 2 0 6 (q + 1)) (rUp (rUp m5 15 0 35 q) 15 0 35 (q + 1)) := by
          refine qR_up hR2 (fH_sub fc9 (by decide) (by decide)) (fH_sub fm9 (by decide) (by decide)) ?_ ?_ ?_ ?_
          · rw [o6, o35]
          · rw [o35]; omega
          · rw [o35]; omega
          · rw [o35]; omega
        have hs9 : qHs H_q (rUp (rUp c_q_q 2 0 6 q) 2 0 6 (q + 1)) (rUp (rUp m5 15 0 35 q) 15 0 35 (q + 1)) h (i + 1) := qHs_up hs2 fc9 (by decide) (by decide) fm9 (by decide) (by decide) (by rw [o35]; omega)
        have F9 : fH 2 lP jP cB (rUp (rUp c_q_q 2 0 6 q) 2 0 6 (q + 1)) := fH_trans F2 (fH_sub fc9 (by decide) (by decide))
        have M9 : fH 15 lQ jQ mB (rUp (rUp m5 15 0 35 q) 15 0 35 (q + 1)) := fH_trans M2 (fH_sub fm9 (by decide) (by decide))
        have gc9 := gNc_trans gc2 (gNc_fl fc9 (by decide) (by decide))
        have gm9 := gNm_trans gm2 (gNm_fl fm9 (by decide) (by decide) (by decide) (by decide) (by decide))
        have hw9 : rUp (rUp c_q_q 2 0 6 q) 2 0 6 (q + 1) 10 h 6 = w := by rw [fc9.1 10 (by decide) (by decide)]; exact hw2
        have z9 : ∀ k, i + 1 ≤ k → k < 4 → rUp (rUp c_q_q 2 0 6 q) 2 0 6 (q + 1) 46 h k = 0 := fun k k0 k1 => by rw [fc9.1 46 (by decide) (by decide)]; exact z2 k k0 k1
        generalize rUp (rUp c_q_q 2 0 6 q) 2 0 6 (q + 1) = c9 at *
        generalize hm9 : rUp (rUp m5 15 0 35 q) 15 0 35 (q + 1) = m9 at *
        by_cases h44 : L = 44
        · have h44m : pB (m5 59 0) (m5 15 0 34) q = 44 := by rw [← i44]; exact h44
          rw [if_neg (show ¬ L = 41 by omega), if_pos h44] at b2
          rw [if_neg (fun z => z h44m)] at e2
          rw [zLoop_inl b2, zLoop_inl e2]
          exact ih (i + 1) H_q c9 m9 (by omega) (by omega) hR9 hs9 F9 M9 gc9 gm9 hw9 z9
        · have h44m : pB (m5 59 0) (m5 15 0 34) q ≠ 44 := by rw [ne_eq, ← i44]; exact h44
          rw [if_pos h44m] at e2
          rw [zLoop_inl e2, zLoop_inr en27_end]
          by_cases h41 : L = 41
          · have h41m : m5 59 0 q = 41 := by
              rw [← pB_in (t := m5 59 0) hq, ← i41]; exact h41
            rw [if_pos h41] at b2
            rw [if_pos ⟨hq, h41m⟩] at h24
            rw [h24]
            refine Or.inl ⟨H_q, i + 1, c9, m9, ?_, if_pos (show (1 : Int) ≤ 1 by decide), hR9, hs9, by omega, by omega, F9, M9, gc9, gm9, hw9, z9⟩
            by_cases b3 : 1 ≤ (fn133 [] c9).2.1
            · rw [if_pos b3] at b2 ⊢
              exact zLoop_inr b2
            · rw [if_neg b3] at b2 ⊢
              exact zLoop_inr b2
          · rw [if_neg h41, if_neg h44] at b2
            rw [if_neg (fun z => h41 (by rw [i41, pB_in hq]; exact z.2))] at h24
            rw [h24, zLoop_inr b2]
            exact Or.inr ⟨_, _, rfl, if_neg (show ¬ (1 : Int) ≤ 0 by decide), hz⟩
      · rw [if_neg (fun z => hq (k6.1 z))] at b2
        rw [if_neg (show ¬ (0 : Int) ≤ -q + m5 15 0 34 + -1 by omega)] at e2
        rw [zLoop_inl e2, zLoop_inr en27_end, zLoop_inr b2]
        rw [if_neg (fun z => hq z.1)] at h24
        rw [h24]
        exact Or.inr ⟨_, _, rfl, if_neg (show ¬ (1 : Int) ≤ 0 by decide), hz⟩
    · rw [zLoop_inr (en144_bad hi4 a1), zLoop_inr (en27_bad hs.2.2.2.1 (show i ≠ 4 by omega) a2)]
      exact Or.inr ⟨_, _, rfl, rfl, a3⟩
/-- the class_q HEAD from its first byte on -/
noncomputable def qH6 (c : rHp) : zR :=
  if 0 ≤ (fn114 [] c).2.1 ∧ pSm (fn114 [] c).2.1 = true then
    (if 1 ≤ (fn115 [] (fn114 [] c).2.2).2.1 then (if 1 ≤ (fn144 [] (fn115 [] (fn114 [] c).2.2).2.2).2.1 then (0, 1, (fn144 [] (fn115 [] (fn114 [] c).2.2).2.2).2.2) else (0, 0, (fn144 [] (fn115 [] (fn114 [] c).2.2).2.2).2.2)) else (0, 0, (fn115 [] (fn114 [] c).2.2).2.2))
  else (0, 0, rUp (fn114 [] c).2.2 2 0 4 ((fn114 [] c).2.2 2 0 6))
theorem qH6_o {c : rHp} : fO (qH0 c) c (qH6 c).2.2 := by
  unfold qH6
  have a1 : fO (qH0 c) c (fn114 [] c).2.2 := fn114_o
  have a2 : fO (qH0 c) c (fn115 [] (fn114 [] c).2.2).2.2 := fO_tr a1 fn115_o
  have a3 : fO (qH0 c) c (fn144 [] (fn115 [] (fn114 [] c).2.2).2.2).2.2 := fO_h a2 fn144_o
  split
  · split
    · split
      · exact a3
      · exact a3
    · exact a2
  · exact fO_2 a1 (by decide)
theorem fn146_eq {c : rHp} : fn146 [] c = qH6 (rUp (rUp (fn110 [] c).2.2 9 (c 40 0 (c 1 0 10)) 2 0) 9 (c 40 0 (c 1 0 10)) 3 0) := by
  unfold fn146 qH6
  simp only [zLet, fn105_eq, pBit_ge, fn109_eq]
  generalize fn114 [] (rUp (rUp (fn110 [] c).2.2 9 (c 40 0 (c 1 0 10)) 2 0) 9 (c 40 0 (c 1 0 10)) 3 0) = X
  by_cases b1 : 0 ≤ X.2.1
  · rw [if_pos b1]
    by_cases b2 : pSm X.2.1 = true
    · rw [if_pos b2, if_pos (show 0 ≤ X.2.1 ∧ pSm X.2.1 = true from ⟨b1, b2⟩)]
    · rw [if_neg b2, if_neg (show ¬ (0 ≤ X.2.1 ∧ pSm X.2.1 = true) from fun z => b2 z.2)]
  · rw [if_neg b1, if_neg (show ¬ (0 ≤ X.2.1 ∧ pSm X.2.1 = true) from fun z => b1 z.1)]
theorem fn102_all {c : rHp} {w p : Int} : ∃ c_q, fn102 [w, p] c = (0, 0, c_q) ∧ fH 2 [10, 46] [] c c_q ∧ c_q 10 (9 * c 40 0 (c 1 0 10)) 4 = 0 ∧ c_q 10 (9 * c 40 0 (c 1 0 10)) 5 = 0 ∧ c_q 10 (9 * c 40 0 (c 1 0 10)) 6 = w ∧ c_q 10 (9 * c 40 0 (c 1 0 10)) 12 = 0 ∧ ∀ k, 0 ≤ k → k < 4 → c_q 46 (9 * c 40 0 (c 1 0 10)) k = 0 := by
  generalize hh : 9 * c 40 0 (c 1 0 10) = h
  refine ⟨rUp (rUp (rUp (rUp (rUp (rUp (rUp (rUp (rUp (rUp (rUp c 10 h 4 0) 10 h 6 w) 10 h 7 p) 10 h 5 0) 10 h 8 (-1)) 10 h 9 (-1)) 10 h 12 0) 46 h 0 0) 46 h 1 0) 46 h 2 0) 46 h 3 0, ?_, ?_, ?_, ?_, ?_, ?_, ?_⟩
  · unfold fn102
    simp only [zLet, List.getD_cons_zero, List.getD_cons_succ, fn99_eq, hh]
  · exact fH_grp (fH_grp (fH_grp (fH_grp (fH_grp (fH_grp (fH_grp (fH_grp (fH_grp (fH_grp (fH_grp fH_refl (by decide) (by decide)) (by decide) (by decide)) (by decide) (by decide)) (by decide) (by decide)) (by decide) (by decide)) (by decide) (by decide)) (by decide) (by decide)) (by decide) (by decide)) (by decide) (by decide)) (by decide) (by decide)) (by decide) (by decide)
  · rw [rUp_grp (by decide), rUp_grp (by decide), rUp_grp (by decide), rUp_grp (by decide), rUp_ne (fun q => absurd q.2.2 (by decide)), rUp_ne (fun q => absurd q.2.2 (by decide)), rUp_ne (fun q => absurd q.2.2 (by decide)), rUp_ne (fun q => absurd q.2.2 (by decide)), rUp_ne (fun q => absurd q.2.2 (by decide)), rUp_ne (fun q => absurd q.2.2 (by decide)), rUp_at]
  · rw [rUp_grp (by decide), rUp_grp (by decide), rUp_grp (by decide), rUp_grp (by decide), rUp_ne (fun q => absurd q.2.2 (by decide)), rUp_ne (fun q => absurd q.2.2 (by decide)), rUp_ne (fun q => absurd q.2.2 (by decide)), rUp_at]
  · rw [rUp_grp (by decide), rUp_grp (by decide), rUp_grp (by decide), rUp_grp (by decide), rUp_ne (fun q => absurd q.2.2 (by decide)), rUp_ne (fun q => absurd q.2.2 (by decide)), rUp_ne (fun q => absurd q.2.2 (by decide)), rUp_ne (fun q => absurd q.2.2 (by decide)), rUp_ne (fun q => absurd q.2.2 (by decide)), rUp_at]
  · rw [rUp_grp (by decide), rUp_grp (by decide), rUp_grp (by decide), rUp_grp (by decide), rUp_at]
  · intro k k0 k1
    have : k = 0 ∨ k = 1 ∨ k = 2 ∨ k = 3 := by omega
    rcases this with rfl | rfl | rfl | rfl
    · rw [rUp_ne (fun q => absurd q.2.2 (by decide)), rUp_ne (fun q => absurd q.2.2 (by decide)), rUp_ne (fun q => absurd q.2.2 (by decide)), rUp_at]
    · rw [rUp_ne (fun q => absurd q.2.2 (by decide)), rUp_ne (fun q => absurd q.2.2 (by decide)), rUp_at]
    · rw [rUp_ne (fun q => absurd q.2.2 (by decide)), rUp_at]
    · rw [rUp_at]
noncomputable def lR : List Nat := [3, 26, 22, 23, 10, 43, 44, 45, 46]
noncomputable def jR : List Int := [8, 9, 35, 37, 38, 39, 40, 46, 47, 48, 49, 50, 58]
/-- both take the HEAD: its word is that of w, m9 46, m9 47 -/
noncomputable def qHw (c0 m0 cS mS : rHp) (h : Int) (r s : zR) : Prop :=
  (∃ H i w c9 m9, r = (if 1 ≤ (fn133 [] c9).2.1 then (0, 1, (fn133 [] c9).2.2) else (0, 0, (fn133 [] c9).2.2)) ∧ s = (0, 1, m9) ∧ qR 0 c0 m0 c9 m9 ∧ qHs H c9 m9 h i ∧ 1 ≤ i ∧ i ≤ 4 ∧ fH 2 lP jP cS c9 ∧ fH 15 lQ jR mS m9 ∧ c9 10 h 6 = w ∧ qW pSm (m9 59 0) (m9 15 0 34) w (m9 15 0 46) (m9 15 0 47) ∧ (∀ k, i ≤ k → k < 4 → c9 46 h k = 0) ∧ gNc cS c9 ∧ gNm mS m9) ∨
  (∃ c_q m_q, r = (0, 0, c_q) ∧ s = (0, 0, m_q) ∧ qZ c0 m0 c_q m_q)
theorem head_two {c0 m0 c m : rHp} {h : Int} (hR : qR 0 c0 m0 c m) (hB : qB (fun _ => False) c m) (h00 : 0 ≤ c0 1000 0 0) (hlim : 2 * c0 1000 0 0 + m0 15 0 34 ≤ 10239) (hh : h = 9 * c 40 0 (c 1 0 10)) : qHw c0 m0 c m h (qH6 c) (fn27 [] m) := by
  obtain ⟨q, L, l1, l2, l3, l4, l5, l6, l7⟩ := look_two hR.1 hR.2.1 [] []
  have a0 := hR.2.1.2.1
  have h23 := fn23_is l2 l4
  have fc : fH 2 [] [6] c (rUp c 2 0 6 q) := fH_fld fH_refl (by decide)
  have fm : fH 15 [] [35] m (rUp m 15 0 35 q) := fH_fld fH_refl (by decide)
  have x6 : rUp c 2 0 6 q 2 0 6 = q := rUp_at
  have y35 : rUp m 15 0 35 q 15 0 35 = q := rUp_at
  have E1 : qH6 c = if 0 ≤ L ∧ pSm L = true then (if 1 ≤ (fn115 [] (rUp c 2 0 6 q)).2.1 then (if 1 ≤ (fn144 [] (fn115 [] (rUp c 2 0 6 q)).2.2).2.1 then (0, 1, (fn144 [] (fn115 [] (rUp c 2 0 6 q)).2.2).2.2) else (0, 0, (fn144 [] (fn115 [] (rUp c 2 0 6 q)).2.2).2.2)) else (0, 0, (fn115 [] (rUp c 2 0 6 q)).2.2)) else (0, 0, rUp (rUp c 2 0 6 q) 2 0 4 q) := by
    unfold qH6
    rw [l1]
    simp only [x6]
  generalize rUp c 2 0 6 q = c1 at *
  generalize rUp m 15 0 35 q = m1 at *
  have y34 : m1 15 0 34 = m 15 0 34 := fm.2 34 (by decide)
  have y59 : m1 59 = m 59 := fm.1 59 (by decide) (by decide)
  have hR1 : qR 0 c0 m0 c1 m1 := by
    refine qR_up hR (fH_sub fc (by decide) (by decide)) (fH_sub fm (by decide) (by decide)) ?_ ?_ ?_ ?_
    · rw [x6, y35]
    · rw [y35]; omega
    · rw [y35]; omega
    · rw [y35]; exact l4
  have dn : ∀ M, fn23 [] m = (0, 0, M) → fn27 [] m = (0, 0, M) := by
    intro M z
    unfold fn27 dn27
    simp only [zLet, z]
    rw [if_neg (show ¬ (1 : Int) ≤ 0 by decide)]
    rfl
  by_cases hq : q < m 15 0 34 ∧ pSm (m 59 0 q) = true
  · have hL : 0 ≤ L ∧ pSm L = true := ⟨l6.2 hq.1, by rw [qL_sm l5, pB_in hq.1]; exact hq.2⟩
    rw [if_pos hq] at h23
    rw [if_pos hL] at E1
    rcases word_two (q := pSm) hR1.1 hR1.2.1 (by rw [y35, y34]; exact hq.1) (by rw [y35, y59]; exact hq.2) [] [] with ⟨e, w, w1, w2, w3, w4, w5⟩ | ⟨e, w, w1, w2⟩
    · rw [y35] at w1 w2 w3 w5
      rw [y34] at w4 w5
      rw [y59] at w5
      have fA : fH 2 [] [6, 8, 9] c1 (rUp (rUp (rUp c1 2 0 9 q) 2 0 8 w) 2 0 6 e) := fH_fld (fH_fld (fH_fld fH_refl (by decide)) (by decide)) (by decide)
      have x8 : rUp (rUp (rUp c1 2 0 9 q) 2 0 8 w) 2 0 6 e 2 0 8 = w := by rw [rUp_ne (by decide), rUp_at]
      have x6e : rUp (rUp (rUp c1 2 0 9 q) 2 0 8 w) 2 0 6 e 2 0 6 = e := rUp_at
      have fM : fH 15 [] [35, 37, 38] m1 (rUp (rUp (rUp m1 15 0 37 q) 15 0 38 (e - q)) 15 0 35 e) := fH_fld (fH_fld (fH_fld fH_refl (by decide)) (by decide)) (by decide)
      have z35 : rUp (rUp (rUp m1 15 0 37 q) 15 0 38 (e - q)) 15 0 35 e 15 0 35 = e := rUp_at
      have z38 : rUp (rUp (rUp m1 15 0 37 q) 15 0 38 (e - q)) 15 0 35 e 15 0 38 = e - q := by rw [rUp_ne (by decide), rUp_at]
      have z37 : rUp (rUp (rUp m1 15 0 37 q) 15 0 38 (e - q)) 15 0 35 e 15 0 37 = q := by rw [rUp_ne (by decide), rUp_ne (by decide), rUp_at]
      rw [w2] at h23
      rw [if_pos (show (1 : Int) ≤ 1 by decide)] at h23
      rw [w1] at E1
      rw [if_pos (show (1 : Int) ≤ 1 by decide)] at E1
      simp only at E1 h23
      generalize rUp (rUp (rUp c1 2 0 9 q) 2 0 8 w) 2 0 6 e = A at *
      generalize rUp (rUp (rUp m1 15 0 37 q) 15 0 38 (e - q)) 15 0 35 e = M at *
      have fcA : fH 2 [] [6, 8, 9] c A := fH_trans (fH_sub fc (by decide) (by decide)) fA
      have fmM : fH 15 [] [35, 37, 38] m M := fH_trans (fH_sub fm (by decide) (by decide)) fM
      have hhA : h = 9 * A 40 0 (A 1 0 10) := by rw [fcA.1 40 (by decide) (by decide), fcA.1 1 (by decide) (by decide)]; exact hh
      obtain ⟨cK, b1, b2, b3, b4, b5, b6, b8⟩ := fn102_all (c := A) (w := w) (p := A 2 0 9)
      rw [← hhA] at b3 b4 b5 b6 b8
      have g5 : fH 15 [] [46, 47, 48, 49, 50] M (rUp (rUp (rUp (rUp (rUp M 15 0 46 q) 15 0 47 (e - q)) 15 0 48 0) 15 0 49 0) 15 0 50 (-1)) := fH_fld (fH_fld (fH_fld (fH_fld (fH_fld fH_refl (by decide)) (by decide)) (by decide)) (by decide)) (by decide)
      have n46 : rUp (rUp (rUp (rUp (rUp M 15 0 46 q) 15 0 47 (e - q)) 15 0 48 0) 15 0 49 0) 15 0 50 (-1) 15 0 46 = q := by rw [rUp_ne (by decide), rUp_ne (by decide), rUp_ne (by decide), rUp_ne (by decide), rUp_at]
      have n47 : rUp (rUp (rUp (rUp (rUp M 15 0 46 q) 15 0 47 (e - q)) 15 0 48 0) 15 0 49 0) 15 0 50 (-1) 15 0 47 = e - q := by rw [rUp_ne (by decide), rUp_ne (by decide), rUp_ne (by decide), rUp_at]
      have n48 : rUp (rUp (rUp (rUp (rUp M 15 0 46 q) 15 0 47 (e - q)) 15 0 48 0) 15 0 49 0) 15 0 50 (-1) 15 0 48 = 0 := by rw [rUp_ne (by decide), rUp_ne (by decide), rUp_at]
      have n49 : rUp (rUp (rUp (rUp (rUp M 15 0 46 q) 15 0 47 (e - q)) 15 0 48 0) 15 0 49 0) 15 0 50 (-1) 15 0 49 = 0 := by rw [rUp_ne (by decide), rUp_at]
      generalize hM5 : rUp (rUp (rUp (rUp (rUp M 15 0 46 q) 15 0 47 (e - q)) 15 0 48 0) 15 0 49 0) 15 0 50 (-1) = M5 at *
      have fm5 : fH 15 [] [35, 37, 38, 46, 47, 48, 49, 50] m M5 := fH_trans (fH_sub fmM (by decide) (by decide)) (fH_sub g5 (by decide) (by decide))
      have fcK : fH 2 [10, 46] [6, 8, 9] c cK := fH_trans (fH_sub fcA (by decide) (by decide)) (fH_sub b2 (by decide) (by decide))
      have u6 : cK 2 0 6 = e := (b2.2 6 (by decide)).trans x6e
      have v35 : M5 15 0 35 = e := (g5.2 35 (by decide)).trans z35
      have v34 : M5 15 0 34 = m 15 0 34 := fm5.2 34 (by decide)
      have v59 : M5 59 = m 59 := fm5.1 59 (by decide) (by decide)
      have hR5 : qR 0 c0 m0 cK M5 := by
        refine qR_up hR (fH_sub fcK (by decide) (by decide)) (fH_sub fm5 (by decide) (by decide)) ?_ ?_ ?_ ?_
        · rw [u6, v35]
        · rw [v35]; omega
        · rw [v35]; omega
        · rw [v35]; exact w4
      obtain ⟨q2, L2, j1, j2, j3, j4, j5, j6, j7⟩ := look_two hR5.1 hR5.2.1 [] []
      rw [v35] at j3
      rw [v34] at j4 j5 j6 j7
      rw [v59] at j5 j7
      have D1 : dn144 [] A = if 0 ≤ L2 ∧ L2 = 40 then .inl (0, [0], rUp (rUp cK 2 0 6 q2) 2 0 6 (q2 + 1)) else .inr (0, 0, rUp (rUp cK 2 0 6 q2) 2 0 4 q2) := by
        have e6 : rUp cK 2 0 6 q2 2 0 6 = q2 := rUp_at
        unfold dn144
        simp only [zLet, x8, b1, j1, e6, fn109_eq]
        by_cases z1 : 0 ≤ L2
        · rw [if_pos z1]
          by_cases z2 : L2 = 40
          · rw [if_pos z2, if_pos (show 0 ≤ L2 ∧ L2 = 40 from ⟨z1, z2⟩)]
          · rw [if_neg z2, if_neg (show ¬ (0 ≤ L2 ∧ L2 = 40) from fun z => z2 z.2)]
        · rw [if_neg z1, if_neg (show ¬ (0 ≤ L2 ∧ L2 = 40) from fun z => z1 z.1)]
      have o35 : rUp M5 15 0 35 q2 15 0 35 = q2 := rUp_at
      have o34 : rUp M5 15 0 35 q2 15 0 34 = m 15 0 34 := by rw [rUp_ne (by decide)]; exact v34
      have o59 : rUp M5 15 0 35 q2 59 = m 59 := by rw [rUp_grp (by decide)]; exact v59
      have h24 : fn24 [40] M5 = if q2 < m 15 0 34 ∧ m 59 0 q2 = 40 then (0, 1, rUp (rUp M5 15 0 35 q2) 15 0 35 (q2 + 1)) else (0, 0, rUp (rUp M5 15 0 35 q2) 15 0 36 q2) := by
        unfold fn24
        simp only [zLet, List.getD_cons_zero, j2, o35, v34, fn6_eq, o59, o34, fn8_eq (show q2 ≤ rUp M5 15 0 35 q2 15 0 34 by rw [o34]; exact j4)]
        by_cases z1 : q2 < m 15 0 34
        · rw [if_pos (show (0 : Int) ≤ -q2 + m 15 0 34 + -1 by omega), pB_in z1]
          by_cases z2 : m 59 0 q2 = 40
          · rw [if_pos z2, if_pos (show q2 < m 15 0 34 ∧ m 59 0 q2 = 40 from ⟨z1, z2⟩)]
          · rw [if_neg z2, if_neg (show ¬ (q2 < m 15 0 34 ∧ m 59 0 q2 = 40) from fun z => z2 z.2)]
        · rw [if_neg (show ¬ (0 : Int) ≤ -q2 + m 15 0 34 + -1 by omega), if_neg (show ¬ (q2 < m 15 0 34 ∧ m 59 0 q2 = 40) from fun z => z1 z.1)]
      have D2 : dn27 [] m = if 1 ≤ (fn24 [40] M5).2.1 then .inl (0, [1], (fn24 [40] M5).2.2) else .inr (0, 0, (fn24 [40] M5).2.2) := by
        unfold dn27
        simp only [zLet, h23, z37, z38, hM5]
        rw [if_pos (show (1 : Int) ≤ 1 by decide)]
      by_cases h40 : q2 < m 15 0 34 ∧ m 59 0 q2 = 40
      · have hL2 : 0 ≤ L2 ∧ L2 = 40 := ⟨j6.2 h40.1, by rw [qL_is j5 (by decide) (by decide), pB_in h40.1]; exact h40.2⟩
        rw [if_pos hL2] at D1
        rw [if_pos h40] at h24
        rw [h24] at D2
        rw [if_pos (show (1 : Int) ≤ 1 by decide)] at D2
        have e144 : fn144 [] A = zLoop (en144 A) (0, [0], rUp (rUp cK 2 0 6 q2) 2 0 6 (q2 + 1)) := by
          unfold fn144
          rw [D1]
          rfl
        have e27 : fn27 [] m = zLoop (en27 m) (0, [1], rUp (rUp M5 15 0 35 q2) 15 0 35 (q2 + 1)) := by
          unfold fn27
          rw [D2]
          rfl
        have fc7 : fH 2 [] [6] cK (rUp (rUp cK 2 0 6 q2) 2 0 6 (q2 + 1)) := fH_fld (fH_fld fH_refl (by decide)) (by decide)
        have fm7 : fH 15 [] [35] M5 (rUp (rUp M5 15 0 35 q2) 15 0 35 (q2 + 1)) := fH_fld (fH_fld fH_refl (by decide)) (by decide)
        have t35 : rUp (rUp M5 15 0 35 q2) 15 0 35 (q2 + 1) 15 0 35 = q2 + 1 := rUp_at
        have t6 : rUp (rUp cK 2 0 6 q2) 2 0 6 (q2 + 1) 2 0 6 = q2 + 1 := rUp_at
        generalize rUp (rUp cK 2 0 6 q2) 2 0 6 (q2 + 1) = c7 at *
        generalize rUp (rUp M5 15 0 35 q2) 15 0 35 (q2 + 1) = m7 at *
        have fcA7 : fH 2 [10, 46] [6] A c7 := fH_trans (fH_sub b2 (by decide) (by decide)) (fH_sub fc7 (by decide) (by decide))
        have fc07 : fH 2 [10, 46] [6, 8, 9] c c7 := fH_trans fcK (fH_sub fc7 (by decide) (by decide))
        have fm07 : fH 15 [] [35, 37, 38, 46, 47, 48, 49, 50] m m7 := fH_trans fm5 (fH_sub fm7 (by decide) (by decide))
        have hR7 : qR 0 c0 m0 c7 m7 := by
          refine qR_up hR5 (fH_sub fc7 (by decide) (by decide)) (fH_sub fm7 (by decide) (by decide)) ?_ ?_ ?_ ?_
          · rw [t6, t35]
          · rw [t35]; omega
          · rw [t35]; omega
          · rw [t35, v34]; omega
        have hB7 : qB (fun _ => False) c7 m7 := qB_up hB (fc07.2 5 (by decide)) (fc07.2 16 (by decide)) (fc07.1 25 (by decide) (by decide)) fm07 (by decide) (by decide) (by rw [t35]; omega)
        have k10 : ∀ j, c7 10 h j = cK 10 h j := fun j => by rw [fc7.1 10 (by decide) (by decide)]
        have hs7 : qHs (fun _ => False) c7 m7 h 0 := by
          refine ⟨hB7, by rw [k10]; exact b3, by rw [k10]; exact b4, ?_, ?_, ?_, fun k k0 k1 => by omega, fun u => ⟨fun z => z.elim, fun z => ?_⟩, ⟨fun z => ?_, fun z => ?_⟩, ⟨fun z => ?_, fun k k0 k1 => by omega⟩⟩
          · rw [fm7.2 48 (by decide)]; exact n48
          · rw [k10, b6, fm7.2 49 (by decide), n49]
          · rw [k10, b6]; decide
          · rw [k10, b6] at z
            exact absurd z.1 (by decide)
          · obtain ⟨k, k0, k1, _⟩ := z
            omega
          · rw [k10, b6] at z
            exact absurd z (by decide)
          · rw [k10, b6] at z
            exact absurd z (by decide)
        have lp := head_loop (c0 := c0) (m0 := m0) (cS := A) (mS := m) (cB := c7) (mB := m7) (h := h) (w := w) (fcA7.1 40 (by decide) (by decide)) (fm07.2 34 (by decide)).symm h00 hlim hhA (fun j hj => by rw [fcA.1 1 (by decide) (by decide)]; exact hR.2.2.2.2.2.2.1 j hj) 4 0 (fun _ => False) c7 m7 (by decide) (by decide) hR7 hs7 fH_refl fH_refl gNc_refl gNm_refl (by rw [k10]; exact b5) (fun k k0 k1 => by rw [fc7.1 46 (by decide) (by decide)]; exact b8 k k0 k1)
        rw [← e144, ← e27] at lp
        rcases lp with ⟨H, i, c9, m9, d1, d2, d3, d4, d5, d6, d7, d8, d9, d10, d11, d12⟩ | ⟨c_q, m_q, d1, d2, d3⟩
        · refine Or.inl ⟨H, i, w, c9, m9, ?_, d2, d3, d4, d5, d6, fH_trans (fH_sub fc07 (by decide) (by decide)) d7, fH_trans (fH_sub fm07 (by decide) (by decide)) (fH_sub d8 (by decide) (by decide)), d11, ?_, d12, gNc_trans (gNc_fl fc07 (by decide) (by decide)) d9, gNm_trans (gNm_fl fm07 (by decide) (by decide) (by decide) (by decide) (by decide)) d10⟩
          · rw [E1, d1]
            by_cases b7 : 1 ≤ (fn133 [] c9).2.1
            · rw [if_pos b7]; rfl
            · rw [if_neg b7]; rfl
          · rw [d8.1 59 (by decide) (by decide), d8.2 34 (by decide), d8.2 46 (by decide), d8.2 47 (by decide), fm7.2 46 (by decide), fm7.2 47 (by decide), n46, n47, fm07.1 59 (by decide) (by decide), fm07.2 34 (by decide)]
            exact w5
        · refine Or.inr ⟨c_q, m_q, ?_, d2, d3⟩
          rw [E1, d1]
          rfl
      · have hL2 : ¬ (0 ≤ L2 ∧ L2 = 40) := fun z => h40 ⟨j6.1 z.1, by
          have z2 := z.2
          rw [qL_is j5 (by decide) (by decide), pB_in (j6.1 z.1)] at z2
          exact z2⟩
        rw [if_neg hL2] at D1
        rw [if_neg h40] at h24
        rw [h24] at D2
        rw [if_neg (show ¬ (1 : Int) ≤ 0 by decide)] at D2
        have e144 : fn144 [] A = (0, 0, rUp (rUp cK 2 0 6 q2) 2 0 4 q2) := by
          unfold fn144
          rw [D1]
          rfl
        have e27 : fn27 [] m = (0, 0, rUp (rUp M5 15 0 35 q2) 15 0 36 q2) := by
          unfold fn27
          rw [D2]
          rfl
        rw [e144] at E1
        rw [if_neg (show ¬ (1 : Int) ≤ 0 by decide)] at E1
        exact Or.inr ⟨_, _, E1, e27, qZ_up hR5 (by decide) (fH_fld (fH_fld fH_refl (by decide)) (by decide)) (fH_fld (fH_fld fH_refl (by decide)) (by decide))⟩
    · rw [y35] at w1 w2
      rw [w2] at h23
      rw [if_neg (show ¬ (1 : Int) ≤ 0 by decide)] at h23
      rw [w1] at E1
      rw [if_neg (show ¬ (1 : Int) ≤ 0 by decide)] at E1
      exact Or.inr ⟨_, _, E1, dn _ h23, qZ_up hR1 (by decide) (fH_fld (fH_fld (fH_fld (fH_fld fH_refl (by decide)) (by decide)) (by decide)) (by decide)) (fH_fld (fH_fld (fH_fld fH_refl (by decide)) (by decide)) (by decide))⟩
  · have hL : ¬ (0 ≤ L ∧ pSm L = true) := fun z => hq ⟨l6.1 z.1, by
      have z2 := z.2
      rw [qL_sm l5, pB_in (l6.1 z.1)] at z2
      exact z2⟩
    rw [if_neg hq] at h23
    rw [if_neg hL] at E1
    exact Or.inr ⟨_, _, E1, dn _ h23, qZ_up hR1 (by decide) (fH_fld fH_refl (by decide)) (fH_fld fH_refl (by decide))⟩
