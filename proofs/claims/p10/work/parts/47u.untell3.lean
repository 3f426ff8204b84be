/-! ===== untell by both ===== -/
theorem fn167_eq {c : rHp} {h : Int} (hh : h = 9 * c 40 0 (c 1 0 10)) : ∃ v0, fn167 [] c = (let r := qNg h (qUc 1 c)
    if 1 ≤ r.2.1 then (if (fn128 [h] (rUp r.2.2 2 0 3 0)).2.1 ≥ 0 then (0, 1, (fn163 [] (fn130 [(fn128 [h] (rUp r.2.2 2 0 3 0)).2.1] (fn128 [h] (rUp r.2.2 2 0 3 0)).2.2).2.2).2.2) else (0, 0, (fn128 [h] (rUp r.2.2 2 0 3 0)).2.2)) else (0, v0, rUp r.2.2 2 0 3 0)) := by
  have f131 : ∀ x (g : rHp), (fn131 x g).2.2 = g := fun x g => rfl
  have f112 : ∀ g : rHp, (fn112 [] g).2.2 = rUp g 2 0 3 0 := fun g => rfl
  have eU : (fn111 [1] c).2.2 = qUc 1 c := rfl
  unfold fn167 qNg
  simp only [zLet, f131, eU, f112, ← hh]
  by_cases b1 : 1 ≤ (fn146 [] (qUc 1 c)).2.1
  · rw [if_pos b1, if_pos b1]
    have both : ∀ (P : Prop) [Decidable P] (a : zR), (if P then a else a) = a := fun P _ a => by split <;> rfl
    rw [both]
    by_cases b2 : 1 ≤ (fn148 [h] (fn146 [] (qUc 1 c)).2.2).2.1
    · rw [if_pos b2, if_pos b2]
      by_cases b3 : 1 ≤ (fn149 [] (fn148 [h] (fn146 [] (qUc 1 c)).2.2).2.2).2.1
      · rw [if_pos b3, if_pos b3]
        exact ⟨0, (if_pos (show (1 : Int) ≤ 1 by decide)).symm⟩
      · rw [if_neg b3, if_neg b3]
        exact ⟨_, (if_neg (show ¬ (1 : Int) ≤ 0 by decide)).symm⟩
    · rw [if_neg b2, if_neg b2]
      exact ⟨_, (if_neg (show ¬ (1 : Int) ≤ 0 by decide)).symm⟩
  · rw [if_neg b1, if_neg b1]
    exact ⟨_, (if_neg (show ¬ (1 : Int) ≤ 0 by decide)).symm⟩
theorem qNh_46 {n2 : Int} {m m_q : rHp} (h : qNh n2 m = (0, 1, m_q)) : ∀ j, j = 46 ∨ j = 47 ∨ j = 48 → (fn27 [] m).2.2 15 0 j = m_q 15 0 j := by
  unfold qNh qNj qNk at h
  intro j hj
  have no : ∀ g : rHp, ¬ ((0 : Nat), (0 : Int), g) = (0, 1, m_q) := fun g z => absurd (congrArg (fun r => r.2.1) z) (show ¬ (0 : Int) = 1 by decide)
  by_cases b1 : 1 ≤ (fn27 [] m).2.1
  · rw [if_pos b1] at h
    generalize (fn27 [] m).2.2 = g5 at *
    have f6 : fH 15 [] [35] g5 (fn7 [] g5).2.2 := by rw [fn7_eq]; exact fH_fld fH_refl (by decide)
    generalize (fn7 [] g5).2.2 = g6 at *
    by_cases b2 : 0 ≤ -g6 15 0 35 + n2 + (-1)
    · rw [if_pos b2] at h
      by_cases b3 : pB (g6 59 0) (g6 15 0 34) (g6 15 0 35) ≠ 46
      · rw [if_pos b3] at h; exact absurd h (no _)
      · rw [if_neg b3] at h
        by_cases b4 : 1 ≤ (fn31 [] g6).2.1
        · rw [if_pos b4] at h
          have e31 : (fn31 [] g6).2.2 = g6 := by
            by_cases b5 : g6 15 0 48 ≤ pIx (fun k => decide (g6 85 0 k = 0)) (g6 15 0 48) 0
            · rw [fn31_eq.1 b5]
            · obtain ⟨x, y1, y2⟩ := fn31_eq.2 b5
              rw [y1] at b4
              exact absurd b4 (show ¬ (1 : Int) ≤ 0 by decide)
          rw [e31] at h
          have f7 : fH 15 [] [35] g6 (fn7 [] (rUp g6 15 0 35 (g6 15 0 35 + 1))).2.2 := by rw [fn7_eq]; exact fH_fld (fH_fld fH_refl (by decide)) (by decide)
          generalize (fn7 [] (rUp g6 15 0 35 (g6 15 0 35 + 1))).2.2 = g7 at *
          by_cases b6 : g7 15 0 35 = n2
          · rw [if_pos b6] at h
            have e : g7 = m_q := congrArg (fun r => r.2.2) h
            rw [← e, f7.2 j (by rcases hj with rfl | rfl | rfl <;> decide), f6.2 j (by rcases hj with rfl | rfl | rfl <;> decide)]
          · rw [if_neg b6] at h; exact absurd h (no _)
        · rw [if_neg b4] at h; exact absurd h (no _)
    · rw [if_neg b2] at h; exact absurd h (no _)
  · rw [if_neg b1] at h; exact absurd h (no _)
theorem fn52_eq {m m1 : rHp} (e : (fn47 [61] (qUm m)).2.2 = m1) : ∃ v0, fn52 [] m = (let r := qNh (m 15 0 3) m1
    if 1 ≤ r.2.1 then (let P := fn21 [(fn27 [] m1).2.2 15 0 46, (fn27 [] m1).2.2 15 0 47, (fn27 [] m1).2.2 15 0 48] r.2.2
      if P.2.1 ≥ 0 then (if (fn45 [P.2.1, m 15 0 17] P.2.2).2.1 ≥ 0 then zLoop (en52 m) (0, [(fn45 [P.2.1, m 15 0 17] P.2.2).2.1, (fn45 [P.2.1, m 15 0 17] P.2.2).2.1, P.2.1], rUp (fn45 [P.2.1, m 15 0 17] P.2.2).2.2 15 0 17 (m 15 0 17 + (-1))) else (0, 0, (fn45 [P.2.1, m 15 0 17] P.2.2).2.2)) else (0, 0, P.2.2)) else (0, v0, r.2.2)) := by
  have e1 : (fn32 [61] (rUp (fn5 [] (rUp m 15 0 0 0)).2.2 15 0 14 (m 15 0 13))).2.2 = m1 := e
  have goo : ∀ d : zSt, zGoo (en52 m) d = (match d with | .inl s => zLoop (en52 m) s | .inr r => r) := fun d => by cases d <;> rfl
  unfold fn52 dn52 qNh qNj qNk
  simp only [zLet, e1, fn6_eq]
  by_cases b1 : 1 ≤ (fn27 [] m1).2.1
  · rw [if_pos b1, if_pos b1]
    generalize (fn27 [] m1).2.2 = g5
    generalize (fn7 [] g5).2.2 = g6
    by_cases b2 : 0 ≤ -g6 15 0 35 + m 15 0 3 + (-1)
    · rw [if_pos b2, if_pos b2]
      by_cases b3 : pB (g6 59 0) (g6 15 0 34) (g6 15 0 35) ≠ 46
      · rw [if_pos b3, if_pos b3]
        exact ⟨_, (if_neg (show ¬ (1 : Int) ≤ 0 by decide)).symm⟩
      · rw [if_neg b3, if_neg b3]
        by_cases b4 : 1 ≤ (fn31 [] g6).2.1
        · rw [if_pos b4, if_pos b4]
          generalize (fn7 [] (rUp (fn31 [] g6).2.2 15 0 35 (g6 15 0 35 + 1))).2.2 = g10
          by_cases b5 : g10 15 0 35 = m 15 0 3
          · rw [if_pos b5, if_pos b5]
            refine ⟨0, Eq.trans ?_ (if_pos (show (1 : Int) ≤ 1 by decide)).symm⟩
            by_cases b6 : (fn21 [g5 15 0 46, g5 15 0 47, g5 15 0 48] g10).2.1 ≥ 0
            · rw [if_pos b6, if_pos b6]
              by_cases b7 : (fn45 [(fn21 [g5 15 0 46, g5 15 0 47, g5 15 0 48] g10).2.1, m 15 0 17] (fn21 [g5 15 0 46, g5 15 0 47, g5 15 0 48] g10).2.2).2.1 ≥ 0
              · rw [if_pos b7, if_pos b7]; rfl
              · rw [if_neg b7, if_neg b7]; rfl
            · rw [if_neg b6, if_neg b6]; rfl
          · rw [if_neg b5, if_neg b5]
            exact ⟨_, (if_neg (show ¬ (1 : Int) ≤ 0 by decide)).symm⟩
        · rw [if_neg b4, if_neg b4]
          exact ⟨_, (if_neg (show ¬ (1 : Int) ≤ 0 by decide)).symm⟩
    · rw [if_neg b2, if_neg b2]
      exact ⟨_, (if_neg (show ¬ (1 : Int) ≤ 0 by decide)).symm⟩
  · rw [if_neg b1, if_neg b1]
    exact ⟨_, (if_neg (show ¬ (1 : Int) ≤ 0 by decide)).symm⟩
/-- untell keeps what holds between calls -/
theorem untell_two {B : Int} {c m : rHp} (h : Rel B c m) (hB : B ≤ 10239) : ∃ v c_q v_q m_q, fn167 [] c = (0, v, c_q) ∧ fn52 [] m = (0, v_q, m_q) ∧ Rel (B + 1) c_q m_q ∧ (yU c m → yU c_q m_q) ∧ yFA c m c_q m_q := by
  obtain ⟨c0, c1, m1, e1, e2, hR, hBB, h00, hlim, o7, x40, x7, x16, x73, m34, m17, m3, fin⟩ := start_any (p := 1) (r := 61) h hB (by decide)
  have hU : qUc 1 c 40 0 (qUc 1 c 1 0 10) = c 40 0 (c 1 0 10) := by
    have fc : fH 2 [] [5, 6, 7, 13, 16] c (qUc 1 c) := fH_fld (fH_fld (fH_fld (fH_fld (fH_fld fH_refl (by decide)) (by decide)) (by decide)) (by decide)) (by decide)
    rw [fc.1 40 (by decide) (by decide), fc.1 1 (by decide) (by decide)]
  obtain ⟨v0, E1⟩ := fn167_eq (c := c) (h := 9 * c 40 0 (c 1 0 10)) rfl
  obtain ⟨v1, E2⟩ := fn52_eq e2
  rw [← m34] at E2
  have e146 : fn146 [] (qUc 1 c) = qH6 c1 := by rw [fn146_eq, hU, e1]
  have h32 : m 15 0 32 ≤ 61 := by have := h.2.2.2.2.2.1; omega
  rcases naming_two (cU := qUc 1 c) (h := 9 * c 40 0 (c 1 0 10)) (by rw [hU]; exact e1) hR hBB h00 hlim (by rw [x40]) x7 with ⟨i, P, c_q, m_q, n1, n2, n3, n4, n5, n6, n7, n8, n9, n10, n11⟩ | ⟨c_q, m_q, n1, n2, n3⟩
  · obtain ⟨fR, fF, f9, f17, -, fy, fA⟩ := fin c_q m_q (qZ_up n3 (by decide) fH_refl fH_refl)
    obtain ⟨nD, nE⟩ := naming_D (r := 61) e146 hR (by rw [n1]) (by rw [n2]) (n3.2.2.2.2.2.1.2 3 (by decide)) (n3.2.2.2.2.2.2.2.1.2 34 (by decide))
    rw [x40] at nD
    have fy := fy nD nE h32
    have q := qNh_46 n2
    rw [n1] at E1
    rw [n2] at E2
    simp only at E1 E2
    rw [if_pos (show (1 : Int) ≤ 1 by decide)] at E1 E2
    rw [q 46 (by omega), q 47 (by omega), q 48 (by omega), n10] at E2
    simp only at E2
    rw [fn128_eq] at E1
    simp only at E1
    have g : ∀ G : Nat, G ≠ 2 → rUp c_q 2 0 3 0 G = c_q G := fun G z => rUp_grp z
    have eq4 : ∀ f, qFc (rUp c_q 2 0 3 0) (9 * c 40 0 (c 1 0 10)) f = qFc c_q (9 * c 40 0 (c 1 0 10)) f := fun f => by
      unfold qFc qF4
      rw [g 19 (by decide), g 10 (by decide), g 20 (by decide), g 46 (by decide)]
    have e9 : rUp c_q 2 0 3 0 1 0 9 = c 1 0 9 := by rw [g 1 (by decide)]; exact f9
    have r7 := h.2.2.2.2.2.2.1
    rw [e9, pFd_congr (fun j _ _ => by rw [eq4 j])] at E1
    rcases n11 with hP | ⟨P0, P1, P2⟩
    · have hnone : pFd (fun f => !qFc c_q (9 * c 40 0 (c 1 0 10)) f) (c 1 0 9) = -1 := by
        refine pFd_none (fun j j0 j1 => ?_)
        have := fF j j0 j1
        unfold qFc
        rw [decide_eq_false (show ¬ c_q 19 0 j = c_q 10 (9 * c 40 0 (c 1 0 10)) 8 by have := this.2.1.1; omega), Bool.false_and]
        rfl
      rw [hnone, if_neg (by decide)] at E1
      rw [if_neg (show ¬ P ≥ 0 by omega)] at E2
      exact ⟨_, _, _, _, E1, E2, fR, fy, fA⟩
    · have same := fact_two fF n3.2.2.1.1 n3.2.2.1.2.1 n4 n8 n5 n6 n9 P2 n7
      rw [if_pos (show P ≥ 0 from P0), fn45_eq] at E2
      simp only at E2
      have hFd : pFd (fun f => !qFp m_q P f) (m 15 0 17) = pFd (fun f => !qFc c_q (9 * c 40 0 (c 1 0 10)) f) (c 1 0 9) := by
        rw [← r7.1]
        exact pFd_congr (fun j j0 j1 => by rw [same j j0 j1])
      rw [hFd] at E2
      generalize hFv : pFd (fun f => !qFc c_q (9 * c 40 0 (c 1 0 10)) f) (c 1 0 9) = F at *
      by_cases hF0 : F ≥ 0
      · have hFn : F < c 1 0 9 := by
          unfold pFd at hFv
          by_cases b : c 1 0 9 ≤ pIx (fun f => !qFc c_q (9 * c 40 0 (c 1 0 10)) f) (c 1 0 9) 0
          · rw [if_pos b] at hFv; omega
          · rw [if_neg b] at hFv; omega
        rw [if_pos hF0] at E1 E2
        obtain ⟨cG, g1, g2, g3, g4, g5, g6⟩ := fn130_eq (c := rUp c_q 2 0 3 0) (F := F) e9 hFn
        rw [g1] at E1
        have f163 := fn163_fr cG
        have m0 : fH 15 [] [17] m_q (rUp m_q 15 0 17 (m 15 0 17 + (-1))) := fH_fld fH_refl (by decide)
        obtain ⟨mG, l1, l2, l3, l4, l59, l93⟩ := fn52_loop (mS := m) (m0 := rUp m_q 15 0 17 (m 15 0 17 + (-1))) (F := F) (P := P) (n := c 1 0 9) (c 1 0 9 - 1 - F).toNat F (rUp m_q 15 0 17 (m 15 0 17 + (-1))) (by omega) (Int.le_refl _) (by rw [rUp_at]; omega) fH_refl (fun f => by rw [if_neg (by omega)]) (fun y => by rw [if_neg (by omega)])
        rw [l1] at E2
        have mGf : fH 15 [67, 68] [17, 59, 93] m_q mG := fH_trans (fH_sub m0 (by decide) (by decide)) (fH_sub l2 (by decide) (by decide))
        obtain ⟨k1, k2, k3⟩ := fn163_8 cG
        have kk : ∀ K : Nat, K ≠ 0 → K ≠ 8 → K ≠ 19 → K ≠ 20 → K ≠ 1 → K ≠ 2 → (fn163 [] cG).2.2 K = rUp c_q 2 0 3 0 K := fun K z1 z2 z3 z4 z5 z6 => by rw [f163.1 K (by simp; omega) z6, g2 K z3 z4 z5]
        refine ⟨_, _, _, _, E1, E2, ?_, fun hy => ?_, yFA_tr fA ⟨fun K z => ?_, fun j z => by rw [k1 j z, g2 0 (by decide) (by decide) (by decide)], by rw [f163.1 1 (by decide) (by decide)]; exact g3 8 (by decide), fun K z => mGf.1 K (by simp; omega) (by omega), fun j z => mGf.2 j (fun w => ?_), Or.inr ⟨k2, ?_, l59, l93⟩⟩⟩
        rotate_left
        · have y0 := fy hy
          obtain ⟨y1, y2, y3⟩ := y0
          unfold yU
          rw [kk 40 (by decide) (by decide) (by decide) (by decide) (by decide) (by decide), mGf.2 32 (by decide), mGf.2 13 (by decide)]
          refine ⟨y1, ?_, fun r r0 r1 => ?_⟩
          · unfold sN at y2 ⊢
            rw [kk 3 (by decide) (by decide) (by decide) (by decide) (by decide) (by decide), kk 26 (by decide) (by decide) (by decide) (by decide) (by decide) (by decide), mGf.2 8 (by decide), mGf.2 9 (by decide), mGf.1 61 (by decide) (by decide), mGf.1 62 (by decide) (by decide), mGf.1 63 (by decide) (by decide)]
            exact y2
          · exact gR2_all (y3 r r0 r1) (fun K z => kk K (by omega) (by omega) (by omega) (by omega) (by omega) (by omega)) (fun K z => by rw [rUp_grp (by omega), rUp_grp (by omega), mGf.1 K (by simp; omega) (by omega)]) (by rw [rUp_at, rUp_at]; exact Int.le_refl _)
        · have zz : K ≠ 0 ∧ K ≠ 8 ∧ K ≠ 19 ∧ K ≠ 20 ∧ K ≠ 1 ∧ K ≠ 2 := by
            refine ⟨?_, ?_, ?_, ?_, ?_, ?_⟩ <;> (rintro rfl; exact z (by decide))
          exact kk K zz.1 zz.2.1 zz.2.2.1 zz.2.2.2.1 zz.2.2.2.2.1 zz.2.2.2.2.2
        · unfold jBB at z
          simp only [List.mem_cons, List.not_mem_nil, or_false] at w z
          omega
        · unfold qo8 at k3 ⊢
          rw [g2 0 (by decide) (by decide) (by decide), g2 8 (by decide) (by decide) (by decide)] at k3
          exact k3
        refine Rel_gone fR e9 hF0 hFn (fun G z1 z2 z3 z4 z5 => ?_) (fun j z => ?_) ?_ (fun f => ?_) (fun y => ?_) (fH_trans (fH_sub m0 (by decide) (by decide)) (fH_sub l2 (by decide) (by decide))) ?_ (fun f => ?_) (fun y => ?_)
        · by_cases e2 : G = 2
          · subst e2
            funext k j
            have w := fn163_fr cG
            have w2 : (fn163 [] cG).2.2 2 = cG 2 := by
              unfold fn163 fn162
              simp only [zLet, List.getD_cons_zero]
              rw [rUp_grp (by decide), rUp_grp (by decide), rUp_grp (by decide)]
            rw [w2, g2 2 (by decide) (by decide) (by decide)]
          · rw [f163.1 G (by simp; omega) e2, g2 G z1 z2 z3]
        · rw [f163.1 1 (by decide) (by decide)]; exact g3 j z
        · rw [f163.1 1 (by decide) (by decide)]; exact g4
        · rw [f163.1 19 (by decide) (by decide)]; exact g5 f
        · rw [f163.1 20 (by decide) (by decide)]; exact g6 y
        · rw [l2.2 17 (by decide), rUp_at]; omega
        · rw [l3 f, rUp_grp (by decide)]
        · rw [l4 y, rUp_grp (by decide)]
      · rw [if_neg hF0] at E1 E2
        exact ⟨_, _, _, _, E1, E2, fR, fy, fA⟩
  · rw [n1] at E1
    rw [n2] at E2
    rw [if_neg (show ¬ (1 : Int) ≤ 0 by decide)] at E1 E2
    obtain ⟨fR, -, -, -, -, fy, fA⟩ := fin c_q m_q n3
    obtain ⟨nD, nE⟩ := naming_D (r := 61) e146 hR (by rw [n1]) (by rw [n2]) (n3.2.2.1.2 3 (by decide)) (n3.2.2.2.2.1.2 34 (by decide))
    rw [x40] at nD
    exact ⟨_, _, _, _, E1, E2, fR, fy nD nE h32, fA⟩
