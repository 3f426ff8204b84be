/-! ===== an ATOM by both, when asked ===== -/
theorem en36_more {mS m m1 m_q m7 : rHp} {n0 gets n : Int} (h7 : fn7 [] m = (0, 0, m1)) (hn : n ≠ 4) (h20 : fn20 [1] m1 = (0, 1, m_q)) (h7_q : fn7 [] (qM6 n0 (n + (4 * mS 73 0 (mS 15 0 44) + 32 * mS 15 0 44)) (m1 15 0 35) m_q) = (0, 0, m7)) (h34 : m7 15 0 34 = mS 15 0 34) :
    en36 mS (0, [n0, 0, 1, gets, n], m) = if m7 15 0 35 < mS 15 0 34 ∧ m7 59 0 (m7 15 0 35) = 44 then .inl (0, [n0, 0, 1, qGt n0 gets m_q, n + 1], rUp m7 15 0 35 (m7 15 0 35 + 1)) else .inl (0, [n0, 0, 0, qGt n0 gets m_q, n + 1], m7) := by
  have tail : ∀ q : Int, (if 0 ≤ -m7 15 0 35 + mS 15 0 34 + -1 then (if (fn6 [m7 15 0 35] m7).2.1 ≠ 44 then (Sum.inl (0, [n0, 0, 0, q, n + 1], (fn6 [m7 15 0 35] m7).2.2) : zSt) else .inl (0, [n0, 0, 1, q, n + 1], rUp (fn6 [m7 15 0 35] m7).2.2 15 0 35 (m7 15 0 35 + 1))) else .inl (0, [n0, 0, 0, q, n + 1], (fn6 [m7 15 0 35] m7).2.2)) = if m7 15 0 35 < mS 15 0 34 ∧ m7 59 0 (m7 15 0 35) = 44 then .inl (0, [n0, 0, 1, q, n + 1], rUp m7 15 0 35 (m7 15 0 35 + 1)) else .inl (0, [n0, 0, 0, q, n + 1], m7) := by
    intro q
    rw [fn6_eq]
    by_cases h : m7 15 0 35 < mS 15 0 34
    · rw [if_pos (by omega)]
      have hb : pB (m7 59 0) (m7 15 0 34) (m7 15 0 35) = m7 59 0 (m7 15 0 35) := pB_in (by omega)
      simp only [hb]
      by_cases h2 : m7 59 0 (m7 15 0 35) = 44
      · rw [if_neg (fun x => x h2), if_pos ⟨h, h2⟩]
      · rw [if_pos h2, if_neg (fun x => h2 x.2)]
    · rw [if_neg (by omega), if_neg (fun x => h x.1)]
  unfold qM6 at h7_q
  unfold qGt
  unfold en36
  simp only [zLet, List.getD_cons_zero, List.getD_cons_succ, ↓reduceIte, h7, h20]
  rw [if_neg (show ¬ (1 : Int) = 0 by decide), if_pos hn, if_pos (show (1 : Int) ≤ 1 by decide)]
  by_cases hs : m_q 15 0 40 ≠ 1
  · rw [if_pos hs] at h7_q
    have h7_q_q : fn7 [] (rUp (rUp m_q 80 0 (n + (4 * mS 73 0 (mS 15 0 44) + 32 * mS 15 0 44)) (m_q 15 0 40)) 81 0 (n + (4 * mS 73 0 (mS 15 0 44) + 32 * mS 15 0 44)) (m_q 15 0 39)) = (0, 0, m7) := h7_q
    simp only [if_pos hs, h7_q_q]
    exact tail _
  · rw [if_neg hs] at h7_q
    simp only [if_neg hs]
    by_cases h0 : n0 = 0
    · rw [if_pos h0] at h7_q
      have h7_q_q : fn7 [] (rUp (rUp m_q 80 0 (n + (4 * mS 73 0 (mS 15 0 44) + 32 * mS 15 0 44)) (m_q 15 0 40)) 81 0 (n + (4 * mS 73 0 (mS 15 0 44) + 32 * mS 15 0 44)) (m_q 15 0 39)) = (0, 0, m7) := h7_q
      simp only [if_pos h0, h7_q_q]
      exact tail _
    · rw [if_neg h0] at h7_q
      have h7_q_q : fn7 [] (qOw (rUp (rUp m_q 80 0 (n + (4 * mS 73 0 (mS 15 0 44) + 32 * mS 15 0 44)) (m_q 15 0 40)) 81 0 (n + (4 * mS 73 0 (mS 15 0 44) + 32 * mS 15 0 44)) (m_q 15 0 39)) (m1 15 0 35) (m_q 15 0 39) 1) = (0, 0, m7) := h7_q
      simp only [if_neg h0, fn25_one, h7_q_q]
      exact tail _
theorem en36_bad {mS m m1 m_q : rHp} {n0 gets n : Int} (h7 : fn7 [] m = (0, 0, m1)) (hn : n ≠ 4) (h20 : fn20 [1] m1 = (0, 0, m_q)) : en36 mS (0, [n0, 0, 1, gets, n], m) = .inr (0, 0, m_q) := by
  unfold en36
  simp only [zLet, List.getD_cons_zero, List.getD_cons_succ, ↓reduceIte, h7, h20]
  rw [if_neg (show ¬ (1 : Int) = 0 by decide), if_pos hn, if_neg (show ¬ (1 : Int) ≤ 0 by decide)]
theorem en36_four {mS m m1 : rHp} {n0 gets : Int} (h7 : fn7 [] m = (0, 0, m1)) : en36 mS (0, [n0, 0, 1, gets, 4], m) = .inr (0, 0, (fn8 [m1 15 0 35] m1).2.2) := by
  unfold en36
  simp only [zLet, List.getD_cons_zero, List.getD_cons_succ, ↓reduceIte, h7]
  rw [if_neg (show ¬ (1 : Int) = 0 by decide), if_neg (fun q => q rfl)]
theorem en36_out {mS m : rHp} {n0 gets n : Int} (hsk : pSk (m 59 0) (m 15 0 34) (m 15 0 35) = m 15 0 35) (hA : m 15 0 35 ≤ m 15 0 34) (h : ¬ (m 15 0 35 < m 15 0 34 ∧ m 59 0 (m 15 0 35) = 41)) : en36 mS (0, [n0, 0, 0, gets, n], m) = .inr (0, 0, rUp m 15 0 36 (m 15 0 35)) := by
  have h24 := fn24_eq (x := 41) hsk hA
  rw [if_neg h] at h24
  unfold en36
  simp only [zLet, List.getD_cons_zero, List.getD_cons_succ, ↓reduceIte, h24]
  rw [if_neg (show ¬ (1 : Int) ≤ 0 by decide)]
theorem en36_old {mS m : rHp} {n0 gets n P : Int} (hsk : pSk (m 59 0) (m 15 0 34) (m 15 0 35) = m 15 0 35) (hA : m 15 0 35 ≤ m 15 0 34) (h : m 15 0 35 < m 15 0 34 ∧ m 59 0 (m 15 0 35) = 41) (h21 : fn21 [mS 15 0 37, mS 15 0 38, n] (rUp m 15 0 35 (m 15 0 35 + 1)) = (0, P, rUp m 15 0 35 (m 15 0 35 + 1))) (hP : 0 ≤ P) :
    en36 mS (0, [n0, 0, 0, gets, n], m) = .inr (0, 1, qCl mS n0 gets P (rUp m 15 0 35 (m 15 0 35 + 1))) := by
  have h24 := fn24_eq (x := 41) hsk hA
  rw [if_pos h] at h24
  unfold en36 qCl
  simp only [zLet, List.getD_cons_zero, List.getD_cons_succ, ↓reduceIte, h24, h21]
  rw [if_pos (show (1 : Int) ≤ 1 by decide), if_pos (show P ≥ 0 from hP)]
  by_cases h0 : n0 = 0
  · rw [if_pos h0, if_pos h0]
  · rw [if_neg h0, if_neg h0]
theorem en36_none {mS m : rHp} {n0 gets n : Int} (hsk : pSk (m 59 0) (m 15 0 34) (m 15 0 35) = m 15 0 35) (hA : m 15 0 35 ≤ m 15 0 34) (h : m 15 0 35 < m 15 0 34 ∧ m 59 0 (m 15 0 35) = 41) (h21 : fn21 [mS 15 0 37, mS 15 0 38, n] (rUp m 15 0 35 (m 15 0 35 + 1)) = (0, -1, rUp m 15 0 35 (m 15 0 35 + 1))) :
    en36 mS (0, [n0, 0, 0, gets, n], m) = .inr (0, 0, (fn8 [mS 15 0 37] (rUp m 15 0 35 (m 15 0 35 + 1))).2.2) := by
  have h24 := fn24_eq (x := 41) hsk hA
  rw [if_pos h] at h24
  unfold en36
  simp only [zLet, List.getD_cons_zero, List.getD_cons_succ, ↓reduceIte, h24, h21]
  rw [if_pos (show (1 : Int) ≤ 1 by decide), if_neg (show ¬ (-1 : Int) ≥ 0 by decide)]
theorem close_two_a {d : Int} {c0 m0 c m : rHp} (hR : qR d c0 m0 c m) (hd : d ≤ 1) {w f s n n0 : Int} (hw : c 10 (qG c) 6 = w) (hz : c 10 (qG c) 5 = n) (hp : c 2 0 7 = 2) (hW : qW pSm (m 59 0) n0 w f s) :
    (∃ P c_q, fn134 [] c = (0, 1, c_q) ∧ fn21 [f, s, n] m = (0, P, m) ∧ 0 ≤ P ∧ qR d c0 m0 c_q m ∧ fH 2 [1, 10, 16, 17] [] c c_q ∧ (∀ h j, ¬ (h = qG c ∧ j = 8) → c_q 10 h j = c 10 h j) ∧ (∀ j, j ≠ 7 → c_q 1 0 j = c 1 0 j) ∧ (c_q 10 (qG c) 8 = P ∧ P < m 15 0 14 ∧ m 66 0 P = n)) ∨
    (∃ c_q, fn134 [] c = (0, 0, c_q) ∧ fn21 [f, s, n] m = (0, -1, m) ∧ qZ c0 m0 c_q m) := by
  obtain ⟨P, h125, h21, hP⟩ := pred_two (n := n) hR.2.2.2.1 hW
  have hR2 : ∀ v, qR d c0 m0 (rUp c 10 (qG c) 8 v) m := by
    intro v
    refine qR_up hR (fH_grp fH_refl (by decide) (by decide)) fH_refl ?_ (Int.le_refl _) hR.2.1.2.1 hR.2.1.2.2
    rw [rUp_grp (by decide)]; exact hR.2.1.1
  have hG : c 9 (c 40 0 (c 1 0 10)) 2 + 9 * c 40 0 (c 1 0 10) + 1 = qG c := rfl
  rcases hP with hP | hP
  · rw [hP] at h125 h21
    refine Or.inr ⟨rUp (rUp c 10 (qG c) 8 (-1)) 2 0 4 (c 10 (qG c) 7), ?_, h21, ?_⟩
    · unfold fn134
      simp only [zLet, hG, hw, hz, hp, h125, fn109_eq]
      rw [if_neg (by decide), if_pos (by decide), if_neg (by decide)]
    · exact qZ_up (hR2 (-1)) hd (fH_fld fH_refl (by decide)) fH_refl
  · refine Or.inl ⟨P, rUp c 10 (qG c) 8 P, ?_, h21, hP.1, hR2 P, fH_grp fH_refl (by decide) (by decide), ?_, ?_, rUp_at, hP.2⟩
    · unfold fn134
      simp only [zLet, hG, hw, hz, hp, h125]
      rw [if_pos (show P ≥ 0 from hP.1)]
    · intro h j q
      rw [rUp_ne (fun x => q x.2)]
    · intro j hj
      rw [rUp_grp (by decide)]
theorem atom_loop_a {H : Int → Prop} {kind n0 w : Int} {cS mS c0 m0 : rHp} (h00 : 0 ≤ c0 1000 0 0) (hlim : 2 * c0 1000 0 0 + m0 15 0 34 ≤ 10239) (hk : kind = 1 ∨ kind = 2) (hkn : cS 2 0 5 = mS 15 0 45) (hst : cS 2 0 16 ≤ 28) (hpu : cS 2 0 7 = 2) (hW : qW pSm (mS 59 0) (mS 15 0 34) w (mS 15 0 37) (mS 15 0 38)) :
    ∀ (k : Nat) (i gets : Int) (c m : rHp), i + k = 4 → 0 ≤ i → qR 0 c0 m0 c m → qJ (sN c0 m0) H kind n0 cS mS i gets w c m →
    (∃ c_q m_q, zLoop (en145 cS) (0, [i], c) = (0, 1, c_q) ∧ zLoop (en36 mS) (0, [n0, 0, 1, gets, i], m) = (0, 1, m_q) ∧ qE H kind cS mS c0 m0 c_q m_q) ∨
    (∃ c_q m_q, zLoop (en145 cS) (0, [i], c) = (0, 0, c_q) ∧ zLoop (en36 mS) (0, [n0, 0, 1, gets, i], m) = (0, 0, m_q) ∧ qZ c0 m0 c_q m_q) := by
  intro k
  induction k with
  | zero =>
    intro i gets c m hi h0 hR hJ
    have hi4 : i = 4 := by omega
    subst hi4
    obtain ⟨p, L, k1, k2, k3, k4, k5, k6, k7⟩ := look_two hR.1 hR.2.1 [] []
    refine Or.inr ⟨_, _, zLoop_inr (en145_four k1), zLoop_inr (en36_four k2), ?_⟩
    rw [fn8_eq (by rw [rUp_at, rUp_ne (by decide)]; exact k4)]
    exact qZ_up hR (by decide) (fH_fld (fH_fld fH_refl (by decide)) (by decide)) (fH_fld (fH_fld fH_refl (by decide)) (by decide))
  | succ k ih =>
    intro i gets c m hi h0 hR hJ
    have hi4 : i < 4 := by omega
    have hG : qG c = qG cS := by
      have f := hJ.2.2.1
      unfold qG
      rw [f.1 9 (by decide) (by decide), f.1 40 (by decide) (by decide), f.1 1 (by decide) (by decide)]
    have hk4 : c 10 (qG c) 4 = kind := by rw [hG]; exact hJ.2.2.2.2.1.1
    have hz : c 10 (qG c) 5 < 4 := by rw [hG, hJ.2.2.2.2.1.2.1]; exact hi4
    have h16 := hJ.2.2.2.2.2.2.2.2.1
    obtain ⟨p, p1, p2, p3, hA⟩ := arg_two hR hJ.1 h00 hlim (by rw [hk4]; exact hk) hz (by omega)
    rcases hA with ⟨c_q, m_q, b1, b2, b3, b4, b5, b6, b7, b8, b9, b10, b11, b12, b13, b14⟩ | ⟨c_q, m_q, b1, b2, b3⟩
    · rw [hk4] at b10
      rw [hG] at b8 b9 b13
      rw [hk4, hG, hJ.2.2.2.2.1.2.1] at b14
      have hJ2 := qJ_arg (X := i + (4 * mS 73 0 (mS 15 0 44) + 32 * mS 15 0 44)) (p := rUp m 15 0 35 p 15 0 35) hJ h0 rfl b14 (fun a b q => vE_of b3 (by decide) hlim q) b4 b6 b7 b8 b9 b10 b11 b12 b13
      obtain ⟨c_q_q, hc_q_q, e145⟩ := en145_more (cS := cS) hi4 b1
      have fr : fH 15 [80, 81, 88, 89, 90, 91] [58] m_q (qM6 n0 (i + (4 * mS 73 0 (mS 15 0 44) + 32 * mS 15 0 44)) (rUp m 15 0 35 p 15 0 35) m_q) := qM6_fr
      have fcc : fH 2 [10] [] c_q c_q_q := by
        rcases hc_q_q with q | ⟨q, -⟩
        · rw [q]; exact fH_refl
        · rw [q]; exact fH_grp fH_refl (by decide) (by decide)
      have fc10 : ∀ h j, ¬ (h = qG cS ∧ j = 9) → c_q_q 10 h j = c_q 10 h j := by
        intro h j x
        rcases hc_q_q with q | ⟨q, -⟩
        · rw [q]
        · rw [q, rUp_ne (fun y => x y.2)]
      have e41 : ∀ m7, fn7 [] (qM6 n0 (i + (4 * mS 73 0 (mS 15 0 44) + 32 * mS 15 0 44)) (rUp m 15 0 35 p 15 0 35) m_q) = (0, 0, m7) → m7 15 0 34 = mS 15 0 34 → _ := fun m7 q1 q2 => en36_more (mS := mS) (gets := gets) p3 (show i ≠ 4 by omega) b2 q1 q2
      have hR6 : qR 1 c0 m0 c_q_q (qM6 n0 (i + (4 * mS 73 0 (mS 15 0 44) + 32 * mS 15 0 44)) (rUp m 15 0 35 p 15 0 35) m_q) := by
        refine qR_up b3 (fH_sub fcc (by decide) (by decide)) (fH_sub fr (by decide) (by decide)) ?_ ?_ ?_ ?_
        · rw [fcc.2 6 (by decide), fr.2 35 (by decide)]; exact b3.2.1.1
        · rw [fr.2 35 (by decide)]; exact Int.le_refl _
        · rw [fr.2 35 (by decide)]; exact b3.2.1.2.1
        · rw [fr.2 35 (by decide)]; exact b3.2.1.2.2
      have hJ6 : qJ (sN c0 m0) H kind n0 cS mS (i + 1) (qGt n0 gets m_q) w c_q_q (qM6 n0 (i + (4 * mS 73 0 (mS 15 0 44) + 32 * mS 15 0 44)) (rUp m 15 0 35 p 15 0 35) m_q) := by
        obtain ⟨d1, d2, d3, d4, d5, d6, d7, d8, d9, d10, d11, d12⟩ := hJ2
        have e5 : c_q_q 2 0 5 = c_q 2 0 5 := fcc.2 5 (by decide)
        have e16 : c_q_q 2 0 16 = c_q 2 0 16 := fcc.2 16 (by decide)
        refine ⟨d1, qO_up d2 e16 (fcc.1 25 (by decide) (by decide)) rfl rfl rfl rfl (Int.le_refl _), fH_trans d3 (fH_sub fcc (by decide) (by decide)), d4, ?_, ?_, ?_, ?_, ?_, ?_, ?_, ?_⟩
        · rw [fc10 _ _ (by omega), fc10 _ _ (by omega), fc10 _ _ (by omega)]; exact d5
        · rw [e5]; exact d6
        · rw [e5]; exact d7
        · rw [e5]; exact d8
        · rw [e16]; exact d9
        · intro G h q q2
          rw [← d10 G h q q2]
          by_cases h10 : G = 10
          · subst h10
            funext j
            exact fc10 h j (fun y => q2 y.1)
          · rw [fcc.1 G (by simpa using h10) (memG q).1]
        · rw [e5]
          exact qAs_up d11 (by rw [fcc.1 43 (by decide) (by decide)]) (by rw [fcc.1 44 (by decide) (by decide)]) (by rw [fcc.1 46 (by decide) (by decide)]) rfl rfl
        · rcases hc_q_q with q | ⟨q, hq⟩
          · rw [q]; exact d12
          · have z9 : c_q_q 10 (qG cS) 9 = i := by rw [q, rUp_at]
            refine ⟨by omega, by omega, fun _ => ?_⟩
            rw [z9, fcc.1 43 (by decide) (by decide), fcc.1 44 (by decide) (by decide), ← hkn]
            exact hq
      generalize qM6 n0 (i + (4 * mS 73 0 (mS 15 0 44) + 32 * mS 15 0 44)) (rUp m 15 0 35 p 15 0 35) m_q = m6 at *
      generalize qGt n0 gets m_q = gets_q at *
      obtain ⟨r, L, k1, k2, k3, k4, k5, k6, k7⟩ := look_two hR6.1 hR6.2.1 [] []
      have f34 : m6 15 0 34 = mS 15 0 34 := hJ6.2.2.2.1.2 34 (by decide)
      have e41 := e41 _ k2 (by rw [rUp_ne (by decide)]; exact f34)
      rw [k1] at e145
      have fc7 : fH 2 [] [6] c_q_q (rUp c_q_q 2 0 6 r) := fH_fld fH_refl (by decide)
      have fm7 : fH 15 [] [35] m6 (rUp m6 15 0 35 r) := fH_fld fH_refl (by decide)
      have x6 : rUp c_q_q 2 0 6 r 2 0 6 = r := rUp_at
      have y35 : rUp m6 15 0 35 r 15 0 35 = r := rUp_at
      have y34 : rUp m6 15 0 35 r 15 0 34 = m6 15 0 34 := rUp_ne (by decide)
      have y59 : rUp m6 15 0 35 r 59 = m6 59 := rUp_grp (by decide)
      have a0 := hR6.2.1.2.1
      have hR7 : qR 1 c0 m0 (rUp c_q_q 2 0 6 r) (rUp m6 15 0 35 r) := by
        refine qR_up hR6 (fH_fld fH_refl (by decide)) (fH_fld fH_refl (by decide)) ?_ ?_ ?_ ?_
        · rw [x6, y35]
        · rw [y35]; omega
        · rw [y35]; omega
        · rw [y35]; exact k4
      have hJ7 := qJ_move hJ6 fc7 fm7 (by rw [y35]; exact k3)
      generalize rUp c_q_q 2 0 6 r = c7 at *
      generalize rUp m6 15 0 35 r = m7 at *
      have hsk : pSk (m7 59 0) (m7 15 0 34) (m7 15 0 35) = m7 15 0 35 := by rw [y59, y34, y35]; exact k7
      have hA7 : m7 15 0 35 ≤ m7 15 0 34 := by rw [y35, y34]; exact k4
      have h44 : (L = 44) = (pB (m6 59 0) (m6 15 0 34) r = 44) := qL_is k5 (by decide) (by decide)
      have h41 : (L = 41) = (pB (m6 59 0) (m6 15 0 34) r = 41) := qL_is k5 (by decide) (by decide)
      unfold qAf at e145
      simp only at e145
      by_cases hn : r < m6 15 0 34
      · have hL : 0 ≤ L := k6.2 hn
        rw [pB_in hn] at h44 h41
        rw [if_pos hL] at e145
        have hR8 : qR 0 c0 m0 (rUp c7 2 0 6 (c7 2 0 6 + 1)) (rUp m7 15 0 35 (m7 15 0 35 + 1)) := by
          refine qR_up hR7 (fH_fld fH_refl (by decide)) (fH_fld fH_refl (by decide)) ?_ ?_ ?_ ?_
          · rw [rUp_at, rUp_at, x6, y35]
          · rw [rUp_at]; omega
          · rw [rUp_at, y35]; omega
          · rw [rUp_at, y35, y34]; omega
        have hJ8 : qJ (sN c0 m0) H kind n0 cS mS (i + 1) gets_q w (rUp c7 2 0 6 (c7 2 0 6 + 1)) (rUp m7 15 0 35 (m7 15 0 35 + 1)) := qJ_move hJ7 (fH_fld fH_refl (by decide)) (fH_fld fH_refl (by decide)) (by rw [rUp_at]; omega)
        by_cases hc : m6 59 0 r = 44
        · have hL44 : L = 44 := by rw [h44]; exact hc
          rw [if_neg (by omega), if_pos hL44] at e145
          rw [if_pos ⟨by rw [y35, ← f34]; exact hn, by rw [y59, y35]; exact hc⟩] at e41
          rw [zLoop_inl e145, zLoop_inl e41]
          exact ih (i + 1) gets_q _ _ (by omega) (by omega) hR8 hJ8
        · have hL44 : ¬ L = 44 := by rw [h44]; exact hc
          rw [if_neg (fun q => hc (by rw [← y35, ← y59]; exact q.2))] at e41
          rw [zLoop_inl e41]
          by_cases hp : m6 59 0 r = 41
          · have hL41 : L = 41 := by rw [h41]; exact hp
            rw [if_pos hL41] at e145
            have hcl : m7 15 0 35 < m7 15 0 34 ∧ m7 59 0 (m7 15 0 35) = 41 := ⟨by rw [y35, y34]; exact hn, by rw [y59, y35]; exact hp⟩
            have hG8 : qG (rUp c7 2 0 6 (c7 2 0 6 + 1)) = qG cS := by
              have f := hJ8.2.2.1
              unfold qG
              rw [f.1 9 (by decide) (by decide), f.1 40 (by decide) (by decide), f.1 1 (by decide) (by decide)]
            have hp8 : rUp c7 2 0 6 (c7 2 0 6 + 1) 2 0 7 = 2 := (hJ8.2.2.1.2 7 (by decide)).trans hpu
            have hW8 : qW pSm (rUp m7 15 0 35 (m7 15 0 35 + 1) 59 0) (mS 15 0 34) w (mS 15 0 37) (mS 15 0 38) := by
              rw [hJ8.2.2.2.1.1 59 (by decide) (by decide)]; exact hW
            skip
            have close := close_two_a hR8 (by decide) (n := i + 1) (by rw [hG8]; exact hJ8.2.2.2.2.1.2.2) (by rw [hG8]; exact hJ8.2.2.2.2.1.2.1) hp8 hW8
            have fin : ∀ c9 m9 P, qR 0 c0 m0 c9 m9 → fH 2 [1, 10, 16, 17] [] (rUp c7 2 0 6 (c7 2 0 6 + 1)) c9 → (∀ h j, ¬ (h = qG cS ∧ j = 8) → c9 10 h j = rUp c7 2 0 6 (c7 2 0 6 + 1) 10 h j) → fH 15 [64, 65, 66] [14] (rUp m7 15 0 35 (m7 15 0 35 + 1)) m9 → (c9 10 (qG cS) 8 = P ∧ 0 ≤ P ∧ P < m9 15 0 14 ∧ m9 66 0 P = i + 1) → qE H kind cS mS c0 m0 c9 (qCl mS n0 gets_q P m9) := by
              intro c9 m9 P q1 q2 q3 q4 q5
              generalize rUp c7 2 0 6 (c7 2 0 6 + 1) = c8 at *
              generalize rUp m7 15 0 35 (m7 15 0 35 + 1) = m8 at *
              obtain ⟨d1, d2, d3, d4, d5, d6, d7, d8, d9, d10, d11, d12⟩ := hJ8
              have fl : fH 15 [77, 78, 79] [45] m9 (qCl mS n0 gets_q P m9) := qCl_fr
              have e5 : c9 2 0 5 = c8 2 0 5 := q2.2 5 (by decide)
              have e16 : c9 2 0 16 = c8 2 0 16 := q2.2 16 (by decide)
              have e35 : qCl mS n0 gets_q P m9 15 0 35 = m9 15 0 35 := fl.2 35 (by decide)
              have g35 : qCl mS n0 gets_q P m9 15 0 35 = m8 15 0 35 := e35.trans (q4.2 35 (by decide))
              have g44 : qCl mS n0 gets_q P m9 15 0 44 = m8 15 0 44 := (fl.2 44 (by decide)).trans (q4.2 44 (by decide))
              have g58 : qCl mS n0 gets_q P m9 15 0 58 = m8 15 0 58 := (fl.2 58 (by decide)).trans (q4.2 58 (by decide))
              have gG : ∀ G, G ∉ [64, 65, 66] → G ∉ [77, 78, 79] → G ≠ 15 → qCl mS n0 gets_q P m9 G = m8 G := fun G x1 x2 x3 => (fl.1 G x2 x3).trans (q4.1 G x1 x3)
              have g74 : qCl mS n0 gets_q P m9 74 0 (qCl mS n0 gets_q P m9 15 0 44) = m8 74 0 (m8 15 0 44) := by rw [gG 74 (by decide) (by decide) (by decide), g44]
              have h45 : c9 2 0 5 = qCl mS n0 gets_q P m9 15 0 45 := by
                rw [e5, qCl_45]
                rcases d8 with q | q
                · rw [if_pos q.2.1]; exact q.2.2
                · rw [if_neg (by omega), q.2.2, q4.2 45 (by decide), d4.2 45 (by decide)]
              have z5 : c9 10 (qG cS) 5 = i + 1 := by rw [q3 _ _ (by omega)]; exact d5.2.1
              obtain ⟨l7, l8, l9⟩ := qCl_all (mS := mS) (m := m9) (n0 := n0) (gets := gets_q) (P := P)
              refine ⟨?_, ?_, ?_, ?_, ?_, ?_, ?_, ?_, ?_, ?_, ?_, ?_⟩
              · refine qR_up q1 fH_refl (fH_sub fl (by decide) (by decide)) ?_ ?_ ?_ ?_
                · rw [e35]; exact q1.2.1.1
                · rw [e35]; exact Int.le_refl _
                · rw [e35]; exact q1.2.1.2.1
                · rw [e35]; exact q1.2.1.2.2
              · exact qS_up d1 g44 (gG 74 (by decide) (by decide) (by decide)) (gG 84 (by decide) (by decide) (by decide)) (by rw [g35]; exact Int.le_refl _)
              · exact qO_up d2 e16 (q2.1 25 (by decide) (by decide)) g58 (gG 89 (by decide) (by decide) (by decide)) (gG 90 (by decide) (by decide) (by decide)) (gG 91 (by decide) (by decide) (by decide)) (by rw [g74]; exact Int.le_refl _)
              · exact h45
              · rw [e5]; exact d6
              · rw [e5, g74]; exact d7
              · rw [e16]; omega
              · rw [q3 _ _ (by omega)]; exact d5.1
              · intro G h x1 x2
                rw [← d10 G h x1 x2]
                by_cases h10 : G = 10
                · subst h10
                  funext j
                  exact q3 h j (fun y => x2 y.1)
                · refine congrFun (q2.1 G ?_ (memG x1).1) h
                  simp only [List.mem_cons, List.not_mem_nil, or_false] at x1 ⊢
                  omega
              · exact fH_trans (fH_sub d3 (by decide) (by decide)) (fH_sub q2 (by decide) (by decide))
              · exact fH_trans (fH_trans (fH_sub d4 (by decide) (by decide)) (fH_sub q4 (by decide) (by decide))) (fH_sub fl (by decide) (by decide))
              · refine ⟨?_, l9, by rw [l8]; exact q5.1, by rw [l8]; exact q5.2.1, by rw [l8, fl.2 14 (by decide)]; exact q5.2.2.1, by rw [l8, fl.1 66 (by decide) (by decide), z5]; exact q5.2.2.2.symm, by omega, ?_, ?_⟩
                · rw [l7]
                  rcases d8 with q | q
                  · rw [if_pos q.2.1, q.1]; decide
                  · rw [if_neg (by omega), q.1]; decide
                · rw [← h45, e5, z5, show 4 * (mS 73 0 (mS 15 0 44) + 8 * mS 15 0 44) = 4 * mS 73 0 (mS 15 0 44) + 32 * mS 15 0 44 by omega]
                  exact qAs_up d11 (by rw [q2.1 43 (by decide) (by decide)]) (by rw [q2.1 44 (by decide) (by decide)]) (by rw [q2.1 46 (by decide) (by decide)]) (gG 80 (by decide) (by decide) (by decide)) (gG 81 (by decide) (by decide) (by decide))
                · rw [z5]
                  exact gGd_up d12 (q3 _ _ (by omega)) (by rw [q2.1 43 (by decide) (by decide)]) (by rw [q2.1 44 (by decide) (by decide)])
            rw [hG8] at close
            rcases close with ⟨P, c9, q1, q2, q3, q4, q5, q6, q7, q8⟩ | ⟨c9, q1, q2, q4⟩
            · simp only [q1] at e145
              rw [if_pos (show (1 : Int) ≤ 1 by decide)] at e145
              exact Or.inl ⟨_, _, zLoop_inr e145, zLoop_inr (en36_old hsk hA7 hcl q2 q3), fin _ _ _ q4 q5 q6 fH_refl ⟨q8.1, q3, q8.2⟩⟩
            · simp only [q1] at e145
              rw [if_neg (show ¬ (1 : Int) ≤ 0 by decide)] at e145
              have hfr := qW_s hW
              refine Or.inr ⟨_, _, zLoop_inr e145, zLoop_inr (en36_none hsk hA7 hcl q2), ?_⟩
              rw [fn8_eq (by rw [rUp_ne (by decide), y34, f34]; omega)]
              exact qZ_more q4 fH_refl (fH_fld fH_refl (by decide))
          · have hL41 : ¬ L = 41 := by rw [h41]; exact hp
            rw [if_neg hL41, if_neg hL44] at e145
            refine Or.inr ⟨_, _, zLoop_inr e145, zLoop_inr (en36_out hsk hA7 (fun q => hp (by rw [← y35, ← y59]; exact q.2))), ?_⟩
            exact qZ_up hR7 (by decide) (fH_fld fH_refl (by decide)) (fH_fld fH_refl (by decide))
      · have hL : ¬ 0 ≤ L := fun q => hn (k6.1 q)
        rw [if_neg hL] at e145
        rw [if_neg (fun q => hn (by rw [← y35, f34]; exact q.1))] at e41
        rw [zLoop_inl e41]
        refine Or.inr ⟨_, _, zLoop_inr e145, zLoop_inr (en36_out hsk hA7 (fun q => hn (by rw [← y35, ← y34]; exact q.1))), ?_⟩
        exact qZ_up hR7 (by decide) (fH_fld fH_refl (by decide)) (fH_fld fH_refl (by decide))
    · exact Or.inr ⟨c_q, m_q, zLoop_inr (en145_bad hi4 b1), zLoop_inr (en36_bad p3 (show i ≠ 4 by omega) b2), b3⟩
theorem atom_two_a {H : Int → Prop} {kind n0 : Int} {c0 m0 c m : rHp} (hR : qR 0 c0 m0 c m) (hB : qB H c m) (h00 : 0 ≤ c0 1000 0 0) (hlim : 2 * c0 1000 0 0 + m0 15 0 34 ≤ 10239) (hk : kind = 1 ∧ n0 = 0 ∨ kind = 2 ∧ n0 = 1) (hst : c 2 0 16 ≤ 28) (hpu : c 2 0 7 = 2) (hW : qW pSm (m 59 0) (m 15 0 34) (c 2 0 8) (m 15 0 37) (m 15 0 38))
    (hsk : pSk (m 59 0) (m 15 0 34) (m 15 0 35) = m 15 0 35) (hn : m 15 0 35 < m 15 0 34) (hb : m 59 0 (m 15 0 35) = 40) :
    (∃ c_q m_q, fn145 [kind] c = (0, 1, c_q) ∧ fn36 [n0, 0] m = (0, 1, m_q) ∧ qE H kind c m c0 m0 c_q m_q) ∨ (∃ c_q m_q, fn145 [kind] c = (0, 0, c_q) ∧ fn36 [n0, 0] m = (0, 0, m_q) ∧ qZ c0 m0 c_q m_q) := by
  obtain ⟨cK, h1, h2, h3, h4, h5, h6⟩ := fn103_all (c := c) (k := kind) (w := c 2 0 8) (p := c 2 0 9)
  obtain ⟨b1, b2, b3, b4, b5⟩ := hB
  have a0 := hR.2.1.2.1
  have hRK : qR 0 c0 m0 cK m := by
    refine qR_up hR (fH_sub h2 (by decide) (by decide)) fH_refl ?_ (Int.le_refl _) hR.2.1.2.1 hR.2.1.2.2
    rw [h2.2 6 (by decide)]; exact hR.2.1.1
  obtain ⟨L, k1, k2, k3, k4⟩ := look_at hRK.1 hRK.2.1 hsk [] []
  have hL : 0 ≤ L := k4.2 hn
  have hL40 : L = 40 := by
    rw [qL_is k3 (by decide) (by decide), pB_in hn]; exact hb
  have e1 : fn145 [kind] c = zLoop (en145 c) (0, [0], rUp cK 2 0 6 (cK 2 0 6 + 1)) := by
    unfold fn145 dn145
    simp only [zLet, List.getD_cons_zero, h1, k1]
    rw [if_pos hL, if_pos hL40]
    rfl
  have e2 : fn36 [n0, 0] m = zLoop (en36 m) (0, [n0, 0, 1, 0, 0], rUp m 15 0 35 (m 15 0 35 + 1)) := rfl
  rw [e1, e2]
  have hR1 : qR 0 c0 m0 (rUp cK 2 0 6 (cK 2 0 6 + 1)) (rUp m 15 0 35 (m 15 0 35 + 1)) := by
    refine qR_up hRK (fH_fld fH_refl (by decide)) (fH_fld fH_refl (by decide)) ?_ ?_ ?_ ?_
    · rw [rUp_at, rUp_at, hRK.2.1.1]
    · rw [rUp_at]; omega
    · rw [rUp_at]; omega
    · rw [rUp_at]; omega
  have f1 : fH 2 [] [6] cK (rUp cK 2 0 6 (cK 2 0 6 + 1)) := fH_fld fH_refl (by decide)
  have f2 : fH 15 [] [35] m (rUp m 15 0 35 (m 15 0 35 + 1)) := fH_fld fH_refl (by decide)
  have y35 : rUp m 15 0 35 (m 15 0 35 + 1) 15 0 35 = m 15 0 35 + 1 := rUp_at
  generalize rUp cK 2 0 6 (cK 2 0 6 + 1) = c1 at *
  generalize rUp m 15 0 35 (m 15 0 35 + 1) = m1 at *
  have g : ∀ G : Nat, G ≠ 2 → c1 G = cK G := fun G q => f1.1 G (by simp) q
  have x5 : c1 2 0 5 = c 2 0 5 := (f1.2 5 (by decide)).trans (h2.2 5 (by decide))
  have x16 : c1 2 0 16 = c 2 0 16 := (f1.2 16 (by decide)).trans (h2.2 16 (by decide))
  have m74 : m1 74 0 (m1 15 0 44) = m 74 0 (m 15 0 44) := by rw [f2.1 74 (by decide) (by decide), f2.2 44 (by decide)]
  refine atom_loop_a h00 hlim (hk.imp (fun q => q.1) (fun q => q.1)) b3 hst hpu hW 4 0 0 c1 m1 (by decide) (by decide) hR1 ⟨?_, ?_, ?_, ?_, ⟨?_, ?_, ?_⟩, ?_, ?_, ?_, ?_, ?_, ?_, ?_⟩
  · exact qS_up b1 (f2.2 44 (by decide)) (f2.1 74 (by decide) (by decide)) (f2.1 84 (by decide) (by decide)) (by rw [y35]; omega)
  · exact qO_up b2 x16 ((g 25 (by decide)).trans (h2.1 25 (by decide) (by decide))) (f2.2 58 (by decide)) (f2.1 89 (by decide) (by decide)) (f2.1 90 (by decide) (by decide)) (f2.1 91 (by decide) (by decide)) (by rw [m74]; exact Int.le_refl _)
  · exact fH_trans (fH_sub h2 (by decide) (by decide)) (fH_sub f1 (by decide) (by decide))
  · exact fH_sub f2 (by decide) (by decide)
  · rw [g 10 (by decide)]; exact h3
  · rw [g 10 (by decide)]; exact h4
  · rw [g 10 (by decide)]; exact h5
  · rw [x5]; exact b4
  · rw [x5, m74]; exact b5
  · rw [x5]
    rcases hk with q | q
    · refine Or.inl ⟨q.1, q.2, ?_⟩
      rw [ior_zero (by rw [← b3]; exact b4)]; exact b3
    · exact Or.inr ⟨q.1, q.2, b3⟩
  · rw [x16]; omega
  · intro G h q q2
    rw [g G (memG q).1, h6 G h q2]
  · rw [x5, b3]
    exact qAs_nil
  · have h9 : c1 10 (qG c) 9 = -1 := by
      have := fn103_nine (c := c) (k := kind) (w := c 2 0 8) (p := c 2 0 9)
      rw [h1] at this
      rw [g 10 (by decide)]
      exact this
    exact ⟨by omega, by omega, fun z => by omega⟩
