/-! ===== find, by both ===== -/
/-- a HEAD whose ARGS are constants, and nothing behind it -/
theorem calling_twp {c0 m1 cU c1 : rHp} {h : Int} (e1 : rUp (rUp (fn110 [] cU).2.2 9 (cU 40 0 (cU 1 0 10)) 2 0) 9 (cU 40 0 (cU 1 0 10)) 3 0 = c1) (hR : qR 0 c0 m1 c1 m1) (hB : qB (fun _ => False) c1 m1) (h00 : 0 ≤ c0 1000 0 0) (hlim : 2 * c0 1000 0 0 + m1 15 0 34 ≤ 10239) (hh : h = 9 * c1 40 0 (c1 1 0 10)) (hp : c1 2 0 7 = 1) :
    (∃ i P q cH mH, fn146 [] cU = (0, 1, cH) ∧ fn27 [] m1 = (0, 1, mH) ∧ qR 0 c0 m1 cH mH ∧ fH 15 lQ jR m1 mH ∧ qHt cH mH h i ∧ 1 ≤ i ∧ i ≤ 4 ∧ (∀ k, i ≤ k → k < 4 → cH 46 h k = 0) ∧ cH 10 h 8 = P ∧ (P = -1 ∨ 0 ≤ P ∧ P < mH 15 0 14 ∧ mH 66 0 P = i) ∧
      fn149 [] cH = (if q < m1 15 0 34 then (0, 0, rUp (rUp cH 2 0 6 q) 2 0 4 q) else (0, 1, rUp cH 2 0 6 q)) ∧ fn7 [] mH = (0, 0, rUp mH 15 0 35 q) ∧ q ≤ m1 15 0 34 ∧ fn21 [mH 15 0 46, mH 15 0 47, mH 15 0 48] (rUp mH 15 0 35 q) = (0, P, rUp mH 15 0 35 q) ∧
      ((fn147 [h] cH = (0, 1, cH) ∧ fn31 [] mH = (0, 1, mH) ∧ ∀ k, 0 ≤ k → k < i → cH 43 h k = 0) ∨ ∃ c_q m_q, fn147 [h] cH = (0, 0, c_q) ∧ fn31 [] mH = (0, 0, m_q) ∧ c_q 2 0 4 = m_q 15 0 36 ∧ fH 15 [] [36] mH m_q)) ∨
    (∃ c_q m_q, fn146 [] cU = (0, 0, c_q) ∧ fn27 [] m1 = (0, 0, m_q) ∧ c_q 2 0 4 = m_q 15 0 36) := by
  have hw := head_twp hR hB h00 hlim hh
  have e146 : fn146 [] cU = qH6 c1 := by rw [fn146_eq, e1]
  rw [e146]
  rcases hw with ⟨H, i, w, c9, m9, w1, w2, w3, w4, w5, w6, w7, w8, w9, w10, w11, w12, w13, w14⟩ | ⟨c_q, m_q, w1, w2, w3⟩
  · obtain ⟨s1, s2, s3, s4, s5, s6, s7, s8, s9⟩ := w4
    have h7 : c9 2 0 7 = 1 := by rw [w7.2 7 (by decide)]; exact hp
    have hh9 : h = 9 * c9 40 0 (c9 1 0 10) := by rw [w7.1 40 (by decide) (by decide), w7.1 1 (by decide) (by decide)]; exact hh
    obtain ⟨P, h125, h21, hP⟩ := pred_two (n := i) w3.2.2.2.1 w10
    have e133 : fn133 [] c9 = (0, 1, rUp c9 10 h 8 P) := fn133_1 hh9 h7 (by rw [w9, s3]; exact h125)
    have w1z : qH6 c1 = (0, 1, rUp c9 10 h 8 P) := by
      rw [w1, e133]
      exact if_pos (show (1 : Int) ≤ 1 by decide)
    have f10 : fH 2 [10] [] c9 (rUp c9 10 h 8 P) := fH_grp fH_refl (by decide) (by decide)
    have o8 : rUp c9 10 h 8 P 10 h 8 = P := rUp_at
    have o5 : rUp c9 10 h 8 P 10 h 5 = c9 10 h 5 := rUp_ne (fun y => absurd y.2.2 (by decide))
    clear e133 w1
    generalize rUp c9 10 h 8 P = c10 at *
    have hR10 : qR 0 c0 m1 c10 m9 := by
      refine qR_up w3 (fH_sub f10 (by decide) (by decide)) fH_refl ?_ (Int.le_refl _) w3.2.1.2.1 w3.2.1.2.2
      rw [f10.2 6 (by decide)]; exact w3.2.1.1
    have ht10 : qHt c10 m9 h i := qHt_up (L2 := []) (J2 := []) ⟨s3, s4, s7⟩ f10 (by decide) o5 fH_refl (by decide) (by decide)
    have l1 : m1 15 0 34 = m9 15 0 34 := (w8.2 34 (by decide)).symm
    obtain ⟨q, L, k1, k2, k3, k4, k5, k6, k7⟩ := look_two hR10.1 hR10.2.1 [] []
    have t6 : rUp c10 2 0 6 q 2 0 6 = q := rUp_at
    have E149 : fn149 [] c10 = if q < m1 15 0 34 then (0, 0, rUp (rUp c10 2 0 6 q) 2 0 4 q) else (0, 1, rUp c10 2 0 6 q) := by
      unfold fn149
      simp only [zLet, k1, t6, fn109_eq]
      by_cases b : q < m1 15 0 34
      · rw [if_pos (k6.2 (by rw [← l1]; exact b)), if_pos b]
      · rw [if_neg (fun z => b (by rw [l1]; exact k6.1 z)), if_neg b]
    have E21 : fn21 [m9 15 0 46, m9 15 0 47, m9 15 0 48] (rUp m9 15 0 35 q) = (0, P, rUp m9 15 0 35 q) := by
      have hPq : qP c9 (rUp m9 15 0 35 q) := by
        unfold qP
        rw [rUp_ne (show ¬ ((15 : Nat) = 15 ∧ (0 : Int) = 0 ∧ (14 : Int) = 35) by decide), rUp_grp (show (64 : Nat) ≠ 15 by decide), rUp_grp (show (65 : Nat) ≠ 15 by decide), rUp_grp (show (66 : Nat) ≠ 15 by decide)]
        exact w3.2.2.2.1
      have hWq : qW pSm (rUp m9 15 0 35 q 59 0) (m9 15 0 34) w (m9 15 0 46) (m9 15 0 47) := by
        rw [rUp_grp (show (59 : Nat) ≠ 15 by decide)]
        exact w10
      obtain ⟨P2, z1, z2, z3⟩ := pred_two (n := i) hPq hWq
      have zP : P2 = P := congrArg (fun r : zR => r.2.1) (z1.symm.trans h125)
      rw [s4, z2, zP]
    refine Or.inl ⟨i, P, q, c10, m9, w1z, w2, hR10, w8, ht10, w5, w6, ?_, o8, hP, E149, k2, by rw [l1]; exact k4, E21, ?_⟩
    · rw [f10.1 46 (by decide) (by decide)]; exact w11
    · obtain ⟨ci1, ci2⟩ := const_iff ht10
      by_cases hc : ∀ k, 0 ≤ k → k < i → c10 43 h k = 0
      · exact Or.inl ⟨fn147_eq.1 (ci1.2 hc), fn31_eq.1 (ci2.2 hc), hc⟩
      · have n147 : ¬ c10 10 h 5 ≤ pIx (fun k => decide (c10 43 h k = 0)) (c10 10 h 5) 0 := fun z => hc (ci1.1 z)
        have e147 := fn147_p.2 n147
        have e31 := fn31_p.2 (fun z => hc (ci2.1 z))
        have eK : pIx (fun k => decide (m9 85 0 k = 0)) (m9 15 0 48) 0 = pIx (fun k => decide (c10 43 h k = 0)) (c10 10 h 5) 0 := by
          rw [ht10.1, ht10.2.1]
          refine pIx_congr _ 0 (Nat.le_refl _) (fun j j0 j1 => ?_)
          rcases ht10.2.2 j j0 j1 with ⟨z1, z2, _⟩ | ⟨z1, z2, _⟩ | ⟨z1, z2⟩
          · rw [z1, z2]
          · rw [z1, z2]
          · rw [z1, z2]; rfl
        have hK0 : 0 ≤ pIx (fun k => decide (c10 43 h k = 0)) (c10 10 h 5) 0 := pIx_le
        have hK1 : pIx (fun k => decide (c10 43 h k = 0)) (c10 10 h 5) 0 < i := by rw [← ht10.1]; omega
        rw [eK] at e31
        generalize pIx (fun k => decide (c10 43 h k = 0)) (c10 10 h 5) 0 = K at *
        obtain ⟨u1, u2⟩ := w14 K hK0 hK1
        have c45 : c10 45 h K = m9 86 0 K := by rw [f10.1 45 (by decide) (by decide)]; exact u1
        refine Or.inr ⟨_, _, e147, e31, ?_, fn8_fr⟩
        rw [rUp_at, c45, fn8_ge (by rw [← l1]; exact u2), rUp_at]
  · exact Or.inr ⟨c_q, m_q, w1, w2, w3.2⟩
theorem found_any {c m : rHp} {p : Int} (hT : tT c m) (hX : ∀ t, 0 ≤ t → t < m 15 0 71 → ∀ k, 0 ≤ k → k < 4 → m 66 0 (m 93 0 t) ≤ k → m 99 0 (k + 4 * t) = 0) (hd : ∀ k, 0 ≤ k → k < m 66 0 p → c 33 0 k = m 102 0 k) (h4 : m 66 0 p ≤ 4) (hz : ∀ k, 0 ≤ k → k < 4 → m 66 0 p ≤ k → c 33 0 k = 0) : pFd (pNd c p) (c 4 0 7) = pFd (pNmd m p) (m 15 0 71) := by
  have e : ∀ j, 0 ≤ j → j < m 15 0 71 → pNd c p j = pNmd m p j := by
    intro j j0 j1
    obtain ⟨a1, a2⟩ := hT.2.2.2 j j0 (by rw [hT.1]; exact j1)
    unfold pNd pNmd
    rw [a1]
    by_cases b : m 93 0 j = p
    · rw [decide_eq_true b, Bool.true_and, Bool.true_and]
      have : pDr c j = pMd m p j := by
        rw [Bool.eq_iff_iff, pDr_iff, pMd_iff]
        constructor
        · intro h k k0 k1
          rw [show 4 * j + k = k + 4 * j by omega, ← a2 k k0 (by omega), h k k0 (by omega)]
          exact hd k k0 k1
        · intro h k k0 k1
          rw [a2 k k0 k1]
          by_cases kk : k < m 66 0 p
          · rw [hd k k0 kk, show k + 4 * j = 4 * j + k by omega]
            exact h k k0 kk
          · rw [hz k k0 k1 (by omega)]
            exact hX j j0 j1 k k0 k1 (by rw [b]; omega)
      rw [this]
    · rw [decide_eq_false b, Bool.false_and, Bool.false_and]
  unfold pFd
  rw [hT.1, pIx_congr _ 0 (Nat.le_refl _) (fun j j0 j1 => e j j0 j1)]
theorem en90_lp {m0 : rHp} {P i : Int} : ∀ (d : Nat) (k : Int) (g : rHp), 0 ≤ k → k + d = i → g 15 0 48 = i → ∃ g_q, zLoop (en90 m0) (0, [k, P], g) = (0, (fn56 [P] g_q).2.1, (fn56 [P] g_q).2.2) ∧ (∀ K : Nat, K ≠ 102 → g_q K = g K) ∧ (∀ j, j < k → g_q 102 0 j = g 102 0 j) ∧ ∀ j, k ≤ j → j < i → g_q 102 0 j = g 87 0 j := by
  intro d
  induction d with
  | zero =>
    intro k g k0 hk h48
    refine ⟨g, zLoop_inr ?_, fun _ _ => rfl, fun _ _ => rfl, fun j a b => by omega⟩
    unfold en90
    simp only [zLet, ↓reduceIte, List.getD_cons_zero, List.getD_cons_succ]
    rw [if_pos (show k ≥ g 15 0 48 by omega)]
  | succ d ih =>
    intro k g k0 hk h48
    have st : en90 m0 (0, [k, P], g) = .inl (0, [k + 1, P], rUp g 102 0 k (g 87 0 k)) := by
      unfold en90
      simp only [zLet, ↓reduceIte, List.getD_cons_zero, List.getD_cons_succ]
      rw [if_neg (show ¬ k ≥ g 15 0 48 by omega)]
    obtain ⟨g_q, z1, z2, z3, z4⟩ := ih (k + 1) (rUp g 102 0 k (g 87 0 k)) (by omega) (by omega) (by rw [rUp_grp (by decide)]; exact h48)
    refine ⟨g_q, by rw [zLoop_inl st]; exact z1, fun K a => by rw [z2 K a, rUp_grp a], fun j a => ?_, fun j a b => ?_⟩
    · rw [z3 j (by omega), rUp_ne (fun w => by have := w.2.2; omega)]
    · by_cases e : j = k
      · rw [e, z3 k (by omega), rUp_at]
      · rw [z4 j (by omega) b, rUp_grp (by decide)]
/-- the class_q draft out of a HEAD -/
noncomputable def dr4 (h : Int) (g : rHp) : rHp := rUp (rUp (rUp (rUp g 33 0 0 (g 46 h 0)) 33 0 1 (g 46 h 1)) 33 0 2 (g 46 h 2)) 33 0 3 (g 46 h 3)
theorem dr4_gr {h : Int} {g : rHp} {K : Nat} (a : K ≠ 33) : dr4 h g K = g K := by
  unfold dr4
  rw [rUp_grp a, rUp_grp a, rUp_grp a, rUp_grp a]
theorem dr4_at {h k : Int} {g : rHp} (k0 : 0 ≤ k) (k1 : k < 4) : dr4 h g 33 0 k = g 46 h k := by
  unfold dr4
  rcases (show k = 0 ∨ k = 1 ∨ k = 2 ∨ k = 3 by omega) with rfl | rfl | rfl | rfl
  · rw [rUp_ne (by decide), rUp_ne (by decide), rUp_ne (by decide), rUp_at]
  · rw [rUp_ne (by decide), rUp_ne (by decide), rUp_at]
  · rw [rUp_ne (by decide), rUp_at]
  · rw [rUp_at]
theorem en221_lp {c0 g : rHp} {h : Int} (hh : h = 9 * c0 40 0 (c0 1 0 10)) : zLoop (en221 c0) (0, [0], g) = (0, (fn206 [g 10 h 8] (dr4 h g)).2.1, (fn206 [g 10 h 8] (dr4 h g)).2.2) := by
  have st : ∀ (k : Int) (g1 : rHp), ¬ k ≥ 4 → en221 c0 (0, [k], g1) = .inl (0, [k + 1], rUp g1 33 0 k (g1 46 h k)) := fun k g1 hk => by
    unfold en221
    simp only [zLet, ↓reduceIte, List.getD_cons_zero, ← hh]
    rw [if_neg hk]
  have en : ∀ g1 : rHp, en221 c0 (0, [4], g1) = .inr (0, (fn206 [g1 10 h 8] g1).2.1, (fn206 [g1 10 h 8] g1).2.2) := fun g1 => by
    unfold en221
    simp only [zLet, ↓reduceIte, List.getD_cons_zero, ← hh]
    rw [if_pos (show (4 : Int) ≥ 4 by decide)]
  have a : ∀ (k v : Int) (g1 : rHp), rUp g1 33 0 k v 46 = g1 46 := fun k v g1 => rUp_grp (by decide)
  rw [zLoop_inl (st 0 g (by decide)), zLoop_inl (st (0 + 1) _ (by decide)), zLoop_inl (st (0 + 1 + 1) _ (by decide)), zLoop_inl (st (0 + 1 + 1 + 1) _ (by decide))]
  rw [a, a, a, a, a, a]
  have e8 : dr4 h g 10 = g 10 := dr4_gr (by decide)
  have := zLoop_inr (en (dr4 h g))
  rw [e8] at this
  exact this
set_option maxRecDepth 100000 in
theorem isub_f : ∀ k : Fin 2001, zF2 .isub (-2) (k.val : Int) = -(k.val : Int) + (-2) := by decide +kernel
theorem isub_n {n : Int} (h0 : 0 ≤ n) (h1 : n ≤ 2000) : zF2 .isub (-2) n = -n + (-2) := by
  have := isub_f ⟨n.toNat, by omega⟩
  rw [show ((n.toNat : Nat) : Int) = n by omega] at this
  exact this
/-- TUPLES have nothing behind their sizes -/
noncomputable def zTl (m : rHp) : Prop := ∀ t, 0 ≤ t → t < m 15 0 71 → ∀ k, 0 ≤ k → k < 4 → m 66 0 (m 93 0 t) ≤ k → m 99 0 (k + 4 * t) = 0
theorem find_both {B : Int} {c m : rHp} (h : JK B c m) (hB : B ≤ 10239) (hz : c 0 0 7 ≠ 0 → zTl m) :
    ∃ o v v_q c_q m_q, fn221 [] c = (o, v, c_q) ∧ fn90 [] m = (0, v_q, m_q) ∧ ((0 ≤ m_q 15 0 36 ∧ m_q 15 0 36 ≤ 2000) → (o = 0 ∧ m_q 15 0 0 = 0 ∧ v = v_q) ∨ (o = 5 ∧ m_q 15 0 0 = 1)) := by
  obtain ⟨c0, c1, m1, e1, e2, hR, hBB, h00, hlim, o7, x40, x7, x16, x73, m34, m17, m3, fin, hs, m14⟩ := start_any2 (p := 1) (r := 61) h.1.1 hB (by decide)
  have k40 : qUc 1 c 40 0 (qUc 1 c 1 0 10) = c 40 0 (c 1 0 10) := rfl
  have e1_q := e1
  rw [← k40] at e1_q
  have e3 : (fn32 [61] (rUp (rUp (fn5 [] m).2.2 15 0 0 0) 15 0 14 (m 15 0 13))).2.2 = m1 := by
    rw [qUm_eq, ← e2]; rfl
  have e3v : m1 = rUp (rUp (rUp (rUp (rUp (rUp (rUp (rUp (rUp (rUp m 15 0 34 (m 15 0 3)) 15 0 3 0) 15 0 35 0) 15 0 0 0) 15 0 14 (m 15 0 13)) 15 0 44 61) 73 0 61 0) 74 0 61 0) 15 0 45 0) 15 0 58 0 := by rw [← e3]; rfl
  have m10 : m1 15 0 0 = 0 := by
    rw [e3v, rUp_ne (by decide), rUp_ne (by decide), rUp_grp (by decide), rUp_grp (by decide), rUp_ne (by decide), rUp_ne (by decide), rUp_at]
  have m113 : m1 15 0 13 = m 15 0 13 := by
    rw [e3v, rUp_ne (by decide), rUp_ne (by decide), rUp_grp (by decide), rUp_grp (by decide), rUp_ne (by decide), rUp_ne (by decide), rUp_ne (by decide), rUp_ne (by decide), rUp_ne (by decide), rUp_ne (by decide)]
  have m166 : m1 66 = m 66 := by
    rw [e3v, rUp_grp (by decide), rUp_grp (by decide), rUp_grp (by decide), rUp_grp (by decide), rUp_grp (by decide), rUp_grp (by decide), rUp_grp (by decide), rUp_grp (by decide), rUp_grp (by decide), rUp_grp (by decide)]
  have f112 : ∀ g : rHp, (fn112 [] g).2.2 = rUp g 2 0 3 0 := fun g => rfl
  have f131 : (fn131 [c 1 0 10] c).2.2 = c := rfl
  have f111 : (fn111 [1] c).2.2 = qUc 1 c := rfl
  have hZ := head_Z (h := 9 * c 40 0 (c 1 0 10)) e1_q hR hBB h00 hlim (by rw [x40]) x7
  have hw := calling_twp (h := 9 * c 40 0 (c 1 0 10)) e1_q hR hBB h00 hlim (by rw [x40]) x7
  by_cases b : c 0 0 7 ≠ 0
  · have bm : m 15 0 59 ≠ 0 := by rw [← h.1.2.2]; exact b
    obtain ⟨fR, fF, f9, f17, sd, fy, fA, f95⟩ := fin _ _ hZ
    have hd90 : ∀ r : zR, fn27 [] m1 = r → dn90 [] m = if 1 ≤ r.2.1 then (if 1 ≤ (fn31 [] r.2.2).2.1 then (if (fn7 [] (fn31 [] r.2.2).2.2).2.2 15 0 35 = m 15 0 3 then (if (fn21 [r.2.2 15 0 46, r.2.2 15 0 47, r.2.2 15 0 48] (fn7 [] (fn31 [] r.2.2).2.2).2.2).2.1 ≥ 0 then .inl (0, [0, (fn21 [r.2.2 15 0 46, r.2.2 15 0 47, r.2.2 15 0 48] (fn7 [] (fn31 [] r.2.2).2.2).2.2).2.1], (fn21 [r.2.2 15 0 46, r.2.2 15 0 47, r.2.2 15 0 48] (fn7 [] (fn31 [] r.2.2).2.2).2.2).2.2) else .inr (0, (-1), (fn21 [r.2.2 15 0 46, r.2.2 15 0 47, r.2.2 15 0 48] (fn7 [] (fn31 [] r.2.2).2.2).2.2).2.2)) else .inr (0, -(fn8 [(fn7 [] (fn31 [] r.2.2).2.2).2.2 15 0 35] (fn7 [] (fn31 [] r.2.2).2.2).2.2).2.2 15 0 36 + (-2), (fn8 [(fn7 [] (fn31 [] r.2.2).2.2).2.2 15 0 35] (fn7 [] (fn31 [] r.2.2).2.2).2.2).2.2)) else .inr (0, -(fn31 [] r.2.2).2.2 15 0 36 + (-2), (fn31 [] r.2.2).2.2)) else .inr (0, -r.2.2 15 0 36 + (-2), r.2.2) := fun r er => by
      unfold dn90
      simp only [zLet, fn1_eq, e3, er]
      rw [if_pos bm]
    have hd221 : ∀ r : zR, fn146 [] (qUc 1 c) = r → dn221 [] c = if 1 ≤ r.2.1 then (if 0 ≤ r.2.2 10 (9 * c 40 0 (c 1 0 10)) 8 then (if 1 ≤ (fn147 [9 * c 40 0 (c 1 0 10)] r.2.2).2.1 then (if 1 ≤ (fn149 [] (fn147 [9 * c 40 0 (c 1 0 10)] r.2.2).2.2).2.1 then .inl (0, [0], rUp (fn149 [] (fn147 [9 * c 40 0 (c 1 0 10)] r.2.2).2.2).2.2 2 0 3 0) else .inr (0, -(fn149 [] (fn147 [9 * c 40 0 (c 1 0 10)] r.2.2).2.2).2.2 2 0 4 + (-2), rUp (fn149 [] (fn147 [9 * c 40 0 (c 1 0 10)] r.2.2).2.2).2.2 2 0 3 0)) else .inr (0, zF2 .isub (-2) ((fn147 [9 * c 40 0 (c 1 0 10)] r.2.2).2.2 2 0 4), rUp (fn147 [9 * c 40 0 (c 1 0 10)] r.2.2).2.2 2 0 3 0)) else (if 1 ≤ (fn147 [9 * c 40 0 (c 1 0 10)] r.2.2).2.1 then (if 1 ≤ (fn149 [] (fn147 [9 * c 40 0 (c 1 0 10)] r.2.2).2.2).2.1 then .inr (0, (-1), rUp (fn149 [] (fn147 [9 * c 40 0 (c 1 0 10)] r.2.2).2.2).2.2 2 0 3 0) else .inr (0, -(fn149 [] (fn147 [9 * c 40 0 (c 1 0 10)] r.2.2).2.2).2.2 2 0 4 + (-2), rUp (fn149 [] (fn147 [9 * c 40 0 (c 1 0 10)] r.2.2).2.2).2.2 2 0 3 0)) else .inr (0, zF2 .isub (-2) ((fn147 [9 * c 40 0 (c 1 0 10)] r.2.2).2.2 2 0 4), rUp (fn147 [9 * c 40 0 (c 1 0 10)] r.2.2).2.2 2 0 3 0))) else .inr (0, zF2 .isub (-2) (r.2.2 2 0 4), rUp r.2.2 2 0 3 0) := fun r er => by
      unfold dn221
      simp only [zLet, f131, f111, f112, er]
      rw [if_pos b]
    have one : (1 : Int) ≤ 1 := Int.le_refl 1
    have nul : ¬ (1 : Int) ≤ 0 := by decide
    rcases hw with ⟨i, P, q, cH, mH, w1, w2, w3, w4, w5, w6, w7, w8, w9, w10, w11, w12, w13, w14, w15⟩ | ⟨c_q, m_q, w1, w2, w3⟩
    · have d1 := hd221 _ w1
      have d2 := hd90 _ w2
      simp only at d1 d2
      rw [if_pos one] at d1 d2
      rw [w1, w2] at fA
      simp only at fA
      have mH0 : mH 15 0 0 = 0 := by rw [w4.2 0 (by decide)]; exact m10
      rcases w15 with ⟨y1, y2, y3⟩ | ⟨c_q, m_q, y1, y2, y3, y4⟩
      · rw [y1] at d1
        rw [y2] at d2
        simp only at d1 d2
        rw [if_pos one] at d2
        rw [if_pos one, if_pos one] at d1
        rw [w12] at d2
        simp only at d2
        rw [rUp_at] at d2
        rw [w11] at d1
        by_cases nx : q < m1 15 0 34
        · -- something stands behind
          rw [if_pos nx] at d1
          simp only at d1
          rw [if_neg nul, if_neg nul, rUp_at] at d1
          rw [if_neg (show ¬ q = m 15 0 3 by rw [← m34]; omega), fn8_ge (by rw [rUp_ne (by decide), w4.2 34 (by decide)]; exact w13), rUp_at] at d2
          have E1 : fn221 [] c = (0, -q + (-2), rUp (rUp (rUp cH 2 0 6 q) 2 0 4 q) 2 0 3 0) := by
            unfold fn221
            rw [d1]
            split <;> rfl
          have E2 : fn90 [] m = (0, -q + (-2), rUp (rUp mH 15 0 35 q) 15 0 36 q) := by
            unfold fn90
            rw [d2]
            rfl
          refine ⟨_, _, _, _, _, E1, E2, fun _ => Or.inl ⟨rfl, ?_, rfl⟩⟩
          rw [rUp_ne (by decide), rUp_ne (by decide)]
          exact mH0
        · rw [if_neg nx] at d1
          simp only at d1
          rw [if_pos one, if_pos one] at d1
          rw [if_pos (show q = m 15 0 3 by rw [← m34]; omega), w14] at d2
          simp only at d2
          by_cases hP : 0 ≤ P
          · rw [w9, if_pos hP] at d1
            rw [if_pos (show P ≥ 0 from hP)] at d2
            obtain ⟨P1, P2⟩ : P < mH 15 0 14 ∧ mH 66 0 P = i := by
              rcases w10 with z | z
              · omega
              · exact z.2
            obtain ⟨g_q, z1, z2, z3, z4⟩ := en90_lp (m0 := m) (P := P) (i := i) i.toNat 0 (rUp mH 15 0 35 q) (by decide) (by omega) (by rw [rUp_ne (by decide)]; exact w5.2.1)
            have E2 : fn90 [] m = (0, (fn56 [P] g_q).2.1, (fn56 [P] g_q).2.2) := by
              unfold fn90
              rw [d2]
              exact z1
            have lp := en221_lp (c0 := c) (g := rUp (rUp cH 2 0 6 q) 2 0 3 0) (h := 9 * c 40 0 (c 1 0 10)) rfl
            have h8 : rUp (rUp cH 2 0 6 q) 2 0 3 0 10 (9 * c 40 0 (c 1 0 10)) 8 = P := by rw [rUp_grp (by decide), rUp_grp (by decide)]; exact w9
            rw [h8] at lp
            have E1 : fn221 [] c = (0, (fn206 [P] (dr4 (9 * c 40 0 (c 1 0 10)) (rUp (rUp cH 2 0 6 q) 2 0 3 0))).2.1, (fn206 [P] (dr4 (9 * c 40 0 (c 1 0 10)) (rUp (rUp cH 2 0 6 q) 2 0 3 0))).2.2) := by
              unfold fn221
              rw [d1]
              exact lp
            -- TUPLES as they are now
            have cg : ∀ K : Nat, K ≠ 2 → K ≠ 33 → dr4 (9 * c 40 0 (c 1 0 10)) (rUp (rUp cH 2 0 6 q) 2 0 3 0) K = cH K := fun K a d => by rw [dr4_gr d, rUp_grp a, rUp_grp a]
            have d33 : ∀ k, 0 ≤ k → k < 4 → dr4 (9 * c 40 0 (c 1 0 10)) (rUp (rUp cH 2 0 6 q) 2 0 3 0) 33 0 k = cH 46 (9 * c 40 0 (c 1 0 10)) k := fun k a d => by rw [dr4_at a d, rUp_grp (by decide), rUp_grp (by decide)]
            generalize dr4 (9 * c 40 0 (c 1 0 10)) (rUp (rUp cH 2 0 6 q) 2 0 3 0) = cD at *
            have ca : ∀ K : Nat, K ∉ lAA → cH K = c K := fun K a => by
              have := fA.1 K a
              rw [rUp_grp (by rintro rfl; exact a (by decide))] at this
              exact this
            have mg : ∀ K : Nat, K ≠ 102 → K ≠ 15 → g_q K = mH K := fun K a d => by rw [z2 K a, rUp_grp d]
            have mj : ∀ j, j ≠ 35 → g_q 15 0 j = mH 15 0 j := fun j a => by rw [z2 15 (by decide), rUp_ne (fun w => a w.2.2)]
            have mH13 : mH 15 0 13 = m 15 0 13 := by rw [w4.2 13 (by decide)]; exact m113
            have mH14 : mH 15 0 14 = m 15 0 13 := by rw [w4.2 14 (by decide)]; exact m14
            have mH66 : mH 66 = m 66 := by rw [w4.1 66 (by decide) (by decide)]; exact m166
            have mH71 : mH 15 0 71 = m 15 0 71 := fA.2.2.2.2.1 71 (by decide)
            obtain ⟨hT, hX, hv, hl, h8z⟩ := h.2 b
            have hTD : tT cD g_q := tT_fr hT (fun K z => by
                rw [cg K (by omega) (by omega)]
                refine ca K ?_
                unfold lAA
                simp only [List.mem_cons, List.not_mem_nil, or_false]
                omega) (fun K z => by rw [mg K (by omega) (by omega)]; exact fA.2.2.2.1 K (by omega)) (by rw [mj 71 (by decide)]; exact mH71) (by rw [mj 13 (by decide)]; exact mH13)
            have g66 : g_q 66 = m 66 := by rw [mg 66 (by decide) (by decide)]; exact mH66
            have hXg : ∀ t, 0 ≤ t → t < g_q 15 0 71 → ∀ k, 0 ≤ k → k < 4 → g_q 66 0 (g_q 93 0 t) ≤ k → g_q 99 0 (k + 4 * t) = 0 := by
              rw [g66, mj 71 (by decide), mH71, mg 93 (by decide) (by decide), mg 99 (by decide) (by decide), fA.2.2.2.1 93 (by decide), fA.2.2.2.1 99 (by decide)]
              exact hz b
            have gP : g_q 66 0 P = i := by rw [mg 66 (by decide) (by decide)]; exact P2
            have sH : sN cH mH := w3.2.2.1.2.2.2.2 (hs h.1.2.1.2.1)
            have hdd : ∀ k, 0 ≤ k → k < g_q 66 0 P → cD 33 0 k = g_q 102 0 k := fun k a d => by
              rw [gP] at d
              rw [d33 k a (by omega), z4 k a d, rUp_grp (by decide)]
              rcases w5.2.2 k a d with ⟨_, _, v3⟩ | ⟨v1, _⟩ | ⟨v1, _⟩
              · exact vR_same sH w3.2.2.1.2.1 v3
              · rw [y3 k a d] at v1
                exact absurd v1 (by decide)
              · rw [y3 k a d] at v1
                exact absurd v1 (by decide)
            have hzz : ∀ k, 0 ≤ k → k < 4 → g_q 66 0 P ≤ k → cD 33 0 k = 0 := fun k a d f => by
              rw [gP] at f
              rw [d33 k a d]
              exact w8 k f d
            have fd := found_any hTD hXg hdd (by rw [gP]; exact w7) hzz
            have n2000 : cD 4 0 7 ≤ 2000 := by
              have := hTD.1
              have := hTD.2.2.1.1.2
              omega
            have E3 := fn206_eq (p := P) n2000 hTD.2.1.2.2
            have E4 := fn56_eq (p := P) hTD.2.2.1 ⟨hP, by rw [mj 13 (by decide), mH13, ← mH14]; exact P1⟩
            rw [E3] at E1
            rw [E4] at E2
            refine ⟨_, _, _, _, _, E1, E2, fun _ => Or.inl ⟨rfl, ?_, fd⟩⟩
            show g_q 15 0 0 = 0
            rw [mj 0 (by decide)]
            exact mH0
          · rw [w9, if_neg hP] at d1
            rw [if_neg (show ¬ P ≥ 0 from hP)] at d2
            have E1 : fn221 [] c = (0, -1, rUp (rUp cH 2 0 6 q) 2 0 3 0) := by
              unfold fn221
              rw [d1]
              rfl
            have E2 : fn90 [] m = (0, -1, rUp mH 15 0 35 q) := by
              unfold fn90
              rw [d2]
              rfl
            refine ⟨_, _, _, _, _, E1, E2, fun _ => Or.inl ⟨rfl, ?_, rfl⟩⟩
            rw [rUp_ne (by decide)]
            exact mH0
      · rw [y1] at d1
        rw [y2] at d2
        simp only at d1 d2
        rw [if_neg nul] at d2
        rw [if_neg nul, if_neg nul] at d1
        have E1 : fn221 [] c = (0, zF2 .isub (-2) (c_q 2 0 4), rUp c_q 2 0 3 0) := by
          unfold fn221
          rw [d1]
          split <;> rfl
        have E2 : fn90 [] m = (0, -m_q 15 0 36 + (-2), m_q) := by
          unfold fn90
          rw [d2]
          rfl
        refine ⟨_, _, _, _, _, E1, E2, fun rg => Or.inl ⟨rfl, ?_, by rw [y3]; exact isub_n rg.1 rg.2⟩⟩
        rw [y4.2 0 (by decide)]
        exact mH0
    · have d1 := hd221 _ w1
      have d2 := hd90 _ w2
      simp only at d1 d2
      rw [if_neg nul] at d1 d2
      have E1 : fn221 [] c = (0, zF2 .isub (-2) (c_q 2 0 4), rUp c_q 2 0 3 0) := by
        unfold fn221
        rw [d1]
        rfl
      have E2 : fn90 [] m = (0, -m_q 15 0 36 + (-2), m_q) := by
        unfold fn90
        rw [d2]
        rfl
      refine ⟨_, _, _, _, _, E1, E2, fun rg => Or.inl ⟨rfl, ?_, by rw [w3]; exact isub_n rg.1 rg.2⟩⟩
      rw [w2] at hZ
      have f0 : m_q 15 0 0 = m1 15 0 0 := hZ.2.2.2.2.1.2 0 (by decide)
      rw [f0]
      exact m10
  · have bm : ¬ m 15 0 59 ≠ 0 := by rw [← h.1.2.2]; exact b
    have E1 : fn221 [] c = (5, 0, rUp c 2 0 3 0) := by
      unfold fn221 dn221
      simp only [zLet, f112]
      rw [if_neg b]
      rfl
    have E2 : fn90 [] m = (0, 0, rUp (fn5 [] m).2.2 15 0 0 1) := by
      unfold fn90 dn90
      simp only [zLet, fn1_eq]
      rw [if_neg bm]
      rfl
    exact ⟨_, _, _, _, _, E1, E2, fun _ => Or.inr ⟨rfl, rUp_at⟩⟩
