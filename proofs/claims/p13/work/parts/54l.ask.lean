/-! ===== ask, by both ===== -/
theorem en91_cp {m0 : rHp} : ∀ (d : Nat) (j : Int) (m : rHp), 0 ≤ j → j + d = 800 → ∃ m_q, zLoop (en91 m0) (0, [j], m) = (0, m 15 0 93, m_q) ∧ (∀ K : Nat, K ≠ 110 → m_q K = m K) ∧ (∀ x, j ≤ x → x < 800 → m_q 110 0 x = m 111 0 x) := by
  intro d
  induction d with
  | zero =>
    intro j m j0 hj
    refine ⟨m, zLoop_inr ?_, fun _ _ => rfl, fun x x0 x1 => by omega⟩
    unfold en91
    simp only [zLet, ↓reduceIte, List.getD_cons_zero]
    rw [if_pos (show j ≥ 800 by omega)]
  | succ d ih =>
    intro j m j0 hj
    have st : en91 m0 (0, [j], m) = .inl (0, [j + 1], rUp m 110 0 j (m 111 0 j)) := by
      unfold en91
      simp only [zLet, ↓reduceIte, List.getD_cons_zero]
      rw [if_neg (show ¬ j ≥ 800 by omega)]
    have key : ∀ (m1 : rHp), (∀ K : Nat, K ≠ 110 → m1 K = m K) → m1 110 0 j = m 111 0 j → ∃ m_q, zLoop (en91 m0) (0, [j + 1], m1) = (0, m 15 0 93, m_q) ∧ (∀ K : Nat, K ≠ 110 → m_q K = m K) ∧ (∀ x, j + 1 ≤ x → x < 800 → m_q 110 0 x = m 111 0 x) ∧ m_q 110 0 j = m1 110 0 j := by
      have keep : ∀ (d : Nat) (j1 : Int) (m1 : rHp), j < j1 → j1 + d = 800 → ∃ m_q, zLoop (en91 m0) (0, [j1], m1) = (0, m1 15 0 93, m_q) ∧ m_q 110 0 j = m1 110 0 j := by
        intro d
        induction d with
        | zero =>
          intro j1 m1 a b
          refine ⟨m1, zLoop_inr ?_, rfl⟩
          unfold en91
          simp only [zLet, ↓reduceIte, List.getD_cons_zero]
          rw [if_pos (show j1 ≥ 800 by omega)]
        | succ d ihd =>
          intro j1 m1 a b
          have st1 : en91 m0 (0, [j1], m1) = .inl (0, [j1 + 1], rUp m1 110 0 j1 (m1 111 0 j1)) := by
            unfold en91
            simp only [zLet, ↓reduceIte, List.getD_cons_zero]
            rw [if_neg (show ¬ j1 ≥ 800 by omega)]
          obtain ⟨m_q, e1, e2⟩ := ihd (j1 + 1) (rUp m1 110 0 j1 (m1 111 0 j1)) (by omega) (by omega)
          refine ⟨m_q, ?_, ?_⟩
          · rw [zLoop_inl st1, e1, rUp_grp (by decide)]
          · rw [e2, rUp_ne (fun w => by have := w.2.2; omega)]
      intro m1 a b
      obtain ⟨m_q, e1, e2, e3⟩ := ih (j + 1) m1 (by omega) (by omega)
      obtain ⟨m2, f1, f2⟩ := keep d (j + 1) m1 (by omega) (by omega)
      have em : m2 = m_q := by
        rw [e1] at f1
        exact (congrArg (fun r : zR => r.2.2) f1).symm
      subst em
      refine ⟨m2, by rw [e1, a 15 (by decide)], fun K w => (e2 K w).trans (a K w), fun x x0 x1 => by rw [e3 x x0 x1, a 111 (by decide)], f2⟩
    obtain ⟨m_q, e1, e2, e3, e4⟩ := key (rUp m 110 0 j (m 111 0 j)) (fun K w => rUp_grp w) rUp_at
    refine ⟨m_q, by rw [zLoop_inl st]; exact e1, e2, fun x x0 x1 => ?_⟩
    by_cases w : x = j
    · rw [w, e4, rUp_at]
    · exact e3 x (by omega) x1
/-- what both have of the last question that was asked -/
noncomputable def aR (c m : rHp) : Prop := c 0 0 5 ≠ c 0 0 6 ∧ c 8 (c 0 0 5) 1 = m 15 0 93 ∧ 0 ≤ m 15 0 93 ∧ (m 15 0 93 ≠ 0 → c 8 (c 0 0 5) 2 = m 15 0 95 ∧ qKr (m 15 0 95) ∧ ∀ i v, 0 ≤ i → i < m 15 0 93 → i < 100 → qVr v → qBt (m 15 0 95) v = 1 → c 41 (c 0 0 5) (v + 8 * i) = m 110 0 (v + 8 * i) ∧ vOk (m 110 0 (v + 8 * i)))
/-- the counts of the last run or question -/
noncomputable def nR (c m : rHp) : Prop := c 0 0 8 = m 15 0 74 ∧ c 0 0 9 = m 15 0 75
theorem aR_fr {c m c_q m_q : rHp} (h : aR c m) (h0 : ∀ j, j = 5 ∨ j = 6 → c_q 0 0 j = c 0 0 j) (h8 : c_q 8 (c 0 0 5) = c 8 (c 0 0 5)) (h41 : c_q 41 (c 0 0 5) = c 41 (c 0 0 5)) (hm : ∀ j, j = 93 ∨ j = 95 → m_q 15 0 j = m 15 0 j) (h110 : m_q 110 = m 110) : aR c_q m_q := by
  unfold aR
  rw [h0 5 (by decide), h0 6 (by decide), h8, h41, hm 93 (by decide), hm 95 (by decide), h110]
  exact h
/-- the question, made ready for its WAYS -/
theorem ask_ready {B : Int} {c m m1 c3 m3 : rHp} {n : Int} (hE : yE1 c m) (hA : yFA c m (rUp c3 2 0 3 0) m3) (k45 : m1 15 0 45 = 0) (e13 : m3 15 0 13 = m 15 0 13) (e14 : m3 15 0 14 = m 15 0 13) (n0 : 0 ≤ n) (n8 : n ≤ 8) (h9 : c3 9 (c 40 0 (c 1 0 10)) 2 = n) (h73 : m3 73 0 61 = n) (h44 : m3 15 0 44 = 61) (hg : gGs True 61 (c 40 0 (c 1 0 10)) n (m1 15 0 45) c3 m3) :
    ∃ (kb : Int → Int) (m4 : rHp), fn44 [] m3 = (0, 0, m4) ∧ m4 75 0 61 = m3 15 0 45 ∧ fH 15 [75, 80] [] m3 m4 ∧ kb n = m3 15 0 45 ∧ qKr (kb n) ∧
      ∀ c7 m5 : rHp, (∀ K : Nat, K ≠ 6 → K ≠ 8 → c7 K = rUp c3 2 0 3 0 K) → c7 6 0 7 = c 40 0 (c 1 0 10) → c7 6 0 9 = 2 → c7 6 0 10 = 0 → c7 6 0 13 = 0 → c7 6 0 0 = 0 → c7 6 0 11 = c 4 0 7 → c7 8 (c7 6 0 6) 1 = 0 → (∀ K : Nat, K ≠ 15 → m5 K = m4 K) → (∀ j, j ∉ [(72 : Int), 77, 81, 84, 94] → m5 15 0 j = m4 15 0 j) → m5 15 0 72 = 0 → m5 15 0 77 = 0 → m5 15 0 81 = m 15 0 71 → m5 15 0 84 = 0 → m5 15 0 94 = 0 →
        wR (j74 m5) (qQw (kb (m5 73 0 61))) 61 (c 40 0 (c 1 0 10)) (m5 73 0 61) kb 0 c7 m5 := by
  obtain ⟨m4, l1, l2, l3, l4, l5, l6⟩ := fn44_kn m3
  rw [h44] at l2 l6
  rw [h73] at l6
  obtain ⟨kb, b1, b2, b3, b4, b5⟩ := hg
  refine ⟨kb, m4, l1, l2, l3, b2, b3 n n0 (Int.le_refl _), fun c7 m5 q1 q7 q9 q10 q13 q0 q11 q8 p1 p2 p72 p77 p81 p84 p94 => ?_⟩
  obtain ⟨t1, t2, t3, t4, t5⟩ := hE
  have ck : ∀ K : Nat, K ∉ lAA → K ≠ 6 → c7 K = c K := fun K w w6 => by
    rw [q1 K w6 (by rintro rfl; exact w (by decide))]
    exact hA.1 K w
  have c3k : ∀ K : Nat, K ≠ 2 → K ≠ 6 → K ≠ 8 → c7 K = c3 K := fun K w2 w6 w8 => by rw [q1 K w6 w8, rUp_grp w2]
  have mk : ∀ K : Nat, 92 ≤ K → m5 K = m K := fun K w => by
    rw [p1 K (by omega), l3.1 K (by
      simp only [List.mem_cons, List.not_mem_nil, or_false]
      omega) (by omega)]
    exact hA.2.2.2.1 K w
  have m571 : m5 15 0 71 = m 15 0 71 := by
    rw [p2 71 (by decide), l3.2 71 (by decide)]
    exact hA.2.2.2.2.1 71 (by decide)
  have m513 : m5 15 0 13 = m 15 0 13 := by rw [p2 13 (by decide), l3.2 13 (by decide)]; exact e13
  have m514 : m5 15 0 14 = m 15 0 13 := by rw [p2 14 (by decide), l3.2 14 (by decide)]; exact e14
  have m573 : m5 73 0 61 = n := by rw [p1 73 (by decide), l3.1 73 (by decide) (by decide)]; exact h73
  have tt : tT c7 m5 := tT_fr t1 (fun K w => ck K (by
      unfold lAA
      simp only [List.mem_cons, List.not_mem_nil, or_false]
      omega) (by omega)) (fun K w => mk K (by omega)) m571 m513
  rw [m573]
  have e77 : isA 61 m5 = isA 61 m3 := by unfold isA; rw [p1 77 (by decide), l3.1 77 (by decide) (by decide)]
  have hG : gG3 True 61 (c 40 0 (c 1 0 10)) n kb c7 m5 := by
    refine ⟨fun g g0 g1 => ?_, by rw [e77, c3k 9 (by decide) (by decide) (by decide)]; exact b5⟩
    obtain ⟨d1, d2⟩ := b4 g g0 g1
    obtain ⟨d3, d4⟩ := gGo_lo d1 (b3 g g0 (by omega)) l3 (fun j j0 j1 => l6 (g + 8 * 61) j (by omega) (by omega) j0 j1)
    have w10 : ∀ K : Nat, K = 10 ∨ K = 43 ∨ K = 44 ∨ K = 46 → c7 K = c3 K := fun K w => c3k K (by omega) (by omega) (by omega)
    refine ⟨gGo_to d3 (fun j _ => by rw [w10 10 (by decide)]) (fun K w => by rw [w10 K (by omega)]) (fun K w => by rw [p1 K (by omega)]) (fun K j w _ _ => by rw [p1 K (by omega)]) (by rw [p2 14 (by decide)]; exact Int.le_refl _) (fun p _ => by rw [p1 66 (by decide)]), gLo_to d4 d3 (fun j _ => by rw [w10 10 (by decide)]) (by rw [p1 77 (by decide)]) (fun K j w _ _ => by rw [p1 K (by omega)]), fun w => ?_⟩
    rw [p1 77 (by decide), l3.1 77 (by decide) (by decide)] at w
    rw [e77, w10 10 (by decide)]
    exact d2 w
  have hS : wS 61 (c 40 0 (c 1 0 10)) n kb c7 m5 := wS_of q7 (by rw [c3k 9 (by decide) (by decide) (by decide)]; exact h9) m573 ⟨n0, n8⟩ b3 hG (by rw [m514, m513])
  have t71 := t1.2.2.1.1
  have kb0 : ∀ v, qVr v → qBt (kb 0) v ≠ 1 := fun v hv => by rw [b1, k45, qBt_zero hv]; decide
  refine ⟨⟨⟨rfl, rfl, rfl⟩, rfl, rfl⟩, ⟨⟨by rw [q8, p94], by rw [p94]; exact Int.le_refl _, fun i v i0 i1 => by rw [p94] at i1; omega⟩, q9⟩, tt, ?_, hS, p77, by rw [q0, p72], by rw [p72]; exact ⟨by decide, by decide⟩, ⟨by rw [q11, p81, t1.1], by rw [p81]; exact t71.1, by rw [p81, m571]; exact Int.le_refl _⟩, fun v hv hb => absurd hb (kb0 v hv), fun h h0 h1 => by omega, by rw [q13]; rfl, ⟨⟨fun w => absurd p84 w, fun w => by rw [q10] at w; omega⟩, fun w => by rw [q10] at w; omega⟩⟩
  rw [mk 99 (by decide), m571]
  exact t3
theorem aR_A {c m c_q m_q : rHp} (h : aR c m) (hA : yFA c m c_q m_q) (h95 : m_q 15 0 95 = m 15 0 95) : aR c_q m_q := by
  obtain ⟨a1, a2, a3, a4, a5, a6⟩ := hA
  rcases a6 with ⟨_, b2, _, b4, _⟩ | ⟨_, b2, _, b4⟩
  · exact aR_fr h (fun j w => a2 j (by omega)) (by rw [b2]) (by rw [a1 41 (by decide)]) (fun j w => by
      rcases w with rfl | rfl
      · exact b4
      · exact h95) (a4 110 (by decide))
  · refine ⟨by rw [a2 5 (by decide), a2 6 (by decide)]; exact h.1, ?_, by rw [b4]; exact Int.le_refl _, fun w => absurd b4 w⟩
    rw [a2 5 (by decide), b2.1, b4]
theorem nR_A {c m c_q m_q : rHp} (h : nR c m) (hA : yFA c m c_q m_q) : nR c_q m_q := by
  obtain ⟨a1, a2, a3, a4, a5, a6⟩ := hA
  unfold nR
  rw [a2 8 (by decide), a2 9 (by decide), a5 74 (by decide), a5 75 (by decide)]
  exact h
/-- the reference's question, BROKEN -/
theorem fn91_no {m m1 : rHp} {r : zR} (b : m 15 0 59 ≠ 0) (e3 : (fn32 [61] (rUp (rUp (fn5 [] m).2.2 15 0 0 0) 15 0 14 (m 15 0 13))).2.2 = m1) (m34 : m1 15 0 34 = m 15 0 3) (k0 : fn38 [0] m1 = r) (k : (∃ m_q, r = (0, 0, m_q)) ∨ ∃ m_q, r = (0, 1, m_q) ∧ fn7 [] m_q = (0, 0, m_q) ∧ (m_q 15 0 35 ≠ m1 15 0 34 ∨ ∃ m_q_q, fn28 [] m_q = (0, 0, m_q_q))) : ∃ v mE, fn91 [] m = (0, v, mE) ∧ fH 15 [] [36] r.2.2 mE := by
  unfold fn91 dn91
  simp only [zLet, fn1_eq, e3, k0]
  rw [if_pos b]
  rcases k with ⟨m_q, k⟩ | ⟨m_q, k, k3, k4⟩
  · rw [k, if_neg (show ¬ (1 : Int) ≤ 0 by decide)]
    exact ⟨_, _, rfl, fH_refl⟩
  · rw [k, if_pos (Int.le_refl 1)]
    simp only [k3]
    by_cases w : m_q 15 0 35 = m 15 0 3
    · rw [if_pos w]
      obtain ⟨m_q_q, k4⟩ := k4.resolve_left (fun z => z (by rw [m34]; exact w))
      have g28 := fn28_eq [] m_q
      rw [k4] at g28
      have f36 : fH 15 [] [36] m_q m_q_q := by
        split at g28
        · exact absurd (congrArg (fun r : zR => r.2.1) g28) (show ¬ (0 : Int) = 1 by decide)
        · rw [show m_q_q = (fn8 [m_q 88 0 (pIx (qPd m_q) (m_q 15 0 58) 0)] m_q).2.2 from congrArg (fun r : zR => r.2.2) g28]
          exact fn8_fr
      simp only [k4]
      rw [if_neg (show ¬ (1 : Int) ≤ 0 by decide)]
      exact ⟨_, _, rfl, f36⟩
    · rw [if_neg w]
      exact ⟨_, _, rfl, fn8_fr⟩
/-- the reference's question, read -/
theorem fn91_go {m m1 m3 m4 : rHp} (b : m 15 0 59 ≠ 0) (e3 : (fn32 [61] (rUp (rUp (fn5 [] m).2.2 15 0 0 0) 15 0 14 (m 15 0 13))).2.2 = m1) (m34 : m1 15 0 34 = m 15 0 3) (k2 : fn38 [0] m1 = (0, 1, m3)) (k3 : fn7 [] m3 = (0, 0, m3)) (k4 : m3 15 0 35 = m1 15 0 34) (k5 : fn28 [] m3 = (0, 1, m3)) (l1 : fn44 [] m3 = (0, 0, m4)) :
    fn91 [] m = zGoo (en91 m) (if (fn74 [] (rUp (rUp (rUp (rUp (rUp m4 15 0 81 (m 15 0 71)) 15 0 84 0) 15 0 72 0) 15 0 77 0) 15 0 94 0)).2.2 15 0 77 = 0 then .inl (0, [0], rUp (rUp (rUp (rUp (fn74 [] (rUp (rUp (rUp (rUp (rUp m4 15 0 81 (m 15 0 71)) 15 0 84 0) 15 0 72 0) 15 0 77 0) 15 0 94 0)).2.2 15 0 0 0) 15 0 74 ((fn74 [] (rUp (rUp (rUp (rUp (rUp m4 15 0 81 (m 15 0 71)) 15 0 84 0) 15 0 72 0) 15 0 77 0) 15 0 94 0)).2.2 15 0 72)) 15 0 93 ((fn74 [] (rUp (rUp (rUp (rUp (rUp m4 15 0 81 (m 15 0 71)) 15 0 84 0) 15 0 72 0) 15 0 77 0) 15 0 94 0)).2.2 15 0 94)) 15 0 95 (m4 75 0 61))
      else .inr (0, 0, rUp (fn74 [] (rUp (rUp (rUp (rUp (rUp m4 15 0 81 (m 15 0 71)) 15 0 84 0) 15 0 72 0) 15 0 77 0) 15 0 94 0)).2.2 15 0 0 ((fn74 [] (rUp (rUp (rUp (rUp (rUp m4 15 0 81 (m 15 0 71)) 15 0 84 0) 15 0 72 0) 15 0 77 0) 15 0 94 0)).2.2 15 0 77))) := by
  unfold fn91 dn91
  simp only [zLet, fn1_eq, e3, k2]
  rw [if_pos b, if_pos (Int.le_refl 1)]
  simp only [k3]
  rw [if_pos (k4.trans m34)]
  simp only [k5]
  rw [if_pos (Int.le_refl 1)]
  simp only [l1]
  generalize (fn74 [] (rUp (rUp (rUp (rUp (rUp m4 15 0 81 (m 15 0 71)) 15 0 84 0) 15 0 72 0) 15 0 77 0) 15 0 94 0)).2.2 = m8
  have f1 : (fn1 [m8 15 0 77] m8).2.1 = if m8 15 0 77 = 0 then 0 else 1 := by
    unfold fn1
    simp only [zLet, List.getD_cons_zero]
    split <;> rfl
  rw [f1]
  by_cases z : m8 15 0 77 = 0
  · rw [if_pos z, if_neg (show ¬ (1 : Int) ≤ 0 by decide), if_pos z, z]
  · rw [if_neg z, if_pos (Int.le_refl 1), if_neg z]
theorem ask_both {B : Int} {c m : rHp} (h : JJ B c m) (hB : B ≤ 10239) (hE : c 0 0 7 ≠ 0 → yE1 c m) (ha : aR c m) :
    ∃ o v v_q c_q m_q, fn266 [] c = (o, v, c_q) ∧ fn91 [] m = (0, v_q, m_q) ∧ ((∃ j, c_q 40 0 j ≠ 0) → (∃ j, m_q 40 0 j ≠ 0) → aR c_q m_q ∧ (nR c m → nR c_q m_q)) := by
  obtain ⟨m1, e3, m34, m45, key, fR, fy, fA, k66, k14, k13, k95⟩ := ask_read h.1 hB h.2.1
  have f112 : ∀ g : rHp, (fn112 [] g).2.2 = rUp g 2 0 3 0 := fun g => rfl
  have f162 : ∀ (n : Int) (g : rHp), (fn162 [n] g).2.2 = rUp (rUp g 8 n 1 0) 8 n 2 0 := fun n g => rfl
  have f131 : (fn131 [c 1 0 10] c).2.2 = c := rfl
  have f111 : (fn111 [2] c).2.2 = qUc 2 c := rfl
  by_cases b : c 0 0 7 ≠ 0
  · have bm : m 15 0 59 ≠ 0 := by rw [← h.2.2]; exact b
    rcases key with ⟨⟨c3, k1⟩, k2⟩ | ⟨c3, m3, n, k1, k2, k3, k4, k5, k6, k7, k8, n0, n8, k9, k10, k11⟩
    · obtain ⟨v_q, mE, em, fE36⟩ := fn91_no bm e3 m34 rfl k2
      rw [k1] at fA
      have ec : fn266 [] c = (0, -c3 2 0 4 + (-1), rUp c3 2 0 3 0) := by
        unfold fn266
        simp only [zLet, f131, f111, k1, f112]
        rw [if_pos b, if_neg (show ¬ (1 : Int) ≤ 0 by decide)]
      refine ⟨0, _, v_q, _, mE, ec, em, fun _ _ => ⟨?_, fun hn => ?_⟩⟩
      · exact aR_fr (aR_A ha fA k95) (fun _ _ => rfl) rfl rfl (fun j w => fE36.2 j (by rcases w with rfl | rfl <;> decide)) (fE36.1 110 (by decide) (by decide))
      · have := nR_A hn fA
        unfold nR at this ⊢
        rw [fE36.2 74 (by decide), fE36.2 75 (by decide)]
        exact this
    · rw [k1, k2] at fA
      rw [k2] at k13 k14 k95
      obtain ⟨kb, m4, l1, l2, l3, kbn, kbq, ready⟩ := ask_ready (B := B) (hE b) fA m45 k13 k14 n0 n8 k9 k10 k8 k11
      have em := fn91_go bm e3 m34 k2 k3 k4 k5 l1
      have aA := aR_A ha fA k95
      have nA := fun hn => nR_A (c := c) (m := m) hn fA
      -- the class_q heaps
      have c6k : ∀ K : Nat, K ≠ 8 → rUp (rUp (rUp (rUp c3 2 0 3 0) 8 (c 0 0 6) 1 0) 8 (c 0 0 6) 2 0) 8 (c 0 0 6) 2 (c3 2 0 5) K = rUp c3 2 0 3 0 K := fun K q => by rw [rUp_grp q, rUp_grp q, rUp_grp q]
      have c61 : rUp (rUp (rUp (rUp c3 2 0 3 0) 8 (c 0 0 6) 1 0) 8 (c 0 0 6) 2 0) 8 (c 0 0 6) 2 (c3 2 0 5) 8 (c 0 0 6) 1 = 0 := by
        rw [rUp_ne (fun w => absurd w.2.2 (by decide)), rUp_ne (fun w => absurd w.2.2 (by decide)), rUp_at]
      have c62 : rUp (rUp (rUp (rUp c3 2 0 3 0) 8 (c 0 0 6) 1 0) 8 (c 0 0 6) 2 0) 8 (c 0 0 6) 2 (c3 2 0 5) 8 (c 0 0 6) 2 = c3 2 0 5 := rUp_at
      have c6h : ∀ x, x ≠ c 0 0 6 → rUp (rUp (rUp (rUp c3 2 0 3 0) 8 (c 0 0 6) 1 0) 8 (c 0 0 6) 2 0) 8 (c 0 0 6) 2 (c3 2 0 5) 8 x = rUp c3 2 0 3 0 8 x := fun x q => by
        funext j
        rw [rUp_ne (fun w => q w.2.1), rUp_ne (fun w => q w.2.1), rUp_ne (fun w => q w.2.1)]
      have ec : fn266 [] c = if (fn262 [c 40 0 (c 1 0 10), c 0 0 6] (rUp (rUp (rUp (rUp c3 2 0 3 0) 8 (c 0 0 6) 1 0) 8 (c 0 0 6) 2 0) 8 (c 0 0 6) 2 (c3 2 0 5))).1 = 0 then (0, (fn262 [c 40 0 (c 1 0 10), c 0 0 6] (rUp (rUp (rUp (rUp c3 2 0 3 0) 8 (c 0 0 6) 1 0) 8 (c 0 0 6) 2 0) 8 (c 0 0 6) 2 (c3 2 0 5))).2.2 8 (c 0 0 6) 1, rUp (rUp (rUp (fn262 [c 40 0 (c 1 0 10), c 0 0 6] (rUp (rUp (rUp (rUp c3 2 0 3 0) 8 (c 0 0 6) 1 0) 8 (c 0 0 6) 2 0) 8 (c 0 0 6) 2 (c3 2 0 5))).2.2 0 0 5 (c 0 0 6)) 0 0 6 (c 0 0 5)) 0 0 8 ((fn262 [c 40 0 (c 1 0 10), c 0 0 6] (rUp (rUp (rUp (rUp c3 2 0 3 0) 8 (c 0 0 6) 1 0) 8 (c 0 0 6) 2 0) 8 (c 0 0 6) 2 (c3 2 0 5))).2.2 6 0 0))
          else (4, 0, (fn262 [c 40 0 (c 1 0 10), c 0 0 6] (rUp (rUp (rUp (rUp c3 2 0 3 0) 8 (c 0 0 6) 1 0) 8 (c 0 0 6) 2 0) 8 (c 0 0 6) 2 (c3 2 0 5))).2.2) := by
        unfold fn266
        simp only [zLet, f131, f111, k1, f112, f162]
        rw [if_pos b, if_pos (Int.le_refl 1)]
      generalize rUp (rUp (rUp (rUp c3 2 0 3 0) 8 (c 0 0 6) 1 0) 8 (c 0 0 6) 2 0) 8 (c 0 0 6) 2 (c3 2 0 5) = c6 at *
      have c47 : c6 4 0 7 = c 4 0 7 := by rw [c6k 4 (by decide), fA.1 4 (by decide)]
      have g262 : fn262 [c 40 0 (c 1 0 10), c 0 0 6] c6 = if (fn261 [] (rUp (rUp (rUp (rUp (rUp (rUp (rUp (rUp c6 6 0 9 2) 6 0 10 0) 6 0 7 (c 40 0 (c 1 0 10))) 6 0 8 (-1)) 6 0 13 0) 6 0 6 (c 0 0 6)) 6 0 11 (c6 4 0 7)) 6 0 0 0)).1 = 0 then (0, 0, (fn261 [] (rUp (rUp (rUp (rUp (rUp (rUp (rUp (rUp c6 6 0 9 2) 6 0 10 0) 6 0 7 (c 40 0 (c 1 0 10))) 6 0 8 (-1)) 6 0 13 0) 6 0 6 (c 0 0 6)) 6 0 11 (c6 4 0 7)) 6 0 0 0)).2.2) else (4, 0, (fn261 [] (rUp (rUp (rUp (rUp (rUp (rUp (rUp (rUp c6 6 0 9 2) 6 0 10 0) 6 0 7 (c 40 0 (c 1 0 10))) 6 0 8 (-1)) 6 0 13 0) 6 0 6 (c 0 0 6)) 6 0 11 (c6 4 0 7)) 6 0 0 0)).2.2) := by
        unfold fn262 fn241
        simp only [zLet, List.getD_cons_zero, List.getD_cons_succ]
      have y7 : (rUp (rUp (rUp (rUp (rUp (rUp (rUp (rUp c6 6 0 9 2) 6 0 10 0) 6 0 7 (c 40 0 (c 1 0 10))) 6 0 8 (-1)) 6 0 13 0) 6 0 6 (c 0 0 6)) 6 0 11 (c6 4 0 7)) 6 0 0 0) 6 0 7 = c 40 0 (c 1 0 10) := by
        rw [rUp_ne (by decide), rUp_ne (by decide), rUp_ne (by decide), rUp_ne (by decide), rUp_ne (by decide), rUp_at]
      have y9 : (rUp (rUp (rUp (rUp (rUp (rUp (rUp (rUp c6 6 0 9 2) 6 0 10 0) 6 0 7 (c 40 0 (c 1 0 10))) 6 0 8 (-1)) 6 0 13 0) 6 0 6 (c 0 0 6)) 6 0 11 (c6 4 0 7)) 6 0 0 0) 6 0 9 = 2 := by
        rw [rUp_ne (by decide), rUp_ne (by decide), rUp_ne (by decide), rUp_ne (by decide), rUp_ne (by decide), rUp_ne (by decide), rUp_ne (by decide), rUp_at]
      have y10 : (rUp (rUp (rUp (rUp (rUp (rUp (rUp (rUp c6 6 0 9 2) 6 0 10 0) 6 0 7 (c 40 0 (c 1 0 10))) 6 0 8 (-1)) 6 0 13 0) 6 0 6 (c 0 0 6)) 6 0 11 (c6 4 0 7)) 6 0 0 0) 6 0 10 = 0 := by
        rw [rUp_ne (by decide), rUp_ne (by decide), rUp_ne (by decide), rUp_ne (by decide), rUp_ne (by decide), rUp_ne (by decide), rUp_at]
      have y13 : (rUp (rUp (rUp (rUp (rUp (rUp (rUp (rUp c6 6 0 9 2) 6 0 10 0) 6 0 7 (c 40 0 (c 1 0 10))) 6 0 8 (-1)) 6 0 13 0) 6 0 6 (c 0 0 6)) 6 0 11 (c6 4 0 7)) 6 0 0 0) 6 0 13 = 0 := by
        rw [rUp_ne (by decide), rUp_ne (by decide), rUp_ne (by decide), rUp_at]
      have y6 : (rUp (rUp (rUp (rUp (rUp (rUp (rUp (rUp c6 6 0 9 2) 6 0 10 0) 6 0 7 (c 40 0 (c 1 0 10))) 6 0 8 (-1)) 6 0 13 0) 6 0 6 (c 0 0 6)) 6 0 11 (c6 4 0 7)) 6 0 0 0) 6 0 6 = c 0 0 6 := by
        rw [rUp_ne (by decide), rUp_ne (by decide), rUp_at]
      have y11 : (rUp (rUp (rUp (rUp (rUp (rUp (rUp (rUp c6 6 0 9 2) 6 0 10 0) 6 0 7 (c 40 0 (c 1 0 10))) 6 0 8 (-1)) 6 0 13 0) 6 0 6 (c 0 0 6)) 6 0 11 (c6 4 0 7)) 6 0 0 0) 6 0 11 = c6 4 0 7 := by
        rw [rUp_ne (by decide), rUp_at]
      have y0 : (rUp (rUp (rUp (rUp (rUp (rUp (rUp (rUp c6 6 0 9 2) 6 0 10 0) 6 0 7 (c 40 0 (c 1 0 10))) 6 0 8 (-1)) 6 0 13 0) 6 0 6 (c 0 0 6)) 6 0 11 (c6 4 0 7)) 6 0 0 0) 6 0 0 = 0 := rUp_at
      have yk : ∀ K : Nat, K ≠ 6 → (rUp (rUp (rUp (rUp (rUp (rUp (rUp (rUp c6 6 0 9 2) 6 0 10 0) 6 0 7 (c 40 0 (c 1 0 10))) 6 0 8 (-1)) 6 0 13 0) 6 0 6 (c 0 0 6)) 6 0 11 (c6 4 0 7)) 6 0 0 0) K = c6 K := fun K q => by
        rw [rUp_grp q, rUp_grp q, rUp_grp q, rUp_grp q, rUp_grp q, rUp_grp q, rUp_grp q, rUp_grp q]
      generalize (rUp (rUp (rUp (rUp (rUp (rUp (rUp (rUp c6 6 0 9 2) 6 0 10 0) 6 0 7 (c 40 0 (c 1 0 10))) 6 0 8 (-1)) 6 0 13 0) 6 0 6 (c 0 0 6)) 6 0 11 (c6 4 0 7)) 6 0 0 0) = c7 at *
      -- the reference's heaps
      have p81 : (rUp (rUp (rUp (rUp (rUp m4 15 0 81 (m 15 0 71)) 15 0 84 0) 15 0 72 0) 15 0 77 0) 15 0 94 0) 15 0 81 = m 15 0 71 := by
        rw [rUp_ne (by decide), rUp_ne (by decide), rUp_ne (by decide), rUp_ne (by decide), rUp_at]
      have p84 : (rUp (rUp (rUp (rUp (rUp m4 15 0 81 (m 15 0 71)) 15 0 84 0) 15 0 72 0) 15 0 77 0) 15 0 94 0) 15 0 84 = 0 := by
        rw [rUp_ne (by decide), rUp_ne (by decide), rUp_ne (by decide), rUp_at]
      have p72 : (rUp (rUp (rUp (rUp (rUp m4 15 0 81 (m 15 0 71)) 15 0 84 0) 15 0 72 0) 15 0 77 0) 15 0 94 0) 15 0 72 = 0 := by
        rw [rUp_ne (by decide), rUp_ne (by decide), rUp_at]
      have p77 : (rUp (rUp (rUp (rUp (rUp m4 15 0 81 (m 15 0 71)) 15 0 84 0) 15 0 72 0) 15 0 77 0) 15 0 94 0) 15 0 77 = 0 := by
        rw [rUp_ne (by decide), rUp_at]
      have p94 : (rUp (rUp (rUp (rUp (rUp m4 15 0 81 (m 15 0 71)) 15 0 84 0) 15 0 72 0) 15 0 77 0) 15 0 94 0) 15 0 94 = 0 := rUp_at
      have pk : ∀ K : Nat, K ≠ 15 → (rUp (rUp (rUp (rUp (rUp m4 15 0 81 (m 15 0 71)) 15 0 84 0) 15 0 72 0) 15 0 77 0) 15 0 94 0) K = m4 K := fun K q => by
        rw [rUp_grp q, rUp_grp q, rUp_grp q, rUp_grp q, rUp_grp q]
      have pj : ∀ j, j ∉ [(72 : Int), 77, 81, 84, 94] → (rUp (rUp (rUp (rUp (rUp m4 15 0 81 (m 15 0 71)) 15 0 84 0) 15 0 72 0) 15 0 77 0) 15 0 94 0) 15 0 j = m4 15 0 j := fun j q => by
        simp only [List.mem_cons, List.not_mem_nil, or_false] at q
        rw [rUp_ne (fun w => by have := w.2.2; omega), rUp_ne (fun w => by have := w.2.2; omega), rUp_ne (fun w => by have := w.2.2; omega), rUp_ne (fun w => by have := w.2.2; omega), rUp_ne (fun w => by have := w.2.2; omega)]
      generalize (rUp (rUp (rUp (rUp (rUp m4 15 0 81 (m 15 0 71)) 15 0 84 0) 15 0 72 0) 15 0 77 0) 15 0 94 0) = m5 at *
      have hR := ready c7 m5 (fun K q6 q8 => by rw [yk K q6, c6k K q8]) y7 y9 y10 y13 y0 (by rw [y11, c47]) (by rw [y6, yk 8 (by decide)]; exact c61) pk pj p72 p77 p81 p84 p94
      have m573 : m5 73 0 61 = n := by rw [pk 73 (by decide), l3.1 73 (by decide) (by decide)]; exact k10
      obtain ⟨o, c8, m8, w1, w2, w3⟩ := ways_w hR
      have tq : m8 15 0 77 ≠ 3 := by
        have := fn74_tq (x := []) (g0 := m5)
        rw [w2] at this
        exact this (by rw [p77]; decide)
      have wq : fW m5 m8 := by
        have := fn74_wq (x := []) (g0 := m5)
        rw [w2] at this
        exact this
      have xq : fX c7 c8 := by
        have := fn261_xq (x := []) (g0 := c7)
        rw [w1] at this
        exact this
      rw [w2] at em
      rw [w1] at g262
      have m45j : ∀ j, j ∉ [(72 : Int), 77, 81, 84, 94] → m5 15 0 j = m3 15 0 j := fun j q => by rw [pj j q, l3.2 j (by simp)]
      have m410 : m5 110 = m3 110 := by rw [pk 110 (by decide), l3.1 110 (by decide) (by decide)]
      rcases w3 with ⟨eo, hP⟩ | ⟨eo, e77⟩ | ⟨eo, e77⟩
      · -- all WAYS are walked
        subst eo
        have g262 : fn262 [c 40 0 (c 1 0 10), c 0 0 6] c6 = (0, 0, c8) := g262.trans (if_pos rfl)
        rw [g262] at ec
        have ec : fn266 [] c = (0, c8 8 (c 0 0 6) 1, rUp (rUp (rUp c8 0 0 5 (c 0 0 6)) 0 0 6 (c 0 0 5)) 0 0 8 (c8 6 0 0)) := ec.trans (if_pos rfl)
        have hW := hP.1
        have b8 : m8 15 0 77 = 0 := hW.bad
        rw [if_pos (show ((0, 0, m8) : zR).2.2 15 0 77 = 0 from b8)] at em
        obtain ⟨mE, z1, z2, z3⟩ := en91_cp (m0 := m) 800 0 (rUp (rUp (rUp (rUp m8 15 0 0 0) 15 0 74 (m8 15 0 72)) 15 0 93 (m8 15 0 94)) 15 0 95 (m4 75 0 61)) (by decide) (by decide)
        have em : fn91 [] m = (0, _, mE) := em.trans z1
        refine ⟨0, _, _, _, mE, ec, em, fun zc zm => ?_⟩
        have e93 : mE 15 0 93 = m8 15 0 94 := by rw [z2 15 (by decide), rUp_ne (by decide), rUp_at]
        have e95 : mE 15 0 95 = m3 15 0 45 := by rw [z2 15 (by decide), rUp_at]; exact l2
        have e74 : mE 15 0 74 = m8 15 0 72 := by rw [z2 15 (by decide), rUp_ne (by decide), rUp_ne (by decide), rUp_at]
        have e75 : mE 15 0 75 = m8 15 0 75 := by rw [z2 15 (by decide), rUp_ne (by decide), rUp_ne (by decide), rUp_ne (by decide), rUp_ne (by decide)]
        have q5 : rUp (rUp (rUp c8 0 0 5 (c 0 0 6)) 0 0 6 (c 0 0 5)) 0 0 8 (c8 6 0 0) 0 0 5 = c 0 0 6 := by rw [rUp_ne (by decide), rUp_ne (by decide), rUp_at]
        have q6 : rUp (rUp (rUp c8 0 0 5 (c 0 0 6)) 0 0 6 (c 0 0 5)) 0 0 8 (c8 6 0 0) 0 0 6 = c 0 0 5 := by rw [rUp_ne (by decide), rUp_at]
        have q8 : rUp (rUp (rUp c8 0 0 5 (c 0 0 6)) 0 0 6 (c 0 0 5)) 0 0 8 (c8 6 0 0) 0 0 8 = c8 6 0 0 := rUp_at
        have q9 : rUp (rUp (rUp c8 0 0 5 (c 0 0 6)) 0 0 6 (c 0 0 5)) 0 0 8 (c8 6 0 0) 0 0 9 = c8 0 0 9 := by rw [rUp_ne (by decide), rUp_ne (by decide), rUp_ne (by decide)]
        have qk : ∀ K : Nat, K ≠ 0 → rUp (rUp (rUp c8 0 0 5 (c 0 0 6)) 0 0 6 (c 0 0 5)) 0 0 8 (c8 6 0 0) K = c8 K := fun K q => by rw [rUp_grp q, rUp_grp q, rUp_grp q]
        rw [qk 40 (by decide)] at zc
        have zm : ∃ j, m8 40 0 j ≠ 0 := by
          rw [z2 40 (by decide), rUp_grp (by decide), rUp_grp (by decide), rUp_grp (by decide), rUp_grp (by decide)] at zm
          exact zm
        obtain ⟨u1, u2⟩ := wq zm
        obtain ⟨x0, x1⟩ := xq zc
        obtain ⟨x1, x2, x3, x4⟩ := x1 y9
        have s6 : c8 6 0 6 = c 0 0 6 := x2.1.trans y6
        obtain ⟨⟨g1, g2, g3⟩, _⟩ := hW.qq
        rw [s6] at g1 g3
        rw [m573, kbn] at g3
        refine ⟨⟨by rw [q5, q6]; exact fun w => ha.1 w.symm, ?_, by rw [e93]; exact g2, fun _ => ⟨?_, by rw [e95]; exact k7, fun i v i0 i1 i2 hv hb => ?_⟩⟩, fun hn => ?_⟩
        · rw [q5, qk 8 (by decide), e93]; exact g1
        · rw [q5, qk 8 (by decide), x4 _ 2 (by decide), yk 8 (by decide), c62, e95]; exact k6
        · rw [e93] at i1
          rw [e95] at hb
          have v8 := hv
          unfold qVr at v8
          have r110 : mE 110 0 (v + 8 * i) = m8 111 0 (v + 8 * i) := by
            rw [z3 _ (by omega) (by omega), rUp_grp (by decide), rUp_grp (by decide), rUp_grp (by decide), rUp_grp (by decide)]
          rw [q5, qk 41 (by decide), r110]
          exact g3 i v i0 i1 i2 hv hb
        · have a := nA hn
          unfold nR at a ⊢
          rw [q8, q9, e74, e75]
          refine ⟨hW.stp, ?_⟩
          rw [x1 0 (by decide), yk 0 (by decide), c6k 0 (by decide), u2 75 (by decide), m45j 75 (by decide)]
          exact a.2
      · exact absurd e77 tq
      · -- too many STEPS
        subst eo
        have g262 : fn262 [c 40 0 (c 1 0 10), c 0 0 6] c6 = (4, 0, c8) := g262.trans (if_neg (show ¬ (4 : Nat) = 0 by decide))
        rw [g262] at ec
        have ec : fn266 [] c = (4, 0, c8) := ec.trans (if_neg (show ¬ (4 : Nat) = 0 by decide))
        rw [if_neg (show ¬ ((0, 0, m8) : zR).2.2 15 0 77 = 0 from fun w => by have w : m8 15 0 77 = 0 := w; omega)] at em
        have em : fn91 [] m = (0, 0, rUp m8 15 0 0 (m8 15 0 77)) := em
        refine ⟨4, 0, 0, c8, _, ec, em, fun zc zm => ?_⟩
        rw [rUp_grp (by decide)] at zm
        obtain ⟨u1, u2⟩ := wq zm
        obtain ⟨x0, x1⟩ := xq zc
        obtain ⟨x1, x2, x3, x4⟩ := x1 y9
        rw [y6] at x3
        have z5 : rUp c3 2 0 3 0 0 0 5 = c 0 0 5 := fA.2.1 5 (by decide)
        have k0 : c8 0 = rUp c3 2 0 3 0 0 := by rw [x1 0 (by decide), yk 0 (by decide), c6k 0 (by decide)]
        have m8j : ∀ j, j ∉ [(72 : Int), 77, 81, 84, 94] → j ≠ 0 → rUp m8 15 0 0 (m8 15 0 77) 15 0 j = m3 15 0 j := fun j q q0 => by
          rw [rUp_ne (fun w => q0 w.2.2), u2 j (by
            simp only [List.mem_cons, List.not_mem_nil, or_false] at q ⊢
            omega), m45j j q]
        refine ⟨aR_fr aA (fun j _ => by rw [k0]) ?_ ?_ (fun j w => m8j j (by rcases w with rfl | rfl <;> decide) (by omega)) (by rw [rUp_grp (by decide), u1 110 (by decide), m410]), fun hn => ?_⟩
        · rw [z5, (x3 _ ha.1).1, yk 8 (by decide), c6h _ ha.1]
        · rw [z5, (x3 _ ha.1).2, yk 41 (by decide), c6k 41 (by decide)]
        · have a := nA hn
          unfold nR at a ⊢
          rw [k0, m8j 74 (by decide) (by decide), m8j 75 (by decide) (by decide)]
          exact a
  · have bm : ¬ m 15 0 59 ≠ 0 := by rw [← h.2.2]; exact b
    have ec : fn266 [] c = (5, 0, rUp c 2 0 3 0) := by
      unfold fn266
      simp only [zLet, f112]
      rw [if_neg b]
    have em : fn91 [] m = (0, 0, rUp (fn5 [] m).2.2 15 0 0 1) := by
      unfold fn91 dn91
      simp only [zLet, fn1_eq]
      rw [if_neg bm]
      rfl
    have n := none_read (c := c) (m := m)
    refine ⟨5, 0, 0, _, _, ec, em, fun _ _ => ⟨aR_A ha n.2 ?_, fun hn => nR_A hn n.2⟩⟩
    show rUp (rUp (rUp (rUp m 15 0 34 (m 15 0 3)) 15 0 3 0) 15 0 35 0) 15 0 0 1 15 0 95 = m 15 0 95
    rw [rUp_ne (by decide), rUp_ne (by decide), rUp_ne (by decide), rUp_ne (by decide)]
