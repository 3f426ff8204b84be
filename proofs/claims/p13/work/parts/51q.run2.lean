/-! ===== run, by both ===== -/
/-- what run hangs on, between calls: PREDICATES, RULES, FACTS as both keep them -/
noncomputable def yS (c m : rHp) : Prop := (c 1 0 7 = m 15 0 13 ∧ 0 ≤ m 15 0 13 ∧ m 15 0 13 ≤ 20) ∧ (c 1 0 10 = m 15 0 32 ∧ 0 ≤ m 15 0 32) ∧ (∀ r, 0 ≤ r → r < m 15 0 32 → gRu r (c 40 0 r) c m) ∧ (c 1 0 9 = m 15 0 17 ∧ 0 ≤ m 15 0 17 ∧ ∀ f, 0 ≤ f → f < m 15 0 17 → c 19 0 f = m 67 0 f ∧ (0 ≤ m 67 0 f ∧ m 67 0 f < m 15 0 13) ∧ ∀ k, 0 ≤ k → k < 4 → c 20 0 (k + 4 * f) = m 68 0 (k + 4 * f) ∧ vOk (m 68 0 (k + 4 * f)) ∧ (m 66 0 (m 67 0 f) ≤ k → m 68 0 (k + 4 * f) = 0)) ∧ ∀ p, 0 ≤ p → p < m 15 0 13 → m 66 0 p ≤ 4
theorem gRu_wS {r R : Int} {c m : rHp} (h : gRu r R c m) : ∃ kb, wS r R (m 73 0 r) kb (rUp c 6 0 7 R) m ∧ gHd r R (kb (m 73 0 r)) c m ∧ c 10 (9 * R) 12 = m 71 0 r ∧ 0 ≤ m 71 0 r := by
  obtain ⟨kb, h1, h2, h3, h4, h5⟩ := h
  refine ⟨kb, h1 _ (rUp_grp (by decide)) (rUp_grp (by decide)) (rUp_grp (by decide)) (rUp_grp (by decide)) (rUp_grp (by decide)) rUp_at, h3, h4, ?_⟩
  by_cases b : m 71 0 r = 0
  · omega
  · have := (h5 b).1.1; omega
theorem yS_B {c m : rHp} (h : yS c m) : layB m := by
  obtain ⟨⟨h1, h2, h3⟩, ⟨h4, h5⟩, h6, _⟩ := h
  refine ⟨⟨h2, h3⟩, h5, fun r r0 r1 => ?_⟩
  obtain ⟨kb, w, hd, _⟩ := gRu_wS (h6 r r0 r1)
  exact ⟨hd.2.1, w.n8.1, fun g g0 g1 hk => (w.at0 g g0 g1 hk).2.1⟩
theorem yS_L {c m : rHp} (h : yS c m) : cL c m := by
  obtain ⟨⟨h1, h2, h3⟩, ⟨h4, h5⟩, h6, _⟩ := h
  refine ⟨h1, h4, fun r r0 r1 => ?_, fun r g r0 r1 g0 g1 => ?_⟩
  · obtain ⟨kb, w, hd, t1, t2⟩ := gRu_wS (h6 r r0 r1)
    have e := w.n1
    rw [rUp_grp (by decide)] at e
    exact ⟨e, hd.1, t1, t2⟩
  · obtain ⟨kb, w, hd, t1, t2⟩ := gRu_wS (h6 r r0 r1)
    obtain ⟨k1, k2, k3⟩ := w.kd g g0 g1
    rw [rUp_grp (by decide), show 9 * c 40 0 r + (g + 1) = g + 9 * c 40 0 r + 1 by omega] at k1
    refine ⟨k1, k2, fun z => ?_⟩
    have a := (w.at0 g g0 g1 z).1
    rw [rUp_grp (by decide), show 9 * c 40 0 r + (g + 1) = g + 9 * c 40 0 r + 1 by omega] at a
    exact a
/-- what no step of run touches: the RULES_q and FACTS_q cells -/
theorem yS_re {c m c_q m_q : rHp} (h : yS c m) (hs : s5 c c_q) (h40 : c_q 40 = c 40) (hF : ∀ K : Nat, K = 19 ∨ K = 20 → c_q K = c K) (h1 : ∀ j, j = 7 ∨ j = 9 ∨ j = 10 → c_q 1 0 j = c 1 0 j) (hm : s9 m m_q) (hj : ∀ j, j = 17 ∨ j = 32 → m_q 15 0 j = m 15 0 j) : yS c_q m_q := by
  obtain ⟨a1, a2, a3, a4, a5⟩ := h
  have e13 := hm.2
  refine ⟨by rw [h1 7 (by decide), e13]; exact a1, by rw [h1 10 (by decide), hj 32 (by decide)]; exact a2, fun r r0 r1 => ?_, ?_, ?_⟩
  · rw [hj 32 (by decide)] at r1
    rw [h40]
    exact gRu_re (a3 r r0 r1) hs hm
  · rw [h1 9 (by decide), hF 19 (by decide), hF 20 (by decide), hj 17 (by decide), e13, hm.1 66 (by decide) (by decide), hm.1 67 (by decide) (by decide), hm.1 68 (by decide) (by decide)]
    exact a4
  · rw [e13, hm.1 66 (by decide) (by decide)]
    exact a5
/-- behind a run that came to its end -/
noncomputable def yE (c m : rHp) : Prop := tT c m ∧ tX c m ∧ (∀ t k, 0 ≤ t → t < m 15 0 71 → 0 ≤ k → k < 4 → vOk (m 99 0 (k + 4 * t))) ∧ (∀ p, 0 ≤ p → p < m 15 0 13 → c 18 0 p = m 92 0 p) ∧ c 1 0 8 = m 15 0 61 ∧ c 0 0 8 = m 15 0 74 ∧ c 0 0 9 = m 15 0 75
theorem fn163_gr {K : Nat} {c : rHp} (a : K ≠ 0) (b : K ≠ 8) : (fn163 [] c).2.2 K = c K := by
  show rUp (rUp (rUp c 0 0 7 0) 8 (c 0 0 5) 1 0) 8 (c 0 0 5) 2 0 K = c K
  rw [rUp_grp b, rUp_grp b, rUp_grp a]
theorem run_two {c m : rHp} (h : yS c m) :
    ∃ o v v_q c_q m_q, fn265 [] c = (o, v, c_q) ∧ fn78 [] m = (0, v_q, m_q) ∧ ((o = 0 ∧ v = v_q ∧ v = m_q 15 0 71 ∧ c_q 0 0 7 = 1 ∧ m_q 15 0 59 = 1 ∧ m_q 15 0 0 = 0 ∧ yE c_q m_q ∧ yS c_q m_q) ∨ (o = 3 ∧ v_q = 0 ∧ m_q 15 0 0 = 1 ∧ m_q 15 0 59 = 0) ∨ (o = 1 ∧ v_q = 0 ∧ m_q 15 0 0 = 3 ∧ m_q 15 0 59 = 0) ∨ (o = 4 ∧ v_q = 0 ∧ m_q 15 0 0 = 2 ∧ m_q 15 0 59 = 0)) := by
  obtain ⟨c1, hc1⟩ : ∃ x, (fn163 [] c).2.2 = x := ⟨_, rfl⟩
  have cg1 : ∀ K : Nat, K ≠ 0 → K ≠ 8 → c1 K = c K := fun K a b => by rw [← hc1]; exact fn163_gr a b
  obtain ⟨m1, hm1⟩ : ∃ x, rUp m 15 0 93 0 = x := ⟨_, rfl⟩
  have mg1 : ∀ K : Nat, K ≠ 15 → m1 K = m K := fun K a => by rw [← hm1, rUp_grp a]
  have mj1 : ∀ j, j ≠ 93 → m1 15 0 j = m 15 0 j := fun j hj => by rw [← hm1, rUp_in, if_neg hj]
  have hS1 : yS c1 m1 := yS_re h ⟨cg1 9 (by decide) (by decide), cg1 10 (by decide) (by decide), cg1 43 (by decide) (by decide), cg1 44 (by decide) (by decide), cg1 46 (by decide) (by decide)⟩ (cg1 40 (by decide) (by decide)) (fun K z => cg1 K (by omega) (by omega)) (fun j _ => by rw [cg1 1 (by decide) (by decide)]) ⟨fun K a b => mg1 K (by omega), mj1 13 (by decide)⟩ (fun j z => mj1 j (by omega))
  have P20 := (yS_B hS1).1
  have e13 : m 15 0 13 = m1 15 0 13 := (mj1 13 (by decide)).symm
  rcases lay_two (yS_B hS1) (yS_L hS1) with ⟨c2, m2, x1, x2, x3, x4, x5, x6, x7, x8, x9, x10⟩ | ⟨c2, m2, x1, x2, x3, x4⟩
  · -- there are LAYERS
    obtain ⟨c3, y1, y2, y3, y4, y5, y6, y7⟩ := fn236_eq (c := c2)
    have e265 : fn265 [] c = zLoop (en265 c) (0, [0, 0], c3) := by
      unfold fn265 dn265
      simp only [zLet, hc1, x1, y1]
      rfl
    have e78 : fn78 [] m = zLoop (en78 m) (0, [0], fl (rUp (rUp (rUp (rUp m2 15 0 71 0) 15 0 72 0) 15 0 73 0) 15 0 77 0) (m 15 0 13).toNat) := by
      unfold fn78
      rw [dn78_go (by rw [e13]; exact P20.1) (by rw [e13]; exact P20.2) (by rw [hm1]; exact x2)]
      rfl
    obtain ⟨m3, hm3⟩ : ∃ x, fl (rUp (rUp (rUp (rUp m2 15 0 71 0) 15 0 72 0) 15 0 73 0) 15 0 77 0) (m 15 0 13).toNat = x := ⟨_, rfl⟩
    rw [hm3] at e78
    have mg3 : ∀ K : Nat, K ≠ 15 → K ≠ 100 → m3 K = m2 K := fun K a b => by rw [← hm3, fl_grp b, rUp_grp a, rUp_grp a, rUp_grp a, rUp_grp a]
    have mj3 : ∀ j, m3 15 0 j = if j = 77 then 0 else if j = 73 then 0 else if j = 72 then 0 else if j = 71 then 0 else m2 15 0 j := fun j => by rw [← hm3, fl_grp (by decide), rUp_in, rUp_in, rUp_in, rUp_in]
    have u : ∀ j, j ≠ 77 → j ≠ 73 → j ≠ 72 → j ≠ 71 → m3 15 0 j = m2 15 0 j := fun j a b d e => by rw [mj3, if_neg a, if_neg b, if_neg d, if_neg e]
    have z77 : m3 15 0 77 = 0 := by rw [mj3, if_pos rfl]
    have z73 : m3 15 0 73 = 0 := by rw [mj3, if_neg (by decide), if_pos rfl]
    have z72 : m3 15 0 72 = 0 := by rw [mj3, if_neg (by decide), if_neg (by decide), if_pos rfl]
    have z71 : m3 15 0 71 = 0 := by rw [mj3, if_neg (by decide), if_neg (by decide), if_neg (by decide), if_pos rfl]
    have z13 : m3 15 0 13 = m1 15 0 13 := by rw [u 13 (by decide) (by decide) (by decide) (by decide)]; exact x6 13 (by decide)
    have z61 : m3 15 0 61 = m2 15 0 61 := u 61 (by decide) (by decide) (by decide) (by decide)
    have f100 : ∀ p, 0 ≤ p → p < m3 15 0 13 → m3 100 0 p = -1 := fun p p0 p1 => by
      rw [← hm3]
      exact fl_in p0 _ (by rw [z13] at p1; omega)
    have cg3 : ∀ K : Nat, K ≠ 0 → K ≠ 1 → K ≠ 4 → K ≠ 6 → K ≠ 8 → K ≠ 18 → K ≠ 47 → K ≠ 50 → K ≠ 53 → c3 K = c K := fun K a0 a1 a4 a6 a8 a18 a47 a50 a53 => by
      rw [y5 K a4 a6 a47 a50 a53, x3 K a18 a1, cg1 K a0 a8]
    have c1j : ∀ j, j ≠ 8 → c3 1 0 j = c 1 0 j := fun j hj => by
      rw [y5 1 (by decide) (by decide) (by decide) (by decide) (by decide), x4 j hj, cg1 1 (by decide) (by decide)]
    have s5c : s5 c c3 := ⟨cg3 9 (by decide) (by decide) (by decide) (by decide) (by decide) (by decide) (by decide) (by decide) (by decide), cg3 10 (by decide) (by decide) (by decide) (by decide) (by decide) (by decide) (by decide) (by decide) (by decide), cg3 43 (by decide) (by decide) (by decide) (by decide) (by decide) (by decide) (by decide) (by decide) (by decide), cg3 44 (by decide) (by decide) (by decide) (by decide) (by decide) (by decide) (by decide) (by decide) (by decide), cg3 46 (by decide) (by decide) (by decide) (by decide) (by decide) (by decide) (by decide) (by decide) (by decide)⟩
    have s9m : s9 m m3 := ⟨fun K a b => by rw [mg3 K (by omega) (by omega), x5 K (by omega) (by omega), mg1 K (by omega)], by rw [z13, e13]⟩
    have hS3 : yS c3 m3 := yS_re h s5c (cg3 40 (by decide) (by decide) (by decide) (by decide) (by decide) (by decide) (by decide) (by decide) (by decide)) (fun K z => cg3 K (by omega) (by omega) (by omega) (by omega) (by omega) (by omega) (by omega) (by omega) (by omega)) (fun j z => c1j j (by omega)) s9m (fun j z => by rw [u j (by omega) (by omega) (by omega) (by omega), x6 j (by omega), mj1 j (by omega)])
    have lay : ∀ p, 0 ≤ p → p < m3 15 0 13 → c3 18 0 p = m3 92 0 p := fun p p0 p1 => by
      rw [z13] at p1
      rw [y5 18 (by decide) (by decide) (by decide) (by decide) (by decide), mg3 92 (by decide) (by decide)]
      exact (x7 p p0 p1).1
    have hcR : cR m3 := by
      unfold cR
      rw [z71]
      exact cH_nil (fun x hx => f100 x hx.1 hx.2)
    have hR : yR c3 m3 := by
      refine ⟨⟨by rw [y3, z71], by rw [y3]; exact y2, cR_cM hcR (by rw [z71]; decide), fun t t0 t1 => by rw [y3] at t1; omega⟩, ⟨hcR, fun t t0 t1 => by rw [z71] at t1; omega⟩, fun t k t0 t1 => by rw [z71] at t1; omega, ⟨hS3.2.2.2.1, fun p p0 p1 => ⟨lay p p0 p1, hS3.2.2.2.2 p p0 p1⟩⟩, hS3.2.1, hS3.2.2.1, z77, by rw [y4, z72], by rw [z72]; exact ⟨Int.le_refl _, by decide⟩⟩
    have hQr : yQ c3 m3 c3 m3 := ⟨⟨rfl, rfl, rfl, rfl, rfl⟩, rfl, rfl, fun _ _ => rfl, ⟨⟨fun _ _ _ => rfl, rfl⟩, rfl⟩, fun _ _ => rfl⟩
    obtain ⟨o, v, v_q, c4, m4, w1, w2, w3⟩ := run_lp (c0 := c) (m0 := m) (cB := c3) (mB := m3) _ 0 c3 m3 (Nat.le_refl _) (Int.le_refl 0) (by omega) (by omega) hR hQr (by rw [y5 1 (by decide) (by decide) (by decide) (by decide) (by decide), x8, z61]) (by omega) (by omega)
    rw [z73] at w1
    refine ⟨o, v, v_q, c4, m4, e265.trans w1, e78.trans w2, ?_⟩
    rcases w3 with ⟨eo, ev, c5, m5, q1, q2, q3, q4, q5⟩ | ⟨eo, ev, ev_q, b0, b59⟩ | ⟨eo, ev, ev_q, b0, b59⟩
    · have g4 : ∀ K : Nat, K ≠ 0 → c4 K = c5 K := fun K a => by rw [q4, rUp_grp a, rUp_grp a, rUp_grp a]
      have n4 : ∀ K : Nat, K ≠ 15 → m4 K = m5 K := fun K a => by rw [q5, rUp_grp a, rUp_grp a, rUp_grp a, rUp_grp a]
      have j4 : ∀ j, j ≠ 75 → j ≠ 74 → j ≠ 0 → j ≠ 59 → m4 15 0 j = m5 15 0 j := fun j a b d e => by rw [q5, rUp_in, if_neg a, rUp_in, if_neg b, rUp_in, if_neg d, rUp_in, if_neg e]
      refine Or.inl ⟨eo, ev, by rw [q3, j4 71 (by decide) (by decide) (by decide) (by decide)], by rw [q4, rUp_at], ?_, ?_, ?_, ?_⟩
      · rw [q5, rUp_in, if_neg (by decide), rUp_in, if_neg (by decide), rUp_in, if_neg (by decide), rUp_at]
      · rw [q5, rUp_in, if_neg (by decide), rUp_in, if_neg (by decide), rUp_at]
      · refine ⟨tT_fr q1.tt (fun K z => g4 K (by omega)) (fun K z => n4 K (by omega)) (j4 71 (by decide) (by decide) (by decide) (by decide)) (j4 13 (by decide) (by decide) (by decide) (by decide)), tX_fr q1.tx (fun K z => g4 K (by omega)) (fun K z => n4 K (by omega)) (j4 71 (by decide) (by decide) (by decide) (by decide)) (j4 13 (by decide) (by decide) (by decide) (by decide)), ?_, ?_, ?_, ?_, ?_⟩
        · rw [j4 71 (by decide) (by decide) (by decide) (by decide), n4 99 (by decide)]; exact q1.vt
        · rw [j4 13 (by decide) (by decide) (by decide) (by decide), g4 18 (by decide), n4 92 (by decide)]
          exact fun p p0 p1 => (q1.st.2 p p0 p1).1
        · rw [g4 1 (by decide), j4 61 (by decide) (by decide) (by decide) (by decide), q2.c1, q2.mJ 61 (by decide), y5 1 (by decide) (by decide) (by decide) (by decide) (by decide), x8, z61]
        · rw [q4, q5, rUp_in, if_neg (by decide), rUp_at, rUp_in, if_neg (by decide), rUp_at]
          exact q1.stp
        · rw [q4, q5, rUp_in, if_neg (by decide), rUp_in, if_neg (by decide), rUp_at, rUp_at]
      · refine yS_re hS3 ⟨(g4 9 (by decide)).trans q2.s.1, (g4 10 (by decide)).trans q2.s.2.1, (g4 43 (by decide)).trans q2.s.2.2.1, (g4 44 (by decide)).trans q2.s.2.2.2.1, (g4 46 (by decide)).trans q2.s.2.2.2.2⟩ ((g4 40 (by decide)).trans q2.c40) (fun K z => (g4 K (by omega)).trans (q2.cF K (by omega))) (fun j _ => by rw [g4 1 (by decide), q2.c1]) ⟨fun K a b => (n4 K (by omega)).trans (q2.m9.1 K a b), (j4 13 (by decide) (by decide) (by decide) (by decide)).trans q2.m9.2⟩ (fun j z => (j4 j (by omega) (by omega) (by omega) (by omega)).trans (q2.mJ j (by omega)))
    · exact Or.inr (Or.inr (Or.inl ⟨eo, ev_q, b0, b59⟩))
    · exact Or.inr (Or.inr (Or.inr ⟨eo, ev_q, b0, b59⟩))
  · -- there are none
    have e265 : fn265 [] c = (3, 0, c2) := by
      unfold fn265 dn265
      simp only [zLet, hc1, x1]
      rw [if_neg (show ¬ (1 : Int) ≤ 0 by decide)]
      rfl
    have e78 : fn78 [] m = (0, 0, rUp (rUp m2 15 0 59 0) 15 0 0 1) := by
      unfold fn78
      rw [dn78_no (by rw [hm1]; exact x2)]
      rfl
    exact ⟨3, 0, 0, c2, _, e265, e78, Or.inr (Or.inl ⟨rfl, rfl, rUp_at, by rw [rUp_in, if_neg (by decide), rUp_at]⟩)⟩
