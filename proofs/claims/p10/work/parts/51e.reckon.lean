/-! ===== a RULE with # is reckoned, by both ===== -/
variable {N : Int}
theorem fill_lp {E : Nat × List Int × rHp → zSt} {G : Nat} {N v : Int} (st : ∀ (k : Int) (g : rHp), E (0, [v, k], g) = if k ≥ N then .inr (0, 0, g) else .inl (0, [v, k + 1], rUp g G 0 k v)) : ∀ (f : Nat) (k : Int) (g : rHp), (N - k).toNat ≤ f → 0 ≤ k → k ≤ N → (∀ x, 0 ≤ x → x < k → g G 0 x = v) → ∃ g_q, zLoop E (0, [v, k], g) = (0, 0, g_q) ∧ (∀ K, K ≠ G → g_q K = g K) ∧ ∀ x, 0 ≤ x → x < N → g_q G 0 x = v := by
  intro f
  induction f with
  | zero =>
    intro k g hf k0 k1 hx
    exact ⟨g, zLoop_inr ((st k g).trans (if_pos (by omega))), fun _ _ => rfl, fun x x0 x1 => hx x x0 (by omega)⟩
  | succ f ih =>
    intro k g hf k0 k1 hx
    by_cases b : k ≥ N
    · exact ⟨g, zLoop_inr ((st k g).trans (if_pos b)), fun _ _ => rfl, fun x x0 x1 => hx x x0 (by omega)⟩
    · obtain ⟨g_q, e1, e2, e3⟩ := ih (k + 1) (rUp g G 0 k v) (by omega) (by omega) (by omega) (fun x x0 x1 => by
        rw [rUp_in]
        by_cases e : x = k
        · rw [if_pos e]
        · rw [if_neg e]; exact hx x x0 (by omega))
      exact ⟨g_q, (zLoop_inl ((st k g).trans (if_neg b))).trans e1, fun K hK => by rw [e2 K hK, rUp_grp hK], e3⟩
theorem fn98_eq {g : rHp} : ∃ g_q, fn98 [-1] g = (0, 0, g_q) ∧ (∀ K, K ≠ 56 → g_q K = g K) ∧ ∀ x, 0 ≤ x → x < 512 → g_q 56 0 x = -1 := by
  have st : ∀ (k : Int) (h : rHp), en98 g (0, [-1, k], h) = if k ≥ 512 then .inr (0, 0, h) else .inl (0, [-1, k + 1], rUp h 56 0 k (-1)) := by
    intro k h
    unfold en98
    simp only [zLet, List.getD_cons_zero, List.getD_cons_succ, ↓reduceIte]
  exact fill_lp st _ 0 g (Nat.le_refl _) (by decide) (by decide) (fun x x0 x1 => by omega)
theorem fn213_eq {c : rHp} : ∃ c_q, fn213 [] c = (0, 0, c_q) ∧ c_q 5 0 3 = 0 ∧ (∀ K, K ≠ 5 → K ≠ 56 → c_q K = c K) ∧ ∀ x, 0 ≤ x → x < 512 → c_q 56 0 x = -1 := by
  obtain ⟨g_q, e1, e2, e3⟩ := fn98_eq (g := rUp c 5 0 3 0)
  refine ⟨g_q, ?_, by rw [e2 5 (by decide), rUp_at], fun K a b => by rw [e2 K b, rUp_grp a], e3⟩
  unfold fn213 fn198
  simp only [zLet, e1]
/-- the RULE R of the first side is the reference's r -/
noncomputable def gRu (N : Int) (r R : Int) (c m : rHp) : Prop := ∃ kb : Int → Int, (∀ c_q : rHp, c_q 9 = c 9 → c_q 10 = c 10 → c_q 43 = c 43 → c_q 44 = c 44 → c_q 46 = c 46 → c_q 6 0 7 = R → (wS N) r R (m 73 0 r) kb c_q m) ∧ (∀ v, qVr v → qBt (kb 0) v ≠ 1) ∧ (gHd N) r R (kb (m 73 0 r)) c m ∧ c 10 (9 * R) 12 = m 71 0 r ∧ (m 71 0 r ≠ 0 → gTl r R (kb (m 73 0 r)) c m)
theorem gRu_re {r R : Int} {c m c_q m_q : rHp} (h : (gRu N) r R c m) (hc : s5 c c_q) (hm : s9 m m_q) : (gRu N) r R c_q m_q := by
  obtain ⟨kb, h1, h2, h3, h4, h5⟩ := h
  have e73 := hm.1 73 (by decide) (by decide)
  have e71 := hm.1 71 (by decide) (by decide)
  refine ⟨kb, fun c2 a1 a2 a3 a4 a5 a6 => ?_, h2, ?_, ?_, fun z => ?_⟩
  · rw [e73]
    exact wS_re (h1 c2 (a1.trans hc.1) (a2.trans hc.2.1) (a3.trans hc.2.2.1) (a4.trans hc.2.2.2.1) (a5.trans hc.2.2.2.2) a6) ⟨rfl, rfl, rfl, rfl, rfl⟩ a6 hm
  · rw [e73]; exact gHd_re h3 hc hm
  · rw [hc.2.1, e71]; exact h4
  · rw [e71] at z
    rw [e73]
    exact gTl_re (h5 z) hc hm
/-- between RULES: what both hold -/
noncomputable def yR (N : Int) (c m : rHp) : Prop := (tT c m) ∧ (tX c m) ∧ (∀ t k, 0 ≤ t → t < m 15 0 71 → 0 ≤ k → k < 4 → (vOk N) (m 99 0 (k + 4 * t))) ∧ ((lSt N) c m) ∧ (c 1 0 10 = m 15 0 32 ∧ 0 ≤ m 15 0 32) ∧ (∀ r, 0 ≤ r → r < m 15 0 32 → (gRu N) r (c 40 0 r) c m) ∧ (m 15 0 77 = 0) ∧ (c 6 0 0 = m 15 0 72) ∧ (0 ≤ m 15 0 72 ∧ m 15 0 72 ≤ 50000)
theorem yR.tt {c m : rHp} (h : (yR N) c m) : tT c m := h.1
theorem yR.tx {c m : rHp} (h : (yR N) c m) : tX c m := h.2.1
theorem yR.vt {c m : rHp} (h : (yR N) c m) : ∀ t k, 0 ≤ t → t < m 15 0 71 → 0 ≤ k → k < 4 → (vOk N) (m 99 0 (k + 4 * t)) := h.2.2.1
theorem yR.st {c m : rHp} (h : (yR N) c m) : (lSt N) c m := h.2.2.2.1
theorem yR.rn {c m : rHp} (h : (yR N) c m) : c 1 0 10 = m 15 0 32 ∧ 0 ≤ m 15 0 32 := h.2.2.2.2.1
theorem yR.ru {c m : rHp} (h : (yR N) c m) : ∀ r, 0 ≤ r → r < m 15 0 32 → (gRu N) r (c 40 0 r) c m := h.2.2.2.2.2.1
theorem yR.bad {c m : rHp} (h : (yR N) c m) : m 15 0 77 = 0 := h.2.2.2.2.2.2.1
theorem yR.stp {c m : rHp} (h : (yR N) c m) : c 6 0 0 = m 15 0 72 := h.2.2.2.2.2.2.2.1
theorem yR.st0 {c m : rHp} (h : (yR N) c m) : 0 ≤ m 15 0 72 ∧ m 15 0 72 ≤ 50000 := h.2.2.2.2.2.2.2.2
/-- what stands between RULES, whatever came -/
noncomputable def yK (c m c_q m_q : rHp) : Prop := (tG c c_q) ∧ (s5 c c_q) ∧ (c_q 1 = c 1) ∧ (c_q 40 = c 40) ∧ (∀ K : Nat, K = 18 ∨ K = 19 ∨ K = 20 → c_q K = c K) ∧ (c_q 6 0 12 = c 6 0 12) ∧ (s9 m m_q ∧ m_q 92 = m 92) ∧ (∀ j, j = 17 ∨ j = 32 ∨ j = 61 ∨ j = 73 ∨ j = 76 ∨ j = 82 ∨ j = 83 → m_q 15 0 j = m 15 0 j)
theorem yK.gr {c m c_q m_q : rHp} (h : yK c m c_q m_q) : tG c c_q := h.1
theorem yK.s {c m c_q m_q : rHp} (h : yK c m c_q m_q) : s5 c c_q := h.2.1
theorem yK.c1 {c m c_q m_q : rHp} (h : yK c m c_q m_q) : c_q 1 = c 1 := h.2.2.1
theorem yK.c40 {c m c_q m_q : rHp} (h : yK c m c_q m_q) : c_q 40 = c 40 := h.2.2.2.1
theorem yK.cF {c m c_q m_q : rHp} (h : yK c m c_q m_q) : ∀ K : Nat, K = 18 ∨ K = 19 ∨ K = 20 → c_q K = c K := h.2.2.2.2.1
theorem yK.c12 {c m c_q m_q : rHp} (h : yK c m c_q m_q) : c_q 6 0 12 = c 6 0 12 := h.2.2.2.2.2.1
theorem yK.m9 {c m c_q m_q : rHp} (h : yK c m c_q m_q) : s9 m m_q := h.2.2.2.2.2.2.1.1
theorem yK.m92 {c m c_q m_q : rHp} (h : yK c m c_q m_q) : m_q 92 = m 92 := h.2.2.2.2.2.2.1.2
theorem yK.mJ {c m c_q m_q : rHp} (h : yK c m c_q m_q) : ∀ j, j = 17 ∨ j = 32 ∨ j = 61 ∨ j = 73 ∨ j = 76 ∨ j = 82 ∨ j = 83 → m_q 15 0 j = m 15 0 j := h.2.2.2.2.2.2.2
theorem yK_rfl {c m : rHp} : yK c m c m := ⟨eC_tG eC_rfl, ⟨rfl, rfl, rfl, rfl, rfl⟩, rfl, rfl, fun _ _ => rfl, rfl, ⟨⟨fun _ _ _ => rfl, rfl⟩, rfl⟩, fun _ _ => rfl⟩
theorem yK_tr {c m c1 m1 c2 m2 : rHp} (h : yK c m c1 m1) (h2 : yK c1 m1 c2 m2) : yK c m c2 m2 :=
  ⟨tG_tr h.gr h2.gr, ⟨h2.s.1.trans h.s.1, h2.s.2.1.trans h.s.2.1, h2.s.2.2.1.trans h.s.2.2.1, h2.s.2.2.2.1.trans h.s.2.2.2.1, h2.s.2.2.2.2.trans h.s.2.2.2.2⟩, h2.c1.trans h.c1, h2.c40.trans h.c40, fun K z => (h2.cF K z).trans (h.cF K z), h2.c12.trans h.c12, ⟨⟨fun K a b => (h2.m9.1 K a b).trans (h.m9.1 K a b), h2.m9.2.trans h.m9.2⟩, h2.m92.trans h.m92⟩, fun j z => (h2.mJ j z).trans (h.mJ j z)⟩
theorem yR_re {c m c_q m_q : rHp} (h : (yR N) c m) (k : yK c m c_q m_q) (tt : tT c_q m_q) (tx : tX c_q m_q) (vt : ∀ t k, 0 ≤ t → t < m_q 15 0 71 → 0 ≤ k → k < 4 → (vOk N) (m_q 99 0 (k + 4 * t))) (bad : m_q 15 0 77 = 0) (stp : c_q 6 0 0 = m_q 15 0 72) (st0 : 0 ≤ m_q 15 0 72 ∧ m_q 15 0 72 ≤ 50000) : (yR N) c_q m_q := by
  refine ⟨tt, tx, vt, lSt_fr h.st k.cF (by rw [k.c1]) (fun K z => by
    rcases z with z | z | z | z
    · exact k.m9.1 K (by omega) (by omega)
    · exact k.m9.1 K (by omega) (by omega)
    · exact k.m9.1 K (by omega) (by omega)
    · rw [z]; exact k.m92) (k.mJ 17 (by decide)) k.m9.2, ?_, fun r r0 r1 => ?_, bad, stp, st0⟩
  · rw [k.c1, k.mJ 32 (by decide)]; exact h.rn
  · rw [k.mJ 32 (by decide)] at r1
    rw [k.c40]
    exact gRu_re (h.ru r r0 r1) k.s k.m9
/-- the RULES, FACTS and LAYERS stand -/
noncomputable def yQ (c m c_q m_q : rHp) : Prop := (s5 c c_q) ∧ (c_q 1 = c 1) ∧ (c_q 40 = c 40) ∧ (∀ K : Nat, K = 18 ∨ K = 19 ∨ K = 20 → c_q K = c K) ∧ (s9 m m_q ∧ m_q 92 = m 92) ∧ (∀ j, j = 17 ∨ j = 32 ∨ j = 61 → m_q 15 0 j = m 15 0 j)
theorem yQ.s {c m c_q m_q : rHp} (h : yQ c m c_q m_q) : s5 c c_q := h.1
theorem yQ.c1 {c m c_q m_q : rHp} (h : yQ c m c_q m_q) : c_q 1 = c 1 := h.2.1
theorem yQ.c40 {c m c_q m_q : rHp} (h : yQ c m c_q m_q) : c_q 40 = c 40 := h.2.2.1
theorem yQ.cF {c m c_q m_q : rHp} (h : yQ c m c_q m_q) : ∀ K : Nat, K = 18 ∨ K = 19 ∨ K = 20 → c_q K = c K := h.2.2.2.1
theorem yQ.m9 {c m c_q m_q : rHp} (h : yQ c m c_q m_q) : s9 m m_q := h.2.2.2.2.1.1
theorem yQ.m92 {c m c_q m_q : rHp} (h : yQ c m c_q m_q) : m_q 92 = m 92 := h.2.2.2.2.1.2
theorem yQ.mJ {c m c_q m_q : rHp} (h : yQ c m c_q m_q) : ∀ j, j = 17 ∨ j = 32 ∨ j = 61 → m_q 15 0 j = m 15 0 j := h.2.2.2.2.2
theorem yK_Q {c m c_q m_q : rHp} (h : yK c m c_q m_q) : yQ c m c_q m_q := ⟨h.s, h.c1, h.c40, h.cF, ⟨h.m9, h.m92⟩, fun j z => h.mJ j (by omega)⟩
theorem yQ_tr {c m c1 m1 c2 m2 : rHp} (h : yQ c m c1 m1) (h2 : yQ c1 m1 c2 m2) : yQ c m c2 m2 :=
  ⟨⟨h2.s.1.trans h.s.1, h2.s.2.1.trans h.s.2.1, h2.s.2.2.1.trans h.s.2.2.1, h2.s.2.2.2.1.trans h.s.2.2.2.1, h2.s.2.2.2.2.trans h.s.2.2.2.2⟩, h2.c1.trans h.c1, h2.c40.trans h.c40, fun K z => (h2.cF K z).trans (h.cF K z), ⟨⟨fun K a b => (h2.m9.1 K a b).trans (h.m9.1 K a b), h2.m9.2.trans h.m9.2⟩, h2.m92.trans h.m92⟩, fun j z => (h2.mJ j z).trans (h.mJ j z)⟩
/-- a RULE'S HEADS come in a ROUND, by both -/
theorem rule_d {c m : rHp} {r rd : Int} (h : (yR N) c m) (r0 : 0 ≤ r) (r1 : r < m 15 0 32) (hh : m 71 0 r = 0) (lim : c 6 0 11 = m 15 0 81 ∧ 0 ≤ m 15 0 81 ∧ m 15 0 81 ≤ m 15 0 71) (hrd : rd = m 15 0 76) (ask : (m 15 0 84 ≠ 0 ↔ 1 < rd) ∧ (1 < rd → c 6 0 12 = m 15 0 82 ∧ m 15 0 83 = m 15 0 81 ∧ 0 ≤ c 6 0 12)) :
    ∃ o c_q m_q, fn261 [] (fn238 [rd, c 40 0 r, r] c).2.2 = (o, 0, c_q) ∧ fn72 [r] m = (0, 0, m_q) ∧ ((o = 0 ∧ (yR N) c_q m_q ∧ yK c m c_q m_q ∧ c_q 6 0 11 = c 6 0 11 ∧ m_q 15 0 81 = m 15 0 81 ∧ m_q 15 0 84 = m 15 0 84) ∨ (o = 1 ∧ m_q 15 0 77 = 3) ∨ (o = 4 ∧ m_q 15 0 77 = 2)) := by
  obtain ⟨kb, h1, h2, h3, h4, h5⟩ := h.ru r r0 r1
  obtain ⟨c1, hc1⟩ : ∃ x, (fn238 [rd, c 40 0 r, r] c).2.2 = x := ⟨_, rfl⟩
  have e1 : c1 = rUp (rUp (rUp (rUp (rUp c 6 0 9 0) 6 0 10 rd) 6 0 7 (c 40 0 r)) 6 0 8 r) 6 0 13 0 := hc1.symm
  have cg : ∀ K : Nat, K ≠ 6 → c1 K = c K := fun K hK => by rw [e1, rUp_grp hK, rUp_grp hK, rUp_grp hK, rUp_grp hK, rUp_grp hK]
  have c6 : ∀ j, c1 6 0 j = if j = 13 then 0 else if j = 8 then r else if j = 7 then c 40 0 r else if j = 10 then rd else if j = 9 then 0 else c 6 0 j := fun j => by rw [e1, rUp_in, rUp_in, rUp_in, rUp_in, rUp_in]
  have d7 : c1 6 0 7 = c 40 0 r := by rw [c6, if_neg (by decide), if_neg (by decide), if_pos rfl]
  have d8 : c1 6 0 8 = r := by rw [c6, if_neg (by decide), if_pos rfl]
  have d9 : c1 6 0 9 = 0 := by rw [c6, if_neg (by decide), if_neg (by decide), if_neg (by decide), if_neg (by decide), if_pos rfl]
  have d10 : c1 6 0 10 = rd := by rw [c6, if_neg (by decide), if_neg (by decide), if_neg (by decide), if_pos rfl]
  have d13 : c1 6 0 13 = 0 := by rw [c6, if_pos rfl]
  have d11 : c1 6 0 11 = c 6 0 11 := by rw [c6, if_neg (by decide), if_neg (by decide), if_neg (by decide), if_neg (by decide), if_neg (by decide)]
  have d12 : c1 6 0 12 = c 6 0 12 := by rw [c6, if_neg (by decide), if_neg (by decide), if_neg (by decide), if_neg (by decide), if_neg (by decide)]
  have d0 : c1 6 0 0 = c 6 0 0 := by rw [c6, if_neg (by decide), if_neg (by decide), if_neg (by decide), if_neg (by decide), if_neg (by decide)]
  have s5c : s5 c c1 := ⟨cg 9 (by decide), cg 10 (by decide), cg 43 (by decide), cg 44 (by decide), cg 46 (by decide)⟩
  have s9m : s9 m m := ⟨fun _ _ _ => rfl, rfl⟩
  have hT1 : tT c1 m := tT_fr h.tt (fun K z => cg K (by omega)) (fun _ _ => rfl) rfl rfl
  have hX1 : tX c1 m := tX_fr h.tx (fun K z => cg K (by omega)) (fun _ _ => rfl) rfl rfl
  have hR : (wR N) (j72 m) ((qD N) r (c 40 0 r) (kb (m 73 0 r))) r (c 40 0 r) (m 73 0 r) kb 0 c1 m := by
    refine ⟨⟨rfl, rfl, rfl⟩, ⟨hX1, gHd_re h3 s5c s9m, d9, by rw [d10, hrd], d8, r0, hh⟩, hT1, h.vt, h1 c1 s5c.1 s5c.2.1 s5c.2.2.1 s5c.2.2.2.1 s5c.2.2.2.2 d7, h.bad, by rw [d0]; exact h.stp, h.st0, by rw [d11]; exact lim, fun v v0 v1 => absurd v1 (h2 v v0), fun x x0 x1 => by omega, by rw [d13]; rfl, by rw [d10, d12]; exact ask⟩
  obtain ⟨o, c_q, m_q, z1, z2, z3⟩ := ways_d hR
  refine ⟨o, c_q, m_q, by rw [hc1]; exact z1, z2, ?_⟩
  rcases z3 with ⟨eo, hP⟩ | z3
  · refine Or.inl ⟨eo, ?_⟩
    have k : yK c m c_q m_q := by
      refine ⟨tG_tr ⟨by rw [cg 4 (by decide)]; exact Int.le_refl _, fun _ _ _ => ⟨by rw [cg 28 (by decide)], fun _ _ _ => by rw [cg 27 (by decide)]⟩⟩ hP.gr, ?_, ?_, ?_, fun K z => (hP.sk.1 K (by omega)).trans (cg K (by omega)), ?_, ⟨sM_9 hP.sm, hP.sm.1 92 (by decide) (by decide)⟩, fun j z => ?_⟩
      · have q := sC_5 hP.sc
        exact ⟨q.1.trans s5c.1, q.2.1.trans s5c.2.1, q.2.2.1.trans s5c.2.2.1, q.2.2.2.1.trans s5c.2.2.2.1, q.2.2.2.2.trans s5c.2.2.2.2⟩
      · exact (hP.sk.1 1 (by decide)).trans (cg 1 (by decide))
      · exact (hP.sk.1 40 (by decide)).trans (cg 40 (by decide))
      · exact (hP.sc.2.2.2.2.2 12 (by decide) (by decide)).trans d12
      · rcases z with z | z | z | z | z | z | z
        · exact hP.sk.2 j (by omega)
        · exact hP.sk.2 j (by omega)
        · exact hP.sk.2 j (by omega)
        · exact hP.sk.2 j (by omega)
        · rw [z]; exact hP.sm.2.2.1
        · exact hP.sm.2.2.2 j (by omega) (by omega)
        · exact hP.sm.2.2.2 j (by omega) (by omega)
    exact ⟨yR_re h k hP.rel.tt hP.rel.qq.1 hP.rel.vt hP.rel.bad hP.rel.stp hP.rel.st0, k, (hP.sc.2.2.2.2.2 11 (by decide) (by decide)).trans d11, hP.sm.2.2.2 81 (by decide) (by decide), hP.sm.2.2.2 84 (by decide) (by decide)⟩
  · exact Or.inr z3
