/-! ===== RULES with # of a LAYER, by both ===== -/
noncomputable def tPp (R r : Int) (c3 : rHp) : zR := if (fn261 [] c3).1 = 0 then (if (fn237 [9 * R, r] (fn261 [] c3).2.2).1 = 0 then (0, 0, (fn237 [9 * R, r] (fn261 [] c3).2.2).2.2) else (1, 0, (fn237 [9 * R, r] (fn261 [] c3).2.2).2.2)) else if (fn261 [] c3).1 = 1 then (1, 0, (fn261 [] c3).2.2) else (4, 0, (fn261 [] c3).2.2)
theorem reckon_two {c m : rHp} {r : Int} (h : yR c m) (r0 : 0 ≤ r) (r1 : r < m 15 0 32) (hh : m 71 0 r ≠ 0) (h76 : m 15 0 76 = 0) :
    ∃ o c_q m_q, tPp (c 40 0 r) r (fn213 [] (rUp (fn239 [0, c 40 0 r, r] c).2.2 6 0 11 (c 4 0 7))).2.2 = (o, 0, c_q) ∧ fn75 [r] m = (0, 0, m_q) ∧ ((o = 0 ∧ yR c_q m_q ∧ yK c m c_q m_q) ∨ (o = 1 ∧ m_q 15 0 77 = 3) ∨ (o = 4 ∧ m_q 15 0 77 = 2)) := by
  obtain ⟨kb, h1, h2, h3, h4, h5⟩ := h.ru r r0 r1
  have h5 := h5 hh
  have e7 := h.tt.1
  have n71 := h.tt.2.2.1.1
  obtain ⟨c2, hc2⟩ : ∃ x, rUp (fn239 [0, c 40 0 r, r] c).2.2 6 0 11 (c 4 0 7) = x := ⟨_, rfl⟩
  have e2 : c2 = rUp (rUp (rUp (rUp (rUp (rUp c 6 0 9 1) 6 0 10 0) 6 0 7 (c 40 0 r)) 6 0 8 r) 6 0 13 0) 6 0 11 (c 4 0 7) := hc2.symm
  obtain ⟨c3, x1, x2, x3, x4⟩ := fn213_eq (c := c2)
  rw [hc2, x1]
  have cg : ∀ K : Nat, K ≠ 5 → K ≠ 6 → K ≠ 56 → c3 K = c K := fun K a b d => by rw [x3 K a d, e2, rUp_grp b, rUp_grp b, rUp_grp b, rUp_grp b, rUp_grp b, rUp_grp b]
  have c6 : ∀ j, c3 6 0 j = if j = 11 then c 4 0 7 else if j = 13 then 0 else if j = 8 then r else if j = 7 then c 40 0 r else if j = 10 then 0 else if j = 9 then 1 else c 6 0 j := fun j => by rw [x3 6 (by decide) (by decide), e2, rUp_in, rUp_in, rUp_in, rUp_in, rUp_in, rUp_in]
  have d7 : c3 6 0 7 = c 40 0 r := by rw [c6, if_neg (by decide), if_neg (by decide), if_neg (by decide), if_pos rfl]
  have d9 : c3 6 0 9 = 1 := by rw [c6, if_neg (by decide), if_neg (by decide), if_neg (by decide), if_neg (by decide), if_neg (by decide), if_pos rfl]
  have d10 : c3 6 0 10 = 0 := by rw [c6, if_neg (by decide), if_neg (by decide), if_neg (by decide), if_neg (by decide), if_pos rfl]
  have d13 : c3 6 0 13 = 0 := by rw [c6, if_neg (by decide), if_pos rfl]
  have d11 : c3 6 0 11 = c 4 0 7 := by rw [c6, if_pos rfl]
  have d12 : c3 6 0 12 = c 6 0 12 := by rw [c6, if_neg (by decide), if_neg (by decide), if_neg (by decide), if_neg (by decide), if_neg (by decide), if_neg (by decide)]
  have d0 : c3 6 0 0 = c 6 0 0 := by rw [c6, if_neg (by decide), if_neg (by decide), if_neg (by decide), if_neg (by decide), if_neg (by decide), if_neg (by decide)]
  obtain ⟨m3, hm3⟩ : ∃ x, rUp (rUp (rUp m 15 0 90 0) 15 0 81 (m 15 0 71)) 15 0 84 0 = x := ⟨_, rfl⟩
  have mg : ∀ K : Nat, K ≠ 15 → m3 K = m K := fun K hK => by rw [← hm3, rUp_grp hK, rUp_grp hK, rUp_grp hK]
  have m15 : ∀ j, m3 15 0 j = if j = 84 then 0 else if j = 81 then m 15 0 71 else if j = 90 then 0 else m 15 0 j := fun j => by rw [← hm3, rUp_in, rUp_in, rUp_in]
  have u : ∀ j, j ≠ 84 → j ≠ 81 → j ≠ 90 → m3 15 0 j = m 15 0 j := fun j a b d => by rw [m15, if_neg a, if_neg b, if_neg d]
  have f75 : fn75 [r] m = zLoop (en75 m) (0, [r, 0], (fn73 [r] m3).2.2) := by
    rw [← hm3]
    rfl
  have s5c : s5 c c3 := ⟨cg 9 (by decide) (by decide) (by decide), cg 10 (by decide) (by decide) (by decide), cg 43 (by decide) (by decide) (by decide), cg 44 (by decide) (by decide) (by decide), cg 46 (by decide) (by decide) (by decide)⟩
  have s9m : s9 m m3 := ⟨fun K a b => mg K (by omega), u 13 (by decide) (by decide) (by decide)⟩
  have hT3 : tT c3 m3 := tT_fr h.tt (fun K z => cg K (by omega) (by omega) (by omega)) (fun K z => mg K (by omega)) (u 71 (by decide) (by decide) (by decide)) s9m.2
  have hX3 : tX c3 m3 := tX_fr h.tx (fun K z => cg K (by omega) (by omega) (by omega)) (fun K z => mg K (by omega)) (u 71 (by decide) (by decide) (by decide)) s9m.2
  have hvt : ∀ t k, 0 ≤ t → t < m3 15 0 71 → 0 ≤ k → k < 4 → vOk (m3 99 0 (k + 4 * t)) := by
    rw [u 71 (by decide) (by decide) (by decide), mg 99 (by decide)]
    exact h.vt
  have k73 : m3 73 = m 73 := mg 73 (by decide)
  have hr3 : rR (m3 71 0 r) (m3 69 0 r) c3 m3 := by
    have e90 : m3 15 0 90 = 0 := by rw [m15, if_neg (by decide), if_neg (by decide), if_pos rfl]
    refine ⟨by rw [x2, e90], by rw [e90]; exact ⟨Int.le_refl 0, by decide⟩, ?_, fun i i0 i1 => by rw [e90] at i1; omega⟩
    rw [e90]
    exact cH_nil (fun x hx => x4 x hx.1 (by have := hx.2; omega))
  have hR : wR (j73 m3) (qTw r (c 40 0 r) (kb (m3 73 0 r))) r (c 40 0 r) (m3 73 0 r) kb 0 c3 m3 := by
    refine ⟨⟨⟨rfl, rfl, rfl⟩, rfl, rfl⟩, ⟨hX3, ?_, ?_, hr3, d9⟩, hT3, hvt, ?_, ?_, ?_, ?_, ?_, fun v v0 v1 => absurd v1 (h2 v v0), fun x x0 x1 => by omega, by rw [d13]; rfl, ?_⟩
    · rw [k73]; exact gHd_re h3 s5c s9m
    · rw [k73]; exact gTl_re h5 s5c s9m
    · rw [k73]
      exact wS_re (h1 c3 s5c.1 s5c.2.1 s5c.2.2.1 s5c.2.2.2.1 s5c.2.2.2.2 d7) ⟨rfl, rfl, rfl, rfl, rfl⟩ d7 s9m
    · rw [u 77 (by decide) (by decide) (by decide)]; exact h.bad
    · rw [d0, u 72 (by decide) (by decide) (by decide)]; exact h.stp
    · rw [u 72 (by decide) (by decide) (by decide)]; exact h.st0
    · rw [d11, u 71 (by decide) (by decide) (by decide), m15, if_neg (by decide), if_pos rfl]
      exact ⟨e7, n71.1, Int.le_refl _⟩
    · rw [d10, m15, if_pos rfl]
      exact ⟨⟨fun z => absurd rfl z, fun z => by omega⟩, fun z => by omega⟩
  obtain ⟨o, c4, m4, z1, z2, z3⟩ := ways_t hR
  rw [z2] at f75
  have f75 : fn75 [r] m = zLoop (en75 m) (0, [r, 0], m4) := f75
  unfold tPp
  rw [z1]
  rcases z3 with ⟨eo, hP⟩ | ⟨eo, hb⟩ | ⟨eo, hb⟩
  · obtain ⟨y1, y2, y3, y4, y5⟩ := hP.rel.qq
    have a71 : m 71 = m4 71 := (mg 71 (by decide)).symm.trans (hP.sm.1 71 (by decide) (by decide)).symm
    have a69 : m 69 = m4 69 := (mg 69 (by decide)).symm.trans (hP.sm.1 69 (by decide) (by decide)).symm
    have a66 : m 66 = m4 66 := (mg 66 (by decide)).symm.trans (hP.sm.1 66 (by decide) (by decide)).symm
    have a70 : m 70 = m4 70 := (mg 70 (by decide)).symm.trans (hP.sm.1 70 (by decide) (by decide)).symm
    have r76 : m4 15 0 76 = 0 := by rw [hP.sm.2.2.1, u 76 (by decide) (by decide) (by decide)]; exact h76
    obtain ⟨o2, c5, m5, w1, w2, w3⟩ := rows_lp (mA := m) r0 y2 y3 y4 a66 a69 a70 a71 _ 0 c4 m4 (Nat.le_refl _) (Int.le_refl 0) y4.2.1.1 (bP_rfl hP.rel.tt y1 hP.rel.vt) hP.rel.bad r76
    have e237 : fn237 [9 * c 40 0 r, r] c4 = (o2, 0, c5) := w1
    rw [eo]
    show ∃ o c_q m_q, (if (0 : Nat) = 0 then (if (fn237 [9 * c 40 0 r, r] c4).1 = 0 then (0, 0, (fn237 [9 * c 40 0 r, r] c4).2.2) else (1, 0, (fn237 [9 * c 40 0 r, r] c4).2.2)) else _) = (o, 0, c_q) ∧ _
    rw [if_pos rfl, e237]
    rcases w3 with ⟨eo2, hb2, hP2⟩ | ⟨eo2, hb2⟩
    · rw [eo2]
      refine ⟨0, c5, m5, if_pos rfl, f75.trans w2, Or.inl ⟨rfl, ?_⟩⟩
      have k : yK c m c5 m5 := by
        refine ⟨tG_tr ⟨by rw [cg 4 (by decide) (by decide) (by decide)]; exact Int.le_refl _, fun _ _ _ => ⟨by rw [cg 28 (by decide) (by decide) (by decide)], fun _ _ _ => by rw [cg 27 (by decide) (by decide) (by decide)]⟩⟩ (tG_tr hP.gr hP2.gr), ?_, ?_, ?_, fun K z => ?_, ?_, ⟨⟨fun K a b => ?_, ?_⟩, ?_⟩, fun j z => ?_⟩
        · have q := sC_5 hP.sc
          exact ⟨(hP2.cK 9 (by decide) (by decide) (by decide)).trans (q.1.trans s5c.1), (hP2.cK 10 (by decide) (by decide) (by decide)).trans (q.2.1.trans s5c.2.1), (hP2.cK 43 (by decide) (by decide) (by decide)).trans (q.2.2.1.trans s5c.2.2.1), (hP2.cK 44 (by decide) (by decide) (by decide)).trans (q.2.2.2.1.trans s5c.2.2.2.1), (hP2.cK 46 (by decide) (by decide) (by decide)).trans (q.2.2.2.2.trans s5c.2.2.2.2)⟩
        · exact (hP2.cK 1 (by decide) (by decide) (by decide)).trans ((hP.sk.1 1 (by decide)).trans (cg 1 (by decide) (by decide) (by decide)))
        · exact (hP2.cK 40 (by decide) (by decide) (by decide)).trans ((hP.sk.1 40 (by decide)).trans (cg 40 (by decide) (by decide) (by decide)))
        · exact (hP2.cK K (by omega) (by omega) (by omega)).trans ((hP.sk.1 K (by omega)).trans (cg K (by omega) (by omega) (by omega)))
        · rw [hP2.cK 6 (by decide) (by decide) (by decide)]
          exact (hP.sc.2.2.2.2.2 12 (by decide) (by decide)).trans d12
        · exact (hP2.mK K (by omega) (by omega)).trans ((hP.sm.1 K a (by omega)).trans (mg K (by omega)))
        · exact (hP2.m15 13 (by decide)).trans (hP.sm.2.1.trans s9m.2)
        · exact (hP2.mK 92 (by decide) (by decide)).trans ((hP.sm.1 92 (by decide) (by decide)).trans (mg 92 (by decide)))
        · have q1 : m5 15 0 j = m4 15 0 j := hP2.m15 j (by omega)
          have q2 : m3 15 0 j = m 15 0 j := u j (by omega) (by omega) (by omega)
          rw [q1, ← q2]
          rcases z with z | z | z | z | z | z | z
          · exact hP.sk.2 j (by omega)
          · exact hP.sk.2 j (by omega)
          · exact hP.sk.2 j (by omega)
          · exact hP.sk.2 j (by omega)
          · rw [z]; exact hP.sm.2.2.1
          · exact hP.sm.2.2.2 j (by omega) (by omega)
          · exact hP.sm.2.2.2 j (by omega) (by omega)
      refine ⟨yR_re h k hP2.tt hP2.tx hP2.vt hb2 ?_ ?_, k⟩
      · rw [hP2.cK 6 (by decide) (by decide) (by decide), hP2.m15 72 (by decide)]
        exact hP.rel.stp
      · rw [hP2.m15 72 (by decide)]
        exact hP.rel.st0
    · rw [eo2]
      exact ⟨1, c5, m5, if_neg (show ¬ (1 : Nat) = 0 by decide), f75.trans w2, Or.inr (Or.inl ⟨rfl, hb2⟩)⟩
  · rw [eo]
    exact ⟨1, c4, m4, rfl, f75.trans (en75_end (Or.inr (by rw [hb]; decide))), Or.inr (Or.inl ⟨rfl, hb⟩)⟩
  · rw [eo]
    exact ⟨4, c4, m4, rfl, f75.trans (en75_end (Or.inr (by rw [hb]; decide))), Or.inr (Or.inr ⟨rfl, hb⟩)⟩
theorem fn234_eq {R l : Int} {c : rHp} : fn234 [R, l] c = (0, (if c 18 0 (c 10 (9 * R) 8) ≠ l then 0 else 1), c) := by
  unfold fn234
  simp only [zLet, List.getD_cons_zero, List.getD_cons_succ]
  split <;> rfl
theorem fn240_eq {a b d : Int} {c : rHp} : fn240 [a, b, d] c = fn239 [a, b, d] c := rfl
theorem en263_go {l r : Int} {c0 c : rHp} (h : r < c0 1 0 10) : en263 c0 (0, [l, r], c) = if c0 10 (9 * c0 40 0 r) 12 = 0 then .inl (0, [l, r + 1], c) else if c 18 0 (c 10 (9 * c0 40 0 r) 8) ≠ l then .inl (0, [l, r + 1], c) else (if (tPp (c0 40 0 r) r (fn213 [] (rUp (fn239 [0, c0 40 0 r, r] c).2.2 6 0 11 (c 4 0 7))).2.2).1 = 0 then .inl (0, [l, r + 1], (tPp (c0 40 0 r) r (fn213 [] (rUp (fn239 [0, c0 40 0 r, r] c).2.2 6 0 11 (c 4 0 7))).2.2).2.2) else .inr (tPp (c0 40 0 r) r (fn213 [] (rUp (fn239 [0, c0 40 0 r, r] c).2.2 6 0 11 (c 4 0 7))).2.2)) := by
  have core : ∀ c3 : rHp, (if (fn261 [] c3).1 = 0 then (if (fn237 [9 * c0 40 0 r, r] (fn261 [] c3).2.2).1 = 0 then (.inl (0, [l, r + 1], (fn237 [9 * c0 40 0 r, r] (fn261 [] c3).2.2).2.2) : zSt) else .inr (1, 0, (fn237 [9 * c0 40 0 r, r] (fn261 [] c3).2.2).2.2)) else if (fn261 [] c3).1 = 1 then .inr (1, 0, (fn261 [] c3).2.2) else .inr (4, 0, (fn261 [] c3).2.2)) = (if (tPp (c0 40 0 r) r c3).1 = 0 then .inl (0, [l, r + 1], (tPp (c0 40 0 r) r c3).2.2) else .inr (tPp (c0 40 0 r) r c3)) := by
    intro c3
    unfold tPp
    by_cases a : (fn261 [] c3).1 = 0
    · rw [if_pos a, if_pos a]
      by_cases b : (fn237 [9 * c0 40 0 r, r] (fn261 [] c3).2.2).1 = 0
      · rw [if_pos b, if_pos b]; rfl
      · rw [if_neg b, if_neg b]; rfl
    · rw [if_neg a, if_neg a]
      by_cases b : (fn261 [] c3).1 = 1
      · rw [if_pos b, if_pos b]; rfl
      · rw [if_neg b, if_neg b]; rfl
  have one : ∀ (v : Int) (A B : zSt), v = (if c 18 0 (c 10 (9 * c0 40 0 r) 8) ≠ l then 0 else 1) → (if 1 ≤ v then A else B) = if c 18 0 (c 10 (9 * c0 40 0 r) 8) ≠ l then B else A := by
    intro v A B hv
    by_cases d : c 18 0 (c 10 (9 * c0 40 0 r) 8) ≠ l
    · rw [if_pos d] at hv
      rw [if_pos d, if_neg (show ¬ 1 ≤ v by omega)]
    · rw [if_neg d] at hv
      rw [if_neg d, if_pos (show 1 ≤ v by omega)]
  unfold en263 fn131
  simp only [zLet, List.getD_cons_zero, List.getD_cons_succ, ↓reduceIte, fn234_eq, fn240_eq]
  rw [if_neg (show ¬ r ≥ c0 1 0 10 by omega), core, one _ _ _ rfl]
  by_cases a : c0 10 (9 * c0 40 0 r) 12 = 0
  · rw [if_pos (show 0 ≤ -c0 10 (9 * c0 40 0 r) 12 + 1 by omega), if_pos a]
  · rw [if_neg a]
    by_cases b : 0 ≤ -c0 10 (9 * c0 40 0 r) 12 + 1
    · rw [if_pos b]
    · rw [if_neg b]
theorem tallies_lp {l : Int} {c0 m0 cB mB : rHp} (hn : c0 1 0 10 = m0 15 0 32) (hQ0 : yQ c0 m0 cB mB) (h76 : mB 15 0 76 = 0) : ∀ (n : Nat) (r : Int) (c m : rHp), (m0 15 0 32 - r).toNat ≤ n → 0 ≤ r → r ≤ m0 15 0 32 → yR c m → yK cB mB c m →
    ∃ o c_q m_q, zLoop (en263 c0) (0, [l, r], c) = (o, 0, c_q) ∧ ((o = 0 ∧ zLoop (en76 m0) (1, [l, r], m) = zLoop (en76 m0) (2, [l], rUp (rUp m_q 15 0 82 0) 15 0 83 0) ∧ yR c_q m_q ∧ yK cB mB c_q m_q) ∨ (o = 1 ∧ zLoop (en76 m0) (1, [l, r], m) = (0, 0, m_q) ∧ m_q 15 0 77 = 3) ∨ (o = 4 ∧ zLoop (en76 m0) (1, [l, r], m) = (0, 0, m_q) ∧ m_q 15 0 77 = 2)) := by
  have stM : ∀ (r : Int) (g : rHp), en76 m0 (1, [l, r], g) = if r ≥ m0 15 0 32 then .inl (2, [l], rUp (rUp g 15 0 82 0) 15 0 83 0) else if g 15 0 77 ≠ 0 then .inl (2, [l], rUp (rUp g 15 0 82 0) 15 0 83 0) else if m0 71 0 r ≤ 0 then .inl (1, [l, r + 1], g) else if m0 92 0 (m0 69 0 r) ≠ l then .inl (1, [l, r + 1], g) else .inl (1, [l, r + 1], (fn75 [r] g).2.2) := by
    intro r g
    unfold en76
    simp only [zLet, List.getD_cons_zero, List.getD_cons_succ, ↓reduceIte, Nat.one_ne_zero]
  have stE : ∀ (g : rHp), g 15 0 77 ≠ 0 → zLoop (en76 m0) (2, [l], rUp (rUp g 15 0 82 0) 15 0 83 0) = (0, 0, rUp (rUp g 15 0 82 0) 15 0 83 0) := by
    intro g hg
    refine zLoop_inr ?_
    unfold en76
    simp only [zLet, List.getD_cons_zero, List.getD_cons_succ, ↓reduceIte, show ¬ (2 : Nat) = 0 by decide, show ¬ (2 : Nat) = 1 by decide, show ¬ (3 : Nat) = 0 by decide, show ¬ (3 : Nat) = 1 by decide, show ¬ (4 : Nat) = 0 by decide, show ¬ (4 : Nat) = 1 by decide]
    rw [if_pos (by rw [rUp_in, if_neg (by decide), rUp_in, if_neg (by decide)]; exact hg)]
  have stEnd : ∀ c, en263 c0 (0, [l, m0 15 0 32], c) = .inr (0, 0, c) := by
    intro c
    unfold en263
    simp only [zLet, List.getD_cons_zero, List.getD_cons_succ, ↓reduceIte]
    rw [if_pos (show m0 15 0 32 ≥ c0 1 0 10 by rw [hn]; exact Int.le_refl _)]
  intro n
  induction n with
  | zero =>
    intro r c m hf r0 r1 h hK
    have e : r = m0 15 0 32 := by omega
    subst e
    exact ⟨0, c, m, zLoop_inr (stEnd c), Or.inl ⟨rfl, zLoop_inl ((stM _ m).trans (if_pos (Int.le_refl _))), h, hK⟩⟩
  | succ n ih =>
    intro r c m hf r0 r1 h hK
    by_cases e : r = m0 15 0 32
    · subst e
      exact ⟨0, c, m, zLoop_inr (stEnd c), Or.inl ⟨rfl, zLoop_inl ((stM _ m).trans (if_pos (Int.le_refl _))), h, hK⟩⟩
    have Q := yQ_tr hQ0 (yK_Q hK)
    have rr : r < m 15 0 32 := by rw [Q.mJ 32 (by decide)]; omega
    obtain ⟨kb, g1, g2, g3, g4, g5⟩ := h.ru r r0 rr
    have sC := en263_go (l := l) (c0 := c0) (c := c) (show r < c0 1 0 10 by rw [hn]; omega)
    have sM := (stM r m).trans ((if_neg (show ¬ r ≥ m0 15 0 32 by omega)).trans (if_neg (fun z => z h.bad)))
    have e40 : c 40 = c0 40 := Q.c40
    have e10 : c 10 = c0 10 := Q.s.2.1
    have e71 : m 71 = m0 71 := Q.m9.1 71 (by decide) (by decide)
    have e69 : m 69 = m0 69 := Q.m9.1 69 (by decide) (by decide)
    have e92 : m 92 = m0 92 := Q.m92
    rw [e10, e40, e71] at g4
    have lay := (h.st.2 _ g3.2.1.1 g3.2.1.2).1
    have hd8 := g3.1
    rw [e40] at hd8
    rw [hd8, lay, e69, e92, g4] at sC
    have next : zLoop (en263 c0) (0, [l, r], c) = zLoop (en263 c0) (0, [l, r + 1], c) → zLoop (en76 m0) (1, [l, r], m) = zLoop (en76 m0) (1, [l, r + 1], m) → ∃ o c_q m_q, zLoop (en263 c0) (0, [l, r], c) = (o, 0, c_q) ∧ ((o = 0 ∧ zLoop (en76 m0) (1, [l, r], m) = zLoop (en76 m0) (2, [l], rUp (rUp m_q 15 0 82 0) 15 0 83 0) ∧ yR c_q m_q ∧ yK cB mB c_q m_q) ∨ (o = 1 ∧ zLoop (en76 m0) (1, [l, r], m) = (0, 0, m_q) ∧ m_q 15 0 77 = 3) ∨ (o = 4 ∧ zLoop (en76 m0) (1, [l, r], m) = (0, 0, m_q) ∧ m_q 15 0 77 = 2)) := fun a b => by
      rw [a, b]
      exact ih (r + 1) c m (by omega) (by omega) (by omega) h hK
    by_cases b : m0 71 0 r = 0
    · exact next (zLoop_inl (sC.trans (if_pos b))) (zLoop_inl (sM.trans (if_pos (by omega))))
    have sC := sC.trans (if_neg b)
    have tl := (g5 (by rw [e71]; exact b)).1
    rw [e71] at tl
    have sM := sM.trans (if_neg (show ¬ m0 71 0 r ≤ 0 by omega))
    by_cases d : m0 92 0 (m0 69 0 r) ≠ l
    · exact next (zLoop_inl (sC.trans (if_pos d))) (zLoop_inl (sM.trans (if_pos d)))
    have sC := sC.trans (if_neg d)
    have sM := sM.trans (if_neg d)
    obtain ⟨o, c_q, m_q, z1, z2, z3⟩ := reckon_two h r0 rr (by rw [e71]; exact b) (by rw [hK.mJ 76 (by decide)]; exact h76)
    rw [e40] at z1
    rw [z1] at sC
    rw [z2] at sM
    have sM : en76 m0 (1, [l, r], m) = .inl (1, [l, r + 1], m_q) := sM
    have fin : m_q 15 0 77 ≠ 0 → zLoop (en76 m0) (1, [l, r], m) = (0, 0, rUp (rUp m_q 15 0 82 0) 15 0 83 0) := fun hb => by
      rw [zLoop_inl sM]
      refine (zLoop_inl ?_).trans (stE m_q hb)
      rw [stM]
      by_cases q : r + 1 ≥ m0 15 0 32
      · exact if_pos q
      · exact (if_neg q).trans (if_pos hb)
    rcases z3 with ⟨eo, hR, hk⟩ | ⟨eo, hb⟩ | ⟨eo, hb⟩
    · rw [eo] at sC
      have sC : en263 c0 (0, [l, r], c) = .inl (0, [l, r + 1], c_q) := sC.trans (if_pos rfl)
      obtain ⟨o_q, c_q_q, m_q_q, w1, w2⟩ := ih (r + 1) c_q m_q (by omega) (by omega) (by omega) hR (yK_tr hK hk)
      exact ⟨o_q, c_q_q, m_q_q, (zLoop_inl sC).trans w1, by rw [zLoop_inl sM]; exact w2⟩
    · rw [eo] at sC
      have sC : en263 c0 (0, [l, r], c) = .inr (1, 0, c_q) := sC.trans (if_neg (show ¬ (1 : Nat) = 0 by decide))
      refine ⟨1, c_q, _, zLoop_inr sC, Or.inr (Or.inl ⟨rfl, fin (by rw [hb]; decide), ?_⟩)⟩
      rw [rUp_in, if_neg (by decide), rUp_in, if_neg (by decide)]
      exact hb
    · rw [eo] at sC
      have sC : en263 c0 (0, [l, r], c) = .inr (4, 0, c_q) := sC.trans (if_neg (show ¬ (4 : Nat) = 0 by decide))
      refine ⟨4, c_q, _, zLoop_inr sC, Or.inr (Or.inr ⟨rfl, fin (by rw [hb]; decide), ?_⟩)⟩
      rw [rUp_in, if_neg (by decide), rUp_in, if_neg (by decide)]
      exact hb
