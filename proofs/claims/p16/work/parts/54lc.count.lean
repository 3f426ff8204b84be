/-! ===== count, by both ===== -/
noncomputable def eqQ (c c_q : rHp) : Prop := c_q 0 0 8 = c 0 0 8 ∧ c_q 0 0 9 = c 0 0 9
noncomputable def eqR (m m_q : rHp) : Prop := m_q 15 0 74 = m 15 0 74 ∧ m_q 15 0 75 = m 15 0 75
theorem eqQ_rf {c : rHp} : eqQ c c := ⟨rfl, rfl⟩
theorem eqR_rf {m : rHp} : eqR m m := ⟨rfl, rfl⟩
theorem nR_eq {c m c_q m_q : rHp} (h : nR c m) (hc : eqQ c c_q) (hm : eqR m m_q) : nR c_q m_q := by
  unfold nR
  rw [hc.1, hc.2, hm.1, hm.2]
  exact h
noncomputable def maQ (ms : Nat) : Bool := (!Nat.testBit ms (128 * 0 + 8)) && (!Nat.testBit ms (128 * 0 + 9))
noncomputable def maR (ms : Nat) : Bool := (!Nat.testBit ms (128 * 15 + 74)) && (!Nat.testBit ms (128 * 15 + 75))
theorem eqQ_k {ms : Nat} (h : maQ ms = true) {g g_q : rHp} (hk : ∀ (G : Nat) (k j : Int), ¬ rMdP ms G j → g_q G k j = g G k j) : eqQ g g_q := by
  unfold maQ at h
  simp only [Bool.and_eq_true, Bool.not_eq_true'] at h
  exact ⟨zKo (by decide) h.1 hk 0, zKo (by decide) h.2 hk 0⟩
theorem eqR_k {ms : Nat} (h : maR ms = true) {g g_q : rHp} (hk : ∀ (G : Nat) (k j : Int), ¬ rMdP ms G j → g_q G k j = g G k j) : eqR g g_q := by
  unfold maR at h
  simp only [Bool.and_eq_true, Bool.not_eq_true'] at h
  exact ⟨zKo (by decide) h.1 hk 0, zKo (by decide) h.2 hk 0⟩
theorem run_nR {B v v_q : Int} {o o_q : Nat} {x y : List Int} {c m c_q m_q : rHp} (h : JJ B c m) (hB : B ≤ 10239) (hp : pcN c) (h66 : ∀ p, m 66 0 p ≤ 4) (hn : nR c m) (l1 : sn270 x c o v c_q) (l2 : sn78 y m o_q v_q m_q) (zc : ∃ j, c_q 40 0 j ≠ 0) (zm : ∃ j, m_q 40 0 j ≠ 0) : nR c_q m_q := by
  have l1 : (o, v, c_q) = fn270 [] c := l1
  have l2 : (o_q, v_q, m_q) = fn78 [] m := l2
  have hS := yS_of h.1 hB hp.2 h.2.1 (fun p _ _ => h66 p)
  obtain ⟨o1, w, w_q, c1, m1, p1, p2, hr⟩ := run_two hS
  have e1 : c_q = (fn270 [] c).2.2 := congrArg (fun r : zR => r.2.2) l1
  have k : ∀ K : Nat, K ≠ 112 → c_q K = c1 K := fun K q => by
    rw [e1]
    unfold fn270
    simp only [zLet, p1]
    split
    · exact rUp_grp q
    · split
      · rfl
      · split <;> rfl
  have r := fn78_rq (x := []) (g0 := m)
  rw [p2] at r l2
  have r : (∃ j, m1 40 0 j ≠ 0) → m1 40 = m 40 ∧ m1 15 0 93 = 0 ∧ (m1 15 0 59 = 0 → ∀ j, j = 74 ∨ j = 75 → m1 15 0 j = m 15 0 j) := r
  have z := run_z (x := []) (g0 := c)
  rw [p1] at z
  have z : o1 ≠ 0 → fZ0 c c1 := z
  have em : m_q = m1 := congrArg (fun r : zR => r.2.2) l2
  subst em
  obtain ⟨r1, r2, r3⟩ := r zm
  unfold nR
  rw [k 0 (by decide)]
  have fail : o1 ≠ 0 → m_q 15 0 59 = 0 → c1 0 0 8 = m_q 15 0 74 ∧ c1 0 0 9 = m_q 15 0 75 := fun q w => by
    obtain ⟨z1, z2⟩ := z q
    obtain ⟨z3, _⟩ := z2 (by rw [← k 40 (by decide)]; exact zc)
    rw [z3 8 (by decide), z3 9 (by decide), r3 w 74 (Or.inl rfl), r3 w 75 (Or.inr rfl)]
    exact hn
  rcases hr with ⟨a1, a2, a3, a4, a5, a6, a7, _⟩ | ⟨a1, a2, a3, a4⟩ | ⟨a1, a2, a3, a4⟩ | ⟨a1, a2, a3, a4⟩
  · exact ⟨a7.2.2.2.2.2.1, a7.2.2.2.2.2.2⟩
  · exact fail (by omega) a4
  · exact fail (by omega) a4
  · exact fail (by omega) a4
theorem ask_nR {B v v_q : Int} {o o_q : Nat} {x y : List Int} {c m c_q m_q : rHp} (h : JK B c m) (ha : aR c m) (hn : nR c m) (hB : B ≤ 10239) (l1 : sn275 x c o v c_q) (l2 : sn91 y m o_q v_q m_q) (zc : ∃ j, c_q 40 0 j ≠ 0) (zm : ∃ j, m_q 40 0 j ≠ 0) : nR c_q m_q := by
  have e5 := ask_275 l1
  have l2 : (o_q, v_q, m_q) = fn91 [] m := l2
  obtain ⟨o1, w, w_q, c1, m1, p1, p2, hr⟩ := ask_both h.1 hB h.2 ha
  rw [p2] at l2
  have e2 : m_q = m1 := congrArg (fun r : zR => r.2.2) l2
  subst e2
  rw [p1] at e5
  have e5 : ∀ K : Nat, K ≠ 112 → c_q K = c1 K := e5
  rw [e5 40 (by decide)] at zc
  exact nR_eq ((hr zc zm).2 hn) ⟨by rw [e5 0 (by decide)], by rw [e5 0 (by decide)]⟩ eqR_rf
theorem count_both {B i : Int} {c m : rHp} (h : JK B c m) (ho : oR c m) (hn : nR c m) : ∃ o v v_q k, fn179 [i] c = (o, v, c) ∧ fn84 [i] m = (0, v_q, rUp m 15 0 0 k) ∧ ((o = 0 ∧ k = 0 ∧ v = v_q) ∨ (o = 2 ∧ k = 1)) := by
  have R := h.1.1
  have e0 := R.1.1
  have e1 := ho.1
  have e2 := R.2.2.2.2.2.1.1
  have e3 := R.2.2.2.2.2.2.1.1
  have e4 := JJ_7 h.1
  have e9 := h.1.2.1.2.1.1
  have e7 := h.1.2.2
  unfold fn179 fn84
  simp only [zLet, List.getD_cons_zero, fn1_eq, e0, e1, e2, e3, e4, e9, e7, hn.1, hn.2]
  by_cases a : i < 0
  · rw [if_pos a, if_pos a]
    exact ⟨2, 0, 0, 1, rfl, rfl, Or.inr ⟨rfl, rfl⟩⟩
  rw [if_neg a, if_neg a]
  by_cases b : i < 10
  · rw [if_pos b, if_pos (show i ≤ 9 by omega)]
    by_cases g9 : i = 9
    · rw [if_pos g9, if_pos g9]
      exact ⟨0, _, _, 0, rfl, rfl, Or.inl ⟨rfl, rfl, rfl⟩⟩
    rw [if_neg g9, if_neg g9]
    by_cases g0 : i = 0
    · rw [if_pos g0, if_pos g0]
      exact ⟨0, _, _, 0, rfl, rfl, Or.inl ⟨rfl, rfl, rfl⟩⟩
    rw [if_neg g0, if_neg g0]
    by_cases g1 : i = 1
    · rw [if_pos g1, if_pos g1]
      exact ⟨0, _, _, 0, rfl, rfl, Or.inl ⟨rfl, rfl, rfl⟩⟩
    rw [if_neg g1, if_neg g1]
    by_cases g2 : i = 2
    · rw [if_pos g2, if_pos g2]
      exact ⟨0, _, _, 0, rfl, rfl, Or.inl ⟨rfl, rfl, rfl⟩⟩
    rw [if_neg g2, if_neg g2]
    by_cases g3 : i = 3
    · rw [if_pos g3, if_pos g3]
      exact ⟨0, _, _, 0, rfl, rfl, Or.inl ⟨rfl, rfl, rfl⟩⟩
    rw [if_neg g3, if_neg g3]
    by_cases g4 : i = 4
    · rw [if_pos g4, if_pos g4]
      exact ⟨0, _, _, 0, rfl, rfl, Or.inl ⟨rfl, rfl, rfl⟩⟩
    rw [if_neg g4, if_neg g4]
    by_cases g5 : i = 5
    · rw [if_pos g5, if_pos g5]
      by_cases d : m 15 0 59 = 0
      · rw [if_pos d, if_pos d]
        exact ⟨0, _, _, 0, rfl, rfl, Or.inl ⟨rfl, rfl, rfl⟩⟩
      · rw [if_neg d, if_neg d, (h.2 (by rw [e7]; exact d)).1.1]
        exact ⟨0, _, _, 0, rfl, rfl, Or.inl ⟨rfl, rfl, rfl⟩⟩
    rw [if_neg g5, if_neg g5]
    by_cases g6 : i = 6
    · rw [if_pos g6, if_pos g6]
      exact ⟨0, _, _, 0, rfl, rfl, Or.inl ⟨rfl, rfl, rfl⟩⟩
    rw [if_neg g6, if_neg g6]
    by_cases g7 : i = 7
    · rw [if_pos g7, if_pos g7]
      exact ⟨0, _, _, 0, rfl, rfl, Or.inl ⟨rfl, rfl, rfl⟩⟩
    rw [if_neg g7, if_neg g7]
    by_cases d : m 15 0 59 = 0
    · rw [if_pos d, if_pos d]
      exact ⟨0, _, _, 0, rfl, rfl, Or.inl ⟨rfl, rfl, rfl⟩⟩
    · rw [if_neg d, if_neg d, (h.2 (by rw [e7]; exact d)).2.2.2.2]
      exact ⟨0, _, _, 0, rfl, rfl, Or.inl ⟨rfl, rfl, rfl⟩⟩
  · rw [if_neg b, if_neg (show ¬ i ≤ 9 by omega)]
    exact ⟨2, 0, 0, 1, rfl, rfl, Or.inr ⟨rfl, rfl⟩⟩
theorem count_cmp {B i v v_q : Int} {o o_q : Nat} {x y : List Int} {c m c_q m_q : rHp} (h : JK B c m) (ho : oR c m) (hn : nR c m) (l1 : sn279 (i :: x) c o v c_q) (l2 : sn84 (i :: y) m o_q v_q m_q) : v = m_q 15 0 0 ∧ (v = 0 → c_q 112 0 0 = v_q) := by
  have l1 : (o, v, c_q) = fn279 [i] c := l1
  have l2 : (o_q, v_q, m_q) = fn84 [i] m := l2
  obtain ⟨o1, w1, w2, k, p1, p2, hr⟩ := count_both (i := i) h ho hn
  rw [p2] at l2
  have em : m_q = rUp m 15 0 0 k := congrArg (fun r : zR => r.2.2) l2
  have ev : v_q = w2 := congrArg (fun r : zR => r.2.1) l2
  have e0 : m_q 15 0 0 = k := by rw [em, rUp_at]
  unfold fn279 at l1
  simp only [zLet, List.getD_cons_zero, p1] at l1
  rcases hr with ⟨a1, a2, a3⟩ | ⟨a1, a2⟩
  · rw [if_pos a1] at l1
    have e1 : v = 0 := congrArg (fun r : zR => r.2.1) l1
    have e2 : c_q = rUp c 112 0 0 w1 := congrArg (fun r : zR => r.2.2) l1
    exact ⟨by rw [e1, e0, a2], fun _ => by rw [e2, rUp_at, ev]; exact a3⟩
  · rw [if_neg (by omega)] at l1
    have e1 : v = 1 := congrArg (fun r : zR => r.2.1) l1
    exact ⟨by rw [e1, e0, a2], fun q => by omega⟩
/-- between calls -/
noncomputable def JC (B : Int) (c m : rHp) : Prop := JK B c m ∧ ((c 0 0 7 ≠ 0 → nE c m) ∧ oR c m ∧ pcN c) ∧ aR c m ∧ nR c m
noncomputable def lJC (i : Int) (g : rHp) : Prop := ∃ B : Int, 6 * B ≤ 20 * i ∧ JC B g g
