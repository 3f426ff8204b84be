/-! ===== a WAY of a RULE with # , by both ===== -/
/-- the amounts of row i ahead of a WAY, and behind it -/
noncomputable def amp (h : Int) (c m : rHp) (i : Int) : Prop := (h = 1 → c 35 0 i = m 106 0 i) ∧ (h = 2 → c 35 0 i = m 107 0 i ∧ -2147483648 ≤ c 35 0 i ∧ c 35 0 i ≤ 2147483647) ∧ (3 ≤ h → c 36 0 i = m 109 0 i ∧ (m 109 0 i = 0 ∨ (m 109 0 i = 1 ∧ c 35 0 i = m 108 0 i ∧ -2147483648 ≤ m 108 0 i ∧ m 108 0 i ≤ 2147483647)))
noncomputable def amt (h : Int) (c m : rHp) (i : Int) : Prop := amp h c m i ∧ (h = 1 → c 36 0 i = 1 ∧ -2147483648 ≤ c 35 0 i ∧ c 35 0 i ≤ 2147483647) ∧ (h = 2 → c 36 0 i = 1)
theorem iadd_rg (a b : Int) : -2147483648 ≤ zF2 .iadd a b ∧ zF2 .iadd a b ≤ 2147483647 := by
  have e : zF2 .iadd a b = (Int32.ofInt a + Int32.ofInt b).toInt := rfl
  rw [e]
  have h1 := Int32.le_toInt (Int32.ofInt a + Int32.ofInt b)
  have h2 := Int32.toInt_lt (Int32.ofInt a + Int32.ofInt b)
  omega
/-- what the reference's WAY does to row i: the heap g becomes m_q -/
noncomputable def mTl (h v i : Int) (g m_q : rHp) : Prop := m_q 106 0 i = zF2 .iadd (g 106 0 i) 1 ∧ (h ≠ 1 → v < 1099511627776 → m_q 107 0 i = zF2 .iadd (g 107 0 i) (zF1 .l2i v) ∧ m_q 109 0 i = 1 ∧ m_q 108 0 i = if g 109 0 i = 0 then v else if h ≠ 3 then (if v ≤ g 108 0 i then g 108 0 i else v) else (if v ≥ g 108 0 i then g 108 0 i else v)) ∧ (h ≠ 1 → ¬ v < 1099511627776 → m_q 107 0 i = g 107 0 i ∧ m_q 108 0 i = g 108 0 i ∧ m_q 109 0 i = g 109 0 i)
/-- the same of the first side -/
noncomputable def cTl (h v i : Int) (g c_q : rHp) : Prop := (h = 1 → c_q 35 0 i = zF2 .iadd (g 35 0 i) 1 ∧ c_q 36 0 i = 1) ∧ (h = 2 → c_q 36 0 i = 1 ∧ c_q 35 0 i = if v < 1099511627776 then zF2 .iadd (g 35 0 i) (zF1 .l2i v) else g 35 0 i) ∧ (h = 3 → (v < 1099511627776 → c_q 36 0 i = 1 ∧ c_q 35 0 i = if g 36 0 i = 0 then zF1 .l2i v else if 0 ≤ zF1 .l2i v + -g 35 0 i then g 35 0 i else zF1 .l2i v) ∧ (¬ v < 1099511627776 → c_q 35 0 i = g 35 0 i ∧ c_q 36 0 i = g 36 0 i)) ∧ (h = 4 → (v < 1099511627776 → c_q 36 0 i = 1 ∧ c_q 35 0 i = if g 36 0 i = 0 then zF1 .l2i v else if 0 ≤ -zF1 .l2i v + g 35 0 i then g 35 0 i else zF1 .l2i v) ∧ (¬ v < 1099511627776 → c_q 35 0 i = g 35 0 i ∧ c_q 36 0 i = g 36 0 i))
theorem tl_two {h v i : Int} {c m c_q m_q : rHp} (h1 : 1 ≤ h) (h4 : h ≤ 4) (hv : h ≠ 1 → vOk v) (hl : h ≠ 1 → v < 1099511627776 → zF1 .l2i v = v) (hp : amp h c m i) (hc : cTl h v i c c_q) (hm : mTl h v i m m_q) : amt h c_q m_q i := by
  obtain ⟨p1, p2, p3⟩ := hp
  obtain ⟨c1, c2, c3, c4⟩ := hc
  obtain ⟨m1, m2, m3⟩ := hm
  refine ⟨⟨fun e => ?_, fun e => ?_, fun e => ?_⟩, fun e => ⟨(c1 e).2, ?_⟩, fun e => (c2 e).1⟩
  · rw [(c1 e).1, m1, p1 e]
  · by_cases b : v < 1099511627776
    · rw [(c2 e).2, if_pos b, (m2 (by omega) b).1, (p2 e).1]
      exact ⟨rfl, iadd_rg _ _⟩
    · rw [(c2 e).2, if_neg b, (m3 (by omega) b).1]
      exact p2 e
  · obtain ⟨q1, q2⟩ := p3 e
    by_cases b : v < 1099511627776
    · have vr : -2147483648 ≤ v ∧ v ≤ 2147483647 := by have hv := hv (by omega); unfold vOk at hv; omega
      have hl := hl (by omega)
      obtain ⟨_, y2, y3⟩ := m2 (by omega) b
      have x2 : c_q 36 0 i = 1 := by
        by_cases h3 : h = 3
        · exact ((c3 h3).1 b).1
        · exact ((c4 (by omega)).1 b).1
      refine ⟨by rw [x2, y2], Or.inr ⟨y2, ?_⟩⟩
      by_cases z : m 109 0 i = 0
      · rw [if_pos z] at y3
        rw [y3]
        refine ⟨?_, vr⟩
        by_cases h3 : h = 3
        · rw [((c3 h3).1 b).2, if_pos (by rw [q1]; exact z)]; exact hl b
        · rw [((c4 (by omega)).1 b).2, if_pos (by rw [q1]; exact z)]; exact hl b
      · obtain ⟨z1, z2, z3⟩ := q2.resolve_left z
        rw [if_neg z] at y3
        by_cases h3 : h = 3
        · rw [if_neg (show ¬ h ≠ 3 from fun y => y h3)] at y3
          have x3 := ((c3 h3).1 b).2
          rw [if_neg (by rw [q1]; exact z), hl b, z2] at x3
          by_cases k : v ≥ m 108 0 i
          · rw [if_pos k] at y3
            rw [if_pos (by omega)] at x3
            rw [x3, y3]
            exact ⟨rfl, z3⟩
          · rw [if_neg k] at y3
            rw [if_neg (by omega)] at x3
            rw [x3, y3]
            exact ⟨rfl, vr⟩
        · rw [if_pos (show h ≠ 3 from h3)] at y3
          have x3 := ((c4 (by omega)).1 b).2
          rw [if_neg (by rw [q1]; exact z), hl b, z2] at x3
          by_cases k : v ≤ m 108 0 i
          · rw [if_pos k] at y3
            rw [if_pos (by omega)] at x3
            rw [x3, y3]
            exact ⟨rfl, z3⟩
          · rw [if_neg k] at y3
            rw [if_neg (by omega)] at x3
            rw [x3, y3]
            exact ⟨rfl, vr⟩
    · obtain ⟨_, y2, y3⟩ := m3 (by omega) b
      have x : c_q 35 0 i = c 35 0 i ∧ c_q 36 0 i = c 36 0 i := by
        by_cases h3 : h = 3
        · exact (c3 h3).2 b
        · exact (c4 (by omega)).2 b
      rw [x.1, x.2, y2, y3]
      exact ⟨q1, q2⟩
  · rw [(c1 e).1]
    exact iadd_rg _ _
theorem fn217_eq {i : Int} {c : rHp} : fn217 [i] c = (0, 0, rUp (rUp c 35 0 i (zF2 .iadd (c 35 0 i) 1)) 36 0 i 1) := rfl
theorem fn218_eq {i v : Int} {c : rHp} : fn218 [i, v] c = (0, 0, if v < 1099511627776 then rUp (rUp c 36 0 i 1) 35 0 i (zF2 .iadd (c 35 0 i) (zF1 .l2i v)) else rUp c 36 0 i 1) := by
  unfold fn218
  simp only [zLet, List.getD_cons_zero, List.getD_cons_succ, fn172_eq]
  by_cases b : v < 1099511627776
  · rw [if_pos b, if_pos b, if_pos (Int.le_refl 1)]
  · rw [if_neg b, if_neg b, if_neg (show ¬ (1 : Int) ≤ 0 by decide)]
theorem fn100_h {a b : Int} {c : rHp} : (fn100 [a, b] c).2.2 = c := by
  unfold fn100
  simp only [zLet, List.getD_cons_zero, List.getD_cons_succ]
  split <;> rfl
theorem fn101_h {a b : Int} {c : rHp} : (fn101 [a, b] c).2.2 = c := by
  unfold fn101
  simp only [zLet, List.getD_cons_zero, List.getD_cons_succ]
  split <;> rfl
theorem fn219_eq {i v : Int} {c : rHp} : fn219 [i, v] c = (0, 0, if v < 1099511627776 then rUp (rUp c 35 0 i (if c 36 0 i = 0 then zF1 .l2i v else if 0 ≤ zF1 .l2i v + -c 35 0 i then c 35 0 i else zF1 .l2i v)) 36 0 i 1 else c) := by
  unfold fn219
  simp only [zLet, List.getD_cons_zero, List.getD_cons_succ, fn172_eq, fn100_h]
  by_cases b : v < 1099511627776
  · rw [if_pos b, if_pos b, if_pos (Int.le_refl 1)]
    by_cases d : c 36 0 i = 0
    · rw [if_pos d, if_pos d]
    · rw [if_neg d, if_neg d]
      by_cases e : 0 ≤ zF1 .l2i v + -c 35 0 i
      · rw [if_pos e, if_pos e]
      · rw [if_neg e, if_neg e]
  · rw [if_neg b, if_neg b, if_neg (show ¬ (1 : Int) ≤ 0 by decide)]
theorem fn220_eq {i v : Int} {c : rHp} : fn220 [i, v] c = (0, 0, if v < 1099511627776 then rUp (rUp c 35 0 i (if c 36 0 i = 0 then zF1 .l2i v else if 0 ≤ -zF1 .l2i v + c 35 0 i then c 35 0 i else zF1 .l2i v)) 36 0 i 1 else c) := by
  unfold fn220
  simp only [zLet, List.getD_cons_zero, List.getD_cons_succ, fn172_eq, fn101_h]
  by_cases b : v < 1099511627776
  · rw [if_pos b, if_pos b, if_pos (Int.le_refl 1)]
    by_cases d : c 36 0 i = 0
    · rw [if_pos d, if_pos d]
    · rw [if_neg d, if_neg d]
      by_cases e : 0 ≤ -zF1 .l2i v + c 35 0 i
      · rw [if_pos e, if_pos e]
      · rw [if_neg e, if_neg e]
  · rw [if_neg b, if_neg b, if_neg (show ¬ (1 : Int) ≤ 0 by decide)]
/-- the first side's WAY: the heap with its row, x, becomes c_q -/
theorem fn243_eq {h v i : Int} {c x : rHp} (hh : c 10 (9 * c 6 0 7) 12 = h) (h1 : 1 ≤ h) (h4 : h ≤ 4) (hv : c 37 0 (c 10 (9 * c 6 0 7) 14) = v) (e : fn216 [] c = (0, i, x)) (i0 : 0 ≤ i) : ∃ c_q, fn243 [] c = (0, 0, c_q) ∧ cTl h v i x c_q ∧ (∀ K, K ≠ 35 → K ≠ 36 → c_q K = x K) ∧ ∀ j, j ≠ i → c_q 35 0 j = x 35 0 j ∧ c_q 36 0 j = x 36 0 j := by
  have e0 : fn243 [] c = if h ≠ 1 then (if h ≠ 2 then (if h ≠ 3 then (0, 0, (fn220 [i, v] x).2.2) else (0, 0, (fn219 [i, v] x).2.2)) else (0, 0, (fn218 [i, v] x).2.2)) else (0, 0, (fn217 [i] x).2.2) := by
    unfold fn243
    simp only [zLet, e, hh, hv]
    rw [if_pos (show i ≥ 0 from i0)]
  simp only [fn217_eq, fn218_eq, fn219_eq, fn220_eq] at e0
  rw [e0]
  have pair : ∀ (a b : Int), (∀ K, K ≠ 35 → K ≠ 36 → rUp (rUp x 35 0 i a) 36 0 i b K = x K) ∧ ∀ j, j ≠ i → rUp (rUp x 35 0 i a) 36 0 i b 35 0 j = x 35 0 j ∧ rUp (rUp x 35 0 i a) 36 0 i b 36 0 j = x 36 0 j := fun a b =>
    ⟨fun K k1 k2 => by rw [rUp_grp k2, rUp_grp k1], fun j hj => ⟨by rw [rUp_grp (by decide), rUp_ne (fun z => hj z.2.2)], by rw [rUp_ne (fun z => hj z.2.2), rUp_grp (by decide)]⟩⟩
  by_cases b1 : h = 1
  · rw [if_neg (fun z => z b1)]
    refine ⟨_, rfl, ⟨fun _ => ⟨by rw [rUp_grp (by decide), rUp_at], rUp_at⟩, fun y => by omega, fun y => by omega, fun y => by omega⟩, (pair _ _).1, (pair _ _).2⟩
  · rw [if_pos b1]
    by_cases b2 : h = 2
    · rw [if_neg (fun z => z b2)]
      by_cases b : v < 1099511627776
      · rw [if_pos b]
        refine ⟨_, rfl, ⟨fun y => by omega, fun _ => ⟨by rw [rUp_grp (by decide), rUp_at], by rw [if_pos b, rUp_at]⟩, fun y => by omega, fun y => by omega⟩, fun K k1 k2 => by rw [rUp_grp k1, rUp_grp k2], fun j hj => ⟨by rw [rUp_ne (fun z => hj z.2.2), rUp_grp (by decide)], by rw [rUp_grp (by decide), rUp_ne (fun z => hj z.2.2)]⟩⟩
      · rw [if_neg b]
        refine ⟨_, rfl, ⟨fun y => by omega, fun _ => ⟨rUp_at, by rw [if_neg b, rUp_grp (by decide)]⟩, fun y => by omega, fun y => by omega⟩, fun K k1 k2 => by rw [rUp_grp k2], fun j hj => ⟨by rw [rUp_grp (by decide)], by rw [rUp_ne (fun z => hj z.2.2)]⟩⟩
    · rw [if_pos b2]
      by_cases b3 : h = 3
      · rw [if_neg (fun z => z b3)]
        by_cases b : v < 1099511627776
        · rw [if_pos b]
          refine ⟨_, rfl, ⟨fun y => by omega, fun y => by omega, fun _ => ⟨fun _ => ⟨rUp_at, by rw [rUp_grp (by decide), rUp_at]⟩, fun y => absurd b y⟩, fun y => by omega⟩, (pair _ _).1, (pair _ _).2⟩
        · rw [if_neg b]
          exact ⟨_, rfl, ⟨fun y => by omega, fun y => by omega, fun _ => ⟨fun y => absurd y b, fun _ => ⟨rfl, rfl⟩⟩, fun y => by omega⟩, fun _ _ _ => rfl, fun _ _ => ⟨rfl, rfl⟩⟩
      · rw [if_pos b3]
        by_cases b : v < 1099511627776
        · rw [if_pos b]
          refine ⟨_, rfl, ⟨fun y => by omega, fun y => by omega, fun y => by omega, fun _ => ⟨fun _ => ⟨rUp_at, by rw [rUp_grp (by decide), rUp_at]⟩, fun y => absurd b y⟩⟩, (pair _ _).1, (pair _ _).2⟩
        · rw [if_neg b]
          exact ⟨_, rfl, ⟨fun y => by omega, fun y => by omega, fun y => by omega, fun _ => ⟨fun y => absurd y b, fun _ => ⟨rfl, rfl⟩⟩⟩, fun _ _ _ => rfl, fun _ _ => ⟨rfl, rfl⟩⟩
