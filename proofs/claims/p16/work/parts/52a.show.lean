/-! ===== what is asked of TUPLES and LAYERS, by both ===== -/
variable {N : Int}
theorem ladd_g {a b : Int} (ha : -2000000000000 ≤ a ∧ a ≤ 2000000000000) (hb : -2000000000000 ≤ b ∧ b ≤ 2000000000000) : zF2 .ladd a b = a + b := by
  have e : zF2 .ladd a b = (Int64.ofInt a + Int64.ofInt b).toInt := rfl
  rw [e, Int64.toInt_add, l_of (by omega) (by omega), l_of (by omega) (by omega), lsmall (by omega) (by omega)]
theorem lsub_g {a b : Int} (ha : -4000000000000 ≤ a ∧ a ≤ 4000000000000) (hb : -2000000000000 ≤ b ∧ b ≤ 2000000000000) : zF2 .lsub a b = a - b := by
  have e : zF2 .lsub a b = (Int64.ofInt a - Int64.ofInt b).toInt := rfl
  rw [e, Int64.toInt_sub, l_of (by omega) (by omega), l_of (by omega) (by omega), lsmall (by omega) (by omega)]
/-- a value as it is told -/
theorem told_two {v : Int} (h : (vOk N) v) (c m : rHp) : ∃ w, fn173 [v] c = (0, w, c) ∧ fn80 [v] m = (0, w, m) := by
  unfold fn173 fn80
  simp only [zLet, List.getD_cons_zero, fn172_eq, fn55_eq h]
  by_cases b : v < 1099511627776
  · rw [if_pos b, if_pos (Int.le_refl 1)]
    exact ⟨_, rfl, rfl⟩
  · have r : 1099511627776 ≤ v ∧ v ≤ 1099512676352 := by unfold vOk at h; omega
    rw [if_neg b, if_neg (show ¬ (1 : Int) ≤ 0 by decide)]
    refine ⟨200000000 + (v + -1099511627776), ?_, ?_⟩
    · rw [l2i_s (by omega) (by omega), iadd_n (by omega) (by omega) (by omega) (by omega)]
    · rw [if_neg (show ¬ (1 : Int) ≤ 0 by decide), ladd_g (by omega) (by omega), lsub_g (by omega) (by omega), l2i_s (by omega) (by omega), show 200000000 + v - 1099511627776 = 200000000 + (v + -1099511627776) by omega]
theorem fn171_eq {i : Int} {c : rHp} : fn171 [i] c = if c 0 0 7 = 0 then (5, 0, c) else if 0 ≤ i ∧ i < c 4 0 7 then (0, 0, c) else (1, 0, c) := by
  unfold fn171 fn170
  simp only [zLet, List.getD_cons_zero]
  by_cases a : c 0 0 7 = 0
  · rw [if_neg (show ¬ c 0 0 7 ≠ 0 from fun z => z a), if_pos a]
    exact if_neg (show ¬ (5 : Nat) = 0 by decide)
  · rw [if_pos (show c 0 0 7 ≠ 0 from a), if_neg a]
    refine (if_pos rfl).trans ?_
    by_cases b : i < 0
    · rw [if_pos b, if_neg (show ¬ (0 ≤ i ∧ i < c 4 0 7) by omega)]
    · rw [if_neg b]
      by_cases d : i < c 4 0 7
      · rw [if_pos d, if_pos (show 0 ≤ i ∧ i < c 4 0 7 from ⟨by omega, d⟩)]
      · rw [if_neg d, if_neg (show ¬ (0 ≤ i ∧ i < c 4 0 7) from fun z => d z.2)]
theorem fn79_eq {i : Int} {m : rHp} : fn79 [i] m = (0, (if 0 ≤ i ∧ i < m 15 0 71 then 1 else 0), m) := by
  unfold fn79
  simp only [zLet, List.getD_cons_zero]
  by_cases b : i < 0
  · rw [if_pos b, if_neg (show ¬ (0 ≤ i ∧ i < m 15 0 71) by omega)]
  · rw [if_neg b]
    by_cases d : i < m 15 0 71
    · rw [if_neg (show ¬ i ≥ m 15 0 71 by omega), if_pos (show 0 ≤ i ∧ i < m 15 0 71 from ⟨by omega, d⟩)]
    · rw [if_pos (show i ≥ m 15 0 71 by omega), if_neg (show ¬ (0 ≤ i ∧ i < m 15 0 71) from fun z => d z.2)]
/-- both have run, and what they have is the same; or neither has -/
noncomputable def yG (N : Int) (c m : rHp) : Prop := c 0 0 7 = m 15 0 59 ∧ (c 0 0 7 ≠ 0 → (yE N) c m)
theorem tuple_two {c m : rHp} {i w : Int} (hG : (yG N) c m) (hp : ∀ p, 0 ≤ p → p < m 15 0 13 → c 17 0 p = m 66 0 p) :
    ∃ o v v_q k, fn174 [i, w] c = (o, v, c) ∧ fn81 [i, w] m = (0, v_q, rUp m 15 0 0 k) ∧ ((o = 0 ∧ k = 0 ∧ v = v_q) ∨ (o = 2 ∧ k = 1) ∨ (o = 5 ∧ k = 2) ∨ (o = 1 ∧ k = 3)) := by
  unfold fn174 fn81
  simp only [zLet, List.getD_cons_zero, List.getD_cons_succ, fn171_eq, fn79_eq, fn1_eq]
  by_cases a : w < 0
  · rw [if_pos a, if_pos a]
    exact ⟨2, 0, 0, 1, rfl, rfl, Or.inr (Or.inl ⟨rfl, rfl⟩)⟩
  rw [if_neg a, if_neg a]
  by_cases b : w < 9
  · rw [if_pos b, if_pos (show w ≤ 8 by omega)]
    by_cases d : c 0 0 7 = 0
    · rw [if_pos d, if_neg (show ¬ m 15 0 59 ≠ 0 from fun z => z (by rw [← hG.1]; exact d))]
      refine ⟨5, 0, 0, 2, ?_, rfl, Or.inr (Or.inr (Or.inl ⟨rfl, rfl⟩))⟩
      exact (if_neg (show ¬ (5 : Nat) = 0 by decide)).trans (if_neg (show ¬ (5 : Nat) = 1 by decide))
    · obtain ⟨hT, hX, hv, hl, h8, h9, h10⟩ := hG.2 d
      rw [if_neg d, if_pos (show m 15 0 59 ≠ 0 by rw [← hG.1]; exact d), hT.1]
      by_cases e : 0 ≤ i ∧ i < m 15 0 71
      · rw [if_pos e, if_pos e, if_pos (Int.le_refl 1)]
        obtain ⟨t1, t2⟩ := hT.2.2.2 i e.1 (by rw [hT.1]; exact e.2)
        obtain ⟨⟨u1, u2, u3, u4, u5⟩, u6⟩ := hX.2 i e.1 e.2
        have pr := hT.2.2.1.2.1 i e.1 e.2
        show ∃ o v v_q k, (if (0 : Nat) = 0 then _ else _) = (o, v, c) ∧ _
        rw [if_pos rfl, t1]
        by_cases f : w ≤ 3
        · rw [if_pos (show 0 ≤ -w + 3 by omega), if_pos (show 0 ≤ -w + 3 by omega), hp _ pr.1 pr.2]
          by_cases g : w ≥ m 66 0 (m 93 0 i)
          · rw [if_pos g, if_pos g]
            exact ⟨0, 300000000, 300000000, 0, rfl, rfl, Or.inl ⟨rfl, rfl, rfl⟩⟩
          · rw [if_neg g, if_neg g, t2 w (by omega) (by omega)]
            obtain ⟨x, x1, x2⟩ := told_two (hv i w e.1 e.2 (by omega) (by omega)) c (rUp m 15 0 0 0)
            rw [x1, x2]
            exact ⟨0, x, x, 0, rfl, rfl, Or.inl ⟨rfl, rfl, rfl⟩⟩
        · rw [if_neg (show ¬ 0 ≤ -w + 3 by omega), if_neg (show ¬ 0 ≤ -w + 3 by omega)]
          by_cases g4 : w = 4
          · rw [if_pos g4, if_pos g4]
            exact ⟨0, _, _, 0, rfl, rfl, Or.inl ⟨rfl, rfl, rfl⟩⟩
          rw [if_neg g4, if_neg g4]
          by_cases g5 : w = 5
          · rw [if_pos g5, if_pos g5, hl _ pr.1 pr.2]
            exact ⟨0, _, _, 0, rfl, rfl, Or.inl ⟨rfl, rfl, rfl⟩⟩
          rw [if_neg g5, if_neg g5]
          by_cases g6 : w = 6
          · rw [if_pos g6, if_pos g6, u1]
            exact ⟨0, _, _, 0, rfl, rfl, Or.inl ⟨rfl, rfl, rfl⟩⟩
          rw [if_neg g6, if_neg g6]
          by_cases g7 : w = 7
          · rw [if_pos g7, if_pos g7, u2]
            exact ⟨0, _, _, 0, rfl, rfl, Or.inl ⟨rfl, rfl, rfl⟩⟩
          rw [if_neg g7, if_neg g7, u3]
          exact ⟨0, _, _, 0, rfl, rfl, Or.inl ⟨rfl, rfl, rfl⟩⟩
      · rw [if_neg e, if_neg e, if_neg (show ¬ (1 : Int) ≤ 0 by decide)]
        refine ⟨1, 0, 0, 3, ?_, rfl, Or.inr (Or.inr (Or.inr ⟨rfl, rfl⟩))⟩
        exact (if_neg (show ¬ (1 : Nat) = 0 by decide)).trans (if_pos rfl)
  · rw [if_neg b, if_neg (show ¬ w ≤ 8 by omega)]
    exact ⟨2, 0, 0, 1, rfl, rfl, Or.inr (Or.inl ⟨rfl, rfl⟩)⟩
theorem why_two {c m : rHp} {i w : Int} (hG : (yG N) c m) :
    ∃ o v v_q k, fn175 [i, w] c = (o, v, c) ∧ fn82 [i, w] m = (0, v_q, rUp m 15 0 0 k) ∧ ((o = 0 ∧ k = 0 ∧ v = v_q) ∨ (o = 5 ∧ k = 1) ∨ (o = 1 ∧ k = 2)) := by
  unfold fn175 fn82
  simp only [zLet, List.getD_cons_zero, List.getD_cons_succ, fn171_eq, fn79_eq, fn1_eq]
  by_cases d : c 0 0 7 = 0
  · rw [if_pos d, if_neg (show ¬ m 15 0 59 ≠ 0 from fun z => z (by rw [← hG.1]; exact d))]
    refine ⟨5, 0, 0, 1, ?_, rfl, Or.inr (Or.inl ⟨rfl, rfl⟩)⟩
    exact (if_neg (show ¬ (5 : Nat) = 0 by decide)).trans (if_neg (show ¬ (5 : Nat) = 1 by decide))
  · obtain ⟨hT, hX, hv, hl, h8, h9, h10⟩ := hG.2 d
    rw [if_neg d, if_pos (show m 15 0 59 ≠ 0 by rw [← hG.1]; exact d), hT.1]
    by_cases e : 0 ≤ i ∧ i < m 15 0 71
    · rw [if_pos e, if_pos e, if_pos (Int.le_refl 1)]
      obtain ⟨⟨u1, u2, u3, u4, u5⟩, u6⟩ := hX.2 i e.1 e.2
      show ∃ o v v_q k, (if (0 : Nat) = 0 then _ else _) = (o, v, c) ∧ _
      rw [if_pos rfl]
      by_cases f : w < 0
      · rw [if_pos f, if_pos f]
        exact ⟨1, 0, 0, 2, rfl, rfl, Or.inr (Or.inr ⟨rfl, rfl⟩)⟩
      · rw [if_neg f, if_neg f]
        by_cases g : w < c 32 0 i
        · rw [if_pos g, if_pos (show w < m 97 0 i by rw [← u3]; exact g), u5 w (by omega) g]
          exact ⟨0, _, _, 0, rfl, rfl, Or.inl ⟨rfl, rfl, rfl⟩⟩
        · rw [if_neg g, if_neg (show ¬ w < m 97 0 i by rw [← u3]; exact g)]
          exact ⟨1, 0, 0, 2, rfl, rfl, Or.inr (Or.inr ⟨rfl, rfl⟩)⟩
    · rw [if_neg e, if_neg e, if_neg (show ¬ (1 : Int) ≤ 0 by decide)]
      refine ⟨1, 0, 0, 2, ?_, rfl, Or.inr (Or.inr ⟨rfl, rfl⟩)⟩
      exact (if_neg (show ¬ (1 : Nat) = 0 by decide)).trans (if_pos rfl)
theorem laid_two {c m : rHp} {p : Int} (hG : (yG N) c m) (h7 : c 1 0 7 = m 15 0 13) :
    ∃ o v v_q k, fn177 [p] c = (o, v, c) ∧ fn83 [p] m = (0, v_q, rUp m 15 0 0 k) ∧ ((o = 0 ∧ k = 0 ∧ v = v_q) ∨ (o = 5 ∧ k = 1) ∨ (o = 1 ∧ k = 2)) := by
  unfold fn177 fn83 fn170
  simp only [zLet, List.getD_cons_zero, fn1_eq]
  by_cases d : c 0 0 7 = 0
  · rw [if_neg (show ¬ c 0 0 7 ≠ 0 from fun z => z d), if_neg (show ¬ m 15 0 59 ≠ 0 from fun z => z (by rw [← hG.1]; exact d))]
    refine ⟨5, 0, 0, 1, ?_, rfl, Or.inr (Or.inl ⟨rfl, rfl⟩)⟩
    exact if_neg (show ¬ (5 : Nat) = 0 by decide)
  · obtain ⟨hT, hX, hv, hl, h8, h9, h10⟩ := hG.2 d
    rw [if_pos (show c 0 0 7 ≠ 0 from d), if_pos (show m 15 0 59 ≠ 0 by rw [← hG.1]; exact d), h7]
    show ∃ o v v_q k, (if (0 : Nat) = 0 then _ else _) = (o, v, c) ∧ _
    rw [if_pos rfl]
    by_cases f : p < 0
    · rw [if_pos f, if_pos f]
      exact ⟨1, 0, 0, 2, rfl, rfl, Or.inr (Or.inr ⟨rfl, rfl⟩)⟩
    · rw [if_neg f, if_neg f]
      by_cases g : p < m 15 0 13
      · rw [if_pos g, if_pos g, hl p (by omega) g]
        exact ⟨0, _, _, 0, rfl, rfl, Or.inl ⟨rfl, rfl, rfl⟩⟩
      · rw [if_neg g, if_neg g]
        exact ⟨1, 0, 0, 2, rfl, rfl, Or.inr (Or.inr ⟨rfl, rfl⟩)⟩
theorem count_two {c m : rHp} {w : Int} (hG : (yG N) c m) (h0 : c 2 0 3 = m 15 0 3) (h1 : c 7 0 1 = m 15 0 4) (h2 : c 1 0 10 = m 15 0 32) (h3 : c 1 0 9 = m 15 0 17) (h4 : c 1 0 7 = m 15 0 13) (h6 : c 0 0 8 = m 15 0 74) (h7 : c 0 0 9 = m 15 0 75) (h9 : c 3 0 1 = m 15 0 8) :
    ∃ o v v_q k, fn179 [w] c = (o, v, c) ∧ fn84 [w] m = (0, v_q, rUp m 15 0 0 k) ∧ ((o = 0 ∧ k = 0 ∧ v = v_q) ∨ (o = 2 ∧ k = 1)) := by
  have e5 : c 0 0 7 ≠ 0 → c 4 0 7 = m 15 0 71 ∧ c 1 0 8 = m 15 0 61 := fun z => ⟨(hG.2 z).1.1, (hG.2 z).2.2.2.2.1⟩
  unfold fn179 fn84
  simp only [zLet, List.getD_cons_zero, fn1_eq, h0, h1, h2, h3, h4, h6, h7, h9, hG.1]
  rw [hG.1] at e5
  by_cases a : w < 0
  · rw [if_pos a, if_pos a]
    exact ⟨2, 0, 0, 1, rfl, rfl, Or.inr ⟨rfl, rfl⟩⟩
  rw [if_neg a, if_neg a]
  by_cases b : w < 10
  · rw [if_pos b, if_pos (show w ≤ 9 by omega)]
    by_cases g9 : w = 9
    · rw [if_pos g9, if_pos g9]
      exact ⟨0, _, _, 0, rfl, rfl, Or.inl ⟨rfl, rfl, rfl⟩⟩
    rw [if_neg g9, if_neg g9]
    by_cases g0 : w = 0
    · rw [if_pos g0, if_pos g0]
      exact ⟨0, _, _, 0, rfl, rfl, Or.inl ⟨rfl, rfl, rfl⟩⟩
    rw [if_neg g0, if_neg g0]
    by_cases g1 : w = 1
    · rw [if_pos g1, if_pos g1]
      exact ⟨0, _, _, 0, rfl, rfl, Or.inl ⟨rfl, rfl, rfl⟩⟩
    rw [if_neg g1, if_neg g1]
    by_cases g2 : w = 2
    · rw [if_pos g2, if_pos g2]
      exact ⟨0, _, _, 0, rfl, rfl, Or.inl ⟨rfl, rfl, rfl⟩⟩
    rw [if_neg g2, if_neg g2]
    by_cases g3 : w = 3
    · rw [if_pos g3, if_pos g3]
      exact ⟨0, _, _, 0, rfl, rfl, Or.inl ⟨rfl, rfl, rfl⟩⟩
    rw [if_neg g3, if_neg g3]
    by_cases g4 : w = 4
    · rw [if_pos g4, if_pos g4]
      exact ⟨0, _, _, 0, rfl, rfl, Or.inl ⟨rfl, rfl, rfl⟩⟩
    rw [if_neg g4, if_neg g4]
    by_cases g5 : w = 5
    · rw [if_pos g5, if_pos g5]
      by_cases z : m 15 0 59 = 0
      · rw [if_pos z, if_pos z]
        exact ⟨0, _, _, 0, rfl, rfl, Or.inl ⟨rfl, rfl, rfl⟩⟩
      · rw [if_neg z, if_neg z, (e5 z).1]
        exact ⟨0, _, _, 0, rfl, rfl, Or.inl ⟨rfl, rfl, rfl⟩⟩
    rw [if_neg g5, if_neg g5]
    by_cases g6 : w = 6
    · rw [if_pos g6, if_pos g6]
      exact ⟨0, _, _, 0, rfl, rfl, Or.inl ⟨rfl, rfl, rfl⟩⟩
    rw [if_neg g6, if_neg g6]
    by_cases g7 : w = 7
    · rw [if_pos g7, if_pos g7]
      exact ⟨0, _, _, 0, rfl, rfl, Or.inl ⟨rfl, rfl, rfl⟩⟩
    rw [if_neg g7, if_neg g7]
    by_cases z : m 15 0 59 = 0
    · rw [if_pos z, if_pos z]
      exact ⟨0, _, _, 0, rfl, rfl, Or.inl ⟨rfl, rfl, rfl⟩⟩
    · rw [if_neg z, if_neg z, (e5 z).2]
      exact ⟨0, _, _, 0, rfl, rfl, Or.inl ⟨rfl, rfl, rfl⟩⟩
  · rw [if_neg b, if_neg (show ¬ w ≤ 9 by omega)]
    exact ⟨2, 0, 0, 1, rfl, rfl, Or.inr ⟨rfl, rfl⟩⟩
