/-! ===== LAYERS one after the other, by both ===== -/
variable {N : Int}
theorem fn1_eq {v : Int} {m : rHp} : (fn1 [v] m).2.2 = rUp m 15 0 0 v := by
  unfold fn1
  simp only [zLet, List.getD_cons_zero]
  split <;> rfl
theorem en265_go {l rd : Int} {c0 c : rHp} (h : ¬ l ≥ c 1 0 8) : en265 c0 (0, [l, rd], c) = if (lPp l c).1 = 0 then .inl (0, [l + 1, zF2 .iadd rd (lPp l c).2.1], (lPp l c).2.2) else .inr (lPp l c) := by
  unfold en265 lPp
  simp only [zLet, List.getD_cons_zero, List.getD_cons_succ, ↓reduceIte]
  rw [if_neg h]
  by_cases a : (fn235 [l] c).1 = 0
  · rw [if_pos a, if_pos a]
    by_cases b : (fn263 [l] (fn235 [l] c).2.2).1 = 0
    · rw [if_pos b, if_pos b]
      by_cases d : (fn264 [l] (fn263 [l] (fn235 [l] c).2.2).2.2).1 = 0
      · rw [if_pos d, if_pos d]; rfl
      · rw [if_neg d, if_neg d]
        by_cases e : (fn264 [l] (fn263 [l] (fn235 [l] c).2.2).2.2).1 = 1
        · rw [if_pos e, if_pos e]; rfl
        · rw [if_neg e, if_neg e]; rfl
    · rw [if_neg b, if_neg b]
      by_cases e : (fn263 [l] (fn235 [l] c).2.2).1 = 1
      · rw [if_pos e, if_pos e]; rfl
      · rw [if_neg e, if_neg e]; rfl
  · rw [if_neg a, if_neg a]; rfl
theorem en78_bad {l : Int} {m0 m : rHp} (h : m 15 0 77 ≠ 0) : zLoop (en78 m0) (0, [l], m) = (0, 0, rUp (rUp m 15 0 59 0) 15 0 0 (m 15 0 77)) := by
  refine zLoop_inr ?_
  unfold en78
  simp only [zLet, List.getD_cons_zero, List.getD_cons_succ, ↓reduceIte, fn1_eq]
  by_cases b : l ≥ m 15 0 61
  · rw [if_pos b, if_pos h]
  · rw [if_neg b, if_pos h]
theorem run_lp {c0 m0 cB mB : rHp} : ∀ (n : Nat) (l : Int) (c m : rHp), (mB 15 0 61 - l).toNat ≤ n → 0 ≤ l → l ≤ mB 15 0 61 → mB 15 0 61 ≤ 100 → (yR N) c m → yQ cB mB c m → cB 1 0 8 = mB 15 0 61 → 0 ≤ m 15 0 73 → m 15 0 73 ≤ 2001 * l →
    ∃ o v v_q c_q m_q, zLoop (en265 c0) (0, [l, m 15 0 73], c) = (o, v, c_q) ∧ zLoop (en78 m0) (0, [l], m) = (0, v_q, m_q) ∧ ((o = 0 ∧ v = v_q ∧ ∃ c1 m1, (yR N) c1 m1 ∧ yQ cB mB c1 m1 ∧ v = m1 15 0 71 ∧ c_q = rUp (rUp (rUp c1 0 0 9 (m1 15 0 73)) 0 0 8 (c1 6 0 0)) 0 0 7 1 ∧ m_q = rUp (rUp (rUp (rUp m1 15 0 59 1) 15 0 0 0) 15 0 74 (m1 15 0 72)) 15 0 75 (m1 15 0 73)) ∨ (o = 1 ∧ v = 0 ∧ v_q = 0 ∧ m_q 15 0 0 = 3 ∧ m_q 15 0 59 = 0) ∨ (o = 4 ∧ v = 0 ∧ v_q = 0 ∧ m_q 15 0 0 = 2 ∧ m_q 15 0 59 = 0)) := by
  have fin : ∀ (l : Int) (c m : rHp), l ≥ mB 15 0 61 → (yR N) c m → yQ cB mB c m → cB 1 0 8 = mB 15 0 61 → zLoop (en265 c0) (0, [l, m 15 0 73], c) = (0, m 15 0 71, rUp (rUp (rUp c 0 0 9 (m 15 0 73)) 0 0 8 (c 6 0 0)) 0 0 7 1) ∧ zLoop (en78 m0) (0, [l], m) = (0, m 15 0 71, rUp (rUp (rUp (rUp m 15 0 59 1) 15 0 0 0) 15 0 74 (m 15 0 72)) 15 0 75 (m 15 0 73)) := by
    intro l c m hl h hQ h8
    constructor
    · refine zLoop_inr ?_
      unfold en265
      simp only [zLet, List.getD_cons_zero, List.getD_cons_succ, ↓reduceIte]
      rw [if_pos (show l ≥ c 1 0 8 by rw [hQ.c1, h8]; exact hl), h.tt.1]
    · refine zLoop_inr ?_
      unfold en78
      simp only [zLet, List.getD_cons_zero, List.getD_cons_succ, ↓reduceIte, fn1_eq]
      rw [if_pos (show l ≥ m 15 0 61 by rw [hQ.mJ 61 (by decide)]; exact hl), if_neg (fun z => z h.bad), h.bad]
  intro n
  induction n with
  | zero =>
    intro l c m hf l0 l1 l2 h hQ h8 q0 q1
    obtain ⟨f1, f2⟩ := fin l c m (by omega) h hQ h8
    exact ⟨0, _, _, _, _, f1, f2, Or.inl ⟨rfl, rfl, c, m, h, hQ, rfl, rfl, rfl⟩⟩
  | succ n ih =>
    intro l c m hf l0 l1 l2 h hQ h8 q0 q1
    by_cases e : l ≥ mB 15 0 61
    · obtain ⟨f1, f2⟩ := fin l c m e h hQ h8
      exact ⟨0, _, _, _, _, f1, f2, Or.inl ⟨rfl, rfl, c, m, h, hQ, rfl, rfl, rfl⟩⟩
    · have sC := en265_go (rd := m 15 0 73) (c0 := c0) (c := c) (show ¬ l ≥ c 1 0 8 by rw [hQ.c1, h8]; exact e)
      have sM : en78 m0 (0, [l], m) = .inl (0, [l + 1], (fn76 [l] m).2.2) := by
        unfold en78
        simp only [zLet, List.getD_cons_zero, List.getD_cons_succ, ↓reduceIte]
        rw [if_neg (show ¬ l ≥ m 15 0 61 by rw [hQ.mJ 61 (by decide)]; exact e), if_neg (fun z => z h.bad)]
      obtain ⟨o, v, c_q, m_q, z1, z2, z3⟩ := layer_two (l := l) h q0 (by omega)
      rw [z1] at sC
      rw [z2] at sM
      have sM : en78 m0 (0, [l], m) = .inl (0, [l + 1], m_q) := sM
      rcases z3 with ⟨eo, hR, hQ2, hv, v1, v2⟩ | ⟨eo, ev, hb⟩ | ⟨eo, ev, hb⟩
      · rw [eo] at sC
        have sC : en265 c0 (0, [l, m 15 0 73], c) = .inl (0, [l + 1, m_q 15 0 73], c_q) := by
          refine sC.trans ((if_pos rfl).trans ?_)
          show (.inl (0, [l + 1, zF2 .iadd (m 15 0 73) v], c_q) : zSt) = _
          rw [iadd_n q0 (by omega) (by omega) (by omega), hv]
        rw [zLoop_inl sC, zLoop_inl sM]
        exact ih (l + 1) c_q m_q (by omega) (by omega) (by omega) l2 hR (yQ_tr hQ hQ2) h8 (by omega) (by omega)
      · rw [eo, ev] at sC
        have sC : en265 c0 (0, [l, m 15 0 73], c) = .inr (1, 0, c_q) := sC.trans (if_neg (show ¬ (1 : Nat) = 0 by decide))
        refine ⟨1, 0, 0, c_q, _, zLoop_inr sC, (zLoop_inl sM).trans (en78_bad (by rw [hb]; decide)), Or.inr (Or.inl ⟨rfl, rfl, rfl, by rw [rUp_at]; exact hb, by rw [rUp_in, if_neg (by decide), rUp_at]⟩)⟩
      · rw [eo, ev] at sC
        have sC : en265 c0 (0, [l, m 15 0 73], c) = .inr (4, 0, c_q) := sC.trans (if_neg (show ¬ (4 : Nat) = 0 by decide))
        refine ⟨4, 0, 0, c_q, _, zLoop_inr sC, (zLoop_inl sM).trans (en78_bad (by rw [hb]; decide)), Or.inr (Or.inr ⟨rfl, rfl, rfl, by rw [rUp_at]; exact hb, by rw [rUp_in, if_neg (by decide), rUp_at]⟩)⟩
