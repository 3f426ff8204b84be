/-! ===== the steps of an ATOM's loops ===== -/
/-- behind an ARG: the class -/
noncomputable def qAf (i : Int) (r : zR) : zSt :=
  if 0 ≤ r.2.1 then
    (if r.2.1 = 41 then
      (if 1 ≤ (fn134 [] (rUp r.2.2 2 0 6 (r.2.2 2 0 6 + 1))).2.1 then .inr (0, 1, (fn134 [] (rUp r.2.2 2 0 6 (r.2.2 2 0 6 + 1))).2.2) else .inr (0, 0, (fn134 [] (rUp r.2.2 2 0 6 (r.2.2 2 0 6 + 1))).2.2))
     else if r.2.1 = 44 then .inl (0, [i + 1], rUp r.2.2 2 0 6 (r.2.2 2 0 6 + 1)) else .inr (0, 0, rUp r.2.2 2 0 4 (r.2.2 2 0 6)))
  else .inr (0, 0, rUp r.2.2 2 0 4 (r.2.2 2 0 6))
theorem fn143_one {g i k : Int} {c : rHp} : (fn143 [g, i, k] c).2.2 = c := by
  unfold fn143
  simp only [zLet, List.getD_cons_zero, List.getD_cons_succ]
  repeat' split
  all_goals rfl
theorem fn143_yes {g i k : Int} {c : rHp} (h : 1 ≤ (fn143 [g, i, k] c).2.1) : c 43 g i = 0 ∨ c 43 g i = 1 ∧ qBt k (c 44 g i) = 1 := by
  unfold fn143 at h
  simp only [zLet, List.getD_cons_zero, List.getD_cons_succ] at h
  by_cases h1 : c 43 g i = 1
  · rw [if_neg (fun q => q h1)] at h
    by_cases h2 : qBt k (c 44 g i) = 1
    · exact Or.inr ⟨h1, h2⟩
    · rw [if_pos (show zF2 .iand (zF2 .ishr k (c 44 g i)) 1 ≠ 1 from h2)] at h
      exact absurd h (show ¬ (1 : Int) ≤ 0 by decide)
  · rw [if_pos h1] at h
    by_cases h0 : c 43 g i = 0
    · exact Or.inl h0
    · rw [if_neg h0] at h
      exact absurd h (show ¬ (1 : Int) ≤ 0 by decide)
theorem en145_more {cS c c_q : rHp} {i : Int} (hi : i < 4) (h : fn142 [] c = (0, 1, c_q)) : ∃ c_q_q, (c_q_q = c_q ∨ c_q_q = rUp c_q 10 (qG cS) 9 i ∧ (c_q 43 (qG cS) i = 0 ∨ c_q 43 (qG cS) i = 1 ∧ qBt (cS 2 0 5) (c_q 44 (qG cS) i) = 1)) ∧ en145 cS (0, [i], c) = qAf i (fn114 [] c_q_q) := by
  by_cases h9 : c 10 (qG cS) 9 ≥ 0
  · refine ⟨c_q, Or.inl rfl, ?_⟩
    unfold en145 qAf
    simp only [zLet, List.getD_cons_zero, ↓reduceIte, h, fn109_eq]
    rw [if_neg (show ¬ i ≥ 4 by omega), if_pos (show (1 : Int) ≤ 1 by decide)]
    exact if_pos h9
  · by_cases h3 : 1 ≤ (fn143 [qG cS, i, cS 2 0 5] c_q).2.1
    · refine ⟨_, Or.inr ⟨rfl, fn143_yes h3⟩, ?_⟩
      unfold en145 qAf
      simp only [zLet, List.getD_cons_zero, ↓reduceIte, h, fn109_eq]
      rw [if_neg (show ¬ i ≥ 4 by omega), if_pos (show (1 : Int) ≤ 1 by decide)]
      refine (if_neg h9).trans ?_
      refine (if_pos h3).trans ?_
      simp only [fn143_one]
      rfl
    · refine ⟨c_q, Or.inl rfl, ?_⟩
      unfold en145 qAf
      simp only [zLet, List.getD_cons_zero, ↓reduceIte, h, fn109_eq]
      rw [if_neg (show ¬ i ≥ 4 by omega), if_pos (show (1 : Int) ≤ 1 by decide)]
      refine (if_neg h9).trans ?_
      refine (if_neg h3).trans ?_
      simp only [fn143_one]
theorem en145_bad {cS c c_q : rHp} {i : Int} (hi : i < 4) (h : fn142 [] c = (0, 0, c_q)) : en145 cS (0, [i], c) = .inr (0, 0, c_q) := by
  unfold en145
  simp only [zLet, List.getD_cons_zero, ↓reduceIte, h]
  rw [if_neg (show ¬ i ≥ 4 by omega), if_neg (show ¬ (1 : Int) ≤ 0 by decide)]
theorem en145_four {cS c c_q : rHp} {L : Int} (h : fn114 [] c = (0, L, c_q)) : en145 cS (0, [4], c) = .inr (0, 0, rUp c_q 2 0 4 (c_q 2 0 6)) := by
  unfold en145
  simp only [zLet, List.getD_cons_zero, ↓reduceIte, h, fn109_eq]
  rw [if_pos (show (4 : Int) ≥ 4 by decide)]
  split <;> rfl
/-- behind an ARG: the reference keeps it -/
noncomputable def qM5 (X : Int) (m : rHp) : rHp := rUp (rUp m 80 0 X (m 15 0 40)) 81 0 X (m 15 0 39)
noncomputable def qM6 (n0 X p : Int) (m : rHp) : rHp := if m 15 0 40 ≠ 1 then qM5 X m else if n0 = 0 then qM5 X m else qOw (qM5 X m) p (m 15 0 39) 1
noncomputable def qGt (n0 gets : Int) (m : rHp) : Int := if m 15 0 40 ≠ 1 then gets else if n0 = 0 then zF2 .ior gets (zF2 .ishl 1 (zF1 .l2i (m 15 0 39))) else zF2 .ior gets (zF2 .ishl 1 (m 15 0 39))
theorem en41_more {mS m m1 m_q m7 : rHp} {n0 gets n : Int} (h7 : fn7 [] m = (0, 0, m1)) (hn : n ≠ 4) (h20 : fn20 [1] m1 = (0, 1, m_q)) (h7_q : fn7 [] (qM6 n0 (n + (4 * mS 73 0 (mS 15 0 44) + 32 * mS 15 0 44)) (m1 15 0 35) m_q) = (0, 0, m7)) (h34 : m7 15 0 34 = mS 15 0 34) :
    en41 mS (0, [n0, 1, gets, n], m) = if m7 15 0 35 < mS 15 0 34 ∧ m7 59 0 (m7 15 0 35) = 44 then .inl (0, [n0, 1, qGt n0 gets m_q, n + 1], rUp m7 15 0 35 (m7 15 0 35 + 1)) else .inl (0, [n0, 0, qGt n0 gets m_q, n + 1], m7) := by
  have tail : ∀ q : Int, (if 0 ≤ -m7 15 0 35 + mS 15 0 34 + -1 then (if (fn6 [m7 15 0 35] m7).2.1 ≠ 44 then (Sum.inl (0, [n0, 0, q, n + 1], (fn6 [m7 15 0 35] m7).2.2) : zSt) else .inl (0, [n0, 1, q, n + 1], rUp (fn6 [m7 15 0 35] m7).2.2 15 0 35 (m7 15 0 35 + 1))) else .inl (0, [n0, 0, q, n + 1], (fn6 [m7 15 0 35] m7).2.2)) = if m7 15 0 35 < mS 15 0 34 ∧ m7 59 0 (m7 15 0 35) = 44 then .inl (0, [n0, 1, q, n + 1], rUp m7 15 0 35 (m7 15 0 35 + 1)) else .inl (0, [n0, 0, q, n + 1], m7) := by
    intro q
    rw [fn6_eq]
    by_cases h : m7 15 0 35 < mS 15 0 34
    · rw [if_pos (by omega)]
      have hb : pB (m7 59 0) (m7 15 0 34) (m7 15 0 35) = m7 59 0 (m7 15 0 35) := pB_in (by omega)
      simp only [hb]
      by_cases h2 : m7 59 0 (m7 15 0 35) = 44
      · rw [if_neg (fun x => x h2), if_pos ⟨h, h2⟩]
      · rw [if_pos h2, if_neg (fun x => h2 x.2)]
    · rw [if_neg (by omega), if_neg (fun x => h x.1)]
  unfold qM6 at h7_q
  unfold qGt
  unfold en41
  simp only [zLet, List.getD_cons_zero, List.getD_cons_succ, ↓reduceIte, h7, h20]
  rw [if_neg (show ¬ (1 : Int) = 0 by decide), if_pos hn, if_pos (show (1 : Int) ≤ 1 by decide)]
  by_cases hs : m_q 15 0 40 ≠ 1
  · rw [if_pos hs] at h7_q
    have h7_q_q : fn7 [] (rUp (rUp m_q 80 0 (n + (4 * mS 73 0 (mS 15 0 44) + 32 * mS 15 0 44)) (m_q 15 0 40)) 81 0 (n + (4 * mS 73 0 (mS 15 0 44) + 32 * mS 15 0 44)) (m_q 15 0 39)) = (0, 0, m7) := h7_q
    simp only [if_pos hs, h7_q_q]
    exact tail _
  · rw [if_neg hs] at h7_q
    simp only [if_neg hs]
    by_cases h0 : n0 = 0
    · rw [if_pos h0] at h7_q
      have h7_q_q : fn7 [] (rUp (rUp m_q 80 0 (n + (4 * mS 73 0 (mS 15 0 44) + 32 * mS 15 0 44)) (m_q 15 0 40)) 81 0 (n + (4 * mS 73 0 (mS 15 0 44) + 32 * mS 15 0 44)) (m_q 15 0 39)) = (0, 0, m7) := h7_q
      simp only [if_pos h0, h7_q_q]
      exact tail _
    · rw [if_neg h0] at h7_q
      have h7_q_q : fn7 [] (qOw (rUp (rUp m_q 80 0 (n + (4 * mS 73 0 (mS 15 0 44) + 32 * mS 15 0 44)) (m_q 15 0 40)) 81 0 (n + (4 * mS 73 0 (mS 15 0 44) + 32 * mS 15 0 44)) (m_q 15 0 39)) (m1 15 0 35) (m_q 15 0 39) 1) = (0, 0, m7) := h7_q
      simp only [if_neg h0, fn25_one, h7_q_q]
      exact tail _
theorem en41_bad {mS m m1 m_q : rHp} {n0 gets n : Int} (h7 : fn7 [] m = (0, 0, m1)) (hn : n ≠ 4) (h20 : fn20 [1] m1 = (0, 0, m_q)) : en41 mS (0, [n0, 1, gets, n], m) = .inr (0, 0, m_q) := by
  unfold en41
  simp only [zLet, List.getD_cons_zero, List.getD_cons_succ, ↓reduceIte, h7, h20]
  rw [if_neg (show ¬ (1 : Int) = 0 by decide), if_pos hn, if_neg (show ¬ (1 : Int) ≤ 0 by decide)]
theorem en41_four {mS m m1 : rHp} {n0 gets : Int} (h7 : fn7 [] m = (0, 0, m1)) : en41 mS (0, [n0, 1, gets, 4], m) = .inr (0, 0, (fn8 [m1 15 0 35] m1).2.2) := by
  unfold en41
  simp only [zLet, List.getD_cons_zero, List.getD_cons_succ, ↓reduceIte, h7]
  rw [if_neg (show ¬ (1 : Int) = 0 by decide), if_neg (fun q => q rfl)]
/-- the reference needs a sign -/
theorem fn24_eq {x : Int} {m : rHp} (hsk : pSk (m 59 0) (m 15 0 34) (m 15 0 35) = m 15 0 35) (hA : m 15 0 35 ≤ m 15 0 34) : fn24 [x] m = if m 15 0 35 < m 15 0 34 ∧ m 59 0 (m 15 0 35) = x then (0, 1, rUp m 15 0 35 (m 15 0 35 + 1)) else (0, 0, rUp m 15 0 36 (m 15 0 35)) := by
  have f7 : fn7 [] m = (0, 0, m) := by rw [fn7_eq, hsk, rUp_self rfl]
  unfold fn24
  simp only [zLet, List.getD_cons_zero, f7, fn6_eq, fn8_eq hA]
  by_cases h : m 15 0 35 < m 15 0 34
  · rw [if_pos (show (0 : Int) ≤ -m 15 0 35 + m 15 0 34 + -1 by omega), pB_in h]
    by_cases h2 : m 59 0 (m 15 0 35) = x
    · rw [if_pos h2, if_pos ⟨h, h2⟩]
    · rw [if_neg h2, if_neg (fun q => h2 q.2)]
  · rw [if_neg (show ¬ (0 : Int) ≤ -m 15 0 35 + m 15 0 34 + -1 by omega), if_neg (fun q => h q.1)]
