/-! ===== a WAY of a question arrives, by both ===== -/
variable {N : Int}
noncomputable def gAns (kn : Int) (c m : rHp) : Prop := c 8 (c 6 0 6) 1 = m 15 0 94 ∧ 0 ≤ m 15 0 94 ∧ ∀ i v, 0 ≤ i → i < m 15 0 94 → i < 100 → qVr v → qBt kn v = 1 → c 41 (c 6 0 6) (v + 8 * i) = m 111 0 (v + 8 * i)
noncomputable def qQ (kn : Int) (c m : rHp) : Prop := tX c m ∧ gAns kn c m ∧ c 6 0 9 = 2
noncomputable def j74 (m0 m : rHp) : Prop := j73 m0 m
theorem wJQ_a {m0 : rHp} {kn : Int} : wJQ (j74 m0) (qQ kn) := by
  refine ⟨fun m m_q h e => ?_, fun c c_q m m_q h ec em => ?_⟩
  · unfold j74 j73 j72 at h ⊢
    rw [e.1 73 (by decide) (by decide) (by decide), e.1 77 (by decide) (by decide) (by decide), e.1 78 (by decide) (by decide) (by decide), e.1 96 (by decide) (by decide) (by decide), e.1 100 (by decide) (by decide) (by decide)]
    exact h
  · obtain ⟨h1, h2, h3⟩ := h
    refine ⟨tX_fr h1 (fun K z => ec.1 K (by omega) (by omega) (by omega)) (fun K z => em.1 K (by omega) (by omega) (by omega)) (em.2 71 (by decide) (by decide)) (em.2 13 (by decide) (by decide)), ?_, ?_⟩
    · unfold gAns at h2 ⊢
      rw [ec.1 8 (by decide) (by decide) (by decide), ec.1 41 (by decide) (by decide) (by decide), ec.2 6 (by decide) (by decide), em.1 111 (by decide) (by decide) (by decide), em.2 94 (by decide) (by decide)]
      exact h2
    · rw [ec.2 9 (by decide) (by decide)]; exact h3
theorem zI_74 (m0 : rHp) : zI (j74 m0) 61 (m0 73 0 61) (fun g m => zLoop (en74 m0) (0, [g], m)) (fun g m => zLoop (en74 m0) (1, [g, g + 1 + 488], m)) := by
  have e8 : (8 : Int) * 61 = 488 := rfl
  have back : ∀ (g : Int) (m : rHp), zLoop (en74 m0) (1, [g + -1, g + 488], m) = zLoop (en74 m0) (1, [g - 1, g - 1 + 1 + 488], m) := fun g m => by
    rw [show g - 1 + 1 = g by omega, show g - 1 = g + -1 by omega]
  refine ⟨fun g m h => ?_, fun g m j h hn hk => ?_, fun g m j h g0 hk => ?_, fun g m j h hn hk hk4 => ?_, fun g m j h hn hk => ?_, fun g m j h g0 hk => ?_⟩
  · show zLoop (en74 m0) (0, [g], m) = _
    refine zLoop_inr ?_
    unfold en74
    simp only [zLet, List.getD_cons_zero, List.getD_cons_succ, ↓reduceIte]
    rw [if_pos h]
  · show zLoop (en74 m0) (0, [g], m) = zTk _ _ 61 g m (m 100 0 (m 78 0 (g + 8 * 61)))
    obtain ⟨j, j96, j100⟩ := j
    rw [j.2.1, e8] at hk
    unfold zTk
    rw [e8, j.2.2, j100, zLoop_eq]
    unfold en74
    simp only [zLet, List.getD_cons_zero, List.getD_cons_succ, ↓reduceIte]
    rw [if_neg (fun z => z h), if_pos hn, if_pos (show 0 ≤ -m0 77 0 (g + 488) + 4 by rw [hk]; decide), if_pos hk]
    by_cases a : (fn62 [61, g, m0 100 0 (m0 78 0 (g + 488))] m).2.1 ≥ 0
    · rw [if_pos a, if_pos a]
      by_cases b : m 15 0 72 + 1 ≤ 50000
      · rw [if_pos b, if_pos b]; rfl
      · rw [if_neg b, if_neg b]; rfl
    · rw [if_neg a, if_neg a]
      exact back g _
  · show zLoop (en74 m0) (1, [g, g + 1 + 488], m) = zTk _ _ 61 g m (m 96 0 (m 104 0 g))
    obtain ⟨j, j96, j100⟩ := j
    rw [j.2.1, e8] at hk
    unfold zTk
    rw [e8, j96, zLoop_eq]
    unfold en74
    simp only [zLet, List.getD_cons_zero, List.getD_cons_succ, ↓reduceIte, Nat.one_ne_zero]
    rw [if_neg (show ¬ g < 0 by omega), if_pos (show 0 ≤ -m0 77 0 (g + 488) + 4 by rw [hk]; decide), if_pos hk]
    by_cases a : (fn62 [61, g, m0 96 0 (m 104 0 g)] m).2.1 ≥ 0
    · rw [if_pos a, if_pos a]
      by_cases b : m 15 0 72 + 1 ≤ 50000
      · rw [if_pos b, if_pos b]; rfl
      · rw [if_neg b, if_neg b]; rfl
    · rw [if_neg a, if_neg a]
      exact back g _
  · show zLoop (en74 m0) (0, [g], m) = if 1 ≤ (fn64 [g + 8 * 61] m).2.1 then zLoop (en74 m0) (0, [g + 1], (fn64 [g + 8 * 61] m).2.2) else zLoop (en74 m0) (1, [g - 1, g - 1 + 1 + 488], (fn64 [g + 8 * 61] m).2.2)
    rw [j.1.2.1, e8] at hk hk4
    rw [e8, zLoop_eq]
    unfold en74
    simp only [zLet, List.getD_cons_zero, List.getD_cons_succ, ↓reduceIte]
    rw [if_neg (fun z => z h), if_pos hn, if_pos (show 0 ≤ -m0 77 0 (g + 488) + 4 by omega), if_neg hk]
    by_cases a : 1 ≤ (fn64 [g + 488] m).2.1
    · rw [if_pos a, if_pos a]; rfl
    · rw [if_neg a, if_neg a]
      exact back g _
  · show zLoop (en74 m0) (0, [g], m) = if 1 ≤ (fn65 [g + 8 * 61] m).2.1 then zLoop (en74 m0) (0, [g + 1], (fn65 [g + 8 * 61] m).2.2) else zLoop (en74 m0) (1, [g - 1, g - 1 + 1 + 488], (fn65 [g + 8 * 61] m).2.2)
    rw [j.1.2.1, e8] at hk
    rw [e8, zLoop_eq]
    unfold en74
    simp only [zLet, List.getD_cons_zero, List.getD_cons_succ, ↓reduceIte]
    rw [if_neg (fun z => z h), if_pos hn, if_neg (show ¬ 0 ≤ -m0 77 0 (g + 488) + 4 by omega)]
    by_cases a : 1 ≤ (fn65 [g + 488] m).2.1
    · rw [if_pos a, if_pos a]; rfl
    · rw [if_neg a, if_neg a]
      exact back g _
  · show zLoop (en74 m0) (1, [g, g + 1 + 488], m) = zLoop (en74 m0) (1, [g - 1, g - 1 + 1 + 488], m)
    rw [j.1.2.1, e8] at hk
    refine (zLoop_eq _ _).trans ?_
    unfold en74
    simp only [zLet, List.getD_cons_zero, List.getD_cons_succ, ↓reduceIte, Nat.one_ne_zero]
    rw [if_neg (show ¬ g < 0 by omega)]
    by_cases a : 0 ≤ -m0 77 0 (g + 488) + 4
    · rw [if_pos a, if_neg hk]
      exact back g _
    · rw [if_neg a]
      exact back g _
theorem z74_arr {m0 m : rHp} (h : m 15 0 77 = 0) : zLoop (en74 m0) (0, [m0 73 0 61], m) = zLoop (en74 m0) (1, [m0 73 0 61 - 1, m0 73 0 61 - 1 + 1 + 488], (fn66 [] m).2.2) := by
  rw [show m0 73 0 61 - 1 + 1 = m0 73 0 61 by omega, show m0 73 0 61 - 1 = m0 73 0 61 + -1 by omega]
  refine zLoop_inl ?_
  unfold en74
  simp only [zLet, List.getD_cons_zero, List.getD_cons_succ, ↓reduceIte]
  rw [if_neg (fun z => z h), if_neg (fun z => z rfl)]
/-- what the reference keeps of a WAY -/
theorem fn66_eq {m : rHp} (n0 : 0 ≤ m 15 0 94) : ∃ m_q, fn66 [] m = (0, 0, m_q) ∧ (∀ K, K ≠ 15 → K ≠ 111 → m_q K = m K) ∧ (∀ j, m_q 15 0 j = if j = 94 then m 15 0 94 + 1 else m 15 0 j) ∧ (∀ j, j < 8 * m 15 0 94 → m_q 111 0 j = m 111 0 j) ∧ (m 15 0 94 < 100 → ∀ v, 0 ≤ v → v < 8 → m_q 111 0 (v + 8 * m 15 0 94) = m 103 0 v) := by
  by_cases b : m 15 0 94 ≥ 100
  · refine ⟨rUp m 15 0 94 (m 15 0 94 + 1), ?_, fun K a _ => rUp_grp a, fun j => rUp_in, fun j _ => by rw [rUp_grp (by decide)], fun z => by omega⟩
    unfold fn66
    simp only [zLet]
    rw [if_pos b]
  · have e : fn66 [] m = (0, 0, rUp (rUp (rUp (rUp (rUp (rUp (rUp (rUp (rUp m 111 0 (8 * m 15 0 94) (m 103 0 0)) 111 0 (8 * m 15 0 94 + 1) (m 103 0 1)) 111 0 (8 * m 15 0 94 + 2) (m 103 0 2)) 111 0 (8 * m 15 0 94 + 3) (m 103 0 3)) 111 0 (8 * m 15 0 94 + 4) (m 103 0 4)) 111 0 (8 * m 15 0 94 + 5) (m 103 0 5)) 111 0 (8 * m 15 0 94 + 6) (m 103 0 6)) 111 0 (8 * m 15 0 94 + 7) (m 103 0 7)) 15 0 94 (m 15 0 94 + 1)) := by
      unfold fn66
      simp only [zLet]
      rw [if_neg b]
    refine ⟨_, e, fun K a d => ?_, fun j => ?_, fun j hj => ?_, fun _ v v0 v8 => ?_⟩
    · rw [rUp_grp a, rUp_grp d, rUp_grp d, rUp_grp d, rUp_grp d, rUp_grp d, rUp_grp d, rUp_grp d, rUp_grp d]
    · rw [rUp_in, rUp_grp (by decide), rUp_grp (by decide), rUp_grp (by decide), rUp_grp (by decide), rUp_grp (by decide), rUp_grp (by decide), rUp_grp (by decide), rUp_grp (by decide)]
    · rw [rUp_grp (by decide), rUp_in, rUp_in, rUp_in, rUp_in, rUp_in, rUp_in, rUp_in, rUp_in, if_neg (by omega), if_neg (by omega), if_neg (by omega), if_neg (by omega), if_neg (by omega), if_neg (by omega), if_neg (by omega), if_neg (by omega)]
    · rw [rUp_grp (by decide), rUp_in, rUp_in, rUp_in, rUp_in, rUp_in, rUp_in, rUp_in, rUp_in]
      by_cases e7 : v = 7
      · rw [if_pos (by omega), e7]
      rw [if_neg (by omega)]
      by_cases e6 : v = 6
      · rw [if_pos (by omega), e6]
      rw [if_neg (by omega)]
      by_cases e5 : v = 5
      · rw [if_pos (by omega), e5]
      rw [if_neg (by omega)]
      by_cases e4 : v = 4
      · rw [if_pos (by omega), e4]
      rw [if_neg (by omega)]
      by_cases e3 : v = 3
      · rw [if_pos (by omega), e3]
      rw [if_neg (by omega)]
      by_cases e2 : v = 2
      · rw [if_pos (by omega), e2]
      rw [if_neg (by omega)]
      by_cases e1 : v = 1
      · rw [if_pos (by omega), e1]
      rw [if_neg (by omega), if_pos (by omega), show v = 0 by omega]
theorem arr_a {m0 : rHp} {R : Int} {kb : Int → Int} : (wSp N) (j74 m0) (qQ (kb (m0 73 0 61))) 61 R (m0 73 0 61) kb (fun g m => zLoop (en74 m0) (0, [g], m)) (fun g m => zLoop (en74 m0) (1, [g, g + 1 + 488], m)) (m0 73 0 61) (fn245 []) := by
  intro c m h
  show (wOut N) (j74 m0) (qQ (kb (m0 73 0 61))) 61 R (m0 73 0 61) kb (fun g m => zLoop (en74 m0) (1, [g, g + 1 + 488], m)) (m0 73 0 61) c m (fn245 [] c) (zLoop (en74 m0) (0, [m0 73 0 61], m))
  rw [z74_arr h.bad]
  obtain ⟨q1, ⟨a1, a2, a3⟩, q3⟩ := h.qq
  obtain ⟨m_q, k1, k2, k3, k4, k5⟩ := fn66_eq a2
  rw [k1]
  have e244 : fn244 [] c = (0, 0, (fn242 [c 6 0 6] c).2.2) := by
    unfold fn244 dn244
    simp only [zLet]
    rw [if_neg (show ¬ c 6 0 9 ≠ 2 from fun z => z q3)]
    rfl
  have e242 : ∃ c_q, fn242 [c 6 0 6] c = (0, 0, c_q) ∧ (∀ K, K ≠ 8 → K ≠ 41 → c_q K = c K) ∧ c_q 8 (c 6 0 6) 1 = c 8 (c 6 0 6) 1 + 1 ∧ (∀ j, j < 8 * c 8 (c 6 0 6) 1 → c_q 41 (c 6 0 6) j = c 41 (c 6 0 6) j) ∧ (c 8 (c 6 0 6) 1 < 100 → ∀ v, 0 ≤ v → v < 8 → c_q 41 (c 6 0 6) (v + 8 * c 8 (c 6 0 6) 1) = c 37 0 v) := by
    unfold fn242
    simp only [zLet, List.getD_cons_zero]
    by_cases b : c 8 (c 6 0 6) 1 ≥ 100
    · rw [if_pos b]
      exact ⟨_, rfl, fun K a _ => rUp_grp a, rUp_at, fun j _ => by rw [rUp_grp (by decide)], fun z => by omega⟩
    · rw [if_neg b]
      refine ⟨_, rfl, fun K a d => by rw [rUp_grp a, zCpy_grp d], rUp_at, fun j hj => by rw [rUp_grp (by decide), zCpy_off (by omega)], fun _ v v0 v8 => ?_⟩
      rw [rUp_grp (by decide), zCpy_in (by omega) (by omega), show 0 + (v + 8 * c 8 (c 6 0 6) 1 - 8 * c 8 (c 6 0 6) 1) = v by omega]
  obtain ⟨c_q, x1, x2, x3, x4, x5⟩ := e242
  rw [x1] at e244
  have e245 : fn245 [] c = (0, 0, c_q) := by
    unfold fn245
    simp only [zLet, e244]
    exact if_pos trivial
  have c66 : c_q 6 = c 6 := x2 6 (by decide) (by decide)
  refine ⟨0, c_q, e245, Or.inl ⟨rfl, m_q, rfl, ?_⟩⟩
  refine wP_arr h (fun K z => x2 K (by omega) (by omega)) (fun K z => k2 K (by omega) (by omega)) (fun j hj => by rw [k3, if_neg (by omega)]) (by rw [k3, if_neg (by decide)]; exact Int.le_refl _) ?_ ?_ ?_ ?_ ?_
  · have := h.jm
    unfold j74 j73 j72 at this ⊢
    rw [k2 73 (by decide) (by decide), k2 77 (by decide) (by decide), k2 78 (by decide) (by decide), k2 96 (by decide) (by decide), k2 100 (by decide) (by decide)]
    exact this
  · refine ⟨tX_fr q1 (fun K z => x2 K (by omega) (by omega)) (fun K z => k2 K (by omega) (by omega)) (by rw [k3, if_neg (by decide)]) (by rw [k3, if_neg (by decide)]), ⟨?_, ?_, ?_⟩, ?_⟩
    · rw [c66, x3, k3, if_pos rfl, a1]
    · rw [k3, if_pos rfl]; omega
    · intro i v i0 i1 i100 v0 v1
      rw [k3, if_pos rfl] at i1
      rw [c66]
      by_cases b : i = m 15 0 94
      · rw [b, k5 (by omega) v v0.1 v0.2]
        have := x5 (by omega) v v0.1 v0.2
        rw [a1] at this
        rw [this]
        exact (h.bnd v v0 v1).1
      · have v08 := v0.2
        rw [k4 _ (by omega), x4 _ (by omega)]
        exact a3 i v i0 (by omega) i100 v0 v1
    · rw [c66]; exact q3
  · exact tT_fr h.tt (fun K z => x2 K (by omega) (by omega)) (fun K z => k2 K (by omega) (by omega)) (by rw [k3, if_neg (by decide)]) (by rw [k3, if_neg (by decide)])
  · rw [k2 99 (by decide) (by decide), k3, if_neg (by decide)]
    exact h.vt
  · unfold tG
    rw [x2 4 (by decide) (by decide), x2 28 (by decide) (by decide), x2 27 (by decide) (by decide)]
    exact ⟨Int.le_refl _, fun _ _ _ => ⟨rfl, fun _ _ _ => rfl⟩⟩
