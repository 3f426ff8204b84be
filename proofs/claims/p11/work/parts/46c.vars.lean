/-! ===== new PREDICATES, VARIABLES ===== -/
theorem newpred_two {c m : rHp} (hP : qP c m) {w f s n n0 : Int} (hW : qW pSm (m 59 0) n0 w f s) (hB : m 15 0 14 < 20) :
    ∃ c_q m_q, fn126 [w, n] c = (0, m 15 0 14, c_q) ∧ fn22 [f, s, n] m = (0, m 15 0 14, m_q) ∧ qP c_q m_q ∧ m_q 15 0 14 = m 15 0 14 + 1 ∧ m_q 66 0 (m 15 0 14) = n ∧ (∀ p, p ≠ m 15 0 14 → m_q 66 0 p = m 66 0 p) ∧ (∀ G, G ≠ 16 → G ≠ 17 → G ≠ 1 → c_q G = c G) ∧ (∀ j, j ≠ 7 → c_q 1 0 j = c 1 0 j) ∧ qFm [64, 65, 66] [14] m m_q := by
  have hs := qW_s hW
  obtain ⟨p1, p2, p3, p4⟩ := hP
  have h126 : fn126 [w, n] c = (0, m 15 0 14, rUp (rUp (rUp c 16 0 (m 15 0 14) w) 17 0 (m 15 0 14) n) 1 0 7 (m 15 0 14 + 1)) := by
    unfold fn126
    simp only [zLet, List.getD_cons_zero, List.getD_cons_succ, p1]
    rw [if_pos hB]
  have h22 := fn22_eq f s n m (by omega)
  have e59 : pPa m s n 59 = m 59 := by
    unfold pPa
    rw [rUp_grp (by decide), rUp_grp (by decide)]
  have e64 : ∀ j, pPb m f s n s 64 0 j = if 12 * m 15 0 14 ≤ j ∧ j < 12 * m 15 0 14 + s then m 59 0 (f + (j - 12 * m 15 0 14)) else m 64 0 j := by
    intro j
    unfold pPb
    by_cases hj : 12 * m 15 0 14 ≤ j ∧ j < 12 * m 15 0 14 + s
    · rw [if_pos hj, zCpy_in hj.1 hj.2, e59]
    · rw [if_neg hj, zCpy_off hj]
      unfold pPa
      rw [rUp_grp (by decide), rUp_grp (by decide)]
  have e65 : ∀ j, pPb m f s n s 65 0 j = if j = m 15 0 14 then s else m 65 0 j := by
    intro j
    unfold pPb pPa
    rw [zCpy_grp (by decide)]
    by_cases hj : j = m 15 0 14
    · rw [hj, rUp_at, if_pos rfl]
    · rw [rUp_ne (fun q => hj q.2.2), if_neg hj, rUp_grp (by decide)]
  have e66 : ∀ j, pPb m f s n s 66 0 j = if j = m 15 0 14 then n else m 66 0 j := by
    intro j
    unfold pPb pPa
    rw [zCpy_grp (by decide), rUp_grp (by decide)]
    by_cases hj : j = m 15 0 14
    · rw [hj, rUp_at, if_pos rfl]
    · rw [rUp_ne (fun q => hj q.2.2), if_neg hj]
  have eo : ∀ G : Nat, G ≠ 64 → G ≠ 65 → G ≠ 66 → pPb m f s n s G = m G := by
    intro G g1 g2 g3
    unfold pPb pPa
    rw [zCpy_grp g1, rUp_grp g2, rUp_grp g3]
  have r64 : rUp (pPb m f s n s) 15 0 14 (m 15 0 14 + 1) 64 = pPb m f s n s 64 := rUp_grp (by decide)
  have r65 : rUp (pPb m f s n s) 15 0 14 (m 15 0 14 + 1) 65 = pPb m f s n s 65 := rUp_grp (by decide)
  have r66 : rUp (pPb m f s n s) 15 0 14 (m 15 0 14 + 1) 66 = pPb m f s n s 66 := rUp_grp (by decide)
  refine ⟨_, _, h126, h22, ⟨?_, ?_, ?_, ?_⟩, rUp_at, ?_, ?_, ?_, ?_, ?_, ?_⟩
  · rw [rUp_at, rUp_at]
  · rw [rUp_at]; omega
  · rw [rUp_at]; omega
  · intro p h0 h1
    rw [rUp_at] at h1
    rw [r64, r65, r66, rUp_grp (show (16 : Nat) ≠ 1 by decide), rUp_grp (show (16 : Nat) ≠ 17 by decide), rUp_grp (show (17 : Nat) ≠ 1 by decide), e65, e66]
    by_cases hp : p = m 15 0 14
    · subst hp
      rw [if_pos rfl, if_pos rfl, rUp_at, rUp_at]
      refine ⟨qW_move hW (fun j j0 j1 => ?_) (by omega) (by omega), rfl⟩
      rw [e64, if_pos (by omega), show f + (12 * m 15 0 14 + j - 12 * m 15 0 14) = f + j by omega]
    · rw [if_neg hp, if_neg hp, rUp_ne (fun q => hp q.2.2), rUp_ne (fun q => hp q.2.2)]
      obtain ⟨q1, q2⟩ := p4 p h0 (by omega)
      have q3 := qW_s q1
      refine ⟨qW_move q1 (fun j j0 j1 => ?_) (by omega) (by omega), ?_⟩
      · rw [e64, if_neg (by omega)]
      · rw [rUp_grp (by decide)]; exact q2
  · rw [r66, e66, if_pos rfl]
  · intro p hp
    rw [r66, e66, if_neg hp]
  · intro G g1 g2 g3
    rw [rUp_grp g3, rUp_grp g2, rUp_grp g1]
  · intro j hj
    rw [rUp_ne (fun q => hj q.2.2), rUp_grp (by decide), rUp_grp (by decide)]
  · intro G g1 g2
    simp only [List.mem_cons, List.not_mem_nil, or_false, not_or] at g1
    rw [rUp_grp g2, eo G g1.1 g1.2.1 g1.2.2]
  · intro j hj
    simp only [List.mem_cons, List.not_mem_nil, or_false] at hj
    rw [rUp_ne (fun q => hj q.2.2), eo 15 (by decide) (by decide) (by decide)]
/-- is the word the VARIABLE v -/
noncomputable def pVm (g : rHp) (v : Int) : Bool := decide (g 83 0 v = g 15 0 38) && pSame (g 59 0) (g 82 0 v) (g 59 0) (g 15 0 37) (g 15 0 38)
noncomputable def pVa (g0 g1 : rHp) (v : Int) : rHp := rUp (rUp (rUp (rUp (rUp (rUp (rUp g1 82 0 v (g0 15 0 35)) 83 0 v (g1 15 0 38)) 84 0 v 0) 74 0 (g0 15 0 44) (g0 74 0 (g0 15 0 44) + 1)) 84 0 v 1) 15 0 39 v) 15 0 40 1
noncomputable def pVo (g0 g1 : rHp) (v : Int) : rHp := rUp (rUp (rUp g1 84 0 v (zF2 .iadd (g0 84 0 v) 1)) 15 0 39 v) 15 0 40 1
theorem en17_step (g0 g1 : rHp) (v : Int) : en17 g0 (0, [v], g1) = if v < g0 74 0 (g0 15 0 44) ∧ (!pVm g1 v) = true then .inl (0, [v + 1], g1) else
    .inr (if v ≠ 8 then (if g0 74 0 (g0 15 0 44) ≤ v then (0, 1, pVa g0 g1 v) else (0, 1, pVo g0 g1 v)) else (0, 0, (fn8 [g0 15 0 35] g1).2.2)) := by
  unfold en17
  simp only [zLet, List.getD_cons_zero, ↓reduceIte, fn16_eq, pBit_ge]
  by_cases h1 : v < g0 74 0 (g0 15 0 44)
  · rw [if_neg (show ¬ v ≥ g0 74 0 (g0 15 0 44) by omega), if_neg (show ¬ g0 74 0 (g0 15 0 44) ≤ v by omega)]
    by_cases h2 : pVm g1 v = true
    · rw [if_pos (show (decide (g1 83 0 v = g1 15 0 38) && pSame (g1 59 0) (g1 82 0 v) (g1 59 0) (g1 15 0 37) (g1 15 0 38)) = true from h2), if_neg (show ¬ (v < g0 74 0 (g0 15 0 44) ∧ (!pVm g1 v) = true) from fun h => by rw [h2] at h; simp at h)]
      by_cases h3 : v ≠ 8
      · rw [if_pos h3, if_pos h3]; rfl
      · rw [if_neg h3, if_neg h3]
    · rw [if_neg (show ¬ (decide (g1 83 0 v = g1 15 0 38) && pSame (g1 59 0) (g1 82 0 v) (g1 59 0) (g1 15 0 37) (g1 15 0 38)) = true from h2), if_pos (show v < g0 74 0 (g0 15 0 44) ∧ (!pVm g1 v) = true from ⟨h1, by simpa using h2⟩)]
  · rw [if_pos (show v ≥ g0 74 0 (g0 15 0 44) by omega), if_neg (show ¬ (v < g0 74 0 (g0 15 0 44) ∧ (!pVm g1 v) = true) from fun h => h1 h.1), if_pos (show g0 74 0 (g0 15 0 44) ≤ v by omega)]
    by_cases h3 : v ≠ 8
    · rw [if_pos h3, if_pos h3]; rfl
    · rw [if_neg h3, if_neg h3]
theorem fn17_loop {g0 g1 : rHp} : ∀ (f : Nat) (v : Int), (g0 74 0 (g0 15 0 44) - v).toNat ≤ f → zLoop (en17 g0) (0, [v], g1) =
    (if pIx (fun v => !pVm g1 v) (g0 74 0 (g0 15 0 44)) v ≠ 8 then (if g0 74 0 (g0 15 0 44) ≤ pIx (fun v => !pVm g1 v) (g0 74 0 (g0 15 0 44)) v then (0, 1, pVa g0 g1 (pIx (fun v => !pVm g1 v) (g0 74 0 (g0 15 0 44)) v)) else (0, 1, pVo g0 g1 (pIx (fun v => !pVm g1 v) (g0 74 0 (g0 15 0 44)) v))) else (0, 0, (fn8 [g0 15 0 35] g1).2.2)) := by
  intro f
  induction f with
  | zero =>
    intro v hf
    rw [zLoop_eq, en17_step, if_neg (show ¬ (v < g0 74 0 (g0 15 0 44) ∧ (!pVm g1 v) = true) from fun h => by omega), pIx_no (fun h => by omega)]
    rfl
  | succ f ih =>
    intro v hf
    rw [zLoop_eq, en17_step]
    by_cases h : v < g0 74 0 (g0 15 0 44) ∧ (!pVm g1 v) = true
    · rw [if_pos h, pIx_go h.1 h.2]
      exact ih (v + 1) (by omega)
    · rw [if_neg h, pIx_no h]
      rfl
/-- the reference's VARIABLE, its word being read -/
theorem fn17_eq {m m1 : rHp} (hw : fn12 [] m = (0, 1, m1)) (y : List Int) : fn17 y m =
    (if pIx (fun v => !pVm m1 v) (m 74 0 (m 15 0 44)) 0 ≠ 8 then (if m 74 0 (m 15 0 44) ≤ pIx (fun v => !pVm m1 v) (m 74 0 (m 15 0 44)) 0 then (0, 1, pVa m m1 (pIx (fun v => !pVm m1 v) (m 74 0 (m 15 0 44)) 0)) else (0, 1, pVo m m1 (pIx (fun v => !pVm m1 v) (m 74 0 (m 15 0 44)) 0))) else (0, 0, (fn8 [m 15 0 35] m1).2.2)) := by
  have h := fn17_loop (g0 := m) (g1 := m1) _ 0 (Nat.le_refl _)
  rw [← h]
  unfold fn17 dn17
  simp only [zLet, hw]
  rw [if_pos (by decide)]
  rfl
theorem fn17_no {m m1 : rHp} (hw : fn12 [] m = (0, 0, m1)) (y : List Int) : fn17 y m = (0, 0, m1) := by
  unfold fn17 dn17
  simp only [zLet, hw]
  rw [if_neg (by decide)]
  rfl
/-- the class_q slot of a word is where the reference stops -/
theorem slot_two {c m : rHp} (hV : qV c m) {w : Int} (hW : qW pCa (m 59 0) (m 15 0 34) w (m 15 0 37) (m 15 0 38)) : fn119 [w] c = (0, (if m 74 0 (m 15 0 44) ≤ pIx (fun v => !pVm m v) (m 74 0 (m 15 0 44)) 0 then -1 else pIx (fun v => !pVm m v) (m 74 0 (m 15 0 44)) 0), c) := by
  obtain ⟨v1, v2, v3, v4⟩ := hV
  have e : pIx (fun j => decide (c 22 0 j ≠ w)) (m 74 0 (m 15 0 44)) 0 = pIx (fun v => !pVm m v) (m 74 0 (m 15 0 44)) 0 :=
    pIx_congr _ _ (Nat.le_refl _) (fun j h1 h2 => qW_dec (Or.inr rfl) (v4 j h1 h2).1 hW)
  rw [fn119_eq, v1]
  unfold pFd
  rw [e]
/-- a VARIABLE is met by both -/
theorem var_two {c m m1 : rHp} (hw : fn12 [] m = (0, 1, m1)) (h37 : m1 15 0 37 = m 15 0 35) (h74 : m1 74 = m 74) (h84 : m1 84 = m 84) (h44 : m1 15 0 44 = m 15 0 44) (h34 : m 15 0 35 ≤ m1 15 0 34) (hV : qV c m1) {w : Int} (hW : qW pCa (m1 59 0) (m1 15 0 34) w (m1 15 0 37) (m1 15 0 38)) (y : List Int) :
    (∃ v c_q m_q, fn120 [w] c = (0, v, c_q) ∧ fn17 y m = (0, 1, m_q) ∧ 0 ≤ v ∧ v < m_q 74 0 (m_q 15 0 44) ∧ qV c_q m_q ∧ (m_q 74 0 (m_q 15 0 44) = m 74 0 (m 15 0 44) ∧ v = pIx (fun v => !pVm m1 v) (m 74 0 (m 15 0 44)) 0 ∨ m_q 74 0 (m_q 15 0 44) = m 74 0 (m 15 0 44) + 1 ∧ v = m 74 0 (m 15 0 44)) ∧ m_q 15 0 39 = v ∧ m_q 15 0 40 = 1 ∧ (∀ G, G ≠ 22 → G ≠ 23 → G ≠ 2 → c_q G = c G) ∧ (∀ j, j ≠ 13 → c_q 2 0 j = c 2 0 j) ∧ qFm [74, 82, 83, 84] [39, 40] m1 m_q) ∨
    (fn120 [w] c = (0, -1, c) ∧ fn17 y m = (0, 0, rUp m1 15 0 36 (m 15 0 35))) := by
  have hs := slot_two hV hW
  have h17 := fn17_eq hw y
  rw [fn8_eq h34] at h17
  obtain ⟨v1, v2, v3, v4⟩ := hV
  rw [h74, h44] at hs v1 v2 v3 v4
  have h120 : fn120 [w] c = if (fn119 [w] c).2.1 < 0 then (if m 74 0 (m 15 0 44) < 8 then (0, m 74 0 (m 15 0 44), rUp (rUp (rUp c 22 0 (m 74 0 (m 15 0 44)) w) 23 0 (m 74 0 (m 15 0 44)) 1) 2 0 13 (m 74 0 (m 15 0 44) + 1)) else (0, -1, c)) else (0, (fn119 [w] c).2.1, rUp c 23 0 (fn119 [w] c).2.1 (zF2 .iadd (c 23 0 (fn119 [w] c).2.1) 1)) := by
    unfold fn120
    simp only [zLet, List.getD_cons_zero, hs, v1]
  rw [hs] at h120
  have hix : 0 ≤ pIx (fun v => !pVm m1 v) (m 74 0 (m 15 0 44)) 0 := pIx_le
  have hit : pIx (fun v => !pVm m1 v) (m 74 0 (m 15 0 44)) 0 ≤ m 74 0 (m 15 0 44) := pIx_top v2
  generalize pIx (fun v => !pVm m1 v) (m 74 0 (m 15 0 44)) 0 = r at *
  by_cases h : m 74 0 (m 15 0 44) ≤ r
  · have hr : r = m 74 0 (m 15 0 44) := by omega
    simp only [if_pos h] at h120 h17
    rw [if_pos (by decide)] at h120
    by_cases h8 : m 74 0 (m 15 0 44) < 8
    · rw [if_pos h8] at h120
      rw [if_pos (show r ≠ 8 by omega)] at h17
      refine Or.inl ⟨_, _, _, h120, h17, v2, ?_⟩
      have e15 : ∀ j, j ≠ 39 → j ≠ 40 → pVa m m1 r 15 0 j = m1 15 0 j := by
        intro j j1 j2
        unfold pVa
        rw [rUp_ne (fun q => j2 q.2.2), rUp_ne (fun q => j1 q.2.2), rUp_grp (by decide), rUp_grp (by decide), rUp_grp (by decide), rUp_grp (by decide), rUp_grp (by decide)]
      have e74 : pVa m m1 r 74 0 (m 15 0 44) = m 74 0 (m 15 0 44) + 1 := by
        unfold pVa
        rw [rUp_grp (by decide), rUp_grp (by decide), rUp_grp (by decide), rUp_at]
      have e82 : ∀ j, pVa m m1 r 82 0 j = if j = r then m 15 0 35 else m1 82 0 j := by
        intro j
        unfold pVa
        rw [rUp_grp (by decide), rUp_grp (by decide), rUp_grp (by decide), rUp_grp (by decide), rUp_grp (by decide), rUp_grp (by decide)]
        by_cases hj : j = r
        · rw [hj, rUp_at, if_pos rfl]
        · rw [rUp_ne (fun q => hj q.2.2), if_neg hj]
      have e83 : ∀ j, pVa m m1 r 83 0 j = if j = r then m1 15 0 38 else m1 83 0 j := by
        intro j
        unfold pVa
        rw [rUp_grp (by decide), rUp_grp (by decide), rUp_grp (by decide), rUp_grp (by decide), rUp_grp (by decide)]
        by_cases hj : j = r
        · rw [hj, rUp_at, if_pos rfl]
        · rw [rUp_ne (fun q => hj q.2.2), if_neg hj, rUp_grp (by decide)]
      have e84 : ∀ j, pVa m m1 r 84 0 j = if j = r then 1 else m1 84 0 j := by
        intro j
        unfold pVa
        rw [rUp_grp (by decide), rUp_grp (by decide)]
        by_cases hj : j = r
        · rw [hj, rUp_at, if_pos rfl]
        · rw [rUp_ne (fun q => hj q.2.2), rUp_grp (by decide), rUp_ne (fun q => hj q.2.2), if_neg hj, rUp_grp (by decide), rUp_grp (by decide)]
      have eo : ∀ G : Nat, G ≠ 74 → G ≠ 82 → G ≠ 83 → G ≠ 84 → G ≠ 15 → pVa m m1 r G = m1 G := by
        intro G g1 g2 g3 g4 g5
        unfold pVa
        rw [rUp_grp g5, rUp_grp g5, rUp_grp g4, rUp_grp g1, rUp_grp g4, rUp_grp g3, rUp_grp g2]
      rw [e15 44 (by decide) (by decide), h44, e74]
      refine ⟨by omega, ⟨?_, ?_, ?_, ?_⟩, Or.inr ⟨rfl, rfl⟩, ?_, ?_, ?_, ?_, ?_, ?_⟩
      · rw [e15 44 (by decide) (by decide), h44, e74, rUp_at]
      · rw [e15 44 (by decide) (by decide), h44, e74]; omega
      · rw [e15 44 (by decide) (by decide), h44, e74]; omega
      · rw [e15 44 (by decide) (by decide), h44, e74, e15 34 (by decide) (by decide), eo 59 (by decide) (by decide) (by decide) (by decide) (by decide)]
        intro v q0 q1
        rw [e82, e83, e84, rUp_grp (show (22 : Nat) ≠ 2 by decide), rUp_grp (show (22 : Nat) ≠ 23 by decide), rUp_grp (show (23 : Nat) ≠ 2 by decide)]
        by_cases hv : v = r
        · rw [if_pos hv, if_pos hv, if_pos hv, hv, hr, rUp_at, rUp_at]
          rw [h37] at hW
          exact ⟨hW, rfl⟩
        · rw [if_neg hv, if_neg hv, if_neg hv, rUp_ne (fun q => hv (by rw [hr]; exact q.2.2)), rUp_ne (fun q => hv (by rw [hr]; exact q.2.2)), rUp_grp (by decide)]
          exact v4 v q0 (by omega)
      · unfold pVa
        rw [rUp_ne (by decide), rUp_at]
        exact hr
      · exact rUp_at
      · intro G g1 g2 g3
        rw [rUp_grp g3, rUp_grp g2, rUp_grp g1]
      · intro j hj
        rw [rUp_ne (fun q => hj q.2.2), rUp_grp (by decide), rUp_grp (by decide)]
      · intro G g1 g2
        simp only [List.mem_cons, List.not_mem_nil, or_false, not_or] at g1
        exact eo G g1.1 g1.2.1 g1.2.2.1 g1.2.2.2 g2
      · intro j hj
        simp only [List.mem_cons, List.not_mem_nil, or_false, not_or] at hj
        exact e15 j hj.1 hj.2
    · rw [if_neg h8] at h120
      rw [if_neg (show ¬ r ≠ 8 by omega)] at h17
      exact Or.inr ⟨h120, h17⟩
  · simp only [if_neg h] at h120 h17
    rw [if_neg (show ¬ r < 0 by omega)] at h120
    rw [if_pos (show r ≠ 8 by omega)] at h17
    refine Or.inl ⟨_, _, _, h120, h17, hix, ?_⟩
    have e15 : ∀ j, j ≠ 39 → j ≠ 40 → pVo m m1 r 15 0 j = m1 15 0 j := by
      intro j j1 j2
      unfold pVo
      rw [rUp_ne (fun q => j2 q.2.2), rUp_ne (fun q => j1 q.2.2), rUp_grp (by decide)]
    have e84 : ∀ j, pVo m m1 r 84 0 j = if j = r then zF2 .iadd (m 84 0 r) 1 else m1 84 0 j := by
      intro j
      unfold pVo
      rw [rUp_grp (by decide), rUp_grp (by decide)]
      by_cases hj : j = r
      · rw [hj, rUp_at, if_pos rfl]
      · rw [rUp_ne (fun q => hj q.2.2), if_neg hj]
    have eo : ∀ G : Nat, G ≠ 84 → G ≠ 15 → pVo m m1 r G = m1 G := by
      intro G g4 g5
      unfold pVo
      rw [rUp_grp g5, rUp_grp g5, rUp_grp g4]
    rw [e15 44 (by decide) (by decide), h44, eo 74 (by decide) (by decide), h74]
    refine ⟨by omega, ⟨?_, ?_, ?_, ?_⟩, Or.inl ⟨rfl, rfl⟩, ?_, ?_, ?_, ?_, ?_, ?_⟩
    · rw [e15 44 (by decide) (by decide), h44, eo 74 (by decide) (by decide), h74, rUp_grp (by decide)]
      exact v1
    · rw [e15 44 (by decide) (by decide), h44, eo 74 (by decide) (by decide), h74]; exact v2
    · rw [e15 44 (by decide) (by decide), h44, eo 74 (by decide) (by decide), h74]; exact v3
    · rw [e15 44 (by decide) (by decide), h44, eo 74 (by decide) (by decide), h74, e15 34 (by decide) (by decide), eo 59 (by decide) (by decide), eo 82 (by decide) (by decide), eo 83 (by decide) (by decide), rUp_grp (show (22 : Nat) ≠ 23 by decide)]
      intro v q0 q1
      obtain ⟨w1, w2⟩ := v4 v q0 q1
      refine ⟨w1, ?_⟩
      rw [e84]
      by_cases hv : v = r
      · rw [hv] at w2
        rw [if_pos hv, hv, rUp_at, w2, h84]
      · rw [if_neg hv, rUp_ne (fun q => hv q.2.2)]
        exact w2
    · unfold pVo
      rw [rUp_ne (by decide), rUp_at]
    · exact rUp_at
    · intro G g1 g2 g3
      rw [rUp_grp g2]
    · intro j hj
      rw [rUp_grp (by decide)]
    · intro G g1 g2
      simp only [List.mem_cons, List.not_mem_nil, or_false, not_or] at g1
      exact eo G g1.2.2.2 g2
    · intro j hj
      simp only [List.mem_cons, List.not_mem_nil, or_false, not_or] at hj
      exact e15 j hj.1 hj.2
