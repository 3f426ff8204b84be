/-! ===== a WAY of a RULE with # : the reference's row; both together ===== -/
variable {N : Int}
theorem i_of {z : Int} (h : -2147483648 ≤ z) (h2 : z ≤ 2147483647) : (Int32.ofInt z).toInt = z := Int32.toInt_ofInt_of_le (by simp; omega) (by simp; omega)
theorem l2i_s {v : Int} (h : -2147483648 ≤ v) (h2 : v ≤ 2147483647) : zF1 .l2i v = v := by
  have e : zF1 .l2i v = (Int64.ofInt v).toInt32.toInt := rfl
  rw [e, Int64.toInt32_ofInt, i_of h h2]
theorem iadd_0 {v : Int} (h : -2147483648 ≤ v) (h2 : v ≤ 2147483647) : zF2 .iadd 0 v = v := by
  have e : zF2 .iadd 0 v = (Int32.ofInt 0 + Int32.ofInt v).toInt := rfl
  rw [e, Int32.toInt_add, i_of (by decide) (by decide), i_of h h2, Int.zero_add]
  exact Int.bmod_eq_of_le (by omega) (by omega)
theorem en70_hit {r i : Int} {m g : rHp} (eg : ∀ K : Nat, K ≠ 102 → g K = m K) (hw : i < m 15 0 90) (i2 : i ≠ 2000) (hr : pRm g i = true) (hv : m 71 0 r ≠ 1 → (vOk N) (m 103 0 (m 72 0 r))) :
    ∃ m_q, en70 m (0, [r, i], g) = .inr (0, 0, m_q) ∧ mTl (m 71 0 r) (m 103 0 (m 72 0 r)) i g m_q ∧ (∀ K, K ≠ 106 → K ≠ 107 → K ≠ 108 → K ≠ 109 → m_q K = g K) ∧ ∀ j, j ≠ i → m_q 106 0 j = g 106 0 j ∧ m_q 107 0 j = g 107 0 j ∧ m_q 108 0 j = g 108 0 j ∧ m_q 109 0 j = g 109 0 j := by
  by_cases h1 : m 71 0 r = 1
  · unfold en70
    simp only [zLet, List.getD_cons_zero, List.getD_cons_succ, ↓reduceIte, fn69_eq]
    rw [if_neg (show ¬ i ≥ m 15 0 90 by omega), if_pos hr, if_pos (Int.le_refl 1), if_pos i2, ← eg 106 (by decide), if_neg (fun z => z h1)]
    refine ⟨_, rfl, ⟨rUp_at, fun y => absurd h1 y, fun y => absurd h1 y⟩, fun K a b d e => by rw [rUp_grp a], fun j hj => ⟨by rw [rUp_ne (fun z => hj z.2.2)], by rw [rUp_grp (by decide)], by rw [rUp_grp (by decide)], by rw [rUp_grp (by decide)]⟩⟩
  · have hv := hv h1
    unfold en70
    simp only [zLet, List.getD_cons_zero, List.getD_cons_succ, ↓reduceIte, fn69_eq, fn55_eq hv]
    rw [if_neg (show ¬ i ≥ m 15 0 90 by omega), if_pos hr, if_pos (Int.le_refl 1), if_pos i2, ← eg 106 (by decide), ← eg 107 (by decide), ← eg 108 (by decide), ← eg 109 (by decide), if_pos (show m 71 0 r ≠ 1 from h1)]
    generalize m 71 0 r = h at h1 ⊢
    generalize m 103 0 (m 72 0 r) = v at hv ⊢
    by_cases b : v < 1099511627776
    · rw [if_pos b, if_pos (Int.le_refl 1)]
      have four : ∀ (w : Int), (if g 109 0 i = 0 then v else if h ≠ 3 then (if v ≤ g 108 0 i then g 108 0 i else v) else (if v ≥ g 108 0 i then g 108 0 i else v)) = w → ∀ x : rHp, (x = rUp (rUp (rUp (rUp g 106 0 i (zF2 .iadd (g 106 0 i) 1)) 107 0 i (zF2 .iadd (g 107 0 i) (zF1 .l2i v))) 108 0 i w) 109 0 i 1 ∨ (w = g 108 0 i ∧ x = rUp (rUp (rUp g 106 0 i (zF2 .iadd (g 106 0 i) 1)) 107 0 i (zF2 .iadd (g 107 0 i) (zF1 .l2i v))) 109 0 i 1)) → mTl h v i g x ∧ (∀ K, K ≠ 106 → K ≠ 107 → K ≠ 108 → K ≠ 109 → x K = g K) ∧ ∀ j, j ≠ i → x 106 0 j = g 106 0 j ∧ x 107 0 j = g 107 0 j ∧ x 108 0 j = g 108 0 j ∧ x 109 0 j = g 109 0 j := by
        intro w hw x hx
        rcases hx with hx | ⟨hx1, hx⟩
        · rw [hx]
          refine ⟨⟨?_, fun _ _ => ⟨?_, rUp_at, ?_⟩, fun _ y => absurd b y⟩, fun K a1 a2 a3 a4 => by rw [rUp_grp a4, rUp_grp a3, rUp_grp a2, rUp_grp a1], fun j hj => ⟨?_, ?_, ?_, ?_⟩⟩
          · rw [rUp_grp (by decide), rUp_grp (by decide), rUp_grp (by decide), rUp_at]
          · rw [rUp_grp (by decide), rUp_grp (by decide), rUp_at]
          · rw [rUp_grp (by decide), rUp_at, hw]
          · rw [rUp_grp (by decide), rUp_grp (by decide), rUp_grp (by decide), rUp_ne (fun z => hj z.2.2)]
          · rw [rUp_grp (by decide), rUp_grp (by decide), rUp_ne (fun z => hj z.2.2), rUp_grp (by decide)]
          · rw [rUp_grp (by decide), rUp_ne (fun z => hj z.2.2), rUp_grp (by decide), rUp_grp (by decide)]
          · rw [rUp_ne (fun z => hj z.2.2), rUp_grp (by decide), rUp_grp (by decide), rUp_grp (by decide)]
        · rw [hx]
          refine ⟨⟨?_, fun _ _ => ⟨?_, rUp_at, ?_⟩, fun _ y => absurd b y⟩, fun K a1 a2 a3 a4 => by rw [rUp_grp a4, rUp_grp a2, rUp_grp a1], fun j hj => ⟨?_, ?_, ?_, ?_⟩⟩
          · rw [rUp_grp (by decide), rUp_grp (by decide), rUp_at]
          · rw [rUp_grp (by decide), rUp_at]
          · rw [rUp_grp (by decide), rUp_grp (by decide), rUp_grp (by decide), hw, hx1]
          · rw [rUp_grp (by decide), rUp_grp (by decide), rUp_ne (fun z => hj z.2.2)]
          · rw [rUp_grp (by decide), rUp_ne (fun z => hj z.2.2), rUp_grp (by decide)]
          · rw [rUp_grp (by decide), rUp_grp (by decide), rUp_grp (by decide)]
          · rw [rUp_ne (fun z => hj z.2.2), rUp_grp (by decide), rUp_grp (by decide)]
      by_cases d : g 109 0 i = 0
      · rw [if_pos d]
        exact ⟨_, rfl, four v (if_pos d) _ (Or.inl rfl)⟩
      · rw [if_neg d]
        by_cases e : h = 3
        · rw [if_neg (show ¬ h ≠ 3 from fun z => z e)]
          by_cases k : v ≥ g 108 0 i
          · rw [if_pos k]
            exact ⟨_, rfl, four (g 108 0 i) ((if_neg d).trans ((if_neg (fun z => z e)).trans (if_pos k))) _ (Or.inr ⟨rfl, rfl⟩)⟩
          · rw [if_neg k]
            exact ⟨_, rfl, four v ((if_neg d).trans ((if_neg (fun z => z e)).trans (if_neg k))) _ (Or.inl rfl)⟩
        · rw [if_pos (show h ≠ 3 from e)]
          by_cases k : v ≤ g 108 0 i
          · rw [if_pos k]
            exact ⟨_, rfl, four (g 108 0 i) ((if_neg d).trans ((if_pos e).trans (if_pos k))) _ (Or.inr ⟨rfl, rfl⟩)⟩
          · rw [if_neg k]
            exact ⟨_, rfl, four v ((if_neg d).trans ((if_pos e).trans (if_neg k))) _ (Or.inl rfl)⟩
    · rw [if_neg b, if_neg (show ¬ (1 : Int) ≤ 0 by decide)]
      refine ⟨_, rfl, ⟨rUp_at, fun _ y => absurd y b, fun _ _ => ⟨by rw [rUp_grp (by decide)], by rw [rUp_grp (by decide)], by rw [rUp_grp (by decide)]⟩⟩, fun K a _ _ _ => by rw [rUp_grp a], fun j hj => ⟨by rw [rUp_ne (fun z => hj z.2.2)], by rw [rUp_grp (by decide)], by rw [rUp_grp (by decide)], by rw [rUp_grp (by decide)]⟩⟩
/-- the value that is tallied -/
noncomputable def v0 (m : rHp) (r : Int) : Int := m 103 0 (m 72 0 r)
/-- the four ARGS of a new row -/
noncomputable def rM4 (w : Int) (g : rHp) : rHp := rUp (rUp (rUp (rUp g 105 0 (4 * w + 0) (g 102 0 0)) 105 0 (4 * w + 1) (g 102 0 1)) 105 0 (4 * w + 2) (g 102 0 2)) 105 0 (4 * w + 3) (g 102 0 3)
theorem rM4_grp {w : Int} {g : rHp} {K : Nat} (h : K ≠ 105) : rM4 w g K = g K := by
  unfold rM4
  rw [rUp_grp h, rUp_grp h, rUp_grp h, rUp_grp h]
theorem rM4_new {w k : Int} {g : rHp} (k0 : 0 ≤ k) (k4 : k < 4) : rM4 w g 105 0 (k + 4 * w) = g 102 0 k := by
  unfold rM4
  rw [rUp_in, rUp_in, rUp_in, rUp_in]
  by_cases e3 : k = 3
  · rw [if_pos (by omega), e3]
  · rw [if_neg (by omega)]
    by_cases e2 : k = 2
    · rw [if_pos (by omega), e2]
    · rw [if_neg (by omega)]
      by_cases e1 : k = 1
      · rw [if_pos (by omega), e1]
      · rw [if_neg (by omega), if_pos (by omega), show k = 0 by omega]
theorem rM4_old {w j : Int} {g : rHp} (h : j < 4 * w) : rM4 w g 105 0 j = g 105 0 j := by
  unfold rM4
  rw [rUp_in, rUp_in, rUp_in, rUp_in, if_neg (by omega), if_neg (by omega), if_neg (by omega), if_neg (by omega)]
theorem en70_fill {r k w : Int} {m g : rHp} (h : k < 4) : en70 m (1, [r, k, w], g) = .inl (1, [r, k + 1, w], rUp g 105 0 (4 * w + k) (g 102 0 k)) := by
  unfold en70
  simp only [zLet, List.getD_cons_zero, List.getD_cons_succ, ↓reduceIte, Nat.one_ne_zero]
  rw [if_neg (show ¬ k ≥ 4 by omega)]
theorem en70_new {r w : Int} {m g : rHp} (hw : m 15 0 90 = w) (hv : m 71 0 r ≠ 1 → (vOk N) (m 103 0 (m 72 0 r))) :
    ∃ m_q, zLoop (en70 m) (1, [r, 0, w], g) = (0, 0, m_q) ∧ mTl (m 71 0 r) (m 103 0 (m 72 0 r)) w (rUp (rUp (rUp (rM4 w g) 106 0 w 0) 107 0 w 0) 109 0 w 0) m_q ∧ (∀ K, K ≠ 15 → K ≠ 105 → K ≠ 106 → K ≠ 107 → K ≠ 108 → K ≠ 109 → m_q K = g K) ∧ m_q 105 = rM4 w g 105 ∧ (∀ j, m_q 15 0 j = if j = 90 then w + 1 else g 15 0 j) ∧ ∀ j, j ≠ w → m_q 106 0 j = g 106 0 j ∧ m_q 107 0 j = g 107 0 j ∧ m_q 108 0 j = g 108 0 j ∧ m_q 109 0 j = g 109 0 j := by
  have e4 : zLoop (en70 m) (1, [r, 0, w], g) = zLoop (en70 m) (1, [r, 4, w], rM4 w g) := by
    rw [zLoop_inl (en70_fill (by decide)), zLoop_inl (en70_fill (by decide)), zLoop_inl (en70_fill (by decide)), zLoop_inl (en70_fill (by decide))]
    unfold rM4
    rw [rUp_grp (G_q := 102) (by decide), rUp_grp (G_q := 102) (by decide), rUp_grp (G_q := 102) (by decide)]
    rfl
  rw [e4, zLoop_eq]
  have xg := @rM4_grp w g
  generalize rM4 w g = x at *
  have i01 : zF2 .iadd 0 1 = 1 := (iadd_s (a := 0) (by decide) (by decide)).1
  obtain ⟨y, hy⟩ : ∃ y, rUp (rUp (rUp (rUp (rUp x 106 0 w 0) 107 0 w 0) 109 0 w 0) 15 0 90 (w + 1)) 106 0 w 1 = y := ⟨_, rfl⟩
  have run : en70 m (1, [r, 4, w], x) = if m 71 0 r ≠ 1 then (if v0 m r < 1099511627776 then .inr (0, 0, rUp (rUp (rUp y 107 0 w (zF1 .l2i (v0 m r))) 108 0 w (v0 m r)) 109 0 w 1) else .inr (0, 0, y)) else .inr (0, 0, y) := by
    rw [← hy]
    by_cases h1 : m 71 0 r = 1
    · unfold en70
      simp only [zLet, List.getD_cons_zero, List.getD_cons_succ, ↓reduceIte, Nat.one_ne_zero, hw]
      rw [if_pos (show (4 : Int) ≥ 4 by decide), if_neg (fun z => z h1), if_neg (fun z => z h1)]
    · have hv := hv h1
      unfold en70 v0
      simp only [zLet, List.getD_cons_zero, List.getD_cons_succ, ↓reduceIte, Nat.one_ne_zero, fn55_eq hv, hw]
      rw [if_pos (show (4 : Int) ≥ 4 by decide), if_pos (show m 71 0 r ≠ 1 from h1), if_pos (show m 71 0 r ≠ 1 from h1)]
      by_cases b : m 103 0 (m 72 0 r) < 1099511627776
      · rw [if_pos b, if_pos (Int.le_refl 1), if_pos b]
      · rw [if_neg b, if_neg (show ¬ (1 : Int) ≤ 0 by decide), if_neg b]
  rw [run]
  show ∃ m_q, _ ∧ mTl (m 71 0 r) (v0 m r) w _ m_q ∧ _
  have hv : m 71 0 r ≠ 1 → (vOk N) (v0 m r) := hv
  generalize m 71 0 r = h at hv ⊢
  generalize v0 m r = v at hv ⊢
  have z106 : rUp (rUp (rUp x 106 0 w 0) 107 0 w 0) 109 0 w 0 106 0 w = 0 := by rw [rUp_grp (by decide), rUp_grp (by decide), rUp_at]
  have z107 : rUp (rUp (rUp x 106 0 w 0) 107 0 w 0) 109 0 w 0 107 0 w = 0 := by rw [rUp_grp (by decide), rUp_at]
  have z109 : rUp (rUp (rUp x 106 0 w 0) 107 0 w 0) 109 0 w 0 109 0 w = 0 := rUp_at
  have z108 : rUp (rUp (rUp x 106 0 w 0) 107 0 w 0) 109 0 w 0 108 0 w = g 108 0 w := by rw [rUp_grp (by decide), rUp_grp (by decide), rUp_grp (by decide), xg (by decide)]
  have yK : ∀ K, K ≠ 15 → K ≠ 106 → K ≠ 107 → K ≠ 109 → y K = x K := fun K a b d e => by rw [← hy, rUp_grp b, rUp_grp a, rUp_grp e, rUp_grp d, rUp_grp b]
  have y15 : ∀ j, y 15 0 j = if j = 90 then w + 1 else g 15 0 j := fun j => by rw [← hy, rUp_grp (by decide), rUp_in, rUp_grp (by decide), rUp_grp (by decide), rUp_grp (by decide), xg (by decide)]
  have y106 : ∀ j, y 106 0 j = if j = w then 1 else g 106 0 j := fun j => by
    rw [← hy, rUp_in]
    by_cases e : j = w
    · rw [if_pos e, if_pos e]
    · rw [if_neg e, if_neg e, rUp_grp (by decide), rUp_grp (by decide), rUp_grp (by decide), rUp_ne (fun q => e q.2.2), xg (by decide)]
  have y107 : ∀ j, y 107 0 j = if j = w then 0 else g 107 0 j := fun j => by rw [← hy, rUp_grp (by decide), rUp_grp (by decide), rUp_grp (by decide), rUp_in, rUp_grp (by decide), xg (by decide)]
  have y109 : ∀ j, y 109 0 j = if j = w then 0 else g 109 0 j := fun j => by rw [← hy, rUp_grp (by decide), rUp_grp (by decide), rUp_in, rUp_grp (by decide), rUp_grp (by decide), xg (by decide)]
  have y108 : y 108 = g 108 := by rw [yK 108 (by decide) (by decide) (by decide) (by decide), xg (by decide)]
  have plain : (h = 1 ∨ ¬ v < 1099511627776) → mTl h v w (rUp (rUp (rUp x 106 0 w 0) 107 0 w 0) 109 0 w 0) y ∧ (∀ K, K ≠ 15 → K ≠ 105 → K ≠ 106 → K ≠ 107 → K ≠ 108 → K ≠ 109 → y K = g K) ∧ y 105 = x 105 ∧ (∀ j, y 15 0 j = if j = 90 then w + 1 else g 15 0 j) ∧ ∀ j, j ≠ w → y 106 0 j = g 106 0 j ∧ y 107 0 j = g 107 0 j ∧ y 108 0 j = g 108 0 j ∧ y 109 0 j = g 109 0 j := by
    intro hc
    refine ⟨⟨?_, fun a b => ?_, fun a b => ⟨?_, ?_, ?_⟩⟩, fun K a1 a2 a3 a4 a5 a6 => by rw [yK K a1 a3 a4 a6, xg a2], yK 105 (by decide) (by decide) (by decide) (by decide), y15, fun j hj => ⟨by rw [y106, if_neg hj], by rw [y107, if_neg hj], by rw [y108], by rw [y109, if_neg hj]⟩⟩
    · rw [y106, if_pos rfl, z106, i01]
    · rcases hc with hc | hc
      · exact absurd hc a
      · exact absurd b hc
    · rw [y107, if_pos rfl, z107]
    · rw [y108, z108]
    · rw [y109, if_pos rfl, z109]
  by_cases h1 : h = 1
  · rw [if_neg (fun q => q h1)]
    exact ⟨y, rfl, plain (Or.inl h1)⟩
  · rw [if_pos (show h ≠ 1 from h1)]
    by_cases b : v < 1099511627776
    · rw [if_pos b]
      have vr : -2147483648 ≤ v ∧ v ≤ 2147483647 := by have hv := hv h1; unfold vOk at hv; omega
      have lv : zF1 .l2i v = v := l2i_s vr.1 vr.2
      refine ⟨_, rfl, ⟨?_, fun _ _ => ⟨?_, rUp_at, ?_⟩, fun _ q => absurd b q⟩, fun K a1 a2 a3 a4 a5 a6 => ?_, ?_, fun j => ?_, fun j hj => ⟨?_, ?_, ?_, ?_⟩⟩
      · rw [rUp_grp (by decide), rUp_grp (by decide), rUp_grp (by decide), y106, if_pos rfl, z106, i01]
      · rw [rUp_grp (by decide), rUp_grp (by decide), rUp_at, z107, lv, iadd_0 vr.1 vr.2]
      · rw [rUp_grp (by decide), rUp_at, if_pos z109]
      · rw [rUp_grp a6, rUp_grp a5, rUp_grp a4, yK K a1 a3 a4 a6, xg a2]
      · rw [rUp_grp (by decide), rUp_grp (by decide), rUp_grp (by decide), yK 105 (by decide) (by decide) (by decide) (by decide)]
      · rw [rUp_grp (by decide), rUp_grp (by decide), rUp_grp (by decide), y15]
      · rw [rUp_grp (by decide), rUp_grp (by decide), rUp_grp (by decide), y106, if_neg hj]
      · rw [rUp_grp (by decide), rUp_grp (by decide), rUp_ne (fun q => hj q.2.2), y107, if_neg hj]
      · rw [rUp_grp (by decide), rUp_ne (fun q => hj q.2.2), rUp_grp (by decide), y108]
      · rw [rUp_ne (fun q => hj q.2.2), rUp_grp (by decide), rUp_grp (by decide), y109, if_neg hj]
    · rw [if_neg b]
      exact ⟨y, rfl, plain (Or.inr b)⟩
/-- the reference's search for the row -/
theorem en70_lp {r w : Int} {m g : rHp} (eg : ∀ K : Nat, K ≠ 102 → g K = m K) (hw : m 15 0 90 = w) (w1 : w ≤ 2000) : ∀ (f : Nat) (i : Int), (w - i).toNat ≤ f → 0 ≤ i → i ≤ w → zLoop (en70 m) (0, [r, i], g) = if w ≤ pIx (fun j => !pRm g j) w i then (if w ≠ 2000 then zLoop (en70 m) (1, [r, 0, w], g) else (0, 0, rUp g 15 0 77 3)) else zLoop (en70 m) (0, [r, pIx (fun j => !pRm g j) w i], g) := by
  have en : ∀ i, i = w → zLoop (en70 m) (0, [r, i], g) = if w ≠ 2000 then zLoop (en70 m) (1, [r, 0, w], g) else (0, 0, rUp g 15 0 77 3) := by
    intro i e
    subst e
    rw [zLoop_eq]
    unfold en70
    simp only [zLet, List.getD_cons_zero, List.getD_cons_succ, ↓reduceIte, hw]
    rw [if_pos (show i ≥ i from Int.le_refl _)]
    by_cases b : i ≠ 2000
    · rw [if_pos b, if_pos b]; rfl
    · rw [if_neg b, if_neg b]; rfl
  intro f
  induction f with
  | zero =>
    intro i hf i0 i1
    rw [en i (by omega), pIx_no (fun z => by omega), if_pos (show w ≤ i by omega)]
  | succ f ih =>
    intro i hf i0 i1
    by_cases e : i = w
    · rw [en i e, pIx_no (fun z => by omega), if_pos (show w ≤ i by omega)]
    · by_cases b : pRm g i = true
      · have e2 : pIx (fun j => !pRm g j) w i = i := pIx_no (fun z => by have z2 : (!pRm g i) = true := z.2; rw [b] at z2; exact absurd z2 (by decide))
        rw [e2, if_neg (by omega)]
      · have st : en70 m (0, [r, i], g) = .inl (0, [r, i + 1], g) := by
          unfold en70
          simp only [zLet, List.getD_cons_zero, List.getD_cons_succ, ↓reduceIte, fn69_eq]
          rw [if_neg (show ¬ i ≥ m 15 0 90 by omega), if_neg b, if_neg (show ¬ (1 : Int) ≤ 0 by decide)]
        rw [zLoop_inl st, pIx_go (q := fun j => !pRm g j) (by omega) (by show (!pRm g i) = true; rw [Bool.eq_false_iff.mpr b]; rfl)]
        exact ih (i + 1) (by omega) (by omega) (by omega)
