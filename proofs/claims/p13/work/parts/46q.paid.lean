/-! ===== strays alone, and what is owed paid ===== -/
theorem fn152_eq (x : List Int) (c : rHp) : fn152 x c = (if c 2 0 16 ≤ pIx (fun i => decide (c 23 0 (c 25 0 i) ≤ 1)) (c 2 0 16) 0 then (0, 1, c) else (0, 0, rUp c 2 0 4 (c 24 0 (pIx (fun i => decide (c 23 0 (c 25 0 i) ≤ 1)) (c 2 0 16) 0)))) := by
  have step : ∀ i, en152 c (0, [i], c) = if i < c 2 0 16 ∧ decide (c 23 0 (c 25 0 i) ≤ 1) = true then .inl (0, [i + 1], c) else .inr (if c 2 0 16 ≤ i then (0, 1, c) else (0, 0, rUp c 2 0 4 (c 24 0 i))) := by
    intro i
    unfold en152
    simp only [zLet, List.getD_cons_zero, ↓reduceIte, decide_eq_true_eq, fn109_eq]
    by_cases h1 : i < c 2 0 16
    · rw [if_neg (show ¬ i ≥ c 2 0 16 by omega), if_neg (show ¬ c 2 0 16 ≤ i by omega)]
      by_cases h2 : c 23 0 (c 25 0 i) ≤ 1
      · rw [if_pos h2, if_pos (show i < c 2 0 16 ∧ c 23 0 (c 25 0 i) ≤ 1 from ⟨h1, h2⟩)]
      · rw [if_neg h2, if_neg (show ¬ (i < c 2 0 16 ∧ c 23 0 (c 25 0 i) ≤ 1) from fun h => h2 h.2)]
    · rw [if_pos (show i ≥ c 2 0 16 by omega), if_pos (show c 2 0 16 ≤ i by omega), if_neg (show ¬ (i < c 2 0 16 ∧ c 23 0 (c 25 0 i) ≤ 1) from fun h => h1 h.1)]
  have key : ∀ (f : Nat) (i : Int), (c 2 0 16 - i).toNat ≤ f → zLoop (en152 c) (0, [i], c) = (if c 2 0 16 ≤ pIx (fun i => decide (c 23 0 (c 25 0 i) ≤ 1)) (c 2 0 16) i then (0, 1, c) else (0, 0, rUp c 2 0 4 (c 24 0 (pIx (fun i => decide (c 23 0 (c 25 0 i) ≤ 1)) (c 2 0 16) i)))) := by
    intro f
    induction f with
    | zero =>
      intro i hf
      rw [zLoop_eq, step, if_neg (show ¬ (i < c 2 0 16 ∧ decide (c 23 0 (c 25 0 i) ≤ 1) = true) from fun h => by omega), pIx_no (fun h => by omega)]
      rfl
    | succ f ih =>
      intro i hf
      rw [zLoop_eq, step]
      by_cases h : i < c 2 0 16 ∧ decide (c 23 0 (c 25 0 i) ≤ 1) = true
      · rw [if_pos h, pIx_go h.1 h.2]
        exact ih (i + 1) (by omega)
      · rw [if_neg h, pIx_no h]
        rfl
  exact key _ 0 (Nat.le_refl _)
/-- is what is owed at k paid -/
noncomputable def qPd (m : rHp) (k : Int) : Bool := if m 91 0 k = 0 then decide (qBt (m 15 0 45) (m 89 0 k) = 1) else decide (qBt (m 90 0 k) (m 89 0 k) = 1) || decide (m 84 0 (m 89 0 k) = 1)
theorem fn28_eq (x : List Int) (m : rHp) : fn28 x m = (if m 15 0 58 ≤ pIx (qPd m) (m 15 0 58) 0 then (0, 1, m) else (0, 0, (fn8 [m 88 0 (pIx (qPd m) (m 15 0 58) 0)] m).2.2)) := by
  have step : ∀ k, en28 m (0, [k], m) = if k < m 15 0 58 ∧ qPd m k = true then .inl (0, [k + 1], m) else .inr (if m 15 0 58 ≤ k then (0, 1, m) else (0, 0, (fn8 [m 88 0 k] m).2.2)) := by
    intro k
    unfold en28
    simp only [zLet, List.getD_cons_zero, ↓reduceIte, fn18_eq, one_bit]
    by_cases h1 : k < m 15 0 58
    · rw [if_neg (show ¬ k ≥ m 15 0 58 by omega), if_neg (show ¬ m 15 0 58 ≤ k by omega)]
      by_cases h0 : m 91 0 k = 0
      · have e : qPd m k = decide (qBt (m 15 0 45) (m 89 0 k) = 1) := if_pos h0
        rw [if_pos h0, e]
        by_cases h2 : qBt (m 15 0 45) (m 89 0 k) = 1
        · rw [if_pos h2, if_pos (show k < m 15 0 58 ∧ decide (qBt (m 15 0 45) (m 89 0 k) = 1) = true from ⟨h1, decide_eq_true h2⟩)]
        · rw [if_neg h2, if_neg (show ¬ (k < m 15 0 58 ∧ decide (qBt (m 15 0 45) (m 89 0 k) = 1) = true) from fun h => h2 (of_decide_eq_true h.2))]
      · have e : qPd m k = (decide (qBt (m 90 0 k) (m 89 0 k) = 1) || decide (m 84 0 (m 89 0 k) = 1)) := if_neg h0
        rw [if_neg h0, e]
        by_cases h2 : qBt (m 90 0 k) (m 89 0 k) = 1
        · rw [if_pos (show zF2 .iand (zF2 .ishr (m 90 0 k) (m 89 0 k)) 1 = 1 from h2), decide_eq_true h2, Bool.true_or, if_pos (show k < m 15 0 58 ∧ true = true from ⟨h1, rfl⟩)]
        · rw [if_neg (show ¬ zF2 .iand (zF2 .ishr (m 90 0 k) (m 89 0 k)) 1 = 1 from h2), decide_eq_false h2, Bool.false_or]
          by_cases h3 : m 84 0 (m 89 0 k) = 1
          · rw [if_neg (show ¬ m 84 0 (m 89 0 k) ≠ 1 from fun q => q h3), if_pos (show k < m 15 0 58 ∧ decide (m 84 0 (m 89 0 k) = 1) = true from ⟨h1, decide_eq_true h3⟩)]
          · rw [if_pos (show m 84 0 (m 89 0 k) ≠ 1 from h3), if_neg (show ¬ (k < m 15 0 58 ∧ decide (m 84 0 (m 89 0 k) = 1) = true) from fun h => h3 (of_decide_eq_true h.2))]
    · rw [if_pos (show k ≥ m 15 0 58 by omega), if_pos (show m 15 0 58 ≤ k by omega), if_neg (show ¬ (k < m 15 0 58 ∧ qPd m k = true) from fun h => h1 h.1)]
  have key : ∀ (f : Nat) (k : Int), (m 15 0 58 - k).toNat ≤ f → zLoop (en28 m) (0, [k], m) = (if m 15 0 58 ≤ pIx (qPd m) (m 15 0 58) k then (0, 1, m) else (0, 0, (fn8 [m 88 0 (pIx (qPd m) (m 15 0 58) k)] m).2.2)) := by
    intro f
    induction f with
    | zero =>
      intro k hf
      rw [zLoop_eq, step, if_neg (show ¬ (k < m 15 0 58 ∧ qPd m k = true) from fun h => by omega), pIx_no (fun h => by omega)]
      rfl
    | succ f ih =>
      intro k hf
      rw [zLoop_eq, step]
      by_cases h : k < m 15 0 58 ∧ qPd m k = true
      · rw [if_pos h, pIx_go h.1 h.2]
        exact ih (k + 1) (by omega)
      · rw [if_neg h, pIx_no h]
        rfl
  exact key _ 0 (Nat.le_refl _)
theorem pIx_all {q : Int → Bool} {n : Int} : n ≤ pIx q n 0 ↔ ∀ j, 0 ≤ j → j < n → q j = true := by
  constructor
  · intro h j h0 h1
    exact pIx_in (q := q) (n := n) (i := 0) h0 (by omega)
  · intro h
    by_cases hk : n ≤ pIx q n 0
    · exact hk
    · have h2 := pIx_stop (q := q) (n := n) (i := 0) (by omega)
      rw [h _ pIx_le (by omega)] at h2
      exact absurd h2 (by decide)
