/-! ===== sorting what is owed keeps it ===== -/
noncomputable def qPm (n : Int) (m m_q : rHp) : Prop := ∀ Q : Int → Int → Int → Prop, (∀ k, 0 ≤ k → k < n → Q (m_q 89 0 k) (m_q 90 0 k) (m_q 91 0 k)) ↔ ∀ k, 0 ≤ k → k < n → Q (m 89 0 k) (m 90 0 k) (m 91 0 k)
theorem qPm_refl {n : Int} {m : rHp} : qPm n m m := fun _ => Iff.rfl
theorem qPm_trans {n : Int} {m m1 m2 : rHp} (h : qPm n m m1) (h2 : qPm n m1 m2) : qPm n m m2 := fun Q => (h2 Q).trans (h Q)
theorem fn29_all {m : rHp} {i n : Int} (h1 : 1 ≤ i) (h2 : i < n) : ∃ m_q, (fn29 [i] m).2.2 = m_q ∧ qPm n m m_q ∧ fH 15 [88, 89, 90, 91] [] m m_q := by
  refine ⟨rUp (rUp (rUp (rUp (rUp (rUp (rUp (rUp m 88 0 i (m 88 0 (i + -1))) 89 0 i (m 89 0 (i + -1))) 90 0 i (m 90 0 (i + -1))) 91 0 i (m 91 0 (i + -1))) 88 0 (i + -1) (m 88 0 i)) 89 0 (i + -1) (m 89 0 i)) 90 0 (i + -1) (m 90 0 i)) 91 0 (i + -1) (m 91 0 i), rfl, ?_, ?_⟩
  · have sw : ∀ (f g : Int → Int), (∀ k, g k = if k = i + -1 then f i else if k = i then f (i + -1) else f k) → g (i + -1) = f i ∧ g i = f (i + -1) ∧ ∀ k, k ≠ i → k ≠ i + -1 → g k = f k := by
      intro f g h
      refine ⟨by rw [h, if_pos rfl], by rw [h, if_neg (by omega), if_pos rfl], fun k a b => by rw [h, if_neg b, if_neg a]⟩
    generalize hm : rUp (rUp (rUp (rUp (rUp (rUp (rUp (rUp m 88 0 i (m 88 0 (i + -1))) 89 0 i (m 89 0 (i + -1))) 90 0 i (m 90 0 (i + -1))) 91 0 i (m 91 0 (i + -1))) 88 0 (i + -1) (m 88 0 i)) 89 0 (i + -1) (m 89 0 i)) 90 0 (i + -1) (m 90 0 i)) 91 0 (i + -1) (m 91 0 i) = m_q
    have e89 : ∀ k, m_q 89 0 k = if k = i + -1 then m 89 0 i else if k = i then m 89 0 (i + -1) else m 89 0 k := by
      intro k
      rw [← hm, rUp_grp (by decide), rUp_grp (by decide)]
      by_cases a : k = i + -1
      · rw [if_pos a, a, rUp_at]
      · rw [if_neg a, rUp_ne (fun q => a q.2.2), rUp_grp (by decide), rUp_grp (by decide), rUp_grp (by decide)]
        by_cases b : k = i
        · rw [if_pos b, b, rUp_at]
        · rw [if_neg b, rUp_ne (fun q => b q.2.2), rUp_grp (by decide)]
    have e90 : ∀ k, m_q 90 0 k = if k = i + -1 then m 90 0 i else if k = i then m 90 0 (i + -1) else m 90 0 k := by
      intro k
      rw [← hm, rUp_grp (by decide)]
      by_cases a : k = i + -1
      · rw [if_pos a, a, rUp_at]
      · rw [if_neg a, rUp_ne (fun q => a q.2.2), rUp_grp (by decide), rUp_grp (by decide), rUp_grp (by decide)]
        by_cases b : k = i
        · rw [if_pos b, b, rUp_at]
        · rw [if_neg b, rUp_ne (fun q => b q.2.2), rUp_grp (by decide), rUp_grp (by decide)]
    have e91 : ∀ k, m_q 91 0 k = if k = i + -1 then m 91 0 i else if k = i then m 91 0 (i + -1) else m 91 0 k := by
      intro k
      rw [← hm]
      by_cases a : k = i + -1
      · rw [if_pos a, a, rUp_at]
      · rw [if_neg a, rUp_ne (fun q => a q.2.2), rUp_grp (by decide), rUp_grp (by decide), rUp_grp (by decide)]
        by_cases b : k = i
        · rw [if_pos b, b, rUp_at]
        · rw [if_neg b, rUp_ne (fun q => b q.2.2), rUp_grp (by decide), rUp_grp (by decide), rUp_grp (by decide)]
    obtain ⟨a1, a2, a3⟩ := sw (m 89 0) (m_q 89 0) e89
    obtain ⟨b1, b2, b3⟩ := sw (m 90 0) (m_q 90 0) e90
    obtain ⟨d1, d2, d3⟩ := sw (m 91 0) (m_q 91 0) e91
    intro Q
    constructor
    · intro h k k0 k1
      by_cases x : k = i
      · have := h (i + -1) (by omega) (by omega)
        rw [a1, b1, d1] at this
        rw [x]; exact this
      · by_cases y : k = i + -1
        · have := h i (by omega) (by omega)
          rw [a2, b2, d2] at this
          rw [y]; exact this
        · have := h k k0 k1
          rw [a3 k x y, b3 k x y, d3 k x y] at this
          exact this
    · intro h k k0 k1
      by_cases x : k = i
      · rw [x, a2, b2, d2]
        exact h (i + -1) (by omega) (by omega)
      · by_cases y : k = i + -1
        · rw [y, a1, b1, d1]
          exact h i (by omega) (by omega)
        · rw [a3 k x y, b3 k x y, d3 k x y]
          exact h k k0 k1
  · exact fH_grp (fH_grp (fH_grp (fH_grp (fH_grp (fH_grp (fH_grp (fH_grp fH_refl (by decide) (by decide)) (by decide) (by decide)) (by decide) (by decide)) (by decide) (by decide)) (by decide) (by decide)) (by decide) (by decide)) (by decide) (by decide)) (by decide) (by decide)
theorem en30_in {m0 m : rHp} {i k : Int} : en30 m0 (1, [i, k], m) = if i ≤ 0 ∨ m 88 0 (i + -1) ≤ m 88 0 i then .inl (0, [k + 1], m) else .inl (1, [i + -1, k], (fn29 [i] m).2.2) := by
  unfold en30
  simp only [zLet, List.getD_cons_zero, List.getD_cons_succ]
  rw [if_neg (show ¬ (1 : Nat) = 0 by decide), if_pos trivial]
  by_cases h : i ≤ 0
  · rw [if_pos h, if_pos (show i ≤ 0 ∨ m 88 0 (i + -1) ≤ m 88 0 i from Or.inl h)]
  · rw [if_neg h]
    by_cases h2 : m 88 0 (i + -1) ≤ m 88 0 i
    · rw [if_pos h2, if_pos (show i ≤ 0 ∨ m 88 0 (i + -1) ≤ m 88 0 i from Or.inr h2)]
    · rw [if_neg h2, if_neg (show ¬ (i ≤ 0 ∨ m 88 0 (i + -1) ≤ m 88 0 i) from fun q => q.elim h h2)]
theorem fn30_in {m0 : rHp} {k n : Int} (hk : k < n) : ∀ (f : Nat) (i : Int) (m : rHp), i.toNat ≤ f → i ≤ k → ∃ m_q, zLoop (en30 m0) (1, [i, k], m) = zLoop (en30 m0) (0, [k + 1], m_q) ∧ qPm n m m_q ∧ fH 15 [88, 89, 90, 91] [] m m_q := by
  intro f
  induction f with
  | zero =>
    intro i m hf hi
    refine ⟨m, zLoop_inl ?_, qPm_refl, fH_refl⟩
    rw [en30_in, if_pos (Or.inl (by omega))]
  | succ f ih =>
    intro i m hf hi
    by_cases h : i ≤ 0 ∨ m 88 0 (i + -1) ≤ m 88 0 i
    · refine ⟨m, zLoop_inl ?_, qPm_refl, fH_refl⟩
      rw [en30_in, if_pos h]
    · obtain ⟨m1, a1, a2, a3⟩ := fn29_all (m := m) (i := i) (n := n) (by omega) (by omega)
      obtain ⟨m_q, b1, b2, b3⟩ := ih (i + -1) m1 (by omega) (by omega)
      refine ⟨m_q, (zLoop_inl ?_).trans b1, qPm_trans a2 b2, fH_trans a3 b3⟩
      rw [en30_in, if_neg h, a1]
theorem fn30_all (x : List Int) (m : rHp) : ∃ m_q, fn30 x m = (0, 0, m_q) ∧ qPm (m 15 0 58) m m_q ∧ fH 15 [88, 89, 90, 91] [] m m_q := by
  have key : ∀ (f : Nat) (k : Int) (g : rHp), (m 15 0 58 - k).toNat ≤ f → ∃ m_q, zLoop (en30 m) (0, [k], g) = (0, 0, m_q) ∧ qPm (m 15 0 58) g m_q ∧ fH 15 [88, 89, 90, 91] [] g m_q := by
    have out : ∀ (k : Int) (g : rHp), en30 m (0, [k], g) = if k ≥ m 15 0 58 then .inr (0, 0, g) else .inl (1, [k, k], g) := by
      intro k g
      unfold en30
      simp only [zLet, List.getD_cons_zero, ↓reduceIte]
    intro f
    induction f with
    | zero =>
      intro k g hf
      refine ⟨g, zLoop_inr ?_, qPm_refl, fH_refl⟩
      rw [out, if_pos (by omega)]
    | succ f ih =>
      intro k g hf
      by_cases h : k ≥ m 15 0 58
      · refine ⟨g, zLoop_inr ?_, qPm_refl, fH_refl⟩
        rw [out, if_pos h]
      · obtain ⟨m1, a1, a2, a3⟩ := fn30_in (m0 := m) (k := k) (n := m 15 0 58) (by omega) _ k g (Nat.le_refl _) (Int.le_refl _)
        obtain ⟨m_q, b1, b2, b3⟩ := ih (k + 1) m1 (by omega)
        refine ⟨m_q, ((zLoop_inl ?_).trans a1).trans b1, qPm_trans a2 b2, fH_trans a3 b3⟩
        rw [out, if_neg h]
  exact key _ 1 m (Nat.le_refl _)
