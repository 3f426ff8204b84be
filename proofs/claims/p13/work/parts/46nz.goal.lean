/-! ===== what a GOAL is by both ===== -/
/-- a VALUE: kn what was KNOWN ahead of the GOAL -/
noncomputable def gVl (E : Prop) (kn G k x : Int) (c m : rHp) : Prop := (c 43 G k = 0 ∧ m 80 0 x = 0 ∧ vE E (c 46 G k) (m 81 0 x)) ∨ (c 43 G k = 1 ∧ m 80 0 x = 1 ∧ c 44 G k = m 81 0 x ∧ qVr (c 44 G k) ∧ qBt kn (c 44 G k) = 1)
theorem gVl_up {E : Prop} {kn G k x : Int} {c m c_q m_q : rHp} (h : gVl E kn G k x c m) (h43 : c_q 43 G k = c 43 G k ∧ c_q 44 G k = c 44 G k ∧ c_q 46 G k = c 46 G k) (h80 : m_q 80 0 x = m 80 0 x ∧ m_q 81 0 x = m 81 0 x) : gVl E kn G k x c_q m_q := by
  unfold gVl at h ⊢
  rw [h43.1, h43.2.1, h43.2.2, h80.1, h80.2]
  exact h
/-- a VALUE is read into place n -/
noncomputable def qVa (E : Prop) (kn G n X : Int) (c m c_q m_q : rHp) : Prop := (∀ j, j ≠ n → c_q 43 G j = c 43 G j ∧ c_q 44 G j = c 44 G j ∧ c_q 46 G j = c 46 G j) ∧ (∀ y, y ≠ X → m_q 80 0 y = m 80 0 y ∧ m_q 81 0 y = m 81 0 y) ∧ gVl E kn G n X c_q m_q
/-- a comparison -/
noncomputable def gCm (E : Prop) (kn G q : Int) (c m : rHp) : Prop := c 10 G 4 = m 77 0 q + 1 ∧ 2 ≤ m 77 0 q ∧ m 77 0 q ≤ 4 ∧ gVl E kn G 0 (4 * q) c m ∧ gVl E kn G 1 (4 * q + 1) c m
/-- a reckoning -/
noncomputable def gRk (E : Prop) (kn G q : Int) (c m : rHp) : Prop := c 10 G 4 = m 77 0 q + 1 ∧ 5 ≤ m 77 0 q ∧ m 77 0 q ≤ 7 ∧ gVl E kn G 0 (4 * q + 1) c m ∧ gVl E kn G 1 (4 * q + 2) c m ∧ c 10 G 11 = m 81 0 (4 * q) ∧ qVr (m 81 0 (4 * q)) ∧ qBt kn (m 81 0 (4 * q)) ≠ 1
/-- a GOAL: kn what was KNOWN ahead of it, kn_q behind it -/
noncomputable def gGo (E : Prop) (kn kn_q G q : Int) (c m : rHp) : Prop := m 79 0 q = kn ∧ (((c 10 G 4 = 1 ∨ c 10 G 4 = 2) ∧ qEc E (c 10 G 4) kn kn_q G q c m) ∨ (gCm E kn G q c m ∧ kn_q = kn) ∨ (gRk E kn G q c m ∧ kn_q = qSt kn (m 81 0 (4 * q))))
