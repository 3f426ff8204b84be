/-! ===== LAYERS laid out: the reference, as a whole ===== -/
theorem lay_lp {m0 : rHp} (hB : layB m0) : ∀ (n : Nat) (m : rHp), (401 - sm (fun p => m 92 0 p) (m0 15 0 13)).toNat ≤ n → layI m0 m →
    (∃ m_q, zLoop (en77 m0) (1, [1], m) = zLoop (en77 m0) (4, [0, 0], rUp m_q 15 0 61 0) ∧ layI m0 m_q ∧ ∀ x, 0 ≤ x → x < m0 15 0 32 → layK m0 m_q x) ∨ (∃ m_q, zLoop (en77 m0) (1, [1], m) = (0, 0, m_q) ∧ (∀ K : Nat, K ≠ 92 → m_q K = m0 K) ∧ ∀ f, pF (m0 15 0 13) (cnM m0) f → ∃ p, 0 ≤ p ∧ p < m0 15 0 13 ∧ 20 < f p) := by
  have st1 : ∀ (m : rHp), en77 m0 (1, [1], m) = .inl (2, [0, 0], m) := by
    intro m
    unfold en77
    simp only [zLet, List.getD_cons_zero, List.getD_cons_succ, ↓reduceIte, Nat.one_ne_zero]
    rw [if_neg (show ¬ (1 : Int) = 0 by decide)]
  have st0 : ∀ (m : rHp), en77 m0 (1, [0], m) = .inl (4, [0, 0], rUp m 15 0 61 0) := by
    intro m
    unfold en77
    simp only [zLet, List.getD_cons_zero, List.getD_cons_succ, ↓reduceIte, Nat.one_ne_zero]
  have P20 := hB.1
  have bd : ∀ m, layI m0 m → sm (fun p => m 92 0 p) (m0 15 0 13) ≤ 400 := fun m hI => by
    have : sm (fun p => m 92 0 p) (m0 15 0 13) ≤ 20 * m0 15 0 13 := (sm_rg (B := 20) P20.1 (fun p p0 p1 => hI.rg p p0 p1)).2
    omega
  intro n
  induction n with
  | zero =>
    intro m hf hI
    have := bd m hI
    omega
  | succ n ih =>
    intro m hf hI
    rw [zLoop_inl (st1 m)]
    rcases lay_pass hB _ 0 0 m (Nat.le_refl _) (Int.le_refl 0) hB.2.1 hI (Or.inl rfl) with ⟨m_q, w_q, y1, y2, y3⟩ | y
    · rcases y3 with ⟨u1, u2, u3, u4⟩ | ⟨u1, u2, u3⟩
      · refine Or.inl ⟨m_q, ?_, y2, ?_⟩
        · rw [y1, u1]
          exact zLoop_inl (st0 m_q)
        · rw [u3]; exact u4
      · rw [u1] at y1
        rw [y1]
        have := u3.resolve_left (by decide)
        exact ih m_q (by omega) y2
    · exact Or.inr y
theorem lay_zero {m0 : rHp} : ∀ (n : Nat) (p : Int) (m : rHp), (m0 15 0 13 - p).toNat ≤ n → 0 ≤ p → p ≤ m0 15 0 13 → (∀ x, 0 ≤ x → x < p → m 92 0 x = 0) → ∃ m_q, zLoop (en77 m0) (0, [p], m) = zLoop (en77 m0) (1, [1], m_q) ∧ (∀ K : Nat, K ≠ 92 → m_q K = m K) ∧ ∀ x, 0 ≤ x → x < m0 15 0 13 → m_q 92 0 x = 0 := by
  have st : ∀ (p : Int) (m : rHp), en77 m0 (0, [p], m) = if p ≥ m0 15 0 13 then .inl (1, [1], m) else .inl (0, [p + 1], rUp m 92 0 p 0) := by
    intro p m
    unfold en77
    simp only [zLet, List.getD_cons_zero, List.getD_cons_succ, ↓reduceIte]
  intro n
  induction n with
  | zero =>
    intro p m hf p0 p1 hx
    exact ⟨m, zLoop_inl ((st p m).trans (if_pos (by omega))), fun _ _ => rfl, fun x x0 x1 => hx x x0 (by omega)⟩
  | succ n ih =>
    intro p m hf p0 p1 hx
    by_cases e : p ≥ m0 15 0 13
    · exact ⟨m, zLoop_inl ((st p m).trans (if_pos e)), fun _ _ => rfl, fun x x0 x1 => hx x x0 (by omega)⟩
    · obtain ⟨m_q, y1, y2, y3⟩ := ih (p + 1) (rUp m 92 0 p 0) (by omega) (by omega) (by omega) (fun x x0 x1 => by
        rw [rUp_in]
        by_cases ex : x = p
        · rw [if_pos ex]
        · rw [if_neg ex]; exact hx x x0 (by omega))
      exact ⟨m_q, (zLoop_inl ((st p m).trans (if_neg e))).trans y1, fun K hK => by rw [y2 K hK, rUp_grp hK], y3⟩
/-- LAYERS by the reference: the least that keep the RULES, or none are so -/
theorem lay_m {m0 : rHp} (hB : layB m0) :
    (∃ m_q, fn77 [] m0 = (0, 1, m_q) ∧ (∀ K : Nat, K ≠ 92 → K ≠ 15 → m_q K = m0 K) ∧ (∀ j, j ≠ 61 → m_q 15 0 j = m0 15 0 j) ∧ pF (m0 15 0 13) (cnM m0) (fun p => m_q 92 0 p) ∧ (∀ f, pF (m0 15 0 13) (cnM m0) f → ∀ p, 0 ≤ p → p < m0 15 0 13 → m_q 92 0 p ≤ f p) ∧ 0 ≤ m_q 15 0 61 ∧ (∀ x, 0 ≤ x → x < m0 15 0 13 → m_q 92 0 x + 1 ≤ m_q 15 0 61) ∧ (m_q 15 0 61 = 0 ∨ ∃ x, 0 ≤ x ∧ x < m0 15 0 13 ∧ m_q 15 0 61 = m_q 92 0 x + 1)) ∨
    (∃ m_q, fn77 [] m0 = (0, 0, m_q) ∧ (∀ K : Nat, K ≠ 92 → m_q K = m0 K) ∧ ∀ f, pF (m0 15 0 13) (cnM m0) f → ∃ p, 0 ≤ p ∧ p < m0 15 0 13 ∧ 20 < f p) := by
  have P20 := hB.1
  have e0 : fn77 [] m0 = zLoop (en77 m0) (0, [0], m0) := rfl
  obtain ⟨m1, y1, y2, y3⟩ := lay_zero (m0 := m0) _ 0 m0 (Nat.le_refl _) (Int.le_refl 0) P20.1 (fun x x0 x1 => by omega)
  have hI : layI m0 m1 := ⟨y2, fun p p0 p1 => by rw [y3 p p0 p1]; exact ⟨Int.le_refl _, by decide⟩, fun f hf p p0 p1 => by rw [y3 p p0 p1]; exact hf.1 p p0 p1⟩
  rw [e0, y1]
  rcases lay_lp hB _ m1 (Nat.le_refl _) hI with ⟨m_q, z1, z2, z3⟩ | z
  · left
    obtain ⟨m2, w1, w2, w3, w4, w5, w6, w7⟩ := lay_cnt (m0 := m0) (w := 0) _ 0 (rUp m_q 15 0 61 0) (Nat.le_refl _) (Int.le_refl 0) P20.1
    have e92 : m2 92 = m_q 92 := by rw [w2 92 (by decide), rUp_grp (by decide)]
    rw [rUp_at] at w5 w7
    rw [rUp_grp (by decide)] at w6 w7
    refine ⟨m2, z1.trans w1, fun K a b => by rw [w2 K b, rUp_grp b]; exact z2.fr K a, fun j hj => ?_, ?_, ?_, w5, ?_, ?_⟩
    · rw [w3 j hj, rUp_ne (fun z => hj z.2.2), z2.fr 15 (by decide)]
    · rw [e92]
      refine ⟨fun p p0 p1 => (z2.rg p p0 p1).1, ?_⟩
      rintro a b d ⟨r, g, r0, r1, g0, g1, hk, ea, eb, ed⟩
      rw [ea, eb, ed]
      exact z3 r r0 r1 g g0 g1 hk
    · rw [e92]; exact z2.lo
    · rw [e92]; exact w6
    · rw [e92]; exact w7
  · exact Or.inr z
