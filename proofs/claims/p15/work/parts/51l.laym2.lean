/-! ===== LAYERS laid out: the reference, pass by pass ===== -/
/-- the RULES are within their bounds -/
noncomputable def layB (m : rHp) : Prop := (0 ≤ m 15 0 13 ∧ m 15 0 13 ≤ 20) ∧ 0 ≤ m 15 0 32 ∧ ∀ r, 0 ≤ r → r < m 15 0 32 → (0 ≤ m 69 0 r ∧ m 69 0 r < m 15 0 13) ∧ 0 ≤ m 73 0 r ∧ ∀ g, 0 ≤ g → g < m 73 0 r → m 77 0 (g + 8 * r) ≤ 1 → 0 ≤ m 78 0 (g + 8 * r) ∧ m 78 0 (g + 8 * r) < m 15 0 13
theorem cD_01 {m : rHp} {r g : Int} : cD m r g = 0 ∨ cD m r g = 1 := by
  unfold cD
  by_cases a : m 77 0 (g + 8 * r) = 1
  · rw [if_pos a]; exact Or.inr rfl
  · rw [if_neg a]
    by_cases b : m 71 0 r ≤ 0
    · rw [if_pos b]; exact Or.inl rfl
    · rw [if_neg b]; exact Or.inr rfl
theorem cnM_in {m : rHp} (h : layB m) : ∀ a b d, cnM m a b d → (0 ≤ a ∧ a < m 15 0 13) ∧ (0 ≤ b ∧ b < m 15 0 13) ∧ (d = 0 ∨ d = 1) := by
  rintro a b d ⟨r, g, r0, r1, g0, g1, hk, ea, eb, ed⟩
  obtain ⟨q1, q2, q3⟩ := h.2.2 r r0 r1
  rw [ea, eb, ed]
  exact ⟨q3 g g0 g1 hk, q1, cD_01⟩
/-- on the way: m is m0 but for LAYERS, which are nowhere too high -/
noncomputable def layI (m0 m : rHp) : Prop := (∀ K : Nat, K ≠ 92 → m K = m0 K) ∧ (∀ p, 0 ≤ p → p < m0 15 0 13 → 0 ≤ m 92 0 p ∧ m 92 0 p ≤ 20) ∧ (∀ f, pF (m0 15 0 13) (cnM m0) f → ∀ p, 0 ≤ p → p < m0 15 0 13 → m 92 0 p ≤ f p)
theorem layI.fr {m0 m : rHp} (h : layI m0 m) : ∀ K : Nat, K ≠ 92 → m K = m0 K := h.1
theorem layI.rg {m0 m : rHp} (h : layI m0 m) : ∀ p, 0 ≤ p → p < m0 15 0 13 → 0 ≤ m 92 0 p ∧ m 92 0 p ≤ 20 := h.2.1
theorem layI.lo {m0 m : rHp} (h : layI m0 m) : ∀ f, pF (m0 15 0 13) (cnM m0) f → ∀ p, 0 ≤ p → p < m0 15 0 13 → m 92 0 p ≤ f p := h.2.2
/-- RULE r is kept -/
noncomputable def layK (m0 m : rHp) (r : Int) : Prop := ∀ g, 0 ≤ g → g < m0 73 0 r → m0 77 0 (g + 8 * r) ≤ 1 → m 92 0 (m0 78 0 (g + 8 * r)) + cD m0 r g ≤ m 92 0 (m0 69 0 r)
theorem lay_pass {m0 : rHp} (hB : layB m0) : ∀ (n : Nat) (r w : Int) (m : rHp), (m0 15 0 32 - r).toNat ≤ n → 0 ≤ r → r ≤ m0 15 0 32 → layI m0 m → (w = 0 ∨ w = 1) →
    (∃ m_q w_q, zLoop (en77 m0) (2, [r, w], m) = zLoop (en77 m0) (1, [w_q], m_q) ∧ layI m0 m_q ∧ ((w_q = 0 ∧ w = 0 ∧ m_q = m ∧ ∀ x, r ≤ x → x < m0 15 0 32 → layK m0 m x) ∨ (w_q = 1 ∧ sm (fun p => m 92 0 p) (m0 15 0 13) ≤ sm (fun p => m_q 92 0 p) (m0 15 0 13) ∧ (w = 1 ∨ sm (fun p => m 92 0 p) (m0 15 0 13) + 1 ≤ sm (fun p => m_q 92 0 p) (m0 15 0 13))))) ∨ (∃ m_q, zLoop (en77 m0) (2, [r, w], m) = (0, 0, m_q) ∧ (∀ K : Nat, K ≠ 92 → m_q K = m0 K) ∧ ∀ f, pF (m0 15 0 13) (cnM m0) f → ∃ p, 0 ≤ p ∧ p < m0 15 0 13 ∧ 20 < f p) := by
  have st : ∀ (r w : Int) (m : rHp), en77 m0 (2, [r, w], m) = if r ≥ m0 15 0 32 then .inl (1, [w], m) else .inl (3, [8 * r, m 92 0 (m0 69 0 r), r, w], m) := by
    intro r w m
    unfold en77
    simp only [zLet, List.getD_cons_zero, List.getD_cons_succ, ↓reduceIte, show ¬ (2 : Nat) = 0 by decide, show ¬ (2 : Nat) = 1 by decide, show ¬ (3 : Nat) = 0 by decide, show ¬ (3 : Nat) = 1 by decide, show ¬ (4 : Nat) = 0 by decide, show ¬ (4 : Nat) = 1 by decide]
  intro n
  induction n with
  | zero =>
    intro r w m hf r0 r1 hI hw
    refine Or.inl ⟨m, w, zLoop_inl ((st r w m).trans (if_pos (by omega))), hI, ?_⟩
    rcases hw with hw | hw
    · exact Or.inl ⟨hw, hw, rfl, fun x a b => by omega⟩
    · exact Or.inr ⟨hw, Int.le_refl _, Or.inl hw⟩
  | succ n ih =>
    intro r w m hf r0 r1 hI hw
    by_cases e : r = m0 15 0 32
    · refine Or.inl ⟨m, w, zLoop_inl ((st r w m).trans (if_pos (by omega))), hI, ?_⟩
      rcases hw with hw | hw
      · exact Or.inl ⟨hw, hw, rfl, fun x a b => by omega⟩
      · exact Or.inr ⟨hw, Int.le_refl _, Or.inl hw⟩
    obtain ⟨q1, q2, q3⟩ := hB.2.2 r r0 (by omega)
    have P20 := hB.1
    rw [zLoop_inl ((st r w m).trans (if_neg (show ¬ r ≥ m0 15 0 32 by omega))), show 8 * r = 0 + 8 * r by omega]
    obtain ⟨z, z1, z2, z3, z4⟩ := en77_goals (r := r) (w := w) (m0 := m0) (m := m) _ 0 (m 92 0 (m0 69 0 r)) (Nat.le_refl _) (Int.le_refl 0) q2
    rw [z1]
    have sh := en77_head (z := z) (r := r) (w := w) (m0 := m0) (m := m) q1.1 (by omega)
    -- whoever keeps what the RULES ask has that much
    have up : ∀ f, pF (m0 15 0 13) (cnM m0) f → z ≤ f (m0 69 0 r) := by
      intro f hf
      rcases z4 with z4 | ⟨x, x0, x1, x2, x3⟩
      · rw [z4]; exact hI.lo f hf _ q1.1 q1.2
      · have a1 := hf.2 (m0 78 0 (x + 8 * r)) (m0 69 0 r) (cD m0 r x) ⟨r, x, r0, by omega, x0, x1, x2, rfl, rfl, rfl⟩
        have q := q3 x x0 x1 x2
        have a2 := hI.lo f hf _ q.1 q.2
        omega
    by_cases a : z ≤ 20
    · have sh := sh.trans (if_pos a)
      by_cases b : z ≤ m 92 0 (m0 69 0 r)
      · rw [zLoop_inl (sh.trans (if_pos b))]
        rcases ih (r + 1) w m (by omega) (by omega) (by omega) hI hw with ⟨m_q, w_q, y1, y2, y3⟩ | y
        · refine Or.inl ⟨m_q, w_q, y1, y2, ?_⟩
          rcases y3 with ⟨u1, u2, u3, u4⟩ | u
          · refine Or.inl ⟨u1, u2, u3, fun x x0 x1 => ?_⟩
            by_cases ex : x = r
            · rw [ex]
              intro g g0 g1 hk
              have := z3 g g0 g1 hk
              omega
            · exact u4 x (by omega) x1
          · exact Or.inr u
        · exact Or.inr y
      · rw [zLoop_inl (sh.trans (if_neg b))]
        have mh : ∀ p, rUp m 92 0 (m0 69 0 r) z 92 0 p = if p = m0 69 0 r then z else m 92 0 p := fun p => rUp_in
        have hI2 : layI m0 (rUp m 92 0 (m0 69 0 r) z) := by
          refine ⟨fun K hK => by rw [rUp_grp hK]; exact hI.fr K hK, fun p p0 p1 => ?_, fun f hf p p0 p1 => ?_⟩
          · rw [mh]
            have := hI.rg _ q1.1 q1.2
            by_cases ep : p = m0 69 0 r
            · rw [if_pos ep]; omega
            · rw [if_neg ep]; exact hI.rg p p0 p1
          · rw [mh]
            by_cases ep : p = m0 69 0 r
            · rw [if_pos ep, ep]; exact up f hf
            · rw [if_neg ep]; exact hI.lo f hf p p0 p1
        have su := sm_up (f := fun p => m 92 0 p) (g := fun p => rUp m 92 0 (m0 69 0 r) z 92 0 p) q1.1 q1.2 (fun p p0 p1 => by
          show m 92 0 p ≤ rUp m 92 0 (m0 69 0 r) z 92 0 p
          rw [mh]
          by_cases ep : p = m0 69 0 r
          · rw [if_pos ep, ep]; omega
          · rw [if_neg ep]; exact Int.le_refl _) (by
          show m 92 0 (m0 69 0 r) < rUp m 92 0 (m0 69 0 r) z 92 0 (m0 69 0 r)
          rw [mh, if_pos rfl]; omega)
        rcases ih (r + 1) 1 _ (by omega) (by omega) (by omega) hI2 (Or.inr rfl) with ⟨m_q, w_q, y1, y2, y3⟩ | y
        · refine Or.inl ⟨m_q, w_q, y1, y2, ?_⟩
          rcases y3 with ⟨u1, u2, u3, u4⟩ | ⟨u1, u2, u3⟩
          · exact absurd u2 (by decide)
          · exact Or.inr ⟨u1, by omega, Or.inr (by omega)⟩
        · exact Or.inr y
    · refine Or.inr ⟨m, zLoop_inr (sh.trans (if_neg a)), hI.fr, fun f hf => ⟨m0 69 0 r, q1.1, q1.2, ?_⟩⟩
      have := up f hf
      omega
/-- LAYERS are counted -/
theorem lay_cnt {m0 : rHp} {w : Int} : ∀ (n : Nat) (p : Int) (m : rHp), (m0 15 0 13 - p).toNat ≤ n → 0 ≤ p → p ≤ m0 15 0 13 → ∃ m_q, zLoop (en77 m0) (4, [p, w], m) = (0, 1, m_q) ∧ (∀ K : Nat, K ≠ 15 → m_q K = m K) ∧ (∀ j, j ≠ 61 → m_q 15 0 j = m 15 0 j) ∧ m_q 15 0 61 = (if p ≥ m0 15 0 13 then m 15 0 61 else m_q 15 0 61) ∧ m 15 0 61 ≤ m_q 15 0 61 ∧ (∀ x, p ≤ x → x < m0 15 0 13 → m 92 0 x + 1 ≤ m_q 15 0 61) ∧ (m_q 15 0 61 = m 15 0 61 ∨ ∃ x, p ≤ x ∧ x < m0 15 0 13 ∧ m_q 15 0 61 = m 92 0 x + 1) := by
  have st : ∀ (p : Int) (m : rHp), en77 m0 (4, [p, w], m) = if p ≥ m0 15 0 13 then .inr (0, 1, m) else if m 92 0 p < m 15 0 61 then .inl (4, [p + 1, w], m) else .inl (4, [p + 1, w], rUp m 15 0 61 (m 92 0 p + 1)) := by
    intro p m
    unfold en77
    simp only [zLet, List.getD_cons_zero, List.getD_cons_succ, ↓reduceIte, show ¬ (2 : Nat) = 0 by decide, show ¬ (2 : Nat) = 1 by decide, show ¬ (3 : Nat) = 0 by decide, show ¬ (3 : Nat) = 1 by decide, show ¬ (4 : Nat) = 0 by decide, show ¬ (4 : Nat) = 1 by decide, show ¬ (4 : Nat) = 2 by decide, show ¬ (4 : Nat) = 3 by decide]
  intro n
  induction n with
  | zero =>
    intro p m hf p0 p1
    exact ⟨m, zLoop_inr ((st p m).trans (if_pos (by omega))), fun _ _ => rfl, fun _ _ => rfl, by split <;> rfl, Int.le_refl _, fun x a b => by omega, Or.inl rfl⟩
  | succ n ih =>
    intro p m hf p0 p1
    by_cases e : p ≥ m0 15 0 13
    · exact ⟨m, zLoop_inr ((st p m).trans (if_pos e)), fun _ _ => rfl, fun _ _ => rfl, by split <;> rfl, Int.le_refl _, fun x a b => by omega, Or.inl rfl⟩
    · by_cases b : m 92 0 p < m 15 0 61
      · obtain ⟨m_q, y1, y2, y3, y4, y5, y6, y7⟩ := ih (p + 1) m (by omega) (by omega) (by omega)
        refine ⟨m_q, (zLoop_inl ((st p m).trans ((if_neg e).trans (if_pos b)))).trans y1, y2, y3, by rw [if_neg e], y5, fun x a d => ?_, ?_⟩
        · by_cases ex : x = p
          · rw [ex]; omega
          · exact y6 x (by omega) d
        · rcases y7 with y7 | ⟨x, a, d, e2⟩
          · exact Or.inl y7
          · exact Or.inr ⟨x, by omega, d, e2⟩
      · obtain ⟨m_q, y1, y2, y3, y4, y5, y6, y7⟩ := ih (p + 1) (rUp m 15 0 61 (m 92 0 p + 1)) (by omega) (by omega) (by omega)
        rw [rUp_at] at y5 y7
        rw [rUp_grp (by decide)] at y6 y7
        refine ⟨m_q, (zLoop_inl ((st p m).trans ((if_neg e).trans (if_neg b)))).trans y1, fun K hK => by rw [y2 K hK, rUp_grp hK], fun j hj => by rw [y3 j hj, rUp_ne (fun z => hj z.2.2)], by rw [if_neg e], by omega, fun x a d => ?_, ?_⟩
        · by_cases ex : x = p
          · rw [ex]; omega
          · exact y6 x (by omega) d
        · rcases y7 with y7 | ⟨x, a, d, e2⟩
          · exact Or.inr ⟨p, Int.le_refl _, by omega, y7⟩
          · exact Or.inr ⟨x, by omega, d, e2⟩
