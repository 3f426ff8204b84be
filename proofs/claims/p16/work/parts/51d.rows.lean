/-! ===== rows become TUPLES, by both ===== -/
variable {N : Int}
noncomputable def rwV (h i : Int) (g : rHp) : Int := if h = 1 then g 106 0 i else if h = 2 then g 107 0 i else g 108 0 i
/-- ARG k of what row i becomes -/
noncomputable def rwM (m g : rHp) (r i k : Int) : Int := if k ≥ m 66 0 (m 69 0 r) then g 105 0 (4 * i + k) else if m 70 0 (4 * r + k) ≠ 3 then g 105 0 (4 * i + k) else rwV (m 71 0 r) i g
theorem en75_go {r i : Int} {m g : rHp} (hi : i < g 15 0 90) (hb : g 15 0 77 = 0) (h1 : 1 ≤ m 71 0 r) (hc : m 71 0 r ≤ 2 ∨ g 109 0 i ≠ 0) : en75 m (0, [r, i], g) = .inl (0, [r, i + 1], (fn57 [m 69 0 r, r] (mk4 102 (rwM m g r i) g)).2.2) := by
  unfold en75 mk4 rwM
  simp only [zLet, List.getD_cons_zero, List.getD_cons_succ, ↓reduceIte]
  rw [if_neg (show ¬ i ≥ g 15 0 90 by omega), if_neg (fun z => z hb), show 4 * i + (0 : Int) = 4 * i by omega, show 4 * r + (0 : Int) = 4 * r by omega]
  have hv : rwV (m 71 0 r) i g = if m 71 0 r = 1 then g 106 0 i else if m 71 0 r = 2 then g 107 0 i else g 108 0 i := rfl
  generalize rwV (m 71 0 r) i g = v at hv ⊢
  generalize m 66 0 (m 69 0 r) = a
  by_cases q1 : m 71 0 r = 1
  · rw [if_pos (show m 71 0 r ≤ 2 by omega), if_neg (show ¬ m 71 0 r ≠ 1 from fun z => z q1)]
    rw [if_pos q1] at hv
    rw [← hv]
    by_cases a0 : 0 ≥ a
    · simp only [if_pos a0, if_pos (show (1 : Int) ≥ a by omega), if_pos (show (2 : Int) ≥ a by omega), if_pos (show (3 : Int) ≥ a by omega)]
    · by_cases t0 : m 70 0 (4 * r) ≠ 3
      · by_cases a1 : 1 ≥ a
        · simp only [if_neg a0, if_pos t0, if_pos a1, if_pos (show (2 : Int) ≥ a by omega), if_pos (show (3 : Int) ≥ a by omega)]
        · by_cases t1 : m 70 0 (4 * r + 1) ≠ 3
          · by_cases a2 : 2 ≥ a
            · simp only [if_neg a0, if_pos t0, if_neg a1, if_pos t1, if_pos a2, if_pos (show (3 : Int) ≥ a by omega)]
            · by_cases t2 : m 70 0 (4 * r + 2) ≠ 3
              · by_cases a3 : 3 ≥ a
                · simp only [if_neg a0, if_pos t0, if_neg a1, if_pos t1, if_neg a2, if_pos t2, if_pos a3]
                · by_cases t3 : m 70 0 (4 * r + 3) ≠ 3
                  · simp only [if_neg a0, if_pos t0, if_neg a1, if_pos t1, if_neg a2, if_pos t2, if_neg a3, if_pos t3]
                  · simp only [if_neg a0, if_pos t0, if_neg a1, if_pos t1, if_neg a2, if_pos t2, if_neg a3, if_neg t3]
              · by_cases a3 : 3 ≥ a
                · simp only [if_neg a0, if_pos t0, if_neg a1, if_pos t1, if_neg a2, if_neg t2, if_pos a3]
                · by_cases t3 : m 70 0 (4 * r + 3) ≠ 3
                  · simp only [if_neg a0, if_pos t0, if_neg a1, if_pos t1, if_neg a2, if_neg t2, if_neg a3, if_pos t3]
                  · simp only [if_neg a0, if_pos t0, if_neg a1, if_pos t1, if_neg a2, if_neg t2, if_neg a3, if_neg t3]
          · by_cases a2 : 2 ≥ a
            · simp only [if_neg a0, if_pos t0, if_neg a1, if_neg t1, if_pos a2, if_pos (show (3 : Int) ≥ a by omega)]
            · by_cases t2 : m 70 0 (4 * r + 2) ≠ 3
              · by_cases a3 : 3 ≥ a
                · simp only [if_neg a0, if_pos t0, if_neg a1, if_neg t1, if_neg a2, if_pos t2, if_pos a3]
                · by_cases t3 : m 70 0 (4 * r + 3) ≠ 3
                  · simp only [if_neg a0, if_pos t0, if_neg a1, if_neg t1, if_neg a2, if_pos t2, if_neg a3, if_pos t3]
                  · simp only [if_neg a0, if_pos t0, if_neg a1, if_neg t1, if_neg a2, if_pos t2, if_neg a3, if_neg t3]
              · by_cases a3 : 3 ≥ a
                · simp only [if_neg a0, if_pos t0, if_neg a1, if_neg t1, if_neg a2, if_neg t2, if_pos a3]
                · by_cases t3 : m 70 0 (4 * r + 3) ≠ 3
                  · simp only [if_neg a0, if_pos t0, if_neg a1, if_neg t1, if_neg a2, if_neg t2, if_neg a3, if_pos t3]
                  · simp only [if_neg a0, if_pos t0, if_neg a1, if_neg t1, if_neg a2, if_neg t2, if_neg a3, if_neg t3]
      · by_cases a1 : 1 ≥ a
        · simp only [if_neg a0, if_neg t0, if_pos a1, if_pos (show (2 : Int) ≥ a by omega), if_pos (show (3 : Int) ≥ a by omega)]
        · by_cases t1 : m 70 0 (4 * r + 1) ≠ 3
          · by_cases a2 : 2 ≥ a
            · simp only [if_neg a0, if_neg t0, if_neg a1, if_pos t1, if_pos a2, if_pos (show (3 : Int) ≥ a by omega)]
            · by_cases t2 : m 70 0 (4 * r + 2) ≠ 3
              · by_cases a3 : 3 ≥ a
                · simp only [if_neg a0, if_neg t0, if_neg a1, if_pos t1, if_neg a2, if_pos t2, if_pos a3]
                · by_cases t3 : m 70 0 (4 * r + 3) ≠ 3
                  · simp only [if_neg a0, if_neg t0, if_neg a1, if_pos t1, if_neg a2, if_pos t2, if_neg a3, if_pos t3]
                  · simp only [if_neg a0, if_neg t0, if_neg a1, if_pos t1, if_neg a2, if_pos t2, if_neg a3, if_neg t3]
              · by_cases a3 : 3 ≥ a
                · simp only [if_neg a0, if_neg t0, if_neg a1, if_pos t1, if_neg a2, if_neg t2, if_pos a3]
                · by_cases t3 : m 70 0 (4 * r + 3) ≠ 3
                  · simp only [if_neg a0, if_neg t0, if_neg a1, if_pos t1, if_neg a2, if_neg t2, if_neg a3, if_pos t3]
                  · simp only [if_neg a0, if_neg t0, if_neg a1, if_pos t1, if_neg a2, if_neg t2, if_neg a3, if_neg t3]
          · by_cases a2 : 2 ≥ a
            · simp only [if_neg a0, if_neg t0, if_neg a1, if_neg t1, if_pos a2, if_pos (show (3 : Int) ≥ a by omega)]
            · by_cases t2 : m 70 0 (4 * r + 2) ≠ 3
              · by_cases a3 : 3 ≥ a
                · simp only [if_neg a0, if_neg t0, if_neg a1, if_neg t1, if_neg a2, if_pos t2, if_pos a3]
                · by_cases t3 : m 70 0 (4 * r + 3) ≠ 3
                  · simp only [if_neg a0, if_neg t0, if_neg a1, if_neg t1, if_neg a2, if_pos t2, if_neg a3, if_pos t3]
                  · simp only [if_neg a0, if_neg t0, if_neg a1, if_neg t1, if_neg a2, if_pos t2, if_neg a3, if_neg t3]
              · by_cases a3 : 3 ≥ a
                · simp only [if_neg a0, if_neg t0, if_neg a1, if_neg t1, if_neg a2, if_neg t2, if_pos a3]
                · by_cases t3 : m 70 0 (4 * r + 3) ≠ 3
                  · simp only [if_neg a0, if_neg t0, if_neg a1, if_neg t1, if_neg a2, if_neg t2, if_neg a3, if_pos t3]
                  · simp only [if_neg a0, if_neg t0, if_neg a1, if_neg t1, if_neg a2, if_neg t2, if_neg a3, if_neg t3]
  · rw [if_neg q1] at hv
    by_cases q2 : m 71 0 r = 2
    · rw [if_pos (show m 71 0 r ≤ 2 by omega), if_pos (show m 71 0 r ≠ 1 from q1)]
      rw [if_pos q2] at hv
      rw [← hv]
      by_cases a0 : 0 ≥ a
      · simp only [if_pos a0, if_pos (show (1 : Int) ≥ a by omega), if_pos (show (2 : Int) ≥ a by omega), if_pos (show (3 : Int) ≥ a by omega)]
      · by_cases t0 : m 70 0 (4 * r) ≠ 3
        · by_cases a1 : 1 ≥ a
          · simp only [if_neg a0, if_pos t0, if_pos a1, if_pos (show (2 : Int) ≥ a by omega), if_pos (show (3 : Int) ≥ a by omega)]
          · by_cases t1 : m 70 0 (4 * r + 1) ≠ 3
            · by_cases a2 : 2 ≥ a
              · simp only [if_neg a0, if_pos t0, if_neg a1, if_pos t1, if_pos a2, if_pos (show (3 : Int) ≥ a by omega)]
              · by_cases t2 : m 70 0 (4 * r + 2) ≠ 3
                · by_cases a3 : 3 ≥ a
                  · simp only [if_neg a0, if_pos t0, if_neg a1, if_pos t1, if_neg a2, if_pos t2, if_pos a3]
                  · by_cases t3 : m 70 0 (4 * r + 3) ≠ 3
                    · simp only [if_neg a0, if_pos t0, if_neg a1, if_pos t1, if_neg a2, if_pos t2, if_neg a3, if_pos t3]
                    · simp only [if_neg a0, if_pos t0, if_neg a1, if_pos t1, if_neg a2, if_pos t2, if_neg a3, if_neg t3]
                · by_cases a3 : 3 ≥ a
                  · simp only [if_neg a0, if_pos t0, if_neg a1, if_pos t1, if_neg a2, if_neg t2, if_pos a3]
                  · by_cases t3 : m 70 0 (4 * r + 3) ≠ 3
                    · simp only [if_neg a0, if_pos t0, if_neg a1, if_pos t1, if_neg a2, if_neg t2, if_neg a3, if_pos t3]
                    · simp only [if_neg a0, if_pos t0, if_neg a1, if_pos t1, if_neg a2, if_neg t2, if_neg a3, if_neg t3]
            · by_cases a2 : 2 ≥ a
              · simp only [if_neg a0, if_pos t0, if_neg a1, if_neg t1, if_pos a2, if_pos (show (3 : Int) ≥ a by omega)]
              · by_cases t2 : m 70 0 (4 * r + 2) ≠ 3
                · by_cases a3 : 3 ≥ a
                  · simp only [if_neg a0, if_pos t0, if_neg a1, if_neg t1, if_neg a2, if_pos t2, if_pos a3]
                  · by_cases t3 : m 70 0 (4 * r + 3) ≠ 3
                    · simp only [if_neg a0, if_pos t0, if_neg a1, if_neg t1, if_neg a2, if_pos t2, if_neg a3, if_pos t3]
                    · simp only [if_neg a0, if_pos t0, if_neg a1, if_neg t1, if_neg a2, if_pos t2, if_neg a3, if_neg t3]
                · by_cases a3 : 3 ≥ a
                  · simp only [if_neg a0, if_pos t0, if_neg a1, if_neg t1, if_neg a2, if_neg t2, if_pos a3]
                  · by_cases t3 : m 70 0 (4 * r + 3) ≠ 3
                    · simp only [if_neg a0, if_pos t0, if_neg a1, if_neg t1, if_neg a2, if_neg t2, if_neg a3, if_pos t3]
                    · simp only [if_neg a0, if_pos t0, if_neg a1, if_neg t1, if_neg a2, if_neg t2, if_neg a3, if_neg t3]
        · by_cases a1 : 1 ≥ a
          · simp only [if_neg a0, if_neg t0, if_pos a1, if_pos (show (2 : Int) ≥ a by omega), if_pos (show (3 : Int) ≥ a by omega)]
          · by_cases t1 : m 70 0 (4 * r + 1) ≠ 3
            · by_cases a2 : 2 ≥ a
              · simp only [if_neg a0, if_neg t0, if_neg a1, if_pos t1, if_pos a2, if_pos (show (3 : Int) ≥ a by omega)]
              · by_cases t2 : m 70 0 (4 * r + 2) ≠ 3
                · by_cases a3 : 3 ≥ a
                  · simp only [if_neg a0, if_neg t0, if_neg a1, if_pos t1, if_neg a2, if_pos t2, if_pos a3]
                  · by_cases t3 : m 70 0 (4 * r + 3) ≠ 3
                    · simp only [if_neg a0, if_neg t0, if_neg a1, if_pos t1, if_neg a2, if_pos t2, if_neg a3, if_pos t3]
                    · simp only [if_neg a0, if_neg t0, if_neg a1, if_pos t1, if_neg a2, if_pos t2, if_neg a3, if_neg t3]
                · by_cases a3 : 3 ≥ a
                  · simp only [if_neg a0, if_neg t0, if_neg a1, if_pos t1, if_neg a2, if_neg t2, if_pos a3]
                  · by_cases t3 : m 70 0 (4 * r + 3) ≠ 3
                    · simp only [if_neg a0, if_neg t0, if_neg a1, if_pos t1, if_neg a2, if_neg t2, if_neg a3, if_pos t3]
                    · simp only [if_neg a0, if_neg t0, if_neg a1, if_pos t1, if_neg a2, if_neg t2, if_neg a3, if_neg t3]
            · by_cases a2 : 2 ≥ a
              · simp only [if_neg a0, if_neg t0, if_neg a1, if_neg t1, if_pos a2, if_pos (show (3 : Int) ≥ a by omega)]
              · by_cases t2 : m 70 0 (4 * r + 2) ≠ 3
                · by_cases a3 : 3 ≥ a
                  · simp only [if_neg a0, if_neg t0, if_neg a1, if_neg t1, if_neg a2, if_pos t2, if_pos a3]
                  · by_cases t3 : m 70 0 (4 * r + 3) ≠ 3
                    · simp only [if_neg a0, if_neg t0, if_neg a1, if_neg t1, if_neg a2, if_pos t2, if_neg a3, if_pos t3]
                    · simp only [if_neg a0, if_neg t0, if_neg a1, if_neg t1, if_neg a2, if_pos t2, if_neg a3, if_neg t3]
                · by_cases a3 : 3 ≥ a
                  · simp only [if_neg a0, if_neg t0, if_neg a1, if_neg t1, if_neg a2, if_neg t2, if_pos a3]
                  · by_cases t3 : m 70 0 (4 * r + 3) ≠ 3
                    · simp only [if_neg a0, if_neg t0, if_neg a1, if_neg t1, if_neg a2, if_neg t2, if_neg a3, if_pos t3]
                    · simp only [if_neg a0, if_neg t0, if_neg a1, if_neg t1, if_neg a2, if_neg t2, if_neg a3, if_neg t3]
    · rw [if_neg (show ¬ m 71 0 r ≤ 2 by omega)]
      rw [if_neg q2] at hv
      have h9 : g 109 0 i ≠ 0 := hc.resolve_left (by omega)
      rw [if_pos h9]
      rw [← hv]
      by_cases a0 : 0 ≥ a
      · simp only [if_pos a0, if_pos (show (1 : Int) ≥ a by omega), if_pos (show (2 : Int) ≥ a by omega), if_pos (show (3 : Int) ≥ a by omega)]
      · by_cases t0 : m 70 0 (4 * r) ≠ 3
        · by_cases a1 : 1 ≥ a
          · simp only [if_neg a0, if_pos t0, if_pos a1, if_pos (show (2 : Int) ≥ a by omega), if_pos (show (3 : Int) ≥ a by omega)]
          · by_cases t1 : m 70 0 (4 * r + 1) ≠ 3
            · by_cases a2 : 2 ≥ a
              · simp only [if_neg a0, if_pos t0, if_neg a1, if_pos t1, if_pos a2, if_pos (show (3 : Int) ≥ a by omega)]
              · by_cases t2 : m 70 0 (4 * r + 2) ≠ 3
                · by_cases a3 : 3 ≥ a
                  · simp only [if_neg a0, if_pos t0, if_neg a1, if_pos t1, if_neg a2, if_pos t2, if_pos a3]
                  · by_cases t3 : m 70 0 (4 * r + 3) ≠ 3
                    · simp only [if_neg a0, if_pos t0, if_neg a1, if_pos t1, if_neg a2, if_pos t2, if_neg a3, if_pos t3]
                    · simp only [if_neg a0, if_pos t0, if_neg a1, if_pos t1, if_neg a2, if_pos t2, if_neg a3, if_neg t3]
                · by_cases a3 : 3 ≥ a
                  · simp only [if_neg a0, if_pos t0, if_neg a1, if_pos t1, if_neg a2, if_neg t2, if_pos a3]
                  · by_cases t3 : m 70 0 (4 * r + 3) ≠ 3
                    · simp only [if_neg a0, if_pos t0, if_neg a1, if_pos t1, if_neg a2, if_neg t2, if_neg a3, if_pos t3]
                    · simp only [if_neg a0, if_pos t0, if_neg a1, if_pos t1, if_neg a2, if_neg t2, if_neg a3, if_neg t3]
            · by_cases a2 : 2 ≥ a
              · simp only [if_neg a0, if_pos t0, if_neg a1, if_neg t1, if_pos a2, if_pos (show (3 : Int) ≥ a by omega)]
              · by_cases t2 : m 70 0 (4 * r + 2) ≠ 3
                · by_cases a3 : 3 ≥ a
                  · simp only [if_neg a0, if_pos t0, if_neg a1, if_neg t1, if_neg a2, if_pos t2, if_pos a3]
                  · by_cases t3 : m 70 0 (4 * r + 3) ≠ 3
                    · simp only [if_neg a0, if_pos t0, if_neg a1, if_neg t1, if_neg a2, if_pos t2, if_neg a3, if_pos t3]
                    · simp only [if_neg a0, if_pos t0, if_neg a1, if_neg t1, if_neg a2, if_pos t2, if_neg a3, if_neg t3]
                · by_cases a3 : 3 ≥ a
                  · simp only [if_neg a0, if_pos t0, if_neg a1, if_neg t1, if_neg a2, if_neg t2, if_pos a3]
                  · by_cases t3 : m 70 0 (4 * r + 3) ≠ 3
                    · simp only [if_neg a0, if_pos t0, if_neg a1, if_neg t1, if_neg a2, if_neg t2, if_neg a3, if_pos t3]
                    · simp only [if_neg a0, if_pos t0, if_neg a1, if_neg t1, if_neg a2, if_neg t2, if_neg a3, if_neg t3]
        · by_cases a1 : 1 ≥ a
          · simp only [if_neg a0, if_neg t0, if_pos a1, if_pos (show (2 : Int) ≥ a by omega), if_pos (show (3 : Int) ≥ a by omega)]
          · by_cases t1 : m 70 0 (4 * r + 1) ≠ 3
            · by_cases a2 : 2 ≥ a
              · simp only [if_neg a0, if_neg t0, if_neg a1, if_pos t1, if_pos a2, if_pos (show (3 : Int) ≥ a by omega)]
              · by_cases t2 : m 70 0 (4 * r + 2) ≠ 3
                · by_cases a3 : 3 ≥ a
                  · simp only [if_neg a0, if_neg t0, if_neg a1, if_pos t1, if_neg a2, if_pos t2, if_pos a3]
                  · by_cases t3 : m 70 0 (4 * r + 3) ≠ 3
                    · simp only [if_neg a0, if_neg t0, if_neg a1, if_pos t1, if_neg a2, if_pos t2, if_neg a3, if_pos t3]
                    · simp only [if_neg a0, if_neg t0, if_neg a1, if_pos t1, if_neg a2, if_pos t2, if_neg a3, if_neg t3]
                · by_cases a3 : 3 ≥ a
                  · simp only [if_neg a0, if_neg t0, if_neg a1, if_pos t1, if_neg a2, if_neg t2, if_pos a3]
                  · by_cases t3 : m 70 0 (4 * r + 3) ≠ 3
                    · simp only [if_neg a0, if_neg t0, if_neg a1, if_pos t1, if_neg a2, if_neg t2, if_neg a3, if_pos t3]
                    · simp only [if_neg a0, if_neg t0, if_neg a1, if_pos t1, if_neg a2, if_neg t2, if_neg a3, if_neg t3]
            · by_cases a2 : 2 ≥ a
              · simp only [if_neg a0, if_neg t0, if_neg a1, if_neg t1, if_pos a2, if_pos (show (3 : Int) ≥ a by omega)]
              · by_cases t2 : m 70 0 (4 * r + 2) ≠ 3
                · by_cases a3 : 3 ≥ a
                  · simp only [if_neg a0, if_neg t0, if_neg a1, if_neg t1, if_neg a2, if_pos t2, if_pos a3]
                  · by_cases t3 : m 70 0 (4 * r + 3) ≠ 3
                    · simp only [if_neg a0, if_neg t0, if_neg a1, if_neg t1, if_neg a2, if_pos t2, if_neg a3, if_pos t3]
                    · simp only [if_neg a0, if_neg t0, if_neg a1, if_neg t1, if_neg a2, if_pos t2, if_neg a3, if_neg t3]
                · by_cases a3 : 3 ≥ a
                  · simp only [if_neg a0, if_neg t0, if_neg a1, if_neg t1, if_neg a2, if_neg t2, if_pos a3]
                  · by_cases t3 : m 70 0 (4 * r + 3) ≠ 3
                    · simp only [if_neg a0, if_neg t0, if_neg a1, if_neg t1, if_neg a2, if_neg t2, if_neg a3, if_pos t3]
                    · simp only [if_neg a0, if_neg t0, if_neg a1, if_neg t1, if_neg a2, if_neg t2, if_neg a3, if_neg t3]
theorem en75_skip {r i : Int} {m g : rHp} (hi : i < g 15 0 90) (hb : g 15 0 77 = 0) (h2 : ¬ m 71 0 r ≤ 2) (h9 : g 109 0 i = 0) : en75 m (0, [r, i], g) = .inl (0, [r, i + 1], g) := by
  unfold en75
  simp only [zLet, List.getD_cons_zero, List.getD_cons_succ, ↓reduceIte]
  rw [if_neg (show ¬ i ≥ g 15 0 90 by omega), if_neg (fun z => z hb), if_neg h2, if_neg (fun z => z h9)]
theorem en75_end {r i : Int} {m g : rHp} (h : i ≥ g 15 0 90 ∨ g 15 0 77 ≠ 0) : zLoop (en75 m) (0, [r, i], g) = (0, 0, g) := by
  refine zLoop_inr ?_
  unfold en75
  simp only [zLet, List.getD_cons_zero, List.getD_cons_succ, ↓reduceIte]
  by_cases b : i ≥ g 15 0 90
  · rw [if_pos b]
  · rw [if_neg b, if_pos (h.resolve_left b)]
theorem rows_lp {r R kn : Int} {c0 m1 mA : rHp} (r0 : 0 ≤ r) (hH : (gHd N) r R kn c0 m1) (hL : gTl r R kn c0 m1) (hR : (rR N) (m1 71 0 r) (m1 69 0 r) c0 m1) (s66 : mA 66 = m1 66) (s69 : mA 69 = m1 69) (s70 : mA 70 = m1 70) (s71 : mA 71 = m1 71) : ∀ (n : Nat) (i : Int) (c m : rHp), (m1 15 0 90 - i).toNat ≤ n → 0 ≤ i → i ≤ m1 15 0 90 → (bP N) c0 m1 c m → m 15 0 77 = 0 → m 15 0 76 = 0 →
    ∃ o c_q m_q, zLoop (en237 c0) (0, [9 * R, r, i], c) = (o, 0, c_q) ∧ zLoop (en75 mA) (0, [r, i], m) = (0, 0, m_q) ∧ ((o = 0 ∧ m_q 15 0 77 = 0 ∧ (bP N) c0 m1 c_q m_q) ∨ (o = 1 ∧ m_q 15 0 77 = 3)) := by
  obtain ⟨g1, g2, g3, g4, g5⟩ := hH
  obtain ⟨t1, t2, t3, t4, t5⟩ := hL
  obtain ⟨r1, r2, r3, r4⟩ := hR
  have stC : ∀ (i : Int) (g : rHp), en237 c0 (0, [9 * R, r, i], g) = if i ≥ c0 5 0 3 then .inr (0, 0, g) else if c0 36 0 i = 0 then .inl (0, [9 * R, r, i + 1], g) else (if (fn233 [c0 10 (9 * R) 8, 0, r] (rUp (zCpy g 34 0 (4 * i) 33 0 0 4) 33 0 (c0 10 (9 * R) 13) (c0 35 0 i))).1 = 0 then .inl (0, [9 * R, r, i + 1], (fn233 [c0 10 (9 * R) 8, 0, r] (rUp (zCpy g 34 0 (4 * i) 33 0 0 4) 33 0 (c0 10 (9 * R) 13) (c0 35 0 i))).2.2) else .inr (1, 0, (fn233 [c0 10 (9 * R) 8, 0, r] (rUp (zCpy g 34 0 (4 * i) 33 0 0 4) 33 0 (c0 10 (9 * R) 13) (c0 35 0 i))).2.2)) := by
    intro i g
    unfold en237
    simp only [zLet, List.getD_cons_zero, List.getD_cons_succ, ↓reduceIte]
  intro n
  induction n with
  | zero =>
    intro i c m hf i0 i1 hP hb hr
    exact ⟨0, c, m, zLoop_inr ((stC i c).trans (if_pos (by omega))), en75_end (Or.inl (by rw [hP.m15 90 (by decide)]; omega)), Or.inl ⟨rfl, hb, hP⟩⟩
  | succ n ih =>
    intro i c m hf i0 i1 hP hb hr
    have m90 : m 15 0 90 = m1 15 0 90 := hP.m15 90 (by decide)
    by_cases ie : i = m1 15 0 90
    · exact ⟨0, c, m, zLoop_inr ((stC i c).trans (if_pos (by omega))), en75_end (Or.inl (by omega)), Or.inl ⟨rfl, hb, hP⟩⟩
    obtain ⟨o1, ⟨o2, o3, o4⟩, o5, o6⟩ := r4 i i0 (by omega)
    have m109 : m 109 = m1 109 := hP.mK 109 (by decide) (by decide)
    have sC0 := (stC i c).trans (if_neg (show ¬ i ≥ c0 5 0 3 by omega))
    by_cases b : c0 36 0 i = 0
    · -- no amount
      rw [if_pos b] at sC0
      have h3 : 3 ≤ m1 71 0 r := by
        by_cases q1 : m1 71 0 r = 1
        · have := (o5 q1).1; omega
        · by_cases q2 : m1 71 0 r = 2
          · have := o6 q2; omega
          · omega
      have sM0 : en75 mA (0, [r, i], m) = .inl (0, [r, i + 1], m) := en75_skip (by omega) hb (by rw [s71]; omega) (by rw [m109, ← (o4 h3).1]; exact b)
      obtain ⟨o, c_q, m_q, z1, z2, z3⟩ := ih (i + 1) c m (by omega) (by omega) (by omega) hP hb hr
      exact ⟨o, c_q, m_q, (zLoop_inl sC0).trans z1, (zLoop_inl sM0).trans z2, z3⟩
    · rw [if_neg b] at sC0
      have sM0 : en75 mA (0, [r, i], m) = .inl (0, [r, i + 1], (fn57 [mA 69 0 r, r] (mk4 102 (rwM mA m r i) m)).2.2) := en75_go (by omega) hb (by rw [s71]; exact t1.1) (by
        by_cases q : mA 71 0 r ≤ 2
        · exact Or.inl q
        · refine Or.inr ?_
          rw [m109, ← (o4 (by rw [s71] at q; omega)).1]
          exact b)
      obtain ⟨c1, hc1⟩ : ∃ x, rUp (zCpy c 34 0 (4 * i) 33 0 0 4) 33 0 (c0 10 (9 * R) 13) (c0 35 0 i) = x := ⟨_, rfl⟩
      obtain ⟨m2, hm2⟩ : ∃ x, mk4 102 (rwM mA m r i) m = x := ⟨_, rfl⟩
      rw [hc1] at sC0
      rw [hm2] at sM0
      have cg : ∀ K : Nat, K ≠ 33 → c1 K = c K := fun K hK => by rw [← hc1, rUp_grp hK, zCpy_grp hK]
      have mg : ∀ K : Nat, K ≠ 102 → m2 K = m K := fun K hK => by rw [← hm2, mk4_grp hK]
      -- the amount, as both have it
      have am : rwV (mA 71 0 r) i m = c0 35 0 i ∧ (vOk N) (c0 35 0 i) := by
        unfold rwV
        rw [s71, hP.mK 106 (by decide) (by decide), hP.mK 107 (by decide) (by decide), hP.mK 108 (by decide) (by decide)]
        by_cases q1 : m1 71 0 r = 1
        · rw [if_pos q1]
          exact ⟨(o2 q1).symm, Or.inl (o5 q1).2⟩
        · rw [if_neg q1]
          by_cases q2 : m1 71 0 r = 2
          · rw [if_pos q2]
            exact ⟨(o3 q2).1.symm, Or.inl (o3 q2).2⟩
          · rw [if_neg q2]
            obtain ⟨y1, y2⟩ := o4 (by omega)
            have y3 := y2.resolve_left (by rw [← y1]; exact b)
            exact ⟨y3.2.1.symm, Or.inl (by rw [y3.2.1]; exact y3.2.2)⟩
      have d0 : ∀ k, 0 ≤ k → k < 4 → c1 33 0 k = if k = c0 10 (9 * R) 13 then c0 35 0 i else m1 105 0 (k + 4 * i) := fun k k0 k4 => by
        rw [← hc1, rUp_in]
        by_cases e : k = c0 10 (9 * R) 13
        · rw [if_pos e, if_pos e]
        · rw [if_neg e, if_neg e, zCpy_in (by omega) (by omega), hP.cK 34 (by decide) (by decide) (by decide), show 4 * i + (k - 0) = k + 4 * i by omega]
          exact (o1 k k0 k4).1
      have d1 : ∀ k, 0 ≤ k → k < 4 → m2 102 0 k = if k = c0 10 (9 * R) 13 then c0 35 0 i else m1 105 0 (k + 4 * i) := fun k k0 k4 => by
        rw [← hm2, mk4_in k0 k4]
        unfold rwM
        rw [s66, s69, s70, am.1, hP.mK 105 (by decide) (by decide), show 4 * i + k = k + 4 * i by omega, show 4 * r + k = k + 4 * r by omega, ← g3]
        by_cases a : k ≥ c0 10 (9 * R) 5
        · rw [if_pos a, if_neg (by omega)]
        · rw [if_neg a]
          have t := t5 k k0 (by omega)
          by_cases e : k = c0 10 (9 * R) 13
          · rw [if_neg (fun z => z (t.2 e)), if_pos e]
          · rw [if_pos (fun z => e (t.1 z)), if_neg e]
      have b1 := bP_dr hP.tt hP.tx hP.vt cg mg
      have e66 : m2 66 = m1 66 := (mg 66 (by decide)).trans (hP.mK 66 (by decide) (by decide))
      have e13 : m2 15 0 13 = m1 15 0 13 := by rw [mg 15 (by decide)]; exact hP.m15 13 (by decide)
      have e71 : m2 71 = m1 71 := (mg 71 (by decide)).trans (hP.mK 71 (by decide) (by decide))
      obtain ⟨o, v, c2, m3, y1, y2, y3⟩ := bring_two (c := c1) (m := m2) (p := m1 69 0 r) (rd := 0) (ru := r) b1.tt b1.tx b1.vt (by rw [e13]; exact g2) (by rw [e66]; omega) (fun k k0 k4 => (d0 k k0 k4).trans (d1 k k0 k4).symm) (fun k k0 k4 hk => by
        rw [e66] at hk
        rw [d1 k k0 k4, if_neg (by omega)]
        exact (o1 k k0 k4).2.2 hk) (fun k k0 k4 => by
        rw [d1 k k0 k4]
        by_cases e : k = c0 10 (9 * R) 13
        · rw [if_pos e]; exact am.2
        · rw [if_neg e]; exact (o1 k k0 k4).2.1) (by rw [mg 15 (by decide)]; exact hr.symm) (Or.inr (by rw [e71]; omega))
      rw [g1, y1] at sC0
      rw [s69, y2] at sM0
      rcases y3 with ⟨eo, hb2⟩ | ⟨eo, hb2⟩
      · rw [eo] at sC0
        have sC1 := sC0.trans (if_pos rfl)
        have hP2 : (bP N) c0 m1 c2 m3 := bP_tr hP (bP_tr b1 hb2)
        have r77 : m3 15 0 77 = 0 := by rw [hb2.m15 77 (by decide), mg 15 (by decide)]; exact hb
        have r76 : m3 15 0 76 = 0 := by rw [hb2.m15 76 (by decide), mg 15 (by decide)]; exact hr
        obtain ⟨o_q, c_q, m_q, z1, z2, z3⟩ := ih (i + 1) c2 m3 (by omega) (by omega) (by omega) hP2 r77 r76
        exact ⟨o_q, c_q, m_q, (zLoop_inl sC1).trans z1, (zLoop_inl sM0).trans z2, z3⟩
      · rw [eo] at sC0
        have sC1 := sC0.trans (if_neg (show ¬ (1 : Nat) = 0 by decide))
        exact ⟨1, c2, m3, zLoop_inr sC1, (zLoop_inl sM0).trans (en75_end (Or.inr (show m3 15 0 77 ≠ 0 by rw [hb2]; decide))), Or.inr ⟨rfl, hb2⟩⟩
