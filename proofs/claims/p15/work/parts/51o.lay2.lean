/-! ===== LAYERS laid out, by both ===== -/
theorem lay_lpc {c0 m0 : rHp} (hB : layB m0) (hL : cL c0 m0) : ∀ (n : Nat) (ps : Int) (c : rHp), (381 - sm (fun p => c 18 0 p) (m0 15 0 13)).toNat ≤ n → 0 ≤ ps → ps ≤ sm (fun p => c 18 0 p) (m0 15 0 13) → layJ c0 m0 c →
    (∃ c_q, zLoop (en223 c0) (0, [ps, 1], c) = zLoop (en223 c0) (2, [0, 0], rUp c_q 1 0 8 0) ∧ layJ c0 m0 c_q ∧ ∀ x, 0 ≤ x → x < m0 15 0 32 → layL m0 c_q x) ∨ (∃ c_q, zLoop (en223 c0) (0, [ps, 1], c) = (0, 0, c_q) ∧ (∀ K : Nat, K ≠ 18 → c_q K = c0 K) ∧ ∀ f, pF (m0 15 0 13) (cnM m0) f → ∃ p, 0 ≤ p ∧ p < m0 15 0 13 ∧ m0 15 0 13 ≤ f p) := by
  have P20 := hB.1
  have bd : ∀ c, layJ c0 m0 c → sm (fun p => c 18 0 p) (m0 15 0 13) ≤ 380 := fun c hI => by
    have : sm (fun p => c 18 0 p) (m0 15 0 13) ≤ (m0 15 0 13 - 1) * m0 15 0 13 := (sm_rg (B := m0 15 0 13 - 1) P20.1 (fun p p0 p1 => hI.rg p p0 p1)).2
    have q : (m0 15 0 13 - 1) * m0 15 0 13 ≤ 19 * 20 := by
      by_cases z : m0 15 0 13 = 0
      · rw [z]; decide
      · exact Int.mul_le_mul (by omega) P20.2 P20.1 (by decide)
    omega
  have st1 : ∀ (ps : Int) (c : rHp), ps ≤ 400 → en223 c0 (0, [ps, 1], c) = .inl (1, [0, 0, ps], c) := by
    intro ps c h
    unfold en223
    simp only [zLet, List.getD_cons_zero, List.getD_cons_succ, ↓reduceIte]
    rw [if_neg (show ¬ (1 : Int) = 0 by decide), if_neg (show ¬ ps > 400 by omega)]
  have st0 : ∀ (ps : Int) (c : rHp), en223 c0 (0, [ps, 0], c) = .inl (2, [0, 0], rUp c 1 0 8 0) := by
    intro ps c
    unfold en223
    simp only [zLet, List.getD_cons_zero, List.getD_cons_succ, ↓reduceIte]
  intro n
  induction n with
  | zero =>
    intro ps c hf p0 p1 hI
    have := bd c hI
    omega
  | succ n ih =>
    intro ps c hf p0 p1 hI
    have b0 := bd c hI
    rw [zLoop_inl (st1 ps c (by omega))]
    rcases lay_passc (ps := ps) hB hL _ 0 0 c (Nat.le_refl _) (Int.le_refl 0) hB.2.1 hI (Or.inl rfl) with ⟨c_q, w_q, y1, y2, y3⟩ | y
    · rcases y3 with ⟨u1, u2, u3, u4⟩ | ⟨u1, u2, u3⟩
      · refine Or.inl ⟨c_q, ?_, y2, ?_⟩
        · rw [y1, u1]
          exact zLoop_inl (st0 _ c_q)
        · rw [u3]; exact u4
      · rw [u1] at y1
        rw [y1]
        have := u3.resolve_left (by decide)
        exact ih (ps + 1) c_q (by omega) (by omega) (by omega) y2
    · exact Or.inr y
theorem lay_cntc {c0 m0 : rHp} (hL : cL c0 m0) {w : Int} : ∀ (n : Nat) (p : Int) (c : rHp), (m0 15 0 13 - p).toNat ≤ n → 0 ≤ p → p ≤ m0 15 0 13 → ∃ c_q, zLoop (en223 c0) (2, [p, w], c) = (0, 1, c_q) ∧ (∀ K : Nat, K ≠ 1 → c_q K = c K) ∧ (∀ j, j ≠ 8 → c_q 1 0 j = c 1 0 j) ∧ c 1 0 8 ≤ c_q 1 0 8 ∧ (∀ x, p ≤ x → x < m0 15 0 13 → c 18 0 x + 1 ≤ c_q 1 0 8) ∧ (c_q 1 0 8 = c 1 0 8 ∨ ∃ x, p ≤ x ∧ x < m0 15 0 13 ∧ c_q 1 0 8 = c 18 0 x + 1) := by
  have st : ∀ (p : Int) (c : rHp), en223 c0 (2, [p, w], c) = if p ≥ m0 15 0 13 then .inr (0, 1, c) else if 0 ≤ -c 18 0 p + c 1 0 8 + -1 then .inl (2, [p + 1, w], rUp c 1 0 8 (c 1 0 8)) else .inl (2, [p + 1, w], rUp c 1 0 8 (c 18 0 p + 1)) := by
    intro p c
    unfold en223
    simp only [zLet, List.getD_cons_zero, List.getD_cons_succ, ↓reduceIte, show ¬ (2 : Nat) = 0 by decide, show ¬ (2 : Nat) = 1 by decide, show ¬ (3 : Nat) = 0 by decide, show ¬ (3 : Nat) = 1 by decide, show ¬ (4 : Nat) = 0 by decide, show ¬ (4 : Nat) = 1 by decide, fn101_h, hL.pn]
  intro n
  induction n with
  | zero =>
    intro p c hf p0 p1
    exact ⟨c, zLoop_inr ((st p c).trans (if_pos (by omega))), fun _ _ => rfl, fun _ _ => rfl, Int.le_refl _, fun x a b => by omega, Or.inl rfl⟩
  | succ n ih =>
    intro p c hf p0 p1
    by_cases e : p ≥ m0 15 0 13
    · exact ⟨c, zLoop_inr ((st p c).trans (if_pos e)), fun _ _ => rfl, fun _ _ => rfl, Int.le_refl _, fun x a b => by omega, Or.inl rfl⟩
    · by_cases b : 0 ≤ -c 18 0 p + c 1 0 8 + -1
      · have es : rUp c 1 0 8 (c 1 0 8) = c := rUp_self rfl
        have s1 := (st p c).trans ((if_neg e).trans (if_pos b))
        rw [es] at s1
        obtain ⟨c_q, y1, y2, y3, y5, y6, y7⟩ := ih (p + 1) c (by omega) (by omega) (by omega)
        refine ⟨c_q, (zLoop_inl s1).trans y1, y2, y3, y5, fun x a d => ?_, ?_⟩
        · by_cases ex : x = p
          · rw [ex]; omega
          · exact y6 x (by omega) d
        · rcases y7 with y7 | ⟨x, a, d, e2⟩
          · exact Or.inl y7
          · exact Or.inr ⟨x, by omega, d, e2⟩
      · obtain ⟨c_q, y1, y2, y3, y5, y6, y7⟩ := ih (p + 1) (rUp c 1 0 8 (c 18 0 p + 1)) (by omega) (by omega) (by omega)
        rw [rUp_at] at y5 y7
        rw [rUp_grp (by decide)] at y6 y7
        refine ⟨c_q, (zLoop_inl ((st p c).trans ((if_neg e).trans (if_neg b)))).trans y1, fun K hK => by rw [y2 K hK, rUp_grp hK], fun j hj => by rw [y3 j hj, rUp_ne (fun z => hj z.2.2)], by omega, fun x a d => ?_, ?_⟩
        · by_cases ex : x = p
          · rw [ex]; omega
          · exact y6 x (by omega) d
        · rcases y7 with y7 | ⟨x, a, d, e2⟩
          · exact Or.inr ⟨p, Int.le_refl _, by omega, y7⟩
          · exact Or.inr ⟨x, by omega, d, e2⟩
theorem fn94_eq {g : rHp} : ∃ g_q, fn94 [0] g = (0, 0, g_q) ∧ (∀ K, K ≠ 18 → g_q K = g K) ∧ ∀ x, 0 ≤ x → x < 20 → g_q 18 0 x = 0 := by
  have st : ∀ (k : Int) (h : rHp), en94 g (0, [0, k], h) = if k ≥ 20 then .inr (0, 0, h) else .inl (0, [0, k + 1], rUp h 18 0 k 0) := by
    intro k h
    unfold en94
    simp only [zLet, List.getD_cons_zero, List.getD_cons_succ, ↓reduceIte]
  exact fill_lp st _ 0 g (Nat.le_refl _) (by decide) (by decide) (fun x x0 x1 => by omega)
/-- LAYERS by both: the same, or none by both -/
theorem lay_two {c0 m0 : rHp} (hB : layB m0) (hL : cL c0 m0) :
    (∃ c_q m_q, fn223 [] c0 = (0, 1, c_q) ∧ fn77 [] m0 = (0, 1, m_q) ∧ (∀ K : Nat, K ≠ 18 → K ≠ 1 → c_q K = c0 K) ∧ (∀ j, j ≠ 8 → c_q 1 0 j = c0 1 0 j) ∧ (∀ K : Nat, K ≠ 92 → K ≠ 15 → m_q K = m0 K) ∧ (∀ j, j ≠ 61 → m_q 15 0 j = m0 15 0 j) ∧ (∀ p, 0 ≤ p → p < m0 15 0 13 → c_q 18 0 p = m_q 92 0 p ∧ 0 ≤ m_q 92 0 p ∧ m_q 92 0 p < 20) ∧ c_q 1 0 8 = m_q 15 0 61 ∧ 0 ≤ m_q 15 0 61 ∧ m_q 15 0 61 ≤ 20) ∨
    (∃ c_q m_q, fn223 [] c0 = (0, 0, c_q) ∧ fn77 [] m0 = (0, 0, m_q) ∧ (∀ K : Nat, K ≠ 18 → c_q K = c0 K) ∧ ∀ K : Nat, K ≠ 92 → m_q K = m0 K) := by
  have P20 := hB.1
  have hC := cnM_in hB
  obtain ⟨c1, f1, f2, f3⟩ := fn94_eq (g := c0)
  have e223 : fn223 [] c0 = zLoop (en223 c0) (0, [0, 1], c1) := by
    unfold fn223 dn223
    simp only [zLet, f1]
    rfl
  have hJ : layJ c0 m0 c1 := ⟨f2, fun p p0 p1 => by rw [f3 p p0 (by omega)]; omega, fun f hf p p0 p1 => by rw [f3 p p0 (by omega)]; exact hf.1 p p0 p1⟩
  have s0 : 0 ≤ sm (fun p => c1 18 0 p) (m0 15 0 13) := (sm_rg (B := 20) P20.1 (fun p p0 p1 => by
    show 0 ≤ c1 18 0 p ∧ c1 18 0 p ≤ 20
    rw [f3 p p0 (by omega)]; exact ⟨Int.le_refl _, by decide⟩)).1
  have hc := lay_lpc hB hL _ 0 c1 (Nat.le_refl _) (Int.le_refl 0) s0 hJ
  rw [← e223] at hc
  rcases hc with ⟨c2, x1, x2, x3⟩ | ⟨c2, x1, x2, x3⟩
  · -- the first side has LAYERS
    have pc : pF (m0 15 0 13) (cnM m0) (fun p => c2 18 0 p) := by
      refine ⟨fun p p0 p1 => (x2.rg p p0 p1).1, ?_⟩
      rintro a b d ⟨r, g, r0, r1, g0, g1, hk, ea, eb, ed⟩
      rw [ea, eb, ed]
      exact x3 r r0 r1 g g0 g1 hk
    rcases lay_m hB with ⟨m_q, y1, y2, y3, y4, y5, y6, y7, y8⟩ | ⟨m_q, y1, y2, y3⟩
    · obtain ⟨c3, w1, w2, w3, w5, w6, w7⟩ := lay_cntc hL (w := 0) _ 0 (rUp c2 1 0 8 0) (Nat.le_refl _) (Int.le_refl 0) P20.1
      have e18 : c3 18 = c2 18 := by rw [w2 18 (by decide), rUp_grp (by decide)]
      rw [rUp_at] at w5 w7
      rw [rUp_grp (by decide)] at w6 w7
      have same : ∀ p, 0 ≤ p → p < m0 15 0 13 → c2 18 0 p = m_q 92 0 p := fun p p0 p1 => by
        have a1 := x2.lo _ y4 p p0 p1
        have a2 := y5 _ pc p p0 p1
        have a1 : c2 18 0 p ≤ m_q 92 0 p := a1
        have a2 : m_q 92 0 p ≤ c2 18 0 p := a2
        omega
      refine Or.inl ⟨c3, m_q, x1.trans w1, y1, fun K a b => by rw [w2 K b, rUp_grp b]; exact x2.fr K a, fun j hj => ?_, y2, y3, fun p p0 p1 => ?_, ?_, y6, ?_⟩
      · rw [w3 j hj, rUp_ne (fun z => hj z.2.2), x2.fr 1 (by decide)]
      · have a1 := x2.rg p p0 p1
        have a2 := same p p0 p1
        rw [e18]
        exact ⟨a2, by omega, by omega⟩
      · rcases w7 with w7 | ⟨x, a, d, e⟩
        · rcases y8 with y8 | ⟨u, u0, u1, u2⟩
          · omega
          · have := w6 u u0 u1
            have := same u u0 u1
            have := (x2.rg u u0 u1).1
            omega
        · have s1 := same x a d
          have l1 := y7 x a d
          rcases y8 with y8 | ⟨u, u0, u1, u2⟩
          · have := (x2.rg x a d).1; omega
          · have := w6 u u0 u1
            have := same u u0 u1
            omega
      · rcases y8 with y8 | ⟨u, u0, u1, u2⟩
        · omega
        · have := (x2.rg u u0 u1).2
          have := same u u0 u1
          omega
    · obtain ⟨p, p0, p1, p2⟩ := y3 _ pc
      have := (x2.rg p p0 p1).2
      have p2 : 20 < c2 18 0 p := p2
      omega
  · rcases lay_m hB with ⟨m_q, y1, y2, y3, y4, y5, y6, y7, y8⟩ | ⟨m_q, y1, y2, y3⟩
    · obtain ⟨p, p0, p1, p2⟩ := x3 _ y4
      have := pF_low hC y4 (fun f hf q q0 q1 => y5 f hf q q0 q1) p p0 p1
      omega
    · exact Or.inr ⟨c2, m_q, x1, y1, x2, y2⟩
