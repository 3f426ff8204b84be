/-! ===== LAYERS laid out: the first side ===== -/
theorem en222_goal {R g y K a H : Int} {c : rHp} (h : g < c 9 R 2) (hk : c 10 (g + 9 * R + 1) 4 = K + 1) (k0 : 0 ≤ K) (ha : K ≤ 1 → c 10 (g + 9 * R + 1) 8 = a) (hH : c 10 (9 * R) 12 = H) (H0 : 0 ≤ H) : en222 c (0, [R, g, y], c) = .inl (0, [R, g + 1, (if K ≤ 1 then (if c 18 0 a + (if K = 1 then 1 else if H ≤ 0 then 0 else 1) ≤ y then y else c 18 0 a + (if K = 1 then 1 else if H ≤ 0 then 0 else 1)) else y)], c) := by
  unfold en222
  simp only [zLet, List.getD_cons_zero, List.getD_cons_succ, ↓reduceIte, fn132_eq, fn101_h]
  rw [if_neg (show ¬ g ≥ c 9 R 2 by omega), hk, hH]
  by_cases b0 : K = 0
  · rw [ha (by omega), if_pos (show K + 1 = 1 by omega), if_pos (show K ≤ 1 by omega), if_neg (show ¬ K = 1 by omega)]
    by_cases bH : H = 0
    · rw [if_pos bH, if_pos (show H ≤ 0 by omega), Int.add_zero]
      by_cases d : c 18 0 a ≤ y
      · rw [if_pos (show 0 ≤ -c 18 0 a + y by omega), if_pos d]
      · rw [if_neg (show ¬ 0 ≤ -c 18 0 a + y by omega), if_neg d]
    · rw [if_neg bH, if_neg (show ¬ H ≤ 0 by omega)]
      by_cases d : c 18 0 a + 1 ≤ y
      · rw [if_pos (show 0 ≤ -c 18 0 a + y + -1 by omega), if_pos d]
      · rw [if_neg (show ¬ 0 ≤ -c 18 0 a + y + -1 by omega), if_neg d]
  · rw [if_neg (show ¬ K + 1 = 1 by omega)]
    by_cases b1 : K = 1
    · rw [ha (by omega), if_neg (show ¬ K + 1 ≠ 2 by omega), if_pos (show K ≤ 1 by omega), if_pos b1]
      by_cases d : c 18 0 a + 1 ≤ y
      · rw [if_pos (show 0 ≤ -c 18 0 a + y + -1 by omega), if_pos d]
      · rw [if_neg (show ¬ 0 ≤ -c 18 0 a + y + -1 by omega), if_neg d]
    · rw [if_pos (show K + 1 ≠ 2 by omega), if_neg (show ¬ K ≤ 1 by omega)]
/-- the first side's RULES beside the reference's -/
noncomputable def cL (c0 m0 : rHp) : Prop := (c0 1 0 7 = m0 15 0 13) ∧ (c0 1 0 10 = m0 15 0 32) ∧ (∀ r, 0 ≤ r → r < m0 15 0 32 → c0 9 (c0 40 0 r) 2 = m0 73 0 r ∧ c0 10 (9 * c0 40 0 r) 8 = m0 69 0 r ∧ c0 10 (9 * c0 40 0 r) 12 = m0 71 0 r ∧ 0 ≤ m0 71 0 r) ∧ (∀ r g, 0 ≤ r → r < m0 15 0 32 → 0 ≤ g → g < m0 73 0 r → c0 10 (g + 9 * c0 40 0 r + 1) 4 = m0 77 0 (g + 8 * r) + 1 ∧ 0 ≤ m0 77 0 (g + 8 * r) ∧ (m0 77 0 (g + 8 * r) ≤ 1 → c0 10 (g + 9 * c0 40 0 r + 1) 8 = m0 78 0 (g + 8 * r)))
theorem cL.pn {c0 m0 : rHp} (h : cL c0 m0) : c0 1 0 7 = m0 15 0 13 := h.1
theorem cL.rn {c0 m0 : rHp} (h : cL c0 m0) : c0 1 0 10 = m0 15 0 32 := h.2.1
theorem cL.gn {c0 m0 : rHp} (h : cL c0 m0) : ∀ r, 0 ≤ r → r < m0 15 0 32 → c0 9 (c0 40 0 r) 2 = m0 73 0 r ∧ c0 10 (9 * c0 40 0 r) 8 = m0 69 0 r ∧ c0 10 (9 * c0 40 0 r) 12 = m0 71 0 r ∧ 0 ≤ m0 71 0 r := h.2.2.1
theorem cL.gk {c0 m0 : rHp} (h : cL c0 m0) : ∀ r g, 0 ≤ r → r < m0 15 0 32 → 0 ≤ g → g < m0 73 0 r → c0 10 (g + 9 * c0 40 0 r + 1) 4 = m0 77 0 (g + 8 * r) + 1 ∧ 0 ≤ m0 77 0 (g + 8 * r) ∧ (m0 77 0 (g + 8 * r) ≤ 1 → c0 10 (g + 9 * c0 40 0 r + 1) 8 = m0 78 0 (g + 8 * r)) := h.2.2.2
theorem fn222_eq {c0 m0 c : rHp} {r : Int} (h : cL c0 m0) (e9 : c 9 = c0 9) (e10 : c 10 = c0 10) (r0 : 0 ≤ r) (r1 : r < m0 15 0 32) (g0 : 0 ≤ m0 73 0 r) : ∃ z, fn222 [c0 40 0 r] c = (0, z, c) ∧ 0 ≤ z ∧ (∀ x, 0 ≤ x → x < m0 73 0 r → m0 77 0 (x + 8 * r) ≤ 1 → c 18 0 (m0 78 0 (x + 8 * r)) + cD m0 r x ≤ z) ∧ (z = 0 ∨ ∃ x, 0 ≤ x ∧ x < m0 73 0 r ∧ m0 77 0 (x + 8 * r) ≤ 1 ∧ z = c 18 0 (m0 78 0 (x + 8 * r)) + cD m0 r x) := by
  obtain ⟨q1, q2, q3, q4⟩ := h.gn r r0 r1
  have key : ∀ (n : Nat) (g y : Int), (m0 73 0 r - g).toNat ≤ n → 0 ≤ g → g ≤ m0 73 0 r → ∃ z, zLoop (en222 c) (0, [c0 40 0 r, g, y], c) = (0, z, c) ∧ y ≤ z ∧ (∀ x, g ≤ x → x < m0 73 0 r → m0 77 0 (x + 8 * r) ≤ 1 → c 18 0 (m0 78 0 (x + 8 * r)) + cD m0 r x ≤ z) ∧ (z = y ∨ ∃ x, g ≤ x ∧ x < m0 73 0 r ∧ m0 77 0 (x + 8 * r) ≤ 1 ∧ z = c 18 0 (m0 78 0 (x + 8 * r)) + cD m0 r x) := by
    have en : ∀ y, zLoop (en222 c) (0, [c0 40 0 r, m0 73 0 r, y], c) = (0, y, c) := by
      intro y
      refine zLoop_inr ?_
      unfold en222
      simp only [zLet, List.getD_cons_zero, List.getD_cons_succ, ↓reduceIte]
      rw [if_pos (show m0 73 0 r ≥ c 9 (c0 40 0 r) 2 by rw [e9, q1]; exact Int.le_refl _)]
    intro n
    induction n with
    | zero =>
      intro g y hf g0 g1
      rw [show g = m0 73 0 r by omega]
      exact ⟨y, en y, Int.le_refl _, fun x a b => by omega, Or.inl rfl⟩
    | succ n ih =>
      intro g y hf g0 g1
      by_cases e : g = m0 73 0 r
      · rw [e]
        exact ⟨y, en y, Int.le_refl _, fun x a b => by omega, Or.inl rfl⟩
      · obtain ⟨k1, k2, k3⟩ := h.gk r g r0 r1 g0 (by omega)
        have eD : (if m0 77 0 (g + 8 * r) = 1 then (1 : Int) else if m0 71 0 r ≤ 0 then 0 else 1) = cD m0 r g := rfl
        have sg := en222_goal (R := c0 40 0 r) (g := g) (y := y) (c := c) (K := m0 77 0 (g + 8 * r)) (a := m0 78 0 (g + 8 * r)) (H := m0 71 0 r) (by rw [e9, q1]; omega) (by rw [e10]; exact k1) k2 (fun z => by rw [e10]; exact k3 z) (by rw [e10]; exact q3) q4
        rw [eD] at sg
        rw [zLoop_inl sg]
        by_cases a : m0 77 0 (g + 8 * r) ≤ 1
        · rw [if_pos a]
          by_cases b : c 18 0 (m0 78 0 (g + 8 * r)) + cD m0 r g ≤ y
          · rw [if_pos b]
            obtain ⟨z, z1, z2, z3, z4⟩ := ih (g + 1) y (by omega) (by omega) (by omega)
            refine ⟨z, z1, z2, fun x x0 x1 x2 => ?_, ?_⟩
            · by_cases ex : x = g
              · rw [ex]; omega
              · exact z3 x (by omega) x1 x2
            · rcases z4 with z4 | ⟨x, x0, x1, x2, x3⟩
              · exact Or.inl z4
              · exact Or.inr ⟨x, by omega, x1, x2, x3⟩
          · rw [if_neg b]
            obtain ⟨z, z1, z2, z3, z4⟩ := ih (g + 1) (c 18 0 (m0 78 0 (g + 8 * r)) + cD m0 r g) (by omega) (by omega) (by omega)
            refine ⟨z, z1, by omega, fun x x0 x1 x2 => ?_, ?_⟩
            · by_cases ex : x = g
              · rw [ex]; exact z2
              · exact z3 x (by omega) x1 x2
            · rcases z4 with z4 | ⟨x, x0, x1, x2, x3⟩
              · exact Or.inr ⟨g, Int.le_refl _, by omega, a, z4⟩
              · exact Or.inr ⟨x, by omega, x1, x2, x3⟩
        · rw [if_neg a]
          obtain ⟨z, z1, z2, z3, z4⟩ := ih (g + 1) y (by omega) (by omega) (by omega)
          refine ⟨z, z1, z2, fun x x0 x1 x2 => ?_, ?_⟩
          · by_cases ex : x = g
            · rw [ex] at x2; exact absurd x2 a
            · exact z3 x (by omega) x1 x2
          · rcases z4 with z4 | ⟨x, x0, x1, x2, x3⟩
            · exact Or.inl z4
            · exact Or.inr ⟨x, by omega, x1, x2, x3⟩
  exact key _ 0 0 (Nat.le_refl _) (Int.le_refl 0) g0
/-- on the way: c is c0 but for LAYERS -/
noncomputable def layJ (c0 m0 c : rHp) : Prop := (∀ K : Nat, K ≠ 18 → c K = c0 K) ∧ (∀ p, 0 ≤ p → p < m0 15 0 13 → 0 ≤ c 18 0 p ∧ c 18 0 p ≤ m0 15 0 13 - 1) ∧ (∀ f, pF (m0 15 0 13) (cnM m0) f → ∀ p, 0 ≤ p → p < m0 15 0 13 → c 18 0 p ≤ f p)
theorem layJ.fr {c0 m0 c : rHp} (h : layJ c0 m0 c) : ∀ K : Nat, K ≠ 18 → c K = c0 K := h.1
theorem layJ.rg {c0 m0 c : rHp} (h : layJ c0 m0 c) : ∀ p, 0 ≤ p → p < m0 15 0 13 → 0 ≤ c 18 0 p ∧ c 18 0 p ≤ m0 15 0 13 - 1 := h.2.1
theorem layJ.lo {c0 m0 c : rHp} (h : layJ c0 m0 c) : ∀ f, pF (m0 15 0 13) (cnM m0) f → ∀ p, 0 ≤ p → p < m0 15 0 13 → c 18 0 p ≤ f p := h.2.2
noncomputable def layL (m0 c : rHp) (r : Int) : Prop := ∀ g, 0 ≤ g → g < m0 73 0 r → m0 77 0 (g + 8 * r) ≤ 1 → c 18 0 (m0 78 0 (g + 8 * r)) + cD m0 r g ≤ c 18 0 (m0 69 0 r)
theorem lay_passc {c0 m0 : rHp} {ps : Int} (hB : layB m0) (hL : cL c0 m0) : ∀ (n : Nat) (r w : Int) (c : rHp), (m0 15 0 32 - r).toNat ≤ n → 0 ≤ r → r ≤ m0 15 0 32 → layJ c0 m0 c → (w = 0 ∨ w = 1) →
    (∃ c_q w_q, zLoop (en223 c0) (1, [r, w, ps], c) = zLoop (en223 c0) (0, [ps + 1, w_q], c_q) ∧ layJ c0 m0 c_q ∧ ((w_q = 0 ∧ w = 0 ∧ c_q = c ∧ ∀ x, r ≤ x → x < m0 15 0 32 → layL m0 c x) ∨ (w_q = 1 ∧ sm (fun p => c 18 0 p) (m0 15 0 13) ≤ sm (fun p => c_q 18 0 p) (m0 15 0 13) ∧ (w = 1 ∨ sm (fun p => c 18 0 p) (m0 15 0 13) + 1 ≤ sm (fun p => c_q 18 0 p) (m0 15 0 13))))) ∨ (∃ c_q, zLoop (en223 c0) (1, [r, w, ps], c) = (0, 0, c_q) ∧ (∀ K : Nat, K ≠ 18 → c_q K = c0 K) ∧ ∀ f, pF (m0 15 0 13) (cnM m0) f → ∃ p, 0 ≤ p ∧ p < m0 15 0 13 ∧ m0 15 0 13 ≤ f p) := by
  have stE : ∀ (w : Int) (c : rHp), zLoop (en223 c0) (1, [m0 15 0 32, w, ps], c) = zLoop (en223 c0) (0, [ps + 1, w], c) := by
    intro w c
    refine zLoop_inl ?_
    unfold en223
    simp only [zLet, List.getD_cons_zero, List.getD_cons_succ, ↓reduceIte, Nat.one_ne_zero]
    rw [if_pos (show m0 15 0 32 ≥ c0 1 0 10 by rw [hL.rn]; exact Int.le_refl _)]
  intro n
  induction n with
  | zero =>
    intro r w c hf r0 r1 hI hw
    rw [show r = m0 15 0 32 by omega]
    refine Or.inl ⟨c, w, stE w c, hI, ?_⟩
    rcases hw with hw | hw
    · exact Or.inl ⟨hw, hw, rfl, fun x a b => by omega⟩
    · exact Or.inr ⟨hw, Int.le_refl _, Or.inl hw⟩
  | succ n ih =>
    intro r w c hf r0 r1 hI hw
    by_cases e : r = m0 15 0 32
    · rw [e]
      refine Or.inl ⟨c, w, stE w c, hI, ?_⟩
      rcases hw with hw | hw
      · exact Or.inl ⟨hw, hw, rfl, fun x a b => by omega⟩
      · exact Or.inr ⟨hw, Int.le_refl _, Or.inl hw⟩
    obtain ⟨q1, q2, q3⟩ := hB.2.2 r r0 (by omega)
    obtain ⟨t1, t2, t3, t4⟩ := hL.gn r r0 (by omega)
    obtain ⟨z, z1, z2, z3, z4⟩ := fn222_eq (c := c) hL (hI.fr 9 (by decide)) (hI.fr 10 (by decide)) r0 (by omega) q2
    have sg : en223 c0 (1, [r, w, ps], c) = if z < m0 15 0 13 then (if c 18 0 (m0 69 0 r) ≥ z then .inl (1, [r + 1, w, ps], c) else .inl (1, [r + 1, 1, ps], rUp c 18 0 (m0 69 0 r) z)) else .inr (0, 0, c) := by
      unfold en223 fn131
      simp only [zLet, List.getD_cons_zero, List.getD_cons_succ, ↓reduceIte, Nat.one_ne_zero, z1, t2, hL.pn]
      rw [if_neg (show ¬ r ≥ c0 1 0 10 by rw [hL.rn]; omega)]
    have up : ∀ f, pF (m0 15 0 13) (cnM m0) f → z ≤ f (m0 69 0 r) := by
      intro f hf
      rcases z4 with z4 | ⟨x, x0, x1, x2, x3⟩
      · rw [z4]; exact hf.1 _ q1.1 q1.2
      · have a1 := hf.2 (m0 78 0 (x + 8 * r)) (m0 69 0 r) (cD m0 r x) ⟨r, x, r0, by omega, x0, x1, x2, rfl, rfl, rfl⟩
        have q := q3 x x0 x1 x2
        have a2 := hI.lo f hf _ q.1 q.2
        omega
    by_cases a : z < m0 15 0 13
    · have sg := sg.trans (if_pos a)
      by_cases b : c 18 0 (m0 69 0 r) ≥ z
      · rw [zLoop_inl (sg.trans (if_pos b))]
        rcases ih (r + 1) w c (by omega) (by omega) (by omega) hI hw with ⟨c_q, w_q, y1, y2, y3⟩ | y
        · refine Or.inl ⟨c_q, w_q, y1, y2, ?_⟩
          rcases y3 with ⟨u1, u2, u3, u4⟩ | u
          · refine Or.inl ⟨u1, u2, u3, fun x x0 x1 => ?_⟩
            by_cases ex : x = r
            · rw [ex]
              intro g g0 g1 hk
              have := z3 g g0 g1 hk
              omega
            · exact u4 x (by omega) x1
          · exact Or.inr u
        · exact Or.inr y
      · rw [zLoop_inl (sg.trans (if_neg b))]
        have mh : ∀ p, rUp c 18 0 (m0 69 0 r) z 18 0 p = if p = m0 69 0 r then z else c 18 0 p := fun p => rUp_in
        have hI2 : layJ c0 m0 (rUp c 18 0 (m0 69 0 r) z) := by
          refine ⟨fun K hK => by rw [rUp_grp hK]; exact hI.fr K hK, fun p p0 p1 => ?_, fun f hf p p0 p1 => ?_⟩
          · rw [mh]
            by_cases ep : p = m0 69 0 r
            · rw [if_pos ep]; omega
            · rw [if_neg ep]; exact hI.rg p p0 p1
          · rw [mh]
            by_cases ep : p = m0 69 0 r
            · rw [if_pos ep, ep]; exact up f hf
            · rw [if_neg ep]; exact hI.lo f hf p p0 p1
        have su := sm_up (f := fun p => c 18 0 p) (g := fun p => rUp c 18 0 (m0 69 0 r) z 18 0 p) q1.1 q1.2 (fun p p0 p1 => by
          show c 18 0 p ≤ rUp c 18 0 (m0 69 0 r) z 18 0 p
          rw [mh]
          by_cases ep : p = m0 69 0 r
          · rw [if_pos ep, ep]; omega
          · rw [if_neg ep]; exact Int.le_refl _) (by
          show c 18 0 (m0 69 0 r) < rUp c 18 0 (m0 69 0 r) z 18 0 (m0 69 0 r)
          rw [mh, if_pos rfl]; omega)
        rcases ih (r + 1) 1 _ (by omega) (by omega) (by omega) hI2 (Or.inr rfl) with ⟨c_q, w_q, y1, y2, y3⟩ | y
        · refine Or.inl ⟨c_q, w_q, y1, y2, ?_⟩
          rcases y3 with ⟨u1, u2, u3, u4⟩ | ⟨u1, u2, u3⟩
          · exact absurd u2 (by decide)
          · exact Or.inr ⟨u1, by omega, Or.inr (by omega)⟩
        · exact Or.inr y
    · refine Or.inr ⟨c, zLoop_inr (sg.trans (if_neg a)), hI.fr, fun f hf => ⟨m0 69 0 r, q1.1, q1.2, ?_⟩⟩
      have := up f hf
      omega
