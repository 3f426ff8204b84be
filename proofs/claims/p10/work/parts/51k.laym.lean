/-! ===== LAYERS laid out: the reference ===== -/
/-- the sum of what the PREDICATES below n have -/
noncomputable def smn (f : Int → Int) : Nat → Int
  | 0 => 0
  | n + 1 => smn f n + f (n : Int)
noncomputable def sm (f : Int → Int) (P : Int) : Int := smn f P.toNat
theorem sm_s {f : Int → Int} {P : Int} (h : 0 ≤ P) : sm f (P + 1) = sm f P + f P := by
  unfold sm
  rw [show (P + 1).toNat = P.toNat + 1 by omega]
  show smn f P.toNat + f ((P.toNat : Nat) : Int) = _
  rw [show ((P.toNat : Nat) : Int) = P by omega]
theorem sm_rg {f : Int → Int} {P B : Int} (h : 0 ≤ P) (hf : ∀ p, 0 ≤ p → p < P → 0 ≤ f p ∧ f p ≤ B) : 0 ≤ sm f P ∧ sm f P ≤ B * P := by
  have key : ∀ d : Nat, (d : Int) ≤ P → 0 ≤ sm f (d : Int) ∧ sm f (d : Int) ≤ B * (d : Int) := by
    intro d
    induction d with
    | zero => intro _; exact ⟨Int.le_refl _, by rw [show B * ((0 : Nat) : Int) = 0 from Int.mul_zero B]; exact Int.le_refl _⟩
    | succ d ih =>
      intro hd
      obtain ⟨i1, i2⟩ := ih (by omega)
      obtain ⟨j1, j2⟩ := hf d (by omega) (by omega)
      rw [show ((d + 1 : Nat) : Int) = (d : Int) + 1 by omega, sm_s (by omega), show B * ((d : Int) + 1) = B * (d : Int) + B by rw [Int.mul_add, Int.mul_one]]
      omega
  have := key P.toNat (by omega)
  rw [show ((P.toNat : Nat) : Int) = P by omega] at this
  exact this
theorem sm_up {f g : Int → Int} {P x : Int} (x0 : 0 ≤ x) (x1 : x < P) (h : ∀ p, 0 ≤ p → p < P → f p ≤ g p) (hx : f x < g x) : sm f P + 1 ≤ sm g P := by
  have key : ∀ d : Nat, (d : Int) ≤ P → sm f (d : Int) ≤ sm g (d : Int) ∧ (x < (d : Int) → sm f (d : Int) + 1 ≤ sm g (d : Int)) := by
    intro d
    induction d with
    | zero => intro _; exact ⟨Int.le_refl _, fun z => by omega⟩
    | succ d ih =>
      intro hd
      obtain ⟨i1, i2⟩ := ih (by omega)
      have j := h d (by omega) (by omega)
      rw [show ((d + 1 : Nat) : Int) = (d : Int) + 1 by omega, sm_s (by omega), sm_s (by omega)]
      refine ⟨by omega, fun z => ?_⟩
      by_cases e : x = (d : Int)
      · rw [e] at hx; omega
      · have := i2 (by omega); omega
  have := (key P.toNat (by omega)).2
  rw [show ((P.toNat : Nat) : Int) = P by omega] at this
  exact this x1
theorem sm_congr {f g : Int → Int} {P : Int} (P0 : 0 ≤ P) (h : ∀ p, 0 ≤ p → p < P → f p = g p) : sm f P = sm g P := by
  have key : ∀ d : Nat, (d : Int) ≤ P → sm f (d : Int) = sm g (d : Int) := by
    intro d
    induction d with
    | zero => intro _; rfl
    | succ d ih =>
      intro hd
      rw [show ((d + 1 : Nat) : Int) = (d : Int) + 1 by omega, sm_s (by omega), sm_s (by omega), ih (by omega), h d (by omega) (by omega)]
  have := key P.toNat (by omega)
  rw [show ((P.toNat : Nat) : Int) = P by omega] at this
  exact this
/-- how much higher the HEAD of r has to be than GOAL g -/
noncomputable def cD (m : rHp) (r g : Int) : Int := if m 77 0 (g + 8 * r) = 1 then 1 else if m 71 0 r ≤ 0 then 0 else 1
/-- what the RULES ask of LAYERS -/
noncomputable def cnM (m : rHp) (a b d : Int) : Prop := ∃ r g, 0 ≤ r ∧ r < m 15 0 32 ∧ 0 ≤ g ∧ g < m 73 0 r ∧ m 77 0 (g + 8 * r) ≤ 1 ∧ a = m 78 0 (g + 8 * r) ∧ b = m 69 0 r ∧ d = cD m r g
theorem en77_goal {g y r w : Int} {m0 m : rHp} (h : g < m0 73 0 r) : en77 m0 (3, [g + 8 * r, y, r, w], m) = .inl (3, [g + 1 + 8 * r, (if m0 77 0 (g + 8 * r) ≤ 1 then (if m 92 0 (m0 78 0 (g + 8 * r)) + cD m0 r g ≤ y then y else m 92 0 (m0 78 0 (g + 8 * r)) + cD m0 r g) else y), r, w], m) := by
  unfold en77 cD
  simp only [zLet, List.getD_cons_zero, List.getD_cons_succ, ↓reduceIte, show ¬ (2 : Nat) = 0 by decide, show ¬ (2 : Nat) = 1 by decide, show ¬ (3 : Nat) = 0 by decide, show ¬ (3 : Nat) = 1 by decide, show ¬ (4 : Nat) = 0 by decide, show ¬ (4 : Nat) = 1 by decide, show ¬ (3 : Nat) = 2 by decide]
  rw [if_neg (show ¬ g + 8 * r ≥ m0 73 0 r + 8 * r by omega), show g + 8 * r + 1 = g + 1 + 8 * r by omega]
  by_cases a : m0 77 0 (g + 8 * r) ≤ 1
  · rw [if_pos a, if_pos a]
    by_cases b : m0 77 0 (g + 8 * r) = 1
    · rw [if_pos b, if_pos b]
      by_cases d : m 92 0 (m0 78 0 (g + 8 * r)) + 1 ≤ y
      · rw [if_pos d, if_pos d]
      · rw [if_neg d, if_neg d]
    · rw [if_neg b, if_neg b]
      by_cases e : m0 71 0 r ≤ 0
      · rw [if_pos e, if_pos e, Int.add_zero]
        by_cases d : m 92 0 (m0 78 0 (g + 8 * r)) ≤ y
        · rw [if_pos d, if_pos d]
        · rw [if_neg d, if_neg d]
      · rw [if_neg e, if_neg e]
        by_cases d : m 92 0 (m0 78 0 (g + 8 * r)) + 1 ≤ y
        · rw [if_pos d, if_pos d]
        · rw [if_neg d, if_neg d]
  · rw [if_neg a, if_neg a]
theorem en77_goals {r w : Int} {m0 m : rHp} : ∀ (n : Nat) (g y : Int), (m0 73 0 r - g).toNat ≤ n → 0 ≤ g → g ≤ m0 73 0 r → ∃ z, zLoop (en77 m0) (3, [g + 8 * r, y, r, w], m) = zLoop (en77 m0) (3, [m0 73 0 r + 8 * r, z, r, w], m) ∧ y ≤ z ∧ (∀ x, g ≤ x → x < m0 73 0 r → m0 77 0 (x + 8 * r) ≤ 1 → m 92 0 (m0 78 0 (x + 8 * r)) + cD m0 r x ≤ z) ∧ (z = y ∨ ∃ x, g ≤ x ∧ x < m0 73 0 r ∧ m0 77 0 (x + 8 * r) ≤ 1 ∧ z = m 92 0 (m0 78 0 (x + 8 * r)) + cD m0 r x) := by
  intro n
  induction n with
  | zero =>
    intro g y hf g0 g1
    rw [show g = m0 73 0 r by omega]
    exact ⟨y, rfl, Int.le_refl _, fun x a b => by omega, Or.inl rfl⟩
  | succ n ih =>
    intro g y hf g0 g1
    by_cases e : g = m0 73 0 r
    · rw [e]
      exact ⟨y, rfl, Int.le_refl _, fun x a b => by omega, Or.inl rfl⟩
    · rw [zLoop_inl (en77_goal (by omega))]
      by_cases a : m0 77 0 (g + 8 * r) ≤ 1
      · rw [if_pos a]
        by_cases b : m 92 0 (m0 78 0 (g + 8 * r)) + cD m0 r g ≤ y
        · rw [if_pos b]
          obtain ⟨z, z1, z2, z3, z4⟩ := ih (g + 1) y (by omega) (by omega) (by omega)
          refine ⟨z, z1, z2, fun x x0 x1 x2 => ?_, ?_⟩
          · by_cases ex : x = g
            · rw [ex]; omega
            · exact z3 x (by omega) x1 x2
          · rcases z4 with z4 | ⟨x, x0, x1, x2, x3⟩
            · exact Or.inl z4
            · exact Or.inr ⟨x, by omega, x1, x2, x3⟩
        · rw [if_neg b]
          obtain ⟨z, z1, z2, z3, z4⟩ := ih (g + 1) (m 92 0 (m0 78 0 (g + 8 * r)) + cD m0 r g) (by omega) (by omega) (by omega)
          refine ⟨z, z1, by omega, fun x x0 x1 x2 => ?_, ?_⟩
          · by_cases ex : x = g
            · rw [ex]; exact z2
            · exact z3 x (by omega) x1 x2
          · rcases z4 with z4 | ⟨x, x0, x1, x2, x3⟩
            · exact Or.inr ⟨g, Int.le_refl _, by omega, a, z4⟩
            · exact Or.inr ⟨x, by omega, x1, x2, x3⟩
      · rw [if_neg a]
        obtain ⟨z, z1, z2, z3, z4⟩ := ih (g + 1) y (by omega) (by omega) (by omega)
        refine ⟨z, z1, z2, fun x x0 x1 x2 => ?_, ?_⟩
        · by_cases ex : x = g
          · rw [ex] at x2; exact absurd x2 a
          · exact z3 x (by omega) x1 x2
        · rcases z4 with z4 | ⟨x, x0, x1, x2, x3⟩
          · exact Or.inl z4
          · exact Or.inr ⟨x, by omega, x1, x2, x3⟩
theorem en77_head {z r w : Int} {m0 m : rHp} (h0 : 0 ≤ m0 69 0 r) (h1 : m0 69 0 r < 20) : en77 m0 (3, [m0 73 0 r + 8 * r, z, r, w], m) = if z ≤ 20 then (if z ≤ m 92 0 (m0 69 0 r) then .inl (2, [r + 1, w], m) else .inl (2, [r + 1, 1], rUp m 92 0 (m0 69 0 r) z)) else .inr (0, 0, m) := by
  unfold en77
  simp only [zLet, List.getD_cons_zero, List.getD_cons_succ, ↓reduceIte, show ¬ (2 : Nat) = 0 by decide, show ¬ (2 : Nat) = 1 by decide, show ¬ (3 : Nat) = 0 by decide, show ¬ (3 : Nat) = 1 by decide, show ¬ (4 : Nat) = 0 by decide, show ¬ (4 : Nat) = 1 by decide, show ¬ (3 : Nat) = 2 by decide]
  rw [if_pos (show m0 73 0 r + 8 * r ≥ m0 73 0 r + 8 * r from Int.le_refl _)]
  by_cases a : z ≤ 20
  · rw [if_pos a, if_pos a]
    have q : m0 69 0 r = 0 ∨ m0 69 0 r = 1 ∨ m0 69 0 r = 2 ∨ m0 69 0 r = 3 ∨ m0 69 0 r = 4 ∨ m0 69 0 r = 5 ∨ m0 69 0 r = 6 ∨ m0 69 0 r = 7 ∨ m0 69 0 r = 8 ∨ m0 69 0 r = 9 ∨ m0 69 0 r = 10 ∨ m0 69 0 r = 11 ∨ m0 69 0 r = 12 ∨ m0 69 0 r = 13 ∨ m0 69 0 r = 14 ∨ m0 69 0 r = 15 ∨ m0 69 0 r = 16 ∨ m0 69 0 r = 17 ∨ m0 69 0 r = 18 ∨ m0 69 0 r = 19 := by omega
    rcases q with e | e | e | e | e | e | e | e | e | e | e | e | e | e | e | e | e | e | e | e
    · rw [e, if_pos (by decide)]
    · rw [e, if_neg (by decide), if_pos (by decide)]
    · rw [e, if_neg (by decide), if_neg (by decide), if_pos (by decide)]
    · rw [e, if_neg (by decide), if_neg (by decide), if_neg (by decide), if_pos (by decide)]
    · rw [e, if_neg (by decide), if_neg (by decide), if_neg (by decide), if_neg (by decide), if_pos (by decide)]
    · rw [e, if_neg (by decide), if_neg (by decide), if_neg (by decide), if_neg (by decide), if_neg (by decide), if_pos (by decide)]
    · rw [e, if_neg (by decide), if_neg (by decide), if_neg (by decide), if_neg (by decide), if_neg (by decide), if_neg (by decide), if_pos (by decide)]
    · rw [e, if_neg (by decide), if_neg (by decide), if_neg (by decide), if_neg (by decide), if_neg (by decide), if_neg (by decide), if_neg (by decide), if_pos (by decide)]
    · rw [e, if_neg (by decide), if_neg (by decide), if_neg (by decide), if_neg (by decide), if_neg (by decide), if_neg (by decide), if_neg (by decide), if_neg (by decide), if_pos (by decide)]
    · rw [e, if_neg (by decide), if_neg (by decide), if_neg (by decide), if_neg (by decide), if_neg (by decide), if_neg (by decide), if_neg (by decide), if_neg (by decide), if_neg (by decide), if_pos (by decide)]
    · rw [e, if_neg (by decide), if_neg (by decide), if_neg (by decide), if_neg (by decide), if_neg (by decide), if_neg (by decide), if_neg (by decide), if_neg (by decide), if_neg (by decide), if_neg (by decide), if_pos (by decide)]
    · rw [e, if_neg (by decide), if_neg (by decide), if_neg (by decide), if_neg (by decide), if_neg (by decide), if_neg (by decide), if_neg (by decide), if_neg (by decide), if_neg (by decide), if_neg (by decide), if_neg (by decide), if_pos (by decide)]
    · rw [e, if_neg (by decide), if_neg (by decide), if_neg (by decide), if_neg (by decide), if_neg (by decide), if_neg (by decide), if_neg (by decide), if_neg (by decide), if_neg (by decide), if_neg (by decide), if_neg (by decide), if_neg (by decide), if_pos (by decide)]
    · rw [e, if_neg (by decide), if_neg (by decide), if_neg (by decide), if_neg (by decide), if_neg (by decide), if_neg (by decide), if_neg (by decide), if_neg (by decide), if_neg (by decide), if_neg (by decide), if_neg (by decide), if_neg (by decide), if_neg (by decide), if_pos (by decide)]
    · rw [e, if_neg (by decide), if_neg (by decide), if_neg (by decide), if_neg (by decide), if_neg (by decide), if_neg (by decide), if_neg (by decide), if_neg (by decide), if_neg (by decide), if_neg (by decide), if_neg (by decide), if_neg (by decide), if_neg (by decide), if_neg (by decide), if_pos (by decide)]
    · rw [e, if_neg (by decide), if_neg (by decide), if_neg (by decide), if_neg (by decide), if_neg (by decide), if_neg (by decide), if_neg (by decide), if_neg (by decide), if_neg (by decide), if_neg (by decide), if_neg (by decide), if_neg (by decide), if_neg (by decide), if_neg (by decide), if_neg (by decide), if_pos (by decide)]
    · rw [e, if_neg (by decide), if_neg (by decide), if_neg (by decide), if_neg (by decide), if_neg (by decide), if_neg (by decide), if_neg (by decide), if_neg (by decide), if_neg (by decide), if_neg (by decide), if_neg (by decide), if_neg (by decide), if_neg (by decide), if_neg (by decide), if_neg (by decide), if_neg (by decide), if_pos (by decide)]
    · rw [e, if_neg (by decide), if_neg (by decide), if_neg (by decide), if_neg (by decide), if_neg (by decide), if_neg (by decide), if_neg (by decide), if_neg (by decide), if_neg (by decide), if_neg (by decide), if_neg (by decide), if_neg (by decide), if_neg (by decide), if_neg (by decide), if_neg (by decide), if_neg (by decide), if_neg (by decide), if_pos (by decide)]
    · rw [e, if_neg (by decide), if_neg (by decide), if_neg (by decide), if_neg (by decide), if_neg (by decide), if_neg (by decide), if_neg (by decide), if_neg (by decide), if_neg (by decide), if_neg (by decide), if_neg (by decide), if_neg (by decide), if_neg (by decide), if_neg (by decide), if_neg (by decide), if_neg (by decide), if_neg (by decide), if_neg (by decide), if_pos (by decide)]
    · rw [e, if_neg (by decide), if_neg (by decide), if_neg (by decide), if_neg (by decide), if_neg (by decide), if_neg (by decide), if_neg (by decide), if_neg (by decide), if_neg (by decide), if_neg (by decide), if_neg (by decide), if_neg (by decide), if_neg (by decide), if_neg (by decide), if_neg (by decide), if_neg (by decide), if_neg (by decide), if_neg (by decide), if_neg (by decide)]
  · rw [if_neg a, if_neg a]
