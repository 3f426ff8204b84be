/-! ===== run begins, by both ===== -/
theorem fn95_eq {g : rHp} : ∃ g_q, fn95 [-1] g = (0, 0, g_q) ∧ (∀ K, K ≠ 47 → g_q K = g K) ∧ ∀ x, 0 ≤ x → x < 64 → g_q 47 0 x = -1 := by
  have st : ∀ (k : Int) (h : rHp), en95 g (0, [-1, k], h) = if k ≥ 64 then .inr (0, 0, h) else .inl (0, [-1, k + 1], rUp h 47 0 k (-1)) := by
    intro k h
    unfold en95
    simp only [zLet, List.getD_cons_zero, List.getD_cons_succ, ↓reduceIte]
  exact fill_lp st _ 0 g (Nat.le_refl _) (by decide) (by decide) (fun x x0 x1 => by omega)
theorem fn96_eq {g : rHp} : ∃ g_q, fn96 [-1] g = (0, 0, g_q) ∧ (∀ K, K ≠ 50 → g_q K = g K) ∧ ∀ x, 0 ≤ x → x < 4096 → g_q 50 0 x = -1 := by
  have st : ∀ (k : Int) (h : rHp), en96 g (0, [-1, k], h) = if k ≥ 4096 then .inr (0, 0, h) else .inl (0, [-1, k + 1], rUp h 50 0 k (-1)) := by
    intro k h
    unfold en96
    simp only [zLet, List.getD_cons_zero, List.getD_cons_succ, ↓reduceIte]
  exact fill_lp st _ 0 g (Nat.le_refl _) (by decide) (by decide) (fun x x0 x1 => by omega)
theorem fn97_eq {g : rHp} : ∃ g_q, fn97 [-1] g = (0, 0, g_q) ∧ (∀ K, K ≠ 53 → g_q K = g K) ∧ ∀ x, 0 ≤ x → x < 2048 → g_q 53 0 x = -1 := by
  have st : ∀ (k : Int) (h : rHp), en97 g (0, [-1, k], h) = if k ≥ 2048 then .inr (0, 0, h) else .inl (0, [-1, k + 1], rUp h 53 0 k (-1)) := by
    intro k h
    unfold en97
    simp only [zLet, List.getD_cons_zero, List.getD_cons_succ, ↓reduceIte]
  exact fill_lp st _ 0 g (Nat.le_refl _) (by decide) (by decide) (fun x x0 x1 => by omega)
/-- no TUPLES, no STEPS: the first side -/
theorem fn236_eq {c : rHp} : ∃ c_q, fn236 [] c = (0, 0, c_q) ∧ tChn c_q 0 ∧ c_q 4 0 7 = 0 ∧ c_q 6 0 0 = 0 ∧ (∀ K : Nat, K ≠ 4 → K ≠ 6 → K ≠ 47 → K ≠ 50 → K ≠ 53 → c_q K = c K) ∧ (∀ j, j ≠ 7 → c_q 4 0 j = c 4 0 j) ∧ ∀ j, j ≠ 0 → c_q 6 0 j = c 6 0 j := by
  obtain ⟨g1, a1, a2, a3⟩ := fn95_eq (g := rUp c 4 0 7 0)
  obtain ⟨g2, b1, b2, b3⟩ := fn96_eq (g := g1)
  obtain ⟨g3, d1, d2, d3⟩ := fn97_eq (g := g2)
  refine ⟨rUp g3 6 0 0 0, ?_, ⟨cH_nil (fun x hx => ?_), cH_nil (fun x hx => ?_), cH_nil (fun x hx => ?_)⟩, ?_, rUp_at, fun K k1 k2 k3 k4 k5 => ?_, fun j hj => ?_, fun j hj => ?_⟩
  · unfold fn236 fn202 fn186 fn190 fn194
    simp only [zLet, a1, b1, d1]
  · rw [rUp_grp (by decide), d2 47 (by decide), b2 47 (by decide)]
    exact a3 x hx.1 (by have := hx.2; omega)
  · rw [rUp_grp (by decide), d2 50 (by decide)]
    exact b3 x hx.1 (by have := hx.2; omega)
  · rw [rUp_grp (by decide)]
    exact d3 x hx.1 (by have := hx.2; omega)
  · rw [rUp_grp (by decide), d2 4 (by decide), b2 4 (by decide), a2 4 (by decide), rUp_at]
  · rw [rUp_grp k2, d2 K k5, b2 K k4, a2 K k3, rUp_grp k1]
  · rw [rUp_grp (by decide), d2 4 (by decide), b2 4 (by decide), a2 4 (by decide), rUp_ne (fun z => hj z.2.2)]
  · rw [rUp_ne (fun z => hj z.2.2), d2 6 (by decide), b2 6 (by decide), a2 6 (by decide), rUp_grp (by decide)]
/-- no TUPLE of the PREDICATES below n -/
noncomputable def fl (g : rHp) : Nat → rHp
  | 0 => g
  | n + 1 => rUp (fl g n) 100 0 (n : Int) (-1)
theorem fl_grp {g : rHp} {K : Nat} (h : K ≠ 100) : ∀ n, fl g n K = g K := by
  intro n
  induction n with
  | zero => rfl
  | succ n ih =>
    show rUp (fl g n) 100 0 (n : Int) (-1) K = g K
    rw [rUp_grp h]
    exact ih
theorem fl_in {g : rHp} {x : Int} (x0 : 0 ≤ x) : ∀ n : Nat, x < (n : Int) → fl g n 100 0 x = -1 := by
  intro n
  induction n with
  | zero => intro h; omega
  | succ n ih =>
    intro h
    show rUp (fl g n) 100 0 (n : Int) (-1) 100 0 x = -1
    rw [rUp_in]
    by_cases e : x = (n : Int)
    · rw [if_pos e]
    · rw [if_neg e]; exact ih (by omega)
theorem dn78_go {m g2 : rHp} (h0 : 0 ≤ m 15 0 13) (h20 : m 15 0 13 ≤ 20) (h : fn77 [] (rUp m 15 0 93 0) = (0, 1, g2)) : dn78 [] m = .inl (0, [0], fl (rUp (rUp (rUp (rUp g2 15 0 71 0) 15 0 72 0) 15 0 73 0) 15 0 77 0) (m 15 0 13).toNat) := by
  unfold dn78
  simp only [zLet, h]
  rw [if_pos (Int.le_refl 1)]
  generalize rUp (rUp (rUp (rUp g2 15 0 71 0) 15 0 72 0) 15 0 73 0) 15 0 77 0 = g
  have q : m 15 0 13 = 0 ∨ m 15 0 13 = 1 ∨ m 15 0 13 = 2 ∨ m 15 0 13 = 3 ∨ m 15 0 13 = 4 ∨ m 15 0 13 = 5 ∨ m 15 0 13 = 6 ∨ m 15 0 13 = 7 ∨ m 15 0 13 = 8 ∨ m 15 0 13 = 9 ∨ m 15 0 13 = 10 ∨ m 15 0 13 = 11 ∨ m 15 0 13 = 12 ∨ m 15 0 13 = 13 ∨ m 15 0 13 = 14 ∨ m 15 0 13 = 15 ∨ m 15 0 13 = 16 ∨ m 15 0 13 = 17 ∨ m 15 0 13 = 18 ∨ m 15 0 13 = 19 ∨ m 15 0 13 = 20 := by omega
  rcases q with e | e | e | e | e | e | e | e | e | e | e | e | e | e | e | e | e | e | e | e | e
  · rw [e, if_pos (by decide)]; rfl
  · rw [e, if_neg (by decide), if_pos (by decide)]; rfl
  · rw [e, if_neg (by decide), if_neg (by decide), if_pos (by decide)]; rfl
  · rw [e, if_neg (by decide), if_neg (by decide), if_neg (by decide), if_pos (by decide)]; rfl
  · rw [e, if_neg (by decide), if_neg (by decide), if_neg (by decide), if_neg (by decide), if_pos (by decide)]; rfl
  · rw [e, if_neg (by decide), if_neg (by decide), if_neg (by decide), if_neg (by decide), if_neg (by decide), if_pos (by decide)]; rfl
  · rw [e, if_neg (by decide), if_neg (by decide), if_neg (by decide), if_neg (by decide), if_neg (by decide), if_neg (by decide), if_pos (by decide)]; rfl
  · rw [e, if_neg (by decide), if_neg (by decide), if_neg (by decide), if_neg (by decide), if_neg (by decide), if_neg (by decide), if_neg (by decide), if_pos (by decide)]; rfl
  · rw [e, if_neg (by decide), if_neg (by decide), if_neg (by decide), if_neg (by decide), if_neg (by decide), if_neg (by decide), if_neg (by decide), if_neg (by decide), if_pos (by decide)]; rfl
  · rw [e, if_neg (by decide), if_neg (by decide), if_neg (by decide), if_neg (by decide), if_neg (by decide), if_neg (by decide), if_neg (by decide), if_neg (by decide), if_neg (by decide), if_pos (by decide)]; rfl
  · rw [e, if_neg (by decide), if_neg (by decide), if_neg (by decide), if_neg (by decide), if_neg (by decide), if_neg (by decide), if_neg (by decide), if_neg (by decide), if_neg (by decide), if_neg (by decide), if_pos (by decide)]; rfl
  · rw [e, if_neg (by decide), if_neg (by decide), if_neg (by decide), if_neg (by decide), if_neg (by decide), if_neg (by decide), if_neg (by decide), if_neg (by decide), if_neg (by decide), if_neg (by decide), if_neg (by decide), if_pos (by decide)]; rfl
  · rw [e, if_neg (by decide), if_neg (by decide), if_neg (by decide), if_neg (by decide), if_neg (by decide), if_neg (by decide), if_neg (by decide), if_neg (by decide), if_neg (by decide), if_neg (by decide), if_neg (by decide), if_neg (by decide), if_pos (by decide)]; rfl
  · rw [e, if_neg (by decide), if_neg (by decide), if_neg (by decide), if_neg (by decide), if_neg (by decide), if_neg (by decide), if_neg (by decide), if_neg (by decide), if_neg (by decide), if_neg (by decide), if_neg (by decide), if_neg (by decide), if_neg (by decide), if_pos (by decide)]; rfl
  · rw [e, if_neg (by decide), if_neg (by decide), if_neg (by decide), if_neg (by decide), if_neg (by decide), if_neg (by decide), if_neg (by decide), if_neg (by decide), if_neg (by decide), if_neg (by decide), if_neg (by decide), if_neg (by decide), if_neg (by decide), if_neg (by decide), if_pos (by decide)]; rfl
  · rw [e, if_neg (by decide), if_neg (by decide), if_neg (by decide), if_neg (by decide), if_neg (by decide), if_neg (by decide), if_neg (by decide), if_neg (by decide), if_neg (by decide), if_neg (by decide), if_neg (by decide), if_neg (by decide), if_neg (by decide), if_neg (by decide), if_neg (by decide), if_pos (by decide)]; rfl
  · rw [e, if_neg (by decide), if_neg (by decide), if_neg (by decide), if_neg (by decide), if_neg (by decide), if_neg (by decide), if_neg (by decide), if_neg (by decide), if_neg (by decide), if_neg (by decide), if_neg (by decide), if_neg (by decide), if_neg (by decide), if_neg (by decide), if_neg (by decide), if_neg (by decide), if_pos (by decide)]; rfl
  · rw [e, if_neg (by decide), if_neg (by decide), if_neg (by decide), if_neg (by decide), if_neg (by decide), if_neg (by decide), if_neg (by decide), if_neg (by decide), if_neg (by decide), if_neg (by decide), if_neg (by decide), if_neg (by decide), if_neg (by decide), if_neg (by decide), if_neg (by decide), if_neg (by decide), if_neg (by decide), if_pos (by decide)]; rfl
  · rw [e, if_neg (by decide), if_neg (by decide), if_neg (by decide), if_neg (by decide), if_neg (by decide), if_neg (by decide), if_neg (by decide), if_neg (by decide), if_neg (by decide), if_neg (by decide), if_neg (by decide), if_neg (by decide), if_neg (by decide), if_neg (by decide), if_neg (by decide), if_neg (by decide), if_neg (by decide), if_neg (by decide), if_pos (by decide)]; rfl
  · rw [e, if_neg (by decide), if_neg (by decide), if_neg (by decide), if_neg (by decide), if_neg (by decide), if_neg (by decide), if_neg (by decide), if_neg (by decide), if_neg (by decide), if_neg (by decide), if_neg (by decide), if_neg (by decide), if_neg (by decide), if_neg (by decide), if_neg (by decide), if_neg (by decide), if_neg (by decide), if_neg (by decide), if_neg (by decide), if_pos (by decide)]; rfl
  · rw [e, if_neg (by decide), if_neg (by decide), if_neg (by decide), if_neg (by decide), if_neg (by decide), if_neg (by decide), if_neg (by decide), if_neg (by decide), if_neg (by decide), if_neg (by decide), if_neg (by decide), if_neg (by decide), if_neg (by decide), if_neg (by decide), if_neg (by decide), if_neg (by decide), if_neg (by decide), if_neg (by decide), if_neg (by decide), if_neg (by decide)]; rfl
theorem dn78_no {m g2 : rHp} (h : fn77 [] (rUp m 15 0 93 0) = (0, 0, g2)) : dn78 [] m = .inr (0, 0, rUp (rUp g2 15 0 59 0) 15 0 0 1) := by
  unfold dn78
  simp only [zLet, h]
  rw [if_neg (show ¬ (1 : Int) ≤ 0 by decide)]
