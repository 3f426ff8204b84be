/-! ===== comparisons and reckonings, by both ===== -/
variable {N : Int}
/-- a value: an int, or a NAME -/
noncomputable def vOk (N v : Int) : Prop := (-2147483648 ≤ v ∧ v ≤ 2147483647) ∨ (1099511627776 ≤ v ∧ v < 1099511627776 + N ∧ N ≤ 1048577)
noncomputable def wth (m : rHp) (x : Int) : Int := if m 80 0 x ≠ 1 then m 81 0 x else m 103 0 (m 81 0 x)
theorem fn58_eq {m : rHp} {x : Int} : fn58 [x] m = (0, wth m x, m) := by
  unfold fn58 wth
  simp only [zLet, List.getD_cons_zero]
  split <;> rfl
theorem fn55_eq {m : rHp} {v : Int} (h : (vOk N) v) : fn55 [v] m = (0, (if v < 1099511627776 then 1 else 0), m) := by
  unfold fn55 vOk at *
  simp only [zLet, List.getD_cons_zero]
  by_cases b : v < 1099511627776
  · rw [if_pos b, if_neg (show ¬ v ≥ 549755813888 by omega)]
  · rw [if_neg b, if_pos (show v ≥ 549755813888 by omega)]
theorem fn172_eq {c : rHp} {v : Int} : fn172 [v] c = (0, (if v < 1099511627776 then 1 else 0), c) := by
  unfold fn172
  simp only [zLet, List.getD_cons_zero]
  by_cases b : v < 1099511627776
  · rw [if_pos b, if_neg (show ¬ v ≥ 1099511627776 by omega)]
  · rw [if_neg b, if_pos (show v ≥ 1099511627776 by omega)]
/-- a VALUE of a GOAL as both keep it: k of the class, at x of the reference -/
noncomputable def gVal (c m : rHp) (G k q x : Int) : Prop := (c 43 G k = 0 ∧ m 80 0 x ≠ 1 ∧ c 46 G k = m 81 0 x) ∨ (c 43 G k = 1 ∧ m 80 0 x = 1 ∧ c 44 G k = m 81 0 x ∧ qVr (c 44 G k) ∧ qBt (m 79 0 q) (c 44 G k) = 1)
theorem val_two {c m : rHp} {G k q x : Int} (h : gVal c m G k q x) (hb : ∀ v, qVr v → qBt (m 79 0 q) v = 1 → c 37 0 v = m 103 0 v) : vGd c G k = wth m x := by
  unfold vGd wth
  rcases h with ⟨a1, a2, a3⟩ | ⟨a1, a2, a3, a4, a5⟩
  · rw [if_pos (show c 43 G k ≠ 1 by rw [a1]; decide), if_pos a2, a3]
  · rw [if_neg (fun z => z a1), if_neg (fun z => z a2), hb _ a4 a5, a3]
theorem fn224_v {c : rHp} {G k : Int} : fn224 [G, k] c = (0, vGd c G k, c) := fn224_eq
theorem same_c {c : rHp} {G : Int} : fn229 [G] c = (0, (if c 10 G 4 = 4 then (if vGd c G 0 = vGd c G 1 then 1 else 0) else (if vGd c G 0 = vGd c G 1 then 0 else 1)), c) := by
  unfold fn229
  simp only [zLet, List.getD_cons_zero, fn224_v]
  by_cases b : c 10 G 4 = 4
  · rw [if_neg (fun z => z b), if_pos b]
    by_cases e : vGd c G 0 = vGd c G 1
    · rw [if_neg (fun z => z e), if_pos e]
    · rw [if_pos e, if_neg e]
  · rw [if_pos b, if_neg b]
    by_cases e : vGd c G 0 = vGd c G 1
    · rw [if_pos e, if_pos e]
    · rw [if_neg e, if_neg e]
theorem less_c {c : rHp} {G : Int} : fn230 [G] c = (0, (if vGd c G 0 < 1099511627776 ∧ vGd c G 1 < 1099511627776 ∧ vGd c G 0 < vGd c G 1 then 1 else 0), c) := by
  unfold fn230
  simp only [zLet, List.getD_cons_zero, fn224_v, fn172_eq]
  by_cases b1 : vGd c G 0 < 1099511627776
  · rw [if_pos b1, if_pos (Int.le_refl 1)]
    by_cases b2 : vGd c G 1 < 1099511627776
    · rw [if_pos b2, if_pos (Int.le_refl 1)]
      by_cases b3 : vGd c G 0 ≥ vGd c G 1
      · rw [if_pos b3, if_neg (show ¬ (vGd c G 0 < 1099511627776 ∧ vGd c G 1 < 1099511627776 ∧ vGd c G 0 < vGd c G 1) from fun z => by omega)]
      · rw [if_neg b3, if_pos (show vGd c G 0 < 1099511627776 ∧ vGd c G 1 < 1099511627776 ∧ vGd c G 0 < vGd c G 1 from ⟨b1, b2, by omega⟩)]
    · rw [if_neg b2, if_neg (show ¬ (1 : Int) ≤ 0 by decide), if_neg (show ¬ (vGd c G 0 < 1099511627776 ∧ vGd c G 1 < 1099511627776 ∧ vGd c G 0 < vGd c G 1) from fun z => b2 z.2.1)]
  · rw [if_neg b1, if_neg (show ¬ (1 : Int) ≤ 0 by decide), if_neg (show ¬ (vGd c G 0 < 1099511627776 ∧ vGd c G 1 < 1099511627776 ∧ vGd c G 0 < vGd c G 1) from fun z => b1 z.1)]
theorem cmp_m {m : rHp} {q : Int} (hk : m 77 0 q = 2 ∨ m 77 0 q = 3 ∨ m 77 0 q = 4) (h0 : (vOk N) (wth m (4 * q))) (h1 : (vOk N) (wth m (4 * q + 1))) : fn64 [q] m = (0, (if m 77 0 q = 2 then (if wth m (4 * q) < 1099511627776 ∧ wth m (4 * q + 1) < 1099511627776 ∧ wth m (4 * q) < wth m (4 * q + 1) then 1 else 0) else if m 77 0 q = 3 then (if wth m (4 * q) = wth m (4 * q + 1) then 1 else 0) else (if wth m (4 * q) = wth m (4 * q + 1) then 0 else 1)), m) := by
  unfold fn64 dn64
  simp only [zLet, List.getD_cons_zero, fn58_eq, fn55_eq h0, fn55_eq h1]
  rw [if_neg (show ¬ 0 ≤ -m 77 0 q + 1 by omega)]
  rcases hk with k | k | k
  · rw [k, if_pos (show (0 : Int) ≤ -2 + 2 by decide), if_pos (show (2 : Int) = 2 from rfl)]
    by_cases b1 : wth m (4 * q) < 1099511627776
    · rw [if_pos b1, if_pos (Int.le_refl 1)]
      by_cases b2 : wth m (4 * q + 1) < 1099511627776
      · rw [if_pos b2, if_pos (Int.le_refl 1)]
        by_cases b3 : wth m (4 * q) ≥ wth m (4 * q + 1)
        · rw [if_pos b3, if_neg (show ¬ (wth m (4 * q) < 1099511627776 ∧ wth m (4 * q + 1) < 1099511627776 ∧ wth m (4 * q) < wth m (4 * q + 1)) from fun z => by omega)]; rfl
        · rw [if_neg b3, if_pos (show wth m (4 * q) < 1099511627776 ∧ wth m (4 * q + 1) < 1099511627776 ∧ wth m (4 * q) < wth m (4 * q + 1) from ⟨b1, b2, by omega⟩)]; rfl
      · rw [if_neg b2, if_neg (show ¬ (1 : Int) ≤ 0 by decide), if_neg (show ¬ (wth m (4 * q) < 1099511627776 ∧ wth m (4 * q + 1) < 1099511627776 ∧ wth m (4 * q) < wth m (4 * q + 1)) from fun z => b2 z.2.1)]; rfl
    · rw [if_neg b1, if_neg (show ¬ (1 : Int) ≤ 0 by decide), if_neg (show ¬ (wth m (4 * q) < 1099511627776 ∧ wth m (4 * q + 1) < 1099511627776 ∧ wth m (4 * q) < wth m (4 * q + 1)) from fun z => b1 z.1)]; rfl
  · rw [k, if_neg (show ¬ (0 : Int) ≤ -3 + 2 by decide), if_pos (show (0 : Int) ≤ -3 + 3 by decide), if_neg (show ¬ (3 : Int) = 2 by decide), if_pos (show (3 : Int) = 3 from rfl)]
    by_cases e : wth m (4 * q) = wth m (4 * q + 1)
    · rw [if_neg (fun z => z e), if_pos e]; rfl
    · rw [if_pos e, if_neg e]; rfl
  · rw [k, if_neg (show ¬ (0 : Int) ≤ -4 + 2 by decide), if_neg (show ¬ (0 : Int) ≤ -4 + 3 by decide), if_neg (show ¬ (4 : Int) = 2 by decide), if_neg (show ¬ (4 : Int) = 3 by decide)]
    by_cases e : wth m (4 * q) = wth m (4 * q + 1)
    · rw [if_pos e, if_pos e]; rfl
    · rw [if_neg e, if_neg e]; rfl
theorem lsmall {z : Int} (h : -4611686018427387904 ≤ z) (h2 : z ≤ 4611686018427387904) : Int.bmod z (2 ^ 64) = z := Int.bmod_eq_of_le (by omega) (by omega)
theorem l_of {z : Int} (h : -4611686018427387904 ≤ z) (h2 : z ≤ 4611686018427387904) : (Int64.ofInt z).toInt = z := Int64.toInt_ofInt_of_le (by simp; omega) (by simp; omega)
theorem ladd_s {a b : Int} (ha : -2147483648 ≤ a ∧ a ≤ 2147483647) (hb : -2147483648 ≤ b ∧ b ≤ 2147483647) : zF2 .ladd a b = a + b := by
  have e : zF2 .ladd a b = (Int64.ofInt a + Int64.ofInt b).toInt := rfl
  rw [e, Int64.toInt_add, l_of (by omega) (by omega), l_of (by omega) (by omega), lsmall (by omega) (by omega)]
theorem lsub_s {a b : Int} (ha : -2147483648 ≤ a ∧ a ≤ 2147483647) (hb : -2147483648 ≤ b ∧ b ≤ 2147483647) : zF2 .lsub a b = a - b := by
  have e : zF2 .lsub a b = (Int64.ofInt a - Int64.ofInt b).toInt := rfl
  rw [e, Int64.toInt_sub, l_of (by omega) (by omega), l_of (by omega) (by omega), lsmall (by omega) (by omega)]
/-- what a reckoning makes: kind 5 plus, 6 minus, else times -/
noncomputable def rk (k a b : Int) : Int := if k = 5 then a + b else if k = 6 then a - b else zF2 .lmul a b
theorem is_m {m : rHp} {q : Int} (h1 : (vOk N) (wth m (4 * q + 1))) (h2 : (vOk N) (wth m (4 * q + 2))) : fn65 [q] m = (if wth m (4 * q + 1) < 1099511627776 ∧ wth m (4 * q + 2) < 1099511627776 ∧ -100000000 ≤ rk (m 77 0 q) (wth m (4 * q + 1)) (wth m (4 * q + 2)) ∧ rk (m 77 0 q) (wth m (4 * q + 1)) (wth m (4 * q + 2)) ≤ 100000000 then (0, 1, rUp m 103 0 (m 81 0 (4 * q)) (rk (m 77 0 q) (wth m (4 * q + 1)) (wth m (4 * q + 2)))) else (0, 0, m)) := by
  unfold fn65
  simp only [zLet, List.getD_cons_zero, fn58_eq, fn55_eq h1, fn55_eq h2]
  generalize wth m (4 * q + 1) = a at *
  generalize wth m (4 * q + 2) = b at *
  by_cases b1 : a < 1099511627776
  · rw [if_pos b1, if_pos (Int.le_refl 1)]
    by_cases b2 : b < 1099511627776
    · rw [if_pos b2, if_pos (Int.le_refl 1)]
      have fin : ∀ z : Int, (if z < -100000000 then ((0, 0, m) : zR) else if z ≤ 100000000 then (0, 1, rUp m 103 0 (m 81 0 (4 * q)) z) else (0, 0, m)) = (if a < 1099511627776 ∧ b < 1099511627776 ∧ -100000000 ≤ z ∧ z ≤ 100000000 then (0, 1, rUp m 103 0 (m 81 0 (4 * q)) z) else (0, 0, m)) := by
        intro z
        by_cases z1 : z < -100000000
        · rw [if_pos z1, if_neg (show ¬ (a < 1099511627776 ∧ b < 1099511627776 ∧ -100000000 ≤ z ∧ z ≤ 100000000) from fun y => by omega)]
        · rw [if_neg z1]
          by_cases z2 : z ≤ 100000000
          · rw [if_pos z2, if_pos (show a < 1099511627776 ∧ b < 1099511627776 ∧ -100000000 ≤ z ∧ z ≤ 100000000 from ⟨b1, b2, by omega, z2⟩)]
          · rw [if_neg z2, if_neg (show ¬ (a < 1099511627776 ∧ b < 1099511627776 ∧ -100000000 ≤ z ∧ z ≤ 100000000) from fun y => z2 y.2.2.2)]
      unfold rk
      by_cases k5 : m 77 0 q = 5
      · rw [if_neg (show ¬ m 77 0 q ≠ 5 from fun y => y k5), if_pos k5, Int.add_comm a b]
        exact fin (b + a)
      · rw [if_pos (show m 77 0 q ≠ 5 from k5), if_neg k5]
        by_cases k6 : m 77 0 q = 6
        · rw [if_neg (show ¬ m 77 0 q ≠ 6 from fun y => y k6), if_pos k6, show a - b = -b + a by omega]
          exact fin (-b + a)
        · rw [if_pos (show m 77 0 q ≠ 6 from k6), if_neg k6]
          exact fin (zF2 .lmul a b)
    · rw [if_neg b2, if_neg (show ¬ (1 : Int) ≤ 0 by decide), if_neg (fun y => b2 y.2.1)]
  · rw [if_neg b1, if_neg (show ¬ (1 : Int) ≤ 0 by decide), if_neg (fun y => b1 y.1)]
