/-! ===== NAMES and PREDICATES of the reference ===== -/
theorem zCpy_zero {g : rHp} {G0 G1 : Nat} {k0 sp k1 dp n : Int} (h : n ≤ 0) : zCpy g G0 k0 sp G1 k1 dp n = g := by
  funext G k j
  unfold zCpy
  rw [if_neg (by omega)]
theorem zCpy_succ {g : rHp} {G0 G1 : Nat} {k0 sp k1 dp i v : Int} (hi : 0 ≤ i) (hv : v = g G0 k0 (sp + i)) : rUp (zCpy g G0 k0 sp G1 k1 dp i) G1 k1 (i + dp) v = zCpy g G0 k0 sp G1 k1 dp (i + 1) := by
  funext G k j
  simp only [rUp, zCpy]
  by_cases h : G = G1 ∧ k = k1
  · obtain ⟨rfl, rfl⟩ := h
    by_cases hj : j = i + dp
    · rw [if_pos ⟨rfl, rfl, hj⟩, if_pos ⟨rfl, rfl, by omega, by omega⟩, hv]
      congr 1
      omega
    · rw [if_neg (fun q => hj q.2.2)]
      by_cases h2 : dp ≤ j ∧ j < dp + i
      · rw [if_pos ⟨rfl, rfl, h2.1, h2.2⟩, if_pos ⟨rfl, rfl, by omega, by omega⟩]
      · rw [if_neg (fun q => h2 q.2.2), if_neg (fun q => h2 (by omega))]
  · rw [if_neg (fun q => h ⟨q.1, q.2.1⟩), if_neg (fun q => h ⟨q.1, q.2.1⟩), if_neg (fun q => h ⟨q.1, q.2.1⟩)]
/-- is the word the NAME k -/
noncomputable def pNm (g : rHp) (k : Int) : Bool := decide (g 63 0 k = g 15 0 38) && pSame (g 61 0) (g 62 0 k) (g 59 0) (g 15 0 37) (g 15 0 38)
theorem en15_in (g : rHp) (i k : Int) : en15 g (1, [i, 1, k], g) = if i < g 15 0 38 ∧ decide (g 61 0 (i + g 62 0 k) = g 59 0 (i + g 15 0 37)) = true then .inl (1, [i + 1, 1, k], g) else if g 15 0 38 ≤ i then .inr (0, k + 1099511627776, g) else .inl (1, [i + 1, 0, k], g) := by
  unfold en15
  simp only [zLet, List.getD_cons_zero, List.getD_cons_succ, decide_eq_true_eq]
  rw [if_neg (show ¬ (1 : Nat) = 0 by decide), if_pos trivial, Int.add_comm (g 62 0 k) i]
  by_cases h1 : i < g 15 0 38
  · rw [if_neg (show ¬ i ≥ g 15 0 38 by omega), if_neg (show ¬ (1 : Int) = 0 by decide), if_neg (show ¬ g 15 0 38 ≤ i by omega)]
    by_cases h2 : g 61 0 (i + g 62 0 k) = g 59 0 (i + g 15 0 37)
    · rw [if_neg (show ¬ g 61 0 (i + g 62 0 k) ≠ g 59 0 (i + g 15 0 37) from fun h => h h2), if_pos (show i < g 15 0 38 ∧ g 61 0 (i + g 62 0 k) = g 59 0 (i + g 15 0 37) from ⟨h1, h2⟩)]
    · rw [if_pos (show g 61 0 (i + g 62 0 k) ≠ g 59 0 (i + g 15 0 37) from h2), if_neg (show ¬ (i < g 15 0 38 ∧ g 61 0 (i + g 62 0 k) = g 59 0 (i + g 15 0 37)) from fun h => h2 h.2)]
  · rw [if_pos (show i ≥ g 15 0 38 by omega), if_neg (show ¬ (1 : Int) = 0 by decide), if_pos (show g 15 0 38 ≤ i by omega), if_neg (show ¬ (i < g 15 0 38 ∧ g 61 0 (i + g 62 0 k) = g 59 0 (i + g 15 0 37)) from fun h => h1 h.1)]
theorem en15_no (g : rHp) (i k : Int) : en15 g (1, [i, 0, k], g) = .inl (0, [k + 1], g) := by
  unfold en15
  simp only [zLet, List.getD_cons_zero, List.getD_cons_succ]
  rw [if_neg (show ¬ (1 : Nat) = 0 by decide), if_pos trivial]
  split
  · rw [if_pos trivial]
  · rw [if_pos trivial]
noncomputable def pNa (g : rHp) : rHp := rUp (rUp g 62 0 (g 15 0 8) (g 15 0 9)) 63 0 (g 15 0 8) (g 15 0 38)
theorem en15_out (g : rHp) (k : Int) : en15 g (0, [k], g) = if g 15 0 8 ≤ k then .inl (2, [0], pNa g) else if g 63 0 k = g 15 0 38 then .inl (1, [0, 1, k], g) else .inl (1, [0, 0, k], g) := by
  unfold en15
  simp only [zLet, List.getD_cons_zero, ↓reduceIte]
  by_cases h1 : g 15 0 8 ≤ k
  · rw [if_pos (show k ≥ g 15 0 8 from h1), if_pos h1]
    rfl
  · rw [if_neg (show ¬ k ≥ g 15 0 8 from h1), if_neg h1]
    by_cases h2 : g 63 0 k = g 15 0 38
    · rw [if_neg (show ¬ g 63 0 k ≠ g 15 0 38 from fun h => h h2), if_pos h2]
    · rw [if_pos (show g 63 0 k ≠ g 15 0 38 from h2), if_neg h2]
theorem fn15_in {g : rHp} {k : Int} : ∀ (f : Nat) (i : Int), (g 15 0 38 - i).toNat ≤ f → zLoop (en15 g) (1, [i, 1, k], g) = if g 15 0 38 ≤ pIx (fun j => decide (g 61 0 (j + g 62 0 k) = g 59 0 (j + g 15 0 37))) (g 15 0 38) i then (0, k + 1099511627776, g) else zLoop (en15 g) (0, [k + 1], g) := by
  intro f
  induction f with
  | zero =>
    intro i hf
    rw [zLoop_eq, en15_in, if_neg (show ¬ (i < g 15 0 38 ∧ decide (g 61 0 (i + g 62 0 k) = g 59 0 (i + g 15 0 37)) = true) from fun h => by omega), pIx_no (fun h => by omega), if_pos (show g 15 0 38 ≤ i by omega), if_pos (show g 15 0 38 ≤ i by omega)]
    rfl
  | succ f ih =>
    intro i hf
    rw [zLoop_eq, en15_in]
    by_cases h : i < g 15 0 38 ∧ decide (g 61 0 (i + g 62 0 k) = g 59 0 (i + g 15 0 37)) = true
    · rw [if_pos h, pIx_go h.1 h.2]
      exact ih (i + 1) (by omega)
    · rw [if_neg h, pIx_no h]
      by_cases h2 : g 15 0 38 ≤ i
      · rw [if_pos h2, if_pos h2]
        rfl
      · rw [if_neg h2, if_neg h2]
        show zLoop (en15 g) (1, [i + 1, 0, k], g) = _
        rw [zLoop_eq, en15_no]
        rfl
theorem fn15_out {g : rHp} : ∀ (f : Nat) (k : Int), (g 15 0 8 - k).toNat ≤ f → zLoop (en15 g) (0, [k], g) = if g 15 0 8 ≤ pIx (fun k => !(pNm g k)) (g 15 0 8) k then zLoop (en15 g) (2, [0], pNa g) else (0, pIx (fun k => !(pNm g k)) (g 15 0 8) k + 1099511627776, g) := by
  intro f
  induction f with
  | zero =>
    intro k hf
    rw [zLoop_eq, en15_out, pIx_no (fun h => by omega), if_pos (show g 15 0 8 ≤ k by omega), if_pos (show g 15 0 8 ≤ k by omega)]
    rfl
  | succ f ih =>
    intro k hf
    rw [zLoop_eq, en15_out]
    by_cases h1 : g 15 0 8 ≤ k
    · rw [if_pos h1, pIx_no (fun h => by omega), if_pos h1]
      rfl
    · rw [if_neg h1]
      have h1_q : k < g 15 0 8 := by omega
      by_cases h2 : g 63 0 k = g 15 0 38
      · rw [if_pos h2]
        show zLoop (en15 g) (1, [0, 1, k], g) = _
        rw [fn15_in _ 0 (Nat.le_refl _)]
        have en : pNm g k = decide (g 15 0 38 ≤ pIx (fun j => decide (g 61 0 (j + g 62 0 k) = g 59 0 (j + g 15 0 37))) (g 15 0 38) 0) := by
          unfold pNm pSame
          rw [decide_eq_true h2, Bool.true_and]
        by_cases h3 : g 15 0 38 ≤ pIx (fun j => decide (g 61 0 (j + g 62 0 k) = g 59 0 (j + g 15 0 37))) (g 15 0 38) 0
        · rw [decide_eq_true h3] at en
          rw [if_pos h3, pIx_no (fun h => by rw [en] at h; simp at h), if_neg h1]
        · rw [decide_eq_false h3] at en
          rw [if_neg h3, pIx_go h1_q (by rw [en]; rfl)]
          exact ih (k + 1) (by omega)
      · rw [if_neg h2]
        show zLoop (en15 g) (1, [0, 0, k], g) = _
        rw [zLoop_eq, en15_no]
        have en : pNm g k = false := by
          unfold pNm
          rw [decide_eq_false h2, Bool.false_and]
        rw [pIx_go h1_q (by rw [en]; rfl)]
        exact ih (k + 1) (by omega)
theorem pNa_59 (g : rHp) : pNa g 59 = g 59 := by
  unfold pNa
  rw [rUp_grp (by decide), rUp_grp (by decide)]
noncomputable def pNb (g : rHp) (i : Int) : rHp := zCpy (pNa g) 59 0 (g 15 0 37) 61 0 (g 15 0 9) i
theorem en15_cp (g : rHp) (i : Int) (hi : 0 ≤ i) : en15 g (2, [i], pNb g i) = if i < g 15 0 38 then .inl (2, [i + 1], pNb g (i + 1)) else .inr (0, g 15 0 8 + 1099511627776, rUp (rUp (pNb g i) 15 0 9 (g 15 0 38 + g 15 0 9)) 15 0 8 (g 15 0 8 + 1)) := by
  have e : rUp (pNb g i) 61 0 (i + g 15 0 9) (g 59 0 (i + g 15 0 37)) = pNb g (i + 1) := zCpy_succ hi (by rw [pNa_59, Int.add_comm])
  unfold en15
  simp only [zLet, List.getD_cons_zero]
  rw [if_neg (show ¬ (2 : Nat) = 0 by decide), if_neg (show ¬ (2 : Nat) = 1 by decide), if_pos trivial, e]
  by_cases h : i < g 15 0 38
  · rw [if_neg (show ¬ i ≥ g 15 0 38 by omega), if_pos h]
  · rw [if_pos (show i ≥ g 15 0 38 by omega), if_neg h]
theorem fn15_cp {g : rHp} (hs : 0 ≤ g 15 0 38) : ∀ (f : Nat) (i : Int), 0 ≤ i → i ≤ g 15 0 38 → (g 15 0 38 - i).toNat ≤ f → zLoop (en15 g) (2, [i], pNb g i) = (0, g 15 0 8 + 1099511627776, rUp (rUp (pNb g (g 15 0 38)) 15 0 9 (g 15 0 38 + g 15 0 9)) 15 0 8 (g 15 0 8 + 1)) := by
  intro f
  induction f with
  | zero =>
    intro i h0 h1 hf
    have : i = g 15 0 38 := by omega
    subst this
    rw [zLoop_eq, en15_cp _ _ h0, if_neg (by omega)]
    rfl
  | succ f ih =>
    intro i h0 h1 hf
    rw [zLoop_eq, en15_cp _ _ h0]
    by_cases h : i < g 15 0 38
    · rw [if_pos h]
      exact ih (i + 1) (by omega) (by omega) (by omega)
    · have : i = g 15 0 38 := by omega
      subst this
      rw [if_neg h]
      rfl
/-- the CONSTANT of the word -/
theorem fn15_eq (x : List Int) (g : rHp) (hs : 0 ≤ g 15 0 38) : fn15 x g = if g 15 0 8 ≤ pIx (fun k => !(pNm g k)) (g 15 0 8) 0 then (0, g 15 0 8 + 1099511627776, rUp (rUp (pNb g (g 15 0 38)) 15 0 9 (g 15 0 38 + g 15 0 9)) 15 0 8 (g 15 0 8 + 1)) else (0, pIx (fun k => !(pNm g k)) (g 15 0 8) 0 + 1099511627776, g) := by
  have h := fn15_out (g := g) _ 0 (Nat.le_refl _)
  have h2 := fn15_cp hs _ 0 (Int.le_refl _) hs (Nat.le_refl _)
  have e : pNb g 0 = pNa g := zCpy_zero (Int.le_refl _)
  rw [e] at h2
  rw [h2] at h
  exact h
/-! PREDICATES -/
/-- is the word of s bytes from f on, with n ARGS, the PREDICATE p -/
noncomputable def pPm (g : rHp) (f s n p : Int) : Bool := decide (g 66 0 p = n) && (decide (g 65 0 p = s) && pSame (g 64 0) (12 * p) (g 59 0) f s)
theorem en21_in (g : rHp) (f s n i p : Int) : en21 g (1, [f, s, n, i, 1, p], g) = if i < s ∧ decide (g 64 0 (i + 12 * p) = g 59 0 (i + f)) = true then .inl (1, [f, s, n, i + 1, 1, p], g) else if s ≤ i then .inr (0, p, g) else .inl (1, [f, s, n, i + 1, 0, p], g) := by
  unfold en21
  simp only [zLet, List.getD_cons_zero, List.getD_cons_succ, decide_eq_true_eq]
  rw [if_neg (show ¬ (1 : Nat) = 0 by decide), if_pos trivial, Int.add_comm (12 * p) i]
  by_cases h1 : i < s
  · rw [if_neg (show ¬ i ≥ s by omega), if_neg (show ¬ (1 : Int) = 0 by decide), if_neg (show ¬ s ≤ i by omega)]
    by_cases h2 : g 64 0 (i + 12 * p) = g 59 0 (i + f)
    · rw [if_neg (show ¬ g 64 0 (i + 12 * p) ≠ g 59 0 (i + f) from fun h => h h2), if_pos (show i < s ∧ g 64 0 (i + 12 * p) = g 59 0 (i + f) from ⟨h1, h2⟩)]
    · rw [if_pos (show g 64 0 (i + 12 * p) ≠ g 59 0 (i + f) from h2), if_neg (show ¬ (i < s ∧ g 64 0 (i + 12 * p) = g 59 0 (i + f)) from fun h => h2 h.2)]
  · rw [if_pos (show i ≥ s by omega), if_neg (show ¬ (1 : Int) = 0 by decide), if_pos (show s ≤ i by omega), if_neg (show ¬ (i < s ∧ g 64 0 (i + 12 * p) = g 59 0 (i + f)) from fun h => h1 h.1)]
theorem en21_no (g : rHp) (f s n i p : Int) : en21 g (1, [f, s, n, i, 0, p], g) = .inl (0, [f, s, n, p + 1], g) := by
  unfold en21
  simp only [zLet, List.getD_cons_zero, List.getD_cons_succ]
  rw [if_neg (show ¬ (1 : Nat) = 0 by decide), if_pos trivial]
  split
  · rw [if_pos trivial]
  · rw [if_pos trivial]
theorem en21_out (g : rHp) (f s n p : Int) : en21 g (0, [f, s, n, p], g) = if g 15 0 14 ≤ p then .inr (0, -1, g) else if g 66 0 p = n ∧ g 65 0 p = s then .inl (1, [f, s, n, 0, 1, p], g) else .inl (1, [f, s, n, 0, 0, p], g) := by
  unfold en21
  simp only [zLet, List.getD_cons_zero, List.getD_cons_succ, ↓reduceIte]
  by_cases h1 : g 15 0 14 ≤ p
  · rw [if_pos (show p ≥ g 15 0 14 from h1), if_pos h1]
  · rw [if_neg (show ¬ p ≥ g 15 0 14 from h1), if_neg h1]
    by_cases h2 : g 66 0 p = n
    · rw [if_neg (show ¬ g 66 0 p ≠ n from fun h => h h2)]
      by_cases h3 : g 65 0 p = s
      · rw [if_neg (show ¬ g 65 0 p ≠ s from fun h => h h3), if_pos ⟨h2, h3⟩]
      · rw [if_pos (show g 65 0 p ≠ s from h3), if_neg (fun h => h3 h.2)]
    · rw [if_pos (show g 66 0 p ≠ n from h2), if_neg (fun h => h2 h.1)]
theorem fn21_in {g : rHp} {f s n p : Int} : ∀ (m : Nat) (i : Int), (s - i).toNat ≤ m → zLoop (en21 g) (1, [f, s, n, i, 1, p], g) = if s ≤ pIx (fun j => decide (g 64 0 (j + 12 * p) = g 59 0 (j + f))) s i then (0, p, g) else zLoop (en21 g) (0, [f, s, n, p + 1], g) := by
  intro m
  induction m with
  | zero =>
    intro i hf
    rw [zLoop_eq, en21_in, if_neg (show ¬ (i < s ∧ decide (g 64 0 (i + 12 * p) = g 59 0 (i + f)) = true) from fun h => by omega), pIx_no (fun h => by omega), if_pos (show s ≤ i by omega), if_pos (show s ≤ i by omega)]
    rfl
  | succ m ih =>
    intro i hf
    rw [zLoop_eq, en21_in]
    by_cases h : i < s ∧ decide (g 64 0 (i + 12 * p) = g 59 0 (i + f)) = true
    · rw [if_pos h, pIx_go h.1 h.2]
      exact ih (i + 1) (by omega)
    · rw [if_neg h, pIx_no h]
      by_cases h2 : s ≤ i
      · rw [if_pos h2, if_pos h2]
        rfl
      · rw [if_neg h2, if_neg h2]
        show zLoop (en21 g) (1, [f, s, n, i + 1, 0, p], g) = _
        rw [zLoop_eq, en21_no]
        rfl
/-- the PREDICATE of a word and a size, -1 if there is none -/
theorem fn21_eq (f s n : Int) (g : rHp) : fn21 [f, s, n] g = (0, pFd (fun p => !(pPm g f s n p)) (g 15 0 14), g) := by
  have key : ∀ (m : Nat) (p : Int), (g 15 0 14 - p).toNat ≤ m → zLoop (en21 g) (0, [f, s, n, p], g) = (0, (if g 15 0 14 ≤ pIx (fun p => !(pPm g f s n p)) (g 15 0 14) p then -1 else pIx (fun p => !(pPm g f s n p)) (g 15 0 14) p), g) := by
    intro m
    induction m with
    | zero =>
      intro p hf
      rw [zLoop_eq, en21_out, pIx_no (fun h => by omega), if_pos (show g 15 0 14 ≤ p by omega), if_pos (show g 15 0 14 ≤ p by omega)]
      rfl
    | succ m ih =>
      intro p hf
      rw [zLoop_eq, en21_out]
      by_cases h1 : g 15 0 14 ≤ p
      · rw [if_pos h1, pIx_no (fun h => by omega), if_pos h1]
        rfl
      · rw [if_neg h1]
        have h1_q : p < g 15 0 14 := by omega
        by_cases h2 : g 66 0 p = n ∧ g 65 0 p = s
        · rw [if_pos h2]
          show zLoop (en21 g) (1, [f, s, n, 0, 1, p], g) = _
          rw [fn21_in _ 0 (Nat.le_refl _)]
          have en : pPm g f s n p = decide (s ≤ pIx (fun j => decide (g 64 0 (j + 12 * p) = g 59 0 (j + f))) s 0) := by
            unfold pPm pSame
            rw [decide_eq_true h2.1, decide_eq_true h2.2, Bool.true_and, Bool.true_and]
          by_cases h3 : s ≤ pIx (fun j => decide (g 64 0 (j + 12 * p) = g 59 0 (j + f))) s 0
          · rw [decide_eq_true h3] at en
            rw [if_pos h3, pIx_no (fun h => by rw [en] at h; simp at h), if_neg h1]
          · rw [decide_eq_false h3] at en
            rw [if_neg h3, pIx_go h1_q (by rw [en]; rfl)]
            exact ih (p + 1) (by omega)
        · rw [if_neg h2]
          show zLoop (en21 g) (1, [f, s, n, 0, 0, p], g) = _
          rw [zLoop_eq, en21_no]
          have en : pPm g f s n p = false := by
            unfold pPm
            by_cases h3 : g 66 0 p = n
            · rw [decide_eq_false (fun h => h2 ⟨h3, h⟩), Bool.false_and, Bool.and_false]
            · rw [decide_eq_false h3, Bool.false_and]
          rw [pIx_go h1_q (by rw [en]; rfl)]
          exact ih (p + 1) (by omega)
  exact key _ 0 (Nat.le_refl _)
noncomputable def pPa (g : rHp) (s n : Int) : rHp := rUp (rUp g 66 0 (g 15 0 14) n) 65 0 (g 15 0 14) s
noncomputable def pPb (g : rHp) (f s n i : Int) : rHp := zCpy (pPa g s n) 59 0 f 64 0 (12 * g 15 0 14) i
theorem en22_step (g : rHp) (f s n i : Int) (hi : 0 ≤ i) : en22 g (0, [f, s, n, i], pPb g f s n i) = if i < s then .inl (0, [f, s, n, i + 1], pPb g f s n (i + 1)) else .inr (0, g 15 0 14, rUp (pPb g f s n i) 15 0 14 (g 15 0 14 + 1)) := by
  have e59 : pPa g s n 59 = g 59 := by
    unfold pPa
    rw [rUp_grp (by decide), rUp_grp (by decide)]
  have e : rUp (pPb g f s n i) 64 0 (i + 12 * g 15 0 14) (g 59 0 (i + f)) = pPb g f s n (i + 1) := zCpy_succ hi (by rw [e59, Int.add_comm])
  unfold en22
  simp only [zLet, List.getD_cons_zero, List.getD_cons_succ, ↓reduceIte]
  rw [e]
  by_cases h : i < s
  · rw [if_neg (show ¬ i ≥ s by omega), if_pos h]
  · rw [if_pos (show i ≥ s by omega), if_neg h]
/-- a new PREDICATE -/
theorem fn22_eq (f s n : Int) (g : rHp) (hs : 0 ≤ s) : fn22 [f, s, n] g = (0, g 15 0 14, rUp (pPb g f s n s) 15 0 14 (g 15 0 14 + 1)) := by
  have key : ∀ (m : Nat) (i : Int), 0 ≤ i → i ≤ s → (s - i).toNat ≤ m → zLoop (en22 g) (0, [f, s, n, i], pPb g f s n i) = (0, g 15 0 14, rUp (pPb g f s n s) 15 0 14 (g 15 0 14 + 1)) := by
    intro m
    induction m with
    | zero =>
      intro i h0 h1 hf
      have : i = s := by omega
      subst this
      rw [zLoop_eq, en22_step _ _ _ _ _ h0, if_neg (by omega)]
      rfl
    | succ m ih =>
      intro i h0 h1 hf
      rw [zLoop_eq, en22_step _ _ _ _ _ h0]
      by_cases h : i < s
      · rw [if_pos h]
        exact ih (i + 1) (by omega) (by omega) (by omega)
      · have : i = s := by omega
        subst this
        rw [if_neg h]
        rfl
  have h := key _ 0 (Int.le_refl _) hs (Nat.le_refl _)
  have e : pPb g f s n 0 = pPa g s n := zCpy_zero (Int.le_refl _)
  rw [e] at h
  exact h
theorem fn39_eq (f s n : Int) (g : rHp) (hs : 0 ≤ s) : fn39 [f, s, n] g = (0, g 15 0 14, rUp (pPb g f s n s) 15 0 14 (g 15 0 14 + 1)) := (show fn39 [f, s, n] g = fn22 [f, s, n] g from rfl).trans (fn22_eq f s n g hs)
