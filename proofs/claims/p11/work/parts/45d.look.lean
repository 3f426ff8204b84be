/-! ===== searches ===== -/
/-- the first index from i on of which q is not so, or n -/
noncomputable def pIx (q : Int → Bool) (n i : Int) : Int := pEd q (fun j => j) n i
theorem pIx_go {q : Int → Bool} {n i : Int} (h : i < n) (hb : q i = true) : pIx q n i = pIx q n (i + 1) := pEd_go h hb
theorem pIx_no {q : Int → Bool} {n i : Int} (h : ¬ (i < n ∧ q i = true)) : pIx q n i = i := pEd_no h
theorem pIx_le {q : Int → Bool} {n i : Int} : i ≤ pIx q n i := pEd_le
theorem pIx_top {q : Int → Bool} {n i : Int} (h : i ≤ n) : pIx q n i ≤ n := pEd_top h
theorem pIx_in {q : Int → Bool} {n i j : Int} (h1 : i ≤ j) (h2 : j < pIx q n i) : q j = true := pEd_in (t := fun j => j) h1 h2
theorem pIx_stop {q : Int → Bool} {n i : Int} (h : pIx q n i < n) : q (pIx q n i) = false := by
  have h2 := (pEd_ge (q := q) (t := fun j => j) (n := n) _ i (Nat.le_refl _)).2.2.1
  cases e : q (pIx q n i) with
  | false => rfl
  | true => exact absurd ⟨h, e⟩ h2
theorem pIx_congr {q r : Int → Bool} {n : Int} : ∀ (f : Nat) (i : Int), (n - i).toNat ≤ f → (∀ j, i ≤ j → j < n → q j = r j) → pIx q n i = pIx r n i := by
  intro f
  induction f with
  | zero =>
    intro i hf _
    rw [pIx_no (by omega), pIx_no (by omega)]
  | succ f ih =>
    intro i hf h
    by_cases hi : i < n
    · have e := h i (Int.le_refl _) hi
      cases eq : q i with
      | true =>
        rw [pIx_go hi eq, pIx_go hi (by rw [← e]; exact eq)]
        exact ih (i + 1) (by omega) (fun j h1 h2 => h j (by omega) h2)
      | false => rw [pIx_no (by rw [eq]; simp), pIx_no (by rw [← e, eq]; simp)]
    · rw [pIx_no (by omega), pIx_no (by omega)]
/-- what a search finds: the index, or -1 -/
noncomputable def pFd (q : Int → Bool) (n : Int) : Int := if n ≤ pIx q n 0 then -1 else pIx q n 0
/-! the class_q searches -/
theorem en119_step (g : rHp) (w i : Int) : en119 g (0, [w, i], g) = if i < g 2 0 13 ∧ decide (g 22 0 i ≠ w) = true then .inl (0, [w, i + 1], g) else .inr (0, (if g 2 0 13 ≤ i then -1 else i), g) := by
  unfold en119
  simp only [zLet, List.getD_cons_zero, List.getD_cons_succ, ↓reduceIte, decide_eq_true_eq]
  by_cases h1 : i < g 2 0 13
  · rw [if_neg (show ¬ i ≥ g 2 0 13 by omega), if_neg (show ¬ g 2 0 13 ≤ i by omega)]
    by_cases h2 : g 22 0 i ≠ w
    · rw [if_pos h2, if_pos (show i < g 2 0 13 ∧ g 22 0 i ≠ w from ⟨h1, h2⟩)]
    · rw [if_neg h2, if_neg (show ¬ (i < g 2 0 13 ∧ g 22 0 i ≠ w) from fun h => h2 h.2)]
  · rw [if_pos (show i ≥ g 2 0 13 by omega), if_pos (show g 2 0 13 ≤ i by omega), if_neg (show ¬ (i < g 2 0 13 ∧ g 22 0 i ≠ w) from fun h => h1 h.1)]
theorem fn119_eq (w : Int) (g : rHp) : fn119 [w] g = (0, pFd (fun j => decide (g 22 0 j ≠ w)) (g 2 0 13), g) := by
  have key : ∀ (f : Nat) (i : Int), (g 2 0 13 - i).toNat ≤ f → zLoop (en119 g) (0, [w, i], g) = (0, (if g 2 0 13 ≤ pIx (fun j => decide (g 22 0 j ≠ w)) (g 2 0 13) i then -1 else pIx (fun j => decide (g 22 0 j ≠ w)) (g 2 0 13) i), g) := by
    intro f
    induction f with
    | zero =>
      intro i hf
      rw [zLoop_eq, en119_step, if_neg (show ¬ (i < g 2 0 13 ∧ decide (g 22 0 i ≠ w) = true) from fun h => by omega), pIx_no (fun h => by omega)]
      rfl
    | succ f ih =>
      intro i hf
      rw [zLoop_eq, en119_step]
      by_cases h : i < g 2 0 13 ∧ decide (g 22 0 i ≠ w) = true
      · rw [if_pos h, pIx_go h.1 h.2]
        exact ih (i + 1) (by omega)
      · rw [if_neg h, pIx_no h]
        rfl
  exact key _ 0 (Nat.le_refl _)
theorem en92_step (g : rHp) (w i : Int) : en92 g (0, [w, i], g) = if i < g 3 0 1 ∧ decide (g 26 0 i ≠ w) = true then .inl (0, [w, i + 1], g) else .inr (if g 3 0 1 ≤ i then (if g 3 0 1 < 5120 then (0, g 3 0 1, rUp (rUp g 26 0 (g 3 0 1) w) 3 0 1 (g 3 0 1 + 1)) else (0, -1, g)) else (0, i, g)) := by
  unfold en92
  simp only [zLet, List.getD_cons_zero, List.getD_cons_succ, ↓reduceIte, decide_eq_true_eq]
  by_cases h1 : i < g 3 0 1
  · rw [if_neg (show ¬ i ≥ g 3 0 1 by omega), if_neg (show ¬ g 3 0 1 ≤ i by omega)]
    by_cases h2 : g 26 0 i ≠ w
    · rw [if_pos h2, if_pos (show i < g 3 0 1 ∧ g 26 0 i ≠ w from ⟨h1, h2⟩)]
    · rw [if_neg h2, if_neg (show ¬ (i < g 3 0 1 ∧ g 26 0 i ≠ w) from fun h => h2 h.2)]
  · rw [if_pos (show i ≥ g 3 0 1 by omega), if_pos (show g 3 0 1 ≤ i by omega), if_neg (show ¬ (i < g 3 0 1 ∧ g 26 0 i ≠ w) from fun h => h1 h.1)]
    by_cases h3 : g 3 0 1 < 5120
    · rw [if_pos h3, if_pos h3]
    · rw [if_neg h3, if_neg h3]
/-- the number of a NAME -/
theorem fn92_eq (w : Int) (g : rHp) : fn92 [w] g = (if g 3 0 1 ≤ pIx (fun j => decide (g 26 0 j ≠ w)) (g 3 0 1) 0 then (if g 3 0 1 < 5120 then (0, g 3 0 1, rUp (rUp g 26 0 (g 3 0 1) w) 3 0 1 (g 3 0 1 + 1)) else (0, -1, g)) else (0, pIx (fun j => decide (g 26 0 j ≠ w)) (g 3 0 1) 0, g)) := by
  have key : ∀ (f : Nat) (i : Int), (g 3 0 1 - i).toNat ≤ f → zLoop (en92 g) (0, [w, i], g) = (if g 3 0 1 ≤ pIx (fun j => decide (g 26 0 j ≠ w)) (g 3 0 1) i then (if g 3 0 1 < 5120 then (0, g 3 0 1, rUp (rUp g 26 0 (g 3 0 1) w) 3 0 1 (g 3 0 1 + 1)) else (0, -1, g)) else (0, pIx (fun j => decide (g 26 0 j ≠ w)) (g 3 0 1) i, g)) := by
    intro f
    induction f with
    | zero =>
      intro i hf
      rw [zLoop_eq, en92_step, if_neg (show ¬ (i < g 3 0 1 ∧ decide (g 26 0 i ≠ w) = true) from fun h => by omega), pIx_no (fun h => by omega)]
      rfl
    | succ f ih =>
      intro i hf
      rw [zLoop_eq, en92_step]
      by_cases h : i < g 3 0 1 ∧ decide (g 26 0 i ≠ w) = true
      · rw [if_pos h, pIx_go h.1 h.2]
        exact ih (i + 1) (by omega)
      · rw [if_neg h, pIx_no h]
        rfl
  exact key _ 0 (Nat.le_refl _)
theorem en125_step (g : rHp) (w s i : Int) : en125 g (0, [w, s, i], g) = if i < g 1 0 7 ∧ decide (¬ (g 16 0 i = w ∧ g 17 0 i = s)) = true then .inl (0, [w, s, i + 1], g) else .inr (0, (if g 1 0 7 ≤ i then -1 else i), g) := by
  unfold en125
  simp only [zLet, List.getD_cons_zero, List.getD_cons_succ, ↓reduceIte, decide_eq_true_eq]
  by_cases h1 : i < g 1 0 7
  · rw [if_neg (show ¬ i ≥ g 1 0 7 by omega), if_neg (show ¬ g 1 0 7 ≤ i by omega)]
    by_cases h2 : g 16 0 i = w
    · rw [if_neg (show ¬ g 16 0 i ≠ w from fun h => h h2)]
      by_cases h3 : g 17 0 i = s
      · rw [if_neg (show ¬ g 17 0 i ≠ s from fun h => h h3), if_neg (show ¬ (i < g 1 0 7 ∧ ¬ (g 16 0 i = w ∧ g 17 0 i = s)) from fun h => h.2 ⟨h2, h3⟩)]
      · rw [if_pos (show g 17 0 i ≠ s from h3), if_pos (show i < g 1 0 7 ∧ ¬ (g 16 0 i = w ∧ g 17 0 i = s) from ⟨h1, fun h => h3 h.2⟩)]
    · rw [if_pos (show g 16 0 i ≠ w from h2), if_pos (show i < g 1 0 7 ∧ ¬ (g 16 0 i = w ∧ g 17 0 i = s) from ⟨h1, fun h => h2 h.1⟩)]
  · rw [if_pos (show i ≥ g 1 0 7 by omega), if_pos (show g 1 0 7 ≤ i by omega), if_neg (show ¬ (i < g 1 0 7 ∧ ¬ (g 16 0 i = w ∧ g 17 0 i = s)) from fun h => h1 h.1)]
/-- the PREDICATE of a word and a size -/
theorem fn125_eq (w s : Int) (g : rHp) : fn125 [w, s] g = (0, pFd (fun j => decide (¬ (g 16 0 j = w ∧ g 17 0 j = s))) (g 1 0 7), g) := by
  have key : ∀ (f : Nat) (i : Int), (g 1 0 7 - i).toNat ≤ f → zLoop (en125 g) (0, [w, s, i], g) = (0, (if g 1 0 7 ≤ pIx (fun j => decide (¬ (g 16 0 j = w ∧ g 17 0 j = s))) (g 1 0 7) i then -1 else pIx (fun j => decide (¬ (g 16 0 j = w ∧ g 17 0 j = s))) (g 1 0 7) i), g) := by
    intro f
    induction f with
    | zero =>
      intro i hf
      rw [zLoop_eq, en125_step, if_neg (show ¬ (i < g 1 0 7 ∧ decide (¬ (g 16 0 i = w ∧ g 17 0 i = s)) = true) from fun h => by omega), pIx_no (fun h => by omega)]
      rfl
    | succ f ih =>
      intro i hf
      rw [zLoop_eq, en125_step]
      by_cases h : i < g 1 0 7 ∧ decide (¬ (g 16 0 i = w ∧ g 17 0 i = s)) = true
      · rw [if_pos h, pIx_go h.1 h.2]
        exact ih (i + 1) (by omega)
      · rw [if_neg h, pIx_no h]
        rfl
  exact key _ 0 (Nat.le_refl _)
/-! the reference's searches: bytes against bytes -/
/-- k bytes of f from a on are those of h from b on -/
noncomputable def pSame (f : Int → Int) (a : Int) (h : Int → Int) (b k : Int) : Bool := decide (k ≤ pIx (fun j => decide (f (j + a) = h (j + b))) k 0)
theorem pSame_iff {f h : Int → Int} {a b k : Int} : pSame f a h b k = true ↔ ∀ j, 0 ≤ j → j < k → f (j + a) = h (j + b) := by
  unfold pSame
  rw [decide_eq_true_eq]
  refine ⟨fun h1 j h2 h3 => ?_, fun h1 => ?_⟩
  · have := pIx_in (q := fun j => decide (f (j + a) = h (j + b))) (n := k) (i := 0) h2 (by omega)
    simpa using this
  · by_cases hk : k ≤ pIx (fun j => decide (f (j + a) = h (j + b))) k 0
    · exact hk
    · have h2 := pIx_stop (q := fun j => decide (f (j + a) = h (j + b))) (n := k) (i := 0) (by omega)
      have h3 := h1 _ (pIx_le (q := fun j => decide (f (j + a) = h (j + b))) (n := k) (i := 0)) (by omega)
      rw [decide_eq_false_iff_not] at h2
      exact absurd h3 h2
theorem en16_step (g : rHp) (v j : Int) : en16 g (0, [v, j], g) = if j < g 15 0 38 ∧ decide (g 59 0 (j + g 82 0 v) = g 59 0 (j + g 15 0 37)) = true then .inl (0, [v, j + 1], g) else .inr (0, pBit (decide (g 15 0 38 ≤ j)), g) := by
  unfold en16
  simp only [zLet, List.getD_cons_zero, List.getD_cons_succ, ↓reduceIte, decide_eq_true_eq]
  by_cases h1 : j < g 15 0 38
  · rw [if_neg (show ¬ j ≥ g 15 0 38 by omega)]
    by_cases h2 : g 59 0 (j + g 82 0 v) = g 59 0 (j + g 15 0 37)
    · rw [if_pos h2, if_pos (show j < g 15 0 38 ∧ g 59 0 (j + g 82 0 v) = g 59 0 (j + g 15 0 37) from ⟨h1, h2⟩)]
    · rw [if_neg h2, if_neg (show ¬ (j < g 15 0 38 ∧ g 59 0 (j + g 82 0 v) = g 59 0 (j + g 15 0 37)) from fun h => h2 h.2), decide_eq_false (by omega)]
      rfl
  · rw [if_pos (show j ≥ g 15 0 38 by omega), if_neg (show ¬ (j < g 15 0 38 ∧ g 59 0 (j + g 82 0 v) = g 59 0 (j + g 15 0 37)) from fun h => h1 h.1), decide_eq_true (by omega)]
    rfl
/-- is the word the VARIABLE v -/
theorem fn16_eq (v : Int) (g : rHp) : fn16 [v] g = (0, pBit (decide (g 83 0 v = g 15 0 38) && pSame (g 59 0) (g 82 0 v) (g 59 0) (g 15 0 37) (g 15 0 38)), g) := by
  have key : ∀ (f : Nat) (j : Int), (g 15 0 38 - j).toNat ≤ f → zLoop (en16 g) (0, [v, j], g) = (0, pBit (decide (g 15 0 38 ≤ pIx (fun j => decide (g 59 0 (j + g 82 0 v) = g 59 0 (j + g 15 0 37))) (g 15 0 38) j)), g) := by
    intro f
    induction f with
    | zero =>
      intro j hf
      rw [zLoop_eq, en16_step, if_neg (show ¬ (j < g 15 0 38 ∧ decide (g 59 0 (j + g 82 0 v) = g 59 0 (j + g 15 0 37)) = true) from fun h => by omega), pIx_no (fun h => by omega)]
      rfl
    | succ f ih =>
      intro j hf
      rw [zLoop_eq, en16_step]
      by_cases h : j < g 15 0 38 ∧ decide (g 59 0 (j + g 82 0 v) = g 59 0 (j + g 15 0 37)) = true
      · rw [if_pos h, pIx_go h.1 h.2]
        exact ih (j + 1) (by omega)
      · rw [if_neg h, pIx_no h]
        rfl
  unfold fn16
  by_cases h : g 83 0 v = g 15 0 38
  · have e : dn16 [v] g = .inl (0, [v, 0], g) := by
      unfold dn16
      simp only [zLet, List.getD_cons_zero]
      rw [if_pos h]
    rw [e, decide_eq_true h, Bool.true_and]
    exact key _ 0 (Nat.le_refl _)
  · have e : dn16 [v] g = .inr (0, 0, g) := by
      unfold dn16
      simp only [zLet, List.getD_cons_zero]
      rw [if_neg h]
    rw [e, decide_eq_false h, Bool.false_and]
    rfl
