/-! ===== TUPLES that fit, by the reference ===== -/
theorem fn59_eq {g : rHp} {t : Int} : fn59 [t] g = (0, (if g 15 0 82 ≤ t ∧ t < g 15 0 83 then 1 else 0), g) := by
  unfold fn59
  simp only [zLet, List.getD_cons_zero]
  by_cases h1 : t < g 15 0 82
  · rw [if_pos h1, if_neg (show ¬ (g 15 0 82 ≤ t ∧ t < g 15 0 83) by omega)]
  · rw [if_neg h1]
    by_cases h2 : t ≥ g 15 0 83
    · rw [if_pos h2, if_neg (show ¬ (g 15 0 82 ≤ t ∧ t < g 15 0 83) by omega)]
    · rw [if_neg h2, if_pos (show g 15 0 82 ≤ t ∧ t < g 15 0 83 by omega)]
/-- where the same VARIABLE stood ahead in the ATOM, the TUPLE has the same -/
noncomputable def pMi (g : rHp) (q t k i : Int) : Bool := !(decide (g 80 0 (i + 4 * q) = 1) && decide (g 81 0 (i + 4 * q) = g 81 0 (k + 4 * q))) || decide (g 99 0 (i + 4 * t) = g 99 0 (k + 4 * t))
/-- ARG k of the GOAL q asks what the TUPLE t has -/
noncomputable def pMk (g : rHp) (q t k : Int) : Bool :=
  if g 80 0 (k + 4 * q) = 0 then decide (g 81 0 (k + 4 * q) = g 99 0 (k + 4 * t))
  else if g 80 0 (k + 4 * q) = 1 then (decide (qBt (g 79 0 q) (zF1 .l2i (g 81 0 (k + 4 * q))) ≠ 1) || decide (g 103 0 (g 81 0 (k + 4 * q)) = g 99 0 (k + 4 * t))) && decide (k ≤ pIx (pMi g q t k) k 0)
  else true
noncomputable def pMt (g : rHp) (q t : Int) : Bool := decide (g 66 0 (g 78 0 q) ≤ pIx (pMk g q t) (g 66 0 (g 78 0 q)) 0)
theorem en60_in {g : rHp} {q t i k n v s : Int} (hi : i ≥ k ∨ s ≠ 1) : en60 g (1, [q, t, i, v, s, k, n], g) = .inl (0, [q, t, k + 1, n], g) := by
  unfold en60
  simp only [zLet, List.getD_cons_zero, List.getD_cons_succ, ↓reduceIte, Nat.one_ne_zero]
  by_cases h : i ≥ k
  · rw [if_pos h]
  · rw [if_neg h, if_pos (hi.resolve_left h)]
theorem en60_go {g : rHp} {q t i k n : Int} (hi : i < k) : en60 g (1, [q, t, i, g 99 0 (k + 4 * t), 1, k, n], g) = if pMi g q t k i = true then .inl (1, [q, t, i + 1, g 99 0 (k + 4 * t), 1, k, n], g) else .inr (0, 0, g) := by
  unfold en60 pMi
  simp only [zLet, List.getD_cons_zero, List.getD_cons_succ, ↓reduceIte, Nat.one_ne_zero]
  rw [if_neg (show ¬ i ≥ k by omega), if_neg (show ¬ (1 : Int) ≠ 1 from fun z => z rfl)]
  by_cases h1 : g 80 0 (i + 4 * q) = 1
  · rw [if_neg (fun z => z h1), decide_eq_true h1, Bool.true_and]
    by_cases h2 : g 81 0 (i + 4 * q) = g 81 0 (k + 4 * q)
    · rw [if_neg (fun z => z h2), decide_eq_true h2]
      by_cases h3 : g 99 0 (i + 4 * t) = g 99 0 (k + 4 * t)
      · rw [if_pos h3, decide_eq_true h3]; rfl
      · rw [if_neg h3, decide_eq_false h3]; rfl
    · rw [if_pos h2, decide_eq_false h2]; rfl
  · rw [if_pos h1, decide_eq_false h1]; rfl
theorem fn60_eq {g : rHp} {q t : Int} : fn60 [q, t] g = (0, (if pMt g q t = true then 1 else 0), g) := by
  have inner : ∀ (f : Nat) (i k n : Int), (k - i).toNat ≤ f → zLoop (en60 g) (1, [q, t, i, g 99 0 (k + 4 * t), 1, k, n], g) = if k ≤ pIx (pMi g q t k) k i then zLoop (en60 g) (0, [q, t, k + 1, n], g) else (0, 0, g) := by
    intro f
    induction f with
    | zero =>
      intro i k n hf
      rw [pIx_no (fun z => by omega), if_pos (show k ≤ i by omega), zLoop_inl (en60_in (Or.inl (show i ≥ k by omega)))]
    | succ f ih =>
      intro i k n hf
      by_cases hi : i < k
      · by_cases hb : pMi g q t k i = true
        · rw [zLoop_inl ((en60_go hi).trans (if_pos hb)), pIx_go hi hb]
          exact ih (i + 1) k n (by omega)
        · rw [zLoop_inr ((en60_go hi).trans (if_neg hb)), pIx_no (fun z => hb z.2), if_neg (show ¬ k ≤ i by omega)]
      · rw [pIx_no (fun z => by omega), if_pos (show k ≤ i by omega), zLoop_inl (en60_in (Or.inl (show i ≥ k by omega)))]
  have outer : ∀ (f : Nat) (k n : Int), (n - k).toNat ≤ f → zLoop (en60 g) (0, [q, t, k, n], g) = (0, (if decide (n ≤ pIx (pMk g q t) n k) = true then 1 else 0), g) := by
    intro f
    induction f with
    | zero =>
      intro k n hf
      have e : en60 g (0, [q, t, k, n], g) = .inr (0, 1, g) := by
        unfold en60
        simp only [zLet, List.getD_cons_zero, List.getD_cons_succ, ↓reduceIte]
        rw [if_pos (show k ≥ n by omega)]
      rw [zLoop_inr e, pIx_no (fun z => by omega), decide_eq_true (show n ≤ k by omega), if_pos rfl]
    | succ f ih =>
      intro k n hf
      by_cases hk : k ≥ n
      · have e : en60 g (0, [q, t, k, n], g) = .inr (0, 1, g) := by
          unfold en60
          simp only [zLet, List.getD_cons_zero, List.getD_cons_succ, ↓reduceIte]
          rw [if_pos hk]
        rw [zLoop_inr e, pIx_no (fun z => by omega), decide_eq_true (show n ≤ k by omega), if_pos rfl]
      · have hkn : k < n := by omega
        have E : en60 g (0, [q, t, k, n], g) = (if g 80 0 (k + 4 * q) ≠ 0 then (if g 80 0 (k + 4 * q) ≠ 1 then .inl (1, [q, t, 0, g 99 0 (k + 4 * t), g 80 0 (k + 4 * q), k, n], g) else (if qBt (g 79 0 q) (zF1 .l2i (g 81 0 (k + 4 * q))) ≠ 1 then .inl (1, [q, t, 0, g 99 0 (k + 4 * t), g 80 0 (k + 4 * q), k, n], g) else (if g 103 0 (g 81 0 (k + 4 * q)) = g 99 0 (k + 4 * t) then .inl (1, [q, t, 0, g 99 0 (k + 4 * t), g 80 0 (k + 4 * q), k, n], g) else .inr (0, 0, g)))) else (if g 81 0 (k + 4 * q) = g 99 0 (k + 4 * t) then .inl (1, [q, t, 0, g 99 0 (k + 4 * t), g 80 0 (k + 4 * q), k, n], g) else .inr (0, 0, g))) := by
          unfold en60 qBt
          simp only [zLet, List.getD_cons_zero, List.getD_cons_succ, ↓reduceIte]
          rw [if_neg hk]
        have no : pMk g q t k ≠ true → (0, (if decide (n ≤ pIx (pMk g q t) n k) = true then (1 : Int) else 0), g) = ((0, 0, g) : zR) := fun z => by
          rw [pIx_no (fun y => z y.2), decide_eq_false (show ¬ n ≤ k by omega), if_neg (by decide)]
        have yes : pMk g q t k = true → zLoop (en60 g) (0, [q, t, k + 1, n], g) = (0, (if decide (n ≤ pIx (pMk g q t) n k) = true then 1 else 0), g) := fun z => by
          rw [pIx_go hkn z]
          exact ih (k + 1) n (by omega)
        by_cases s0 : g 80 0 (k + 4 * q) = 0
        · rw [if_neg (fun z => z s0)] at E
          by_cases h1 : g 81 0 (k + 4 * q) = g 99 0 (k + 4 * t)
          · rw [if_pos h1] at E
            rw [zLoop_inl E, zLoop_inl (en60_in (Or.inr (by rw [s0]; decide)))]
            exact yes (by unfold pMk; rw [if_pos s0]; exact decide_eq_true h1)
          · rw [if_neg h1] at E
            rw [zLoop_inr E]
            exact (no (by unfold pMk; rw [if_pos s0, decide_eq_false h1]; decide)).symm
        · rw [if_pos s0] at E
          by_cases s1 : g 80 0 (k + 4 * q) = 1
          · rw [if_neg (fun z => z s1)] at E
            have pk : pMk g q t k = ((decide (qBt (g 79 0 q) (zF1 .l2i (g 81 0 (k + 4 * q))) ≠ 1) || decide (g 103 0 (g 81 0 (k + 4 * q)) = g 99 0 (k + 4 * t))) && decide (k ≤ pIx (pMi g q t k) k 0)) := by
              unfold pMk
              rw [if_neg s0, if_pos s1]
            have on : ∀ (b : Bool), b = (decide (qBt (g 79 0 q) (zF1 .l2i (g 81 0 (k + 4 * q))) ≠ 1) || decide (g 103 0 (g 81 0 (k + 4 * q)) = g 99 0 (k + 4 * t))) → b = true → zLoop (en60 g) (1, [q, t, 0, g 99 0 (k + 4 * t), g 80 0 (k + 4 * q), k, n], g) = (0, (if decide (n ≤ pIx (pMk g q t) n k) = true then 1 else 0), g) := by
              intro b hb hb1
              rw [s1, inner _ 0 k n (Nat.le_refl _)]
              rw [← hb, hb1, Bool.true_and] at pk
              by_cases h3 : k ≤ pIx (pMi g q t k) k 0
              · rw [if_pos h3]
                exact yes (by rw [pk]; exact decide_eq_true h3)
              · rw [if_neg h3]
                exact (no (by rw [pk, decide_eq_false h3]; decide)).symm
            by_cases h1 : qBt (g 79 0 q) (zF1 .l2i (g 81 0 (k + 4 * q))) ≠ 1
            · rw [if_pos h1] at E
              rw [zLoop_inl E]
              exact on _ rfl (by rw [decide_eq_true h1]; rfl)
            · rw [if_neg h1] at E
              by_cases h2 : g 103 0 (g 81 0 (k + 4 * q)) = g 99 0 (k + 4 * t)
              · rw [if_pos h2] at E
                rw [zLoop_inl E]
                exact on _ rfl (by rw [decide_eq_true h2, Bool.or_true])
              · rw [if_neg h2] at E
                rw [zLoop_inr E]
                exact (no (by rw [pk, decide_eq_false h1, decide_eq_false h2]; simp)).symm
          · rw [if_pos s1] at E
            rw [zLoop_inl E, zLoop_inl (en60_in (Or.inr s1))]
            exact yes (by unfold pMk; rw [if_neg s0, if_neg s1])
  exact outer _ 0 (g 66 0 (g 78 0 q)) (Nat.le_refl _)
/-- what is so at all places may be skipped -/
theorem pIx_skip {q : Int → Bool} {n : Int} : ∀ (f : Nat) (i y : Int), (y - i).toNat ≤ f → i ≤ y → y ≤ n → (∀ j, i ≤ j → j < y → q j = true) → pIx q n i = pIx q n y := by
  intro f
  induction f with
  | zero =>
    intro i y hf h1 _ _
    have : i = y := by omega
    rw [this]
  | succ f ih =>
    intro i y hf h1 h2 h
    by_cases e : i = y
    · rw [e]
    · rw [pIx_go (show i < n by omega) (h i (Int.le_refl _) (by omega))]
      exact ih (i + 1) y (by omega) (by omega) h2 (fun j j0 j1 => h j (by omega) j1)
theorem pIx_end {q : Int → Bool} {n i : Int} (hi : i ≤ n) (h : ∀ j, i ≤ j → j < n → q j = true) : pIx q n i = n := by
  rw [pIx_skip _ i n (Nat.le_refl _) hi (Int.le_refl _) h, pIx_no (fun z => by omega)]
/-- whether the last ATOM asks for what is new -/
noncomputable def pAs (m : rHp) (r x : Int) : Bool := decide (m 15 0 84 ≠ 0) && (decide (m 73 0 r ≤ pIx (fun h => decide (m 77 0 (h + 8 * r) ≠ 0)) (m 73 0 r) (x + 1)) && decide (x ≤ pIx (fun h => !(decide (m 77 0 (h + 8 * r) = 0) && decide (m 15 0 82 ≤ m 104 0 h ∧ m 104 0 h < m 15 0 83))) x 0))
theorem fn61_eq {m : rHp} {r x : Int} : fn61 [r, x] m = (0, (if pAs m r x = true then 1 else 0), m) := by
  have st1 : ∀ h, en61 m (1, [r, x, h], m) = if h ≥ x then .inr (0, 1, m) else if (!(decide (m 77 0 (h + 8 * r) = 0) && decide (m 15 0 82 ≤ m 104 0 h ∧ m 104 0 h < m 15 0 83))) = true then .inl (1, [r, x, h + 1], m) else .inr (0, 0, m) := by
    intro h
    unfold en61
    simp only [zLet, List.getD_cons_zero, List.getD_cons_succ, ↓reduceIte, Nat.one_ne_zero, fn59_eq]
    by_cases h1 : h ≥ x
    · rw [if_pos h1, if_pos h1]
    · rw [if_neg h1, if_neg h1]
      by_cases h2 : m 77 0 (h + 8 * r) = 0
      · rw [if_neg (fun z => z h2), decide_eq_true h2, Bool.true_and]
        by_cases h3 : m 15 0 82 ≤ m 104 0 h ∧ m 104 0 h < m 15 0 83
        · rw [if_pos h3, if_pos (Int.le_refl 1), decide_eq_true h3]; rfl
        · rw [if_neg h3, if_neg (by decide), decide_eq_false h3]; rfl
      · rw [if_pos h2, decide_eq_false h2]; rfl
  have two : ∀ (f : Nat) (h : Int), (x - h).toNat ≤ f → zLoop (en61 m) (1, [r, x, h], m) = (0, (if decide (x ≤ pIx (fun h => !(decide (m 77 0 (h + 8 * r) = 0) && decide (m 15 0 82 ≤ m 104 0 h ∧ m 104 0 h < m 15 0 83))) x h) = true then 1 else 0), m) := by
    intro f
    induction f with
    | zero =>
      intro h hf
      rw [zLoop_inr ((st1 h).trans (if_pos (show h ≥ x by omega))), pIx_no (fun z => by omega), decide_eq_true (show x ≤ h by omega), if_pos rfl]
    | succ f ih =>
      intro h hf
      by_cases hx : h ≥ x
      · rw [zLoop_inr ((st1 h).trans (if_pos hx)), pIx_no (fun z => by omega), decide_eq_true (show x ≤ h by omega), if_pos rfl]
      · by_cases hb : (!(decide (m 77 0 (h + 8 * r) = 0) && decide (m 15 0 82 ≤ m 104 0 h ∧ m 104 0 h < m 15 0 83))) = true
        · rw [zLoop_inl ((st1 h).trans ((if_neg hx).trans (if_pos hb))), pIx_go (show h < x by omega) hb]
          exact ih (h + 1) (by omega)
        · rw [zLoop_inr ((st1 h).trans ((if_neg hx).trans (if_neg hb))), pIx_no (fun z => hb z.2), decide_eq_false (show ¬ x ≤ h by omega), if_neg (by decide)]
  have st0 : ∀ h, en61 m (0, [r, x, h], m) = if h ≥ m 73 0 r then .inl (1, [r, x, 0], m) else if decide (m 77 0 (h + 8 * r) ≠ 0) = true then .inl (0, [r, x, h + 1], m) else .inr (0, 0, m) := by
    intro h
    unfold en61
    simp only [zLet, List.getD_cons_zero, List.getD_cons_succ, ↓reduceIte, decide_eq_true_eq]
  have one : ∀ (f : Nat) (h : Int), (m 73 0 r - h).toNat ≤ f → zLoop (en61 m) (0, [r, x, h], m) = (0, (if (decide (m 73 0 r ≤ pIx (fun h => decide (m 77 0 (h + 8 * r) ≠ 0)) (m 73 0 r) h) && decide (x ≤ pIx (fun h => !(decide (m 77 0 (h + 8 * r) = 0) && decide (m 15 0 82 ≤ m 104 0 h ∧ m 104 0 h < m 15 0 83))) x 0)) = true then 1 else 0), m) := by
    intro f
    induction f with
    | zero =>
      intro h hf
      rw [zLoop_inl ((st0 h).trans (if_pos (show h ≥ m 73 0 r by omega))), pIx_no (i := h) (n := m 73 0 r) (fun z => by omega), decide_eq_true (show m 73 0 r ≤ h by omega), Bool.true_and]
      exact two _ 0 (Nat.le_refl _)
    | succ f ih =>
      intro h hf
      by_cases hx : h ≥ m 73 0 r
      · rw [zLoop_inl ((st0 h).trans (if_pos hx)), pIx_no (i := h) (n := m 73 0 r) (fun z => by omega), decide_eq_true (show m 73 0 r ≤ h by omega), Bool.true_and]
        exact two _ 0 (Nat.le_refl _)
      · by_cases hb : decide (m 77 0 (h + 8 * r) ≠ 0) = true
        · rw [zLoop_inl ((st0 h).trans ((if_neg hx).trans (if_pos hb))), pIx_go (i := h) (n := m 73 0 r) (show h < m 73 0 r by omega) hb]
          exact ih (h + 1) (by omega)
        · rw [zLoop_inr ((st0 h).trans ((if_neg hx).trans (if_neg hb))), pIx_no (i := h) (n := m 73 0 r) (fun z => hb z.2), decide_eq_false (show ¬ m 73 0 r ≤ h by omega), Bool.false_and, if_neg (by decide)]
  unfold fn61 dn61 pAs
  simp only [zLet, List.getD_cons_zero, List.getD_cons_succ]
  by_cases h84 : m 15 0 84 ≠ 0
  · rw [if_pos h84, decide_eq_true h84, Bool.true_and]
    exact one _ (x + 1) (Nat.le_refl _)
  · rw [if_neg h84, decide_eq_false h84, Bool.false_and, if_neg (by decide)]
    rfl
/-- the first TUPLE of a PREDICATE from i on, or -1 -/
noncomputable def pTp (m : rHp) (p i : Int) : Int := if m 15 0 71 ≤ pIx (fun t => decide (m 93 0 t ≠ p)) (m 15 0 71) i then -1 else pIx (fun t => decide (m 93 0 t ≠ p)) (m 15 0 71) i
/-- the reference's chains of TUPLES: all of a PREDICATE, rising -/
noncomputable def cM (m : rHp) : Prop := (0 ≤ m 15 0 71 ∧ m 15 0 71 ≤ 2000) ∧ (∀ t, 0 ≤ t → t < m 15 0 71 → 0 ≤ m 93 0 t ∧ m 93 0 t < m 15 0 13) ∧ (∀ p, 0 ≤ p → p < m 15 0 13 → m 100 0 p = pTp m p 0) ∧ ∀ t, 0 ≤ t → t < m 15 0 71 → m 96 0 t = pTp m (m 93 0 t) (t + 1)
/-- the TUPLE t is one that the ATOM takes -/
noncomputable def pTk (m : rHp) (q : Int) (asks : Bool) (t : Int) : Bool := decide (m 93 0 t = m 78 0 q) && ((!asks || decide (m 15 0 82 ≤ t ∧ t < m 15 0 83)) && pMt m q t)
theorem fn62_eq {m : rHp} {r x i : Int} (hc : cM m) (hl : m 15 0 81 ≤ m 15 0 71) (hi : 0 ≤ i) (hin : i ≤ m 15 0 71) : fn62 [r, x, pTp m (m 78 0 (x + 8 * r)) i] m = (0, (if m 15 0 81 ≤ pIx (fun t => !pTk m (x + 8 * r) (pAs m r x) t) (m 15 0 81) i then -1 else pIx (fun t => !pTk m (x + 8 * r) (pAs m r x) t) (m 15 0 81) i), m) := by
  have st : ∀ (n2 t b : Int), en62 m (0, [r, x, n2, t, b], m) = if t ≥ m 15 0 81 then .inr (0, -1, m) else if ((decide (b = 0) || decide (m 15 0 82 ≤ t ∧ t < m 15 0 83)) && pMt m (x + 8 * r) t) = true then .inr (0, t, m) else if 0 ≤ -m 96 0 t + (-1) then .inr (0, -1, m) else .inl (0, [r, x, n2, m 96 0 t, b], m) := by
    intro n2 t b
    unfold en62
    simp only [zLet, List.getD_cons_zero, List.getD_cons_succ, ↓reduceIte, fn59_eq, fn60_eq]
    by_cases h1 : t ≥ m 15 0 81
    · rw [if_pos h1, if_pos h1]
    · rw [if_neg h1, if_neg h1]
      by_cases h2 : b = 0
      · rw [if_pos h2, decide_eq_true h2, Bool.true_or, Bool.true_and]
        by_cases h3 : pMt m (x + 8 * r) t = true
        · rw [if_pos h3, if_pos h3, if_pos (Int.le_refl 1)]
        · rw [if_neg h3, if_neg h3, if_neg (show ¬ (1 : Int) ≤ 0 by decide)]
      · rw [if_neg h2, decide_eq_false h2, Bool.false_or]
        by_cases h4 : m 15 0 82 ≤ t ∧ t < m 15 0 83
        · rw [if_pos h4, if_pos (Int.le_refl 1), decide_eq_true h4, Bool.true_and]
          by_cases h3 : pMt m (x + 8 * r) t = true
          · rw [if_pos h3, if_pos h3, if_pos (Int.le_refl 1)]
          · rw [if_neg h3, if_neg h3, if_neg (show ¬ (1 : Int) ≤ 0 by decide)]
        · rw [if_neg h4, if_neg (show ¬ (1 : Int) ≤ 0 by decide), decide_eq_false h4, Bool.false_and, if_neg (show ¬ false = true by decide)]
  obtain ⟨⟨n0, n1⟩, c1, c2, c3⟩ := hc
  generalize hp : m 78 0 (x + 8 * r) = p at *
  have Sp : ∀ (as : Bool) j, m 93 0 j ≠ p → (!pTk m (x + 8 * r) as j) = true := fun as j z => by
    unfold pTk
    rw [hp, decide_eq_false z, Bool.false_and]
    rfl
  have none : ∀ (as : Bool) (i : Int), (∀ j, i ≤ j → j < m 15 0 81 → m 93 0 j ≠ p) → (if m 15 0 81 ≤ pIx (fun t => !pTk m (x + 8 * r) as t) (m 15 0 81) i then -1 else pIx (fun t => !pTk m (x + 8 * r) as t) (m 15 0 81) i) = -1 := by
    intro as i h
    by_cases hi : i ≤ m 15 0 81
    · rw [pIx_end hi (fun j j0 j1 => Sp as j (h j j0 j1)), if_pos (Int.le_refl _)]
    · rw [pIx_no (fun z => by omega), if_pos (by omega)]
  have key : ∀ (as : Bool) (b n2 : Int), (decide (b = 0)) = !as → ∀ (f : Nat) (i y : Int), (m 15 0 71 - i).toNat ≤ f → 0 ≤ i → i ≤ m 15 0 71 → y = pIx (fun t => decide (m 93 0 t ≠ p)) (m 15 0 71) i → y < m 15 0 71 → zLoop (en62 m) (0, [r, x, n2, y, b], m) = (0, (if m 15 0 81 ≤ pIx (fun t => !pTk m (x + 8 * r) as t) (m 15 0 81) i then -1 else pIx (fun t => !pTk m (x + 8 * r) as t) (m 15 0 81) i), m) := by
    intro as b n2 hb f
    induction f with
    | zero => intro i y hf h0 h1 hy hyn; have := pIx_le (q := fun t => decide (m 93 0 t ≠ p)) (n := m 15 0 71) (i := i); omega
    | succ f ih =>
      intro i y hf h0 h1 hy hyn
      have hiy : i ≤ y := by rw [hy]; exact pIx_le
      have skip : ∀ j, i ≤ j → j < y → m 93 0 j ≠ p := fun j j0 j1 => by
        have := pIx_in (q := fun t => decide (m 93 0 t ≠ p)) (n := m 15 0 71) (i := i) j0 (by rw [← hy]; exact j1)
        simpa using this
      have hyp : m 93 0 y = p := by
        have := pIx_stop (q := fun t => decide (m 93 0 t ≠ p)) (n := m 15 0 71) (i := i) (by rw [← hy]; exact hyn)
        rw [← hy] at this
        simpa using this
      by_cases hyl : y ≥ m 15 0 81
      · rw [zLoop_inr ((st n2 y b).trans (if_pos hyl)), none as i (fun j j0 j1 => skip j j0 (by omega))]
      · have e1 : pIx (fun t => !pTk m (x + 8 * r) as t) (m 15 0 81) i = pIx (fun t => !pTk m (x + 8 * r) as t) (m 15 0 81) y := pIx_skip _ i y (Nat.le_refl _) hiy (by omega) (fun j j0 j1 => Sp as j (skip j j0 j1))
        have e2 : pTk m (x + 8 * r) as y = ((decide (b = 0) || decide (m 15 0 82 ≤ y ∧ y < m 15 0 83)) && pMt m (x + 8 * r) y) := by
          unfold pTk
          rw [hp, decide_eq_true hyp, Bool.true_and, hb]
        rw [e1]
        by_cases hok : ((decide (b = 0) || decide (m 15 0 82 ≤ y ∧ y < m 15 0 83)) && pMt m (x + 8 * r) y) = true
        · have e3 : pIx (fun t => !pTk m (x + 8 * r) as t) (m 15 0 81) y = y := pIx_no (fun z => by have := z.2; rw [e2, hok] at this; exact absurd this (by decide))
          rw [zLoop_inr ((st n2 y b).trans ((if_neg hyl).trans (if_pos hok))), e3, if_neg (by omega)]
        · have e3 : pIx (fun t => !pTk m (x + 8 * r) as t) (m 15 0 81) y = pIx (fun t => !pTk m (x + 8 * r) as t) (m 15 0 81) (y + 1) := pIx_go (by omega) (by show (!pTk m (x + 8 * r) as y) = true; rw [e2, Bool.eq_false_iff.mpr hok]; rfl)
          rw [e3]
          have e96 : m 96 0 y = pTp m p (y + 1) := by rw [c3 y (by omega) hyn, hyp]
          by_cases hlast : m 15 0 71 ≤ pIx (fun t => decide (m 93 0 t ≠ p)) (m 15 0 71) (y + 1)
          · have e4 : m 96 0 y = -1 := by rw [e96]; unfold pTp; rw [if_pos hlast]
            rw [zLoop_inr ((st n2 y b).trans ((if_neg hyl).trans ((if_neg hok).trans (if_pos (by rw [e4]; decide))))), none as (y + 1) (fun j j0 j1 => by
              have := pIx_in (q := fun t => decide (m 93 0 t ≠ p)) (n := m 15 0 71) (i := y + 1) j0 (by omega)
              simpa using this)]
          · have e4 : m 96 0 y = pIx (fun t => decide (m 93 0 t ≠ p)) (m 15 0 71) (y + 1) := by rw [e96]; unfold pTp; rw [if_neg hlast]
            have h5 := pIx_le (q := fun t => decide (m 93 0 t ≠ p)) (n := m 15 0 71) (i := y + 1)
            rw [zLoop_inl ((st n2 y b).trans ((if_neg hyl).trans ((if_neg hok).trans (if_neg (by rw [e4]; omega)))))]
            exact ih (y + 1) _ (by omega) (by omega) (by omega) e4 (by rw [e4]; omega)
  unfold fn62 dn62
  simp only [zLet, List.getD_cons_zero, List.getD_cons_succ, fn61_eq]
  have fin : ∀ (as : Bool) (b : Int), (decide (b = 0)) = !as → zGoo (en62 m) (if 0 ≤ -pTp m p i + (-1) then .inr (0, (-1), m) else .inl (0, [r, x, pTp m p i, pTp m p i, b], m)) = (0, (if m 15 0 81 ≤ pIx (fun t => !pTk m (x + 8 * r) as t) (m 15 0 81) i then -1 else pIx (fun t => !pTk m (x + 8 * r) as t) (m 15 0 81) i), m) := by
    intro as b hb
    by_cases hlast : m 15 0 71 ≤ pIx (fun t => decide (m 93 0 t ≠ p)) (m 15 0 71) i
    · have e4 : pTp m p i = -1 := by unfold pTp; rw [if_pos hlast]
      rw [e4, if_pos (by decide), none as i (fun j j0 j1 => by
        have := pIx_in (q := fun t => decide (m 93 0 t ≠ p)) (n := m 15 0 71) (i := i) j0 (by omega)
        simpa using this)]
      rfl
    · have e4 : pTp m p i = pIx (fun t => decide (m 93 0 t ≠ p)) (m 15 0 71) i := by unfold pTp; rw [if_neg hlast]
      have h5 := pIx_le (q := fun t => decide (m 93 0 t ≠ p)) (n := m 15 0 71) (i := i)
      rw [if_neg (by rw [e4]; omega)]
      exact key as b _ hb _ i _ (Nat.le_refl _) hi hin e4 (by rw [e4]; omega)
  cases has : pAs m r x with
  | true =>
    rw [if_pos rfl, if_pos (Int.le_refl 1)]
    exact fin true 1 (by decide)
  | false =>
    rw [if_neg (by decide)]
    exact fin false 0 (by decide)
