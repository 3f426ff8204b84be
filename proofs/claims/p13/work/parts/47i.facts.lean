/-! ===== FACTS by both ===== -/
noncomputable def qF4 (c : rHp) (f h : Int) : Bool := decide (c 20 0 (0 + 4 * f) = c 46 h 0) && (decide (c 20 0 (1 + 4 * f) = c 46 h 1) && (decide (c 20 0 (2 + 4 * f) = c 46 h 2) && decide (c 20 0 (3 + 4 * f) = c 46 h 3)))
theorem en127_go {g : rHp} {f h k : Int} (hk : k < 4) : en127 g (0, [f, h, k], g) = if g 20 0 (k + 4 * f) = g 46 h k then .inl (0, [f, h, k + 1], g) else .inr (0, 0, g) := by
  unfold en127
  simp only [zLet, List.getD_cons_zero, List.getD_cons_succ, ↓reduceIte]
  rw [if_neg (by omega)]
theorem en127_end {g : rHp} {f h : Int} : en127 g (0, [f, h, 4], g) = .inr (0, 1, g) := by
  unfold en127
  simp only [zLet, List.getD_cons_zero, List.getD_cons_succ, ↓reduceIte]
  rw [if_pos (by decide)]
theorem fn127_eq {g : rHp} {f h : Int} : fn127 [f, h] g = (0, (if qF4 g f h = true then 1 else 0), g) := by
  show zLoop (en127 g) (0, [f, h, 0], g) = _
  unfold qF4
  by_cases h0 : g 20 0 (0 + 4 * f) = g 46 h 0
  · rw [zLoop_inl ((en127_go (by decide)).trans (if_pos h0)), decide_eq_true h0, Bool.true_and]
    by_cases h1 : g 20 0 (1 + 4 * f) = g 46 h 1
    · rw [zLoop_inl ((en127_go (by decide)).trans (if_pos (show g 20 0 (0 + 1 + 4 * f) = g 46 h (0 + 1) from h1))), decide_eq_true h1, Bool.true_and]
      by_cases h2 : g 20 0 (2 + 4 * f) = g 46 h 2
      · rw [zLoop_inl ((en127_go (by decide)).trans (if_pos (show g 20 0 (0 + 1 + 1 + 4 * f) = g 46 h (0 + 1 + 1) from h2))), decide_eq_true h2, Bool.true_and]
        by_cases h3 : g 20 0 (3 + 4 * f) = g 46 h 3
        · rw [zLoop_inl ((en127_go (by decide)).trans (if_pos (show g 20 0 (0 + 1 + 1 + 1 + 4 * f) = g 46 h (0 + 1 + 1 + 1) from h3))), decide_eq_true h3, if_pos rfl]
          exact zLoop_inr en127_end
        · rw [zLoop_inr ((en127_go (by decide)).trans (if_neg (show ¬ g 20 0 (0 + 1 + 1 + 1 + 4 * f) = g 46 h (0 + 1 + 1 + 1) from h3))), decide_eq_false h3, if_neg (by decide)]
      · rw [zLoop_inr ((en127_go (by decide)).trans (if_neg (show ¬ g 20 0 (0 + 1 + 1 + 4 * f) = g 46 h (0 + 1 + 1) from h2))), decide_eq_false h2, Bool.false_and, if_neg (by decide)]
    · rw [zLoop_inr ((en127_go (by decide)).trans (if_neg (show ¬ g 20 0 (0 + 1 + 4 * f) = g 46 h (0 + 1) from h1))), decide_eq_false h1, Bool.false_and, if_neg (by decide)]
  · rw [zLoop_inr ((en127_go (by decide)).trans (if_neg h0)), decide_eq_false h0, Bool.false_and, if_neg (by decide)]
noncomputable def qFc (c : rHp) (h f : Int) : Bool := decide (c 19 0 f = c 10 h 8) && qF4 c f h
/-- the FACT of the class, -1 if there is none -/
theorem fn128_eq {g : rHp} {h : Int} : fn128 [h] g = (0, pFd (fun f => !qFc g h f) (g 1 0 9), g) := by
  have st : ∀ f, en128 g (0, [h, f], g) = if f < g 1 0 9 ∧ (!qFc g h f) = true then .inl (0, [h, f + 1], g) else .inr (0, (if g 1 0 9 ≤ f then -1 else f), g) := by
    intro f
    unfold en128 qFc
    simp only [zLet, List.getD_cons_zero, List.getD_cons_succ, ↓reduceIte, fn127_eq, bit_ge]
    by_cases h1 : g 1 0 9 ≤ f
    · rw [if_pos (show f ≥ g 1 0 9 from h1), if_neg (fun z => by omega), if_pos h1]
    · rw [if_neg (show ¬ f ≥ g 1 0 9 from h1), if_neg h1]
      by_cases h2 : g 19 0 f = g 10 h 8
      · rw [if_neg (fun z => z h2), decide_eq_true h2, Bool.true_and]
        cases h3 : qF4 g f h with
        | true => rw [if_pos rfl, if_neg (fun z => by simp at z)]
        | false => rw [if_neg (by decide), if_pos (show f < g 1 0 9 ∧ (!false) = true from ⟨by omega, rfl⟩)]
      · rw [if_pos h2, decide_eq_false h2, Bool.false_and, if_pos (show f < g 1 0 9 ∧ (!false) = true from ⟨by omega, rfl⟩)]
  have key : ∀ (n : Nat) (f : Int), (g 1 0 9 - f).toNat ≤ n → zLoop (en128 g) (0, [h, f], g) = (0, (if g 1 0 9 ≤ pIx (fun f => !qFc g h f) (g 1 0 9) f then -1 else pIx (fun f => !qFc g h f) (g 1 0 9) f), g) := by
    intro n
    induction n with
    | zero =>
      intro f hf
      rw [zLoop_inr ((st f).trans (if_neg (fun z => by omega))), pIx_no (fun z => by omega)]
    | succ n ih =>
      intro f hf
      by_cases hc : f < g 1 0 9 ∧ (!qFc g h f) = true
      · rw [zLoop_inl ((st f).trans (if_pos hc)), pIx_go hc.1 hc.2]
        exact ih (f + 1) (by omega)
      · rw [zLoop_inr ((st f).trans (if_neg hc)), pIx_no hc]
  exact key _ 0 (Nat.le_refl _)
/-- a FACT's ARGS as the reference compares them -/
noncomputable def qFa (m : rHp) (f : Int) : Bool := decide (m 15 0 48 ≤ pIx (fun k => decide (m 68 0 (4 * f + k) = m 87 0 k)) (m 15 0 48) 0)
noncomputable def qFp (m : rHp) (p f : Int) : Bool := decide (m 67 0 f = p) && qFa m f
theorem en45_no {g : rHp} {p n k f : Int} : en45 g (1, [p, n, k, 0, f], g) = .inl (0, [p, n, f + 1], g) := by
  unfold en45
  simp only [zLet, List.getD_cons_zero, List.getD_cons_succ]
  rw [if_neg (show ¬ (1 : Nat) = 0 by decide), if_pos trivial]
  split
  · rw [if_pos trivial]
  · rw [if_pos trivial]
theorem en45_in {g : rHp} {p n k f : Int} : en45 g (1, [p, n, k, 1, f], g) = if k < g 15 0 48 ∧ decide (g 68 0 (4 * f + k) = g 87 0 k) = true then .inl (1, [p, n, k + 1, 1, f], g) else if g 15 0 48 ≤ k then .inr (0, f, g) else .inl (1, [p, n, k + 1, 0, f], g) := by
  unfold en45
  simp only [zLet, List.getD_cons_zero, List.getD_cons_succ, decide_eq_true_eq]
  rw [if_neg (show ¬ (1 : Nat) = 0 by decide), if_pos trivial]
  by_cases h1 : k < g 15 0 48
  · rw [if_neg (show ¬ k ≥ g 15 0 48 by omega), if_neg (show ¬ (1 : Int) = 0 by decide), if_neg (show ¬ g 15 0 48 ≤ k by omega)]
    by_cases h2 : g 68 0 (4 * f + k) = g 87 0 k
    · rw [if_neg (fun z => z h2), if_pos (show k < g 15 0 48 ∧ g 68 0 (4 * f + k) = g 87 0 k from ⟨h1, h2⟩)]
    · rw [if_pos h2, if_neg (fun z => h2 z.2)]
  · rw [if_pos (show k ≥ g 15 0 48 by omega), if_neg (show ¬ (1 : Int) = 0 by decide), if_neg (fun z => h1 z.1), if_pos (show g 15 0 48 ≤ k by omega)]
theorem fn45_in {g : rHp} {p n f : Int} : ∀ (x : Nat) (k : Int), (g 15 0 48 - k).toNat ≤ x → zLoop (en45 g) (1, [p, n, k, 1, f], g) = if g 15 0 48 ≤ pIx (fun k => decide (g 68 0 (4 * f + k) = g 87 0 k)) (g 15 0 48) k then (0, f, g) else zLoop (en45 g) (0, [p, n, f + 1], g) := by
  intro x
  induction x with
  | zero =>
    intro k hk
    rw [zLoop_inr (en45_in.trans ((if_neg (fun z => by omega)).trans (if_pos (show g 15 0 48 ≤ k by omega)))), pIx_no (fun z => by omega), if_pos (show g 15 0 48 ≤ k by omega)]
  | succ x ih =>
    intro k hk
    by_cases h : k < g 15 0 48 ∧ decide (g 68 0 (4 * f + k) = g 87 0 k) = true
    · rw [zLoop_inl (en45_in.trans (if_pos h)), pIx_go h.1 h.2]
      exact ih (k + 1) (by omega)
    · rw [pIx_no h]
      by_cases h2 : g 15 0 48 ≤ k
      · rw [zLoop_inr (en45_in.trans ((if_neg h).trans (if_pos h2))), if_pos h2]
      · rw [zLoop_inl (en45_in.trans ((if_neg h).trans (if_neg h2))), if_neg h2, zLoop_inl en45_no]
/-- the FACT of the reference, -1 if there is none -/
theorem fn45_eq {g : rHp} {p n : Int} : fn45 [p, n] g = (0, pFd (fun f => !qFp g p f) n, g) := by
  have st : ∀ f, en45 g (0, [p, n, f], g) = if n ≤ f then .inr (0, -1, g) else if g 67 0 f = p then .inl (1, [p, n, 0, 1, f], g) else .inl (1, [p, n, 0, 0, f], g) := by
    intro f
    unfold en45
    simp only [zLet, List.getD_cons_zero, List.getD_cons_succ, ↓reduceIte]
    by_cases h1 : n ≤ f
    · rw [if_pos (show f ≥ n from h1), if_pos h1]
    · rw [if_neg (show ¬ f ≥ n from h1), if_neg h1]
      by_cases h2 : g 67 0 f = p
      · rw [if_neg (fun z => z h2), if_pos h2]
      · rw [if_pos h2, if_neg h2]
  have key : ∀ (x : Nat) (f : Int), (n - f).toNat ≤ x → zLoop (en45 g) (0, [p, n, f], g) = (0, (if n ≤ pIx (fun f => !qFp g p f) n f then -1 else pIx (fun f => !qFp g p f) n f), g) := by
    intro x
    induction x with
    | zero =>
      intro f hf
      rw [zLoop_inr ((st f).trans (if_pos (by omega))), pIx_no (fun z => by omega), if_pos (by omega)]
    | succ x ih =>
      intro f hf
      by_cases h1 : n ≤ f
      · rw [zLoop_inr ((st f).trans (if_pos h1)), pIx_no (fun z => by omega), if_pos h1]
      · by_cases h2 : g 67 0 f = p
        · rw [zLoop_inl ((st f).trans ((if_neg h1).trans (if_pos h2))), fn45_in _ 0 (Nat.le_refl _)]
          have en : qFp g p f = decide (g 15 0 48 ≤ pIx (fun k => decide (g 68 0 (4 * f + k) = g 87 0 k)) (g 15 0 48) 0) := by
            unfold qFp qFa
            rw [decide_eq_true h2, Bool.true_and]
          by_cases h3 : g 15 0 48 ≤ pIx (fun k => decide (g 68 0 (4 * f + k) = g 87 0 k)) (g 15 0 48) 0
          · rw [decide_eq_true h3] at en
            rw [if_pos h3, pIx_no (fun h => by rw [en] at h; simp at h), if_neg h1]
          · rw [decide_eq_false h3] at en
            rw [if_neg h3, pIx_go (by omega) (by rw [en]; rfl)]
            exact ih (f + 1) (by omega)
        · rw [zLoop_inl ((st f).trans ((if_neg h1).trans (if_neg h2))), zLoop_inl en45_no]
          have en : qFp g p f = false := by
            unfold qFp
            rw [decide_eq_false h2, Bool.false_and]
          rw [pIx_go (by omega) (by rw [en]; rfl)]
          exact ih (f + 1) (by omega)
  exact key _ 0 (Nat.le_refl _)
theorem fn46_one {g : rHp} {p n : Int} : (fn46 [p, n] g).2.2 = g := by
  have s0 : ∀ f, en46 g (0, [p, n, f], g) = if n ≤ f then .inr (0, -1, g) else .inl (1, [p, n, f], g) := by
    intro f
    unfold en46
    simp only [zLet, List.getD_cons_zero, List.getD_cons_succ, ↓reduceIte]
  have s1 : ∀ f, en46 g (1, [p, n, f], g) = .inl (0, [p, n, f + 1], g) := by
    intro f
    unfold en46
    simp only [zLet, List.getD_cons_zero, List.getD_cons_succ]
    rw [if_neg (show ¬ (1 : Nat) = 0 by decide), if_pos trivial]
  have key : ∀ (x : Nat) (f : Int), (n - f).toNat ≤ x → zLoop (en46 g) (0, [p, n, f], g) = (0, -1, g) := by
    intro x
    induction x with
    | zero =>
      intro f hf
      exact zLoop_inr ((s0 f).trans (if_pos (by omega)))
    | succ x ih =>
      intro f hf
      by_cases h1 : n ≤ f
      · exact zLoop_inr ((s0 f).trans (if_pos h1))
      · rw [zLoop_inl ((s0 f).trans (if_neg h1)), zLoop_inl (s1 f)]
        exact ih (f + 1) (by omega)
  have := key _ 0 (Nat.le_refl _)
  show (zLoop (en46 g) (0, [p, n, 0], g)).2.2 = g
  rw [this]
/-- are all ARGS of the HEAD CONSTANTS: by the class -/
theorem fn147_eq {g : rHp} {h : Int} : (g 10 h 5 ≤ pIx (fun k => decide (g 43 h k = 0)) (g 10 h 5) 0 → fn147 [h] g = (0, 1, g)) ∧ (¬ g 10 h 5 ≤ pIx (fun k => decide (g 43 h k = 0)) (g 10 h 5) 0 → ∃ p, fn147 [h] g = (0, 0, rUp g 2 0 4 p)) := by
  have st : ∀ k, en147 g (0, [h, k], g) = if k < g 10 h 5 ∧ decide (g 43 h k = 0) = true then .inl (0, [h, k + 1], g) else if g 10 h 5 ≤ k then .inr (0, 1, g) else .inr (0, 0, rUp g 2 0 4 (g 45 h k)) := by
    intro k
    unfold en147
    simp only [zLet, List.getD_cons_zero, List.getD_cons_succ, ↓reduceIte, fn109_eq, decide_eq_true_eq]
    by_cases h1 : g 10 h 5 ≤ k
    · rw [if_pos (show k ≥ g 10 h 5 from h1), if_neg (fun z => by omega), if_pos h1]
    · rw [if_neg (show ¬ k ≥ g 10 h 5 from h1)]
      by_cases h2 : g 43 h k = 0
      · rw [if_pos h2, if_pos (show k < g 10 h 5 ∧ g 43 h k = 0 from ⟨by omega, h2⟩)]
      · rw [if_neg h2, if_neg (fun z => h2 z.2), if_neg h1]
  have key : ∀ (x : Nat) (k : Int), (g 10 h 5 - k).toNat ≤ x → (g 10 h 5 ≤ pIx (fun k => decide (g 43 h k = 0)) (g 10 h 5) k → zLoop (en147 g) (0, [h, k], g) = (0, 1, g)) ∧ (¬ g 10 h 5 ≤ pIx (fun k => decide (g 43 h k = 0)) (g 10 h 5) k → ∃ p, zLoop (en147 g) (0, [h, k], g) = (0, 0, rUp g 2 0 4 p)) := by
    intro x
    induction x with
    | zero =>
      intro k hk
      rw [zLoop_inr ((st k).trans ((if_neg (fun z => by omega)).trans (if_pos (show g 10 h 5 ≤ k by omega)))), pIx_no (fun z => by omega)]
      exact ⟨fun _ => rfl, fun z => absurd (show g 10 h 5 ≤ k by omega) z⟩
    | succ x ih =>
      intro k hk
      by_cases hc : k < g 10 h 5 ∧ decide (g 43 h k = 0) = true
      · rw [zLoop_inl ((st k).trans (if_pos hc)), pIx_go hc.1 hc.2]
        exact ih (k + 1) (by omega)
      · rw [pIx_no hc]
        by_cases h1 : g 10 h 5 ≤ k
        · rw [zLoop_inr ((st k).trans ((if_neg hc).trans (if_pos h1)))]
          exact ⟨fun _ => rfl, fun z => absurd h1 z⟩
        · rw [zLoop_inr ((st k).trans ((if_neg hc).trans (if_neg h1)))]
          exact ⟨fun z => absurd z h1, fun _ => ⟨_, rfl⟩⟩
  exact key _ 0 (Nat.le_refl _)
/-- the same by the reference -/
theorem fn31_eq {g : rHp} : (g 15 0 48 ≤ pIx (fun k => decide (g 85 0 k = 0)) (g 15 0 48) 0 → fn31 [] g = (0, 1, g)) ∧ (¬ g 15 0 48 ≤ pIx (fun k => decide (g 85 0 k = 0)) (g 15 0 48) 0 → ∃ m_q, fn31 [] g = (0, 0, m_q) ∧ fH 15 [] [36] g m_q) := by
  have st : ∀ k, en31 g (0, [k], g) = if k < g 15 0 48 ∧ decide (g 85 0 k = 0) = true then .inl (0, [k + 1], g) else if g 15 0 48 ≤ k then .inr (0, 1, g) else .inr (0, 0, (fn8 [g 86 0 k] g).2.2) := by
    intro k
    unfold en31
    simp only [zLet, List.getD_cons_zero, ↓reduceIte, decide_eq_true_eq]
    by_cases h1 : g 15 0 48 ≤ k
    · rw [if_pos (show k ≥ g 15 0 48 from h1), if_neg (fun z => by omega), if_pos h1]
    · rw [if_neg (show ¬ k ≥ g 15 0 48 from h1)]
      by_cases h2 : g 85 0 k = 0
      · rw [if_pos h2, if_pos (show k < g 15 0 48 ∧ g 85 0 k = 0 from ⟨by omega, h2⟩)]
      · rw [if_neg h2, if_neg (fun z => h2 z.2), if_neg h1]
  have key : ∀ (x : Nat) (k : Int), (g 15 0 48 - k).toNat ≤ x → (g 15 0 48 ≤ pIx (fun k => decide (g 85 0 k = 0)) (g 15 0 48) k → zLoop (en31 g) (0, [k], g) = (0, 1, g)) ∧ (¬ g 15 0 48 ≤ pIx (fun k => decide (g 85 0 k = 0)) (g 15 0 48) k → ∃ m_q, zLoop (en31 g) (0, [k], g) = (0, 0, m_q) ∧ fH 15 [] [36] g m_q) := by
    intro x
    induction x with
    | zero =>
      intro k hk
      rw [zLoop_inr ((st k).trans ((if_neg (fun z => by omega)).trans (if_pos (show g 15 0 48 ≤ k by omega)))), pIx_no (fun z => by omega)]
      exact ⟨fun _ => rfl, fun z => absurd (show g 15 0 48 ≤ k by omega) z⟩
    | succ x ih =>
      intro k hk
      by_cases hc : k < g 15 0 48 ∧ decide (g 85 0 k = 0) = true
      · rw [zLoop_inl ((st k).trans (if_pos hc)), pIx_go hc.1 hc.2]
        exact ih (k + 1) (by omega)
      · rw [pIx_no hc]
        by_cases h1 : g 15 0 48 ≤ k
        · rw [zLoop_inr ((st k).trans ((if_neg hc).trans (if_pos h1)))]
          exact ⟨fun _ => rfl, fun z => absurd h1 z⟩
        · rw [zLoop_inr ((st k).trans ((if_neg hc).trans (if_neg h1)))]
          exact ⟨fun z => absurd z h1, fun _ => ⟨_, rfl, fn8_fr⟩⟩
  exact key _ 0 (Nat.le_refl _)
/-- n FACTS are the same with both -/
noncomputable def FR (c m : rHp) (n : Int) : Prop := ∀ f, 0 ≤ f → f < n → c 19 0 f = m 67 0 f ∧ (0 ≤ m 67 0 f ∧ m 67 0 f < m 15 0 14 ∧ m 66 0 (m 67 0 f) ≤ 4) ∧ (∀ k, 0 ≤ k → k < m 66 0 (m 67 0 f) → vR c m (c 20 0 (k + 4 * f)) (m 68 0 (4 * f + k))) ∧ ∀ k, 0 ≤ k → m 66 0 (m 67 0 f) ≤ k → k < 4 → c 20 0 (k + 4 * f) = 0 ∧ m 68 0 (4 * f + k) = 0
theorem FR_grow {c m c_q m_q : rHp} {n : Int} (h : FR c m n) (hc : gNc c c_q) (hm : gNm m m_q) (h19 : c_q 19 = c 19) (h20 : c_q 20 = c 20) (h67 : m_q 67 = m 67) (h68 : m_q 68 = m 68) (h14 : m 15 0 14 ≤ m_q 15 0 14) (h66 : ∀ p, p < m 15 0 14 → m_q 66 0 p = m 66 0 p) : FR c_q m_q n := by
  intro f f0 f1
  obtain ⟨a1, ⟨a2, a3, a4⟩, a5, a6⟩ := h f f0 f1
  rw [h19, h20, h67, h68, h66 _ a3]
  exact ⟨a1, ⟨a2, by omega, a4⟩, fun k k0 k1 => vR_grow (a5 k k0 k1) hc hm, a6⟩
/-- both have a FACT at the same place, or both have none -/
noncomputable def qHt (c m : rHp) (h i : Int) : Prop := c 10 h 5 = i ∧ m 15 0 48 = i ∧ ∀ k, 0 ≤ k → k < i → hArg c m h k
theorem fact_two {c m : rHp} {h i P n : Int} (hF : FR c m n) (hc : qNc c) (hm : qNm m) (hs : qHt c m h i) (h1 : i ≤ 4) (hk : ∀ k, 0 ≤ k → k < i → c 43 h k = 0) (h0 : ∀ k, i ≤ k → k < 4 → c 46 h k = 0) (hP : c 10 h 8 = P) (hA : m 66 0 P = i) (hi : 0 ≤ i) :
    ∀ f, 0 ≤ f → f < n → qFc c h f = qFp m P f := by
  intro f f0 f1
  obtain ⟨a1, ⟨a2, a3, a4⟩, a5, a6⟩ := hF f f0 f1
  unfold qFc qFp
  rw [a1, hP]
  by_cases e : m 67 0 f = P
  · rw [decide_eq_true e, Bool.true_and, Bool.true_and]
    rw [e, hA] at a4 a5 a6
    have one : ∀ k, 0 ≤ k → k < i → (c 20 0 (k + 4 * f) = c 46 h k ↔ m 68 0 (4 * f + k) = m 87 0 k) := by
      intro k k0 k1
      rcases hs.2.2 k k0 k1 with ⟨q1, q2, q3⟩ | ⟨q1, q2⟩ | ⟨q1, q2⟩
      · exact vR_iff hc hm (a5 k k0 k1) q3
      · have := hk k k0 k1; omega
      · have := hk k k0 k1; omega
    have all : qF4 c f h = true ↔ ∀ k, 0 ≤ k → k < 4 → c 20 0 (k + 4 * f) = c 46 h k := by
      unfold qF4
      simp only [Bool.and_eq_true, decide_eq_true_eq]
      constructor
      · rintro ⟨z0, z1, z2, z3⟩ k k0 k1
        have : k = 0 ∨ k = 1 ∨ k = 2 ∨ k = 3 := by omega
        rcases this with rfl | rfl | rfl | rfl
        · exact z0
        · exact z1
        · exact z2
        · exact z3
      · intro z
        exact ⟨z 0 (by decide) (by decide), z 1 (by decide) (by decide), z 2 (by decide) (by decide), z 3 (by decide) (by decide)⟩
    have al2 : qFa m f = true ↔ ∀ k, 0 ≤ k → k < i → m 68 0 (4 * f + k) = m 87 0 k := by
      unfold qFa
      rw [decide_eq_true_eq, pIx_all, hs.2.1]
      simp only [decide_eq_true_eq]
    rw [Bool.eq_iff_iff, all, al2]
    constructor
    · intro z k k0 k1
      exact (one k k0 k1).1 (z k k0 (by omega))
    · intro z k k0 k1
      by_cases ki : k < i
      · exact (one k k0 ki).2 (z k k0 ki)
      · rw [(a6 k k0 (by omega) k1).1, h0 k (by omega) k1]
  · rw [decide_eq_false e, Bool.false_and, Bool.false_and]
/-- the HEAD's ARGS are all CONSTANTS for both, or for none -/
theorem const_iff {c m : rHp} {h i : Int} (hs : qHt c m h i) : (c 10 h 5 ≤ pIx (fun k => decide (c 43 h k = 0)) (c 10 h 5) 0 ↔ ∀ k, 0 ≤ k → k < i → c 43 h k = 0) ∧ (m 15 0 48 ≤ pIx (fun k => decide (m 85 0 k = 0)) (m 15 0 48) 0 ↔ ∀ k, 0 ≤ k → k < i → c 43 h k = 0) := by
  constructor
  · rw [pIx_all, hs.1]
    simp only [decide_eq_true_eq]
  · rw [pIx_all, hs.2.1]
    simp only [decide_eq_true_eq]
    constructor
    · intro z k k0 k1
      have := z k k0 k1
      rcases hs.2.2 k k0 k1 with ⟨q1, q2, q3⟩ | ⟨q1, q2, q3⟩ | ⟨q1, q2⟩
      · exact q1
      · omega
      · omega
    · intro z k k0 k1
      have := z k k0 k1
      rcases hs.2.2 k k0 k1 with ⟨q1, q2, q3⟩ | ⟨q1, q2, q3⟩ | ⟨q1, q2⟩
      · exact q2
      · omega
      · omega
