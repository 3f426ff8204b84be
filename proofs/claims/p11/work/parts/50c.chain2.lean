/-! ===== the class_q chains ===== -/
/-- the chain of a key -/
noncomputable def hs (s k : Int) : Int := zF2 .lushr (zF2 .lmul k (-7046029254386353131)) s
theorem hs_rg {s k : Int} (h1 : 1 ≤ s) (h2 : s ≤ 63) : 0 ≤ hs s k ∧ hs s k ≤ 2 ^ (64 - s.toNat) - 1 := by
  have e : (Int32.ofInt s).toInt = s := Int32.toInt_ofInt_of_le (by simp; omega) (by simp; omega)
  have h := lushr_rg (x := Int64.ofInt (zF2 .lmul k (-7046029254386353131))) e h1 h2
  exact h
/-- a member goes behind its chain -/
noncomputable def apd (F L N : Nat) (x n : Int) (c : rHp) : rHp := if c F 0 x ≥ 0 then rUp (rUp (rUp c N 0 n (-1)) N 0 (c L 0 x) n) L 0 x n else rUp (rUp (rUp c N 0 n (-1)) F 0 x n) L 0 x n
theorem apd_cH {F L N : Nat} {D : Int → Prop} {ch ch_q : Int → Int} {n x : Int} {c : rHp} (hFL : F ≠ L) (hFN : F ≠ N) (hLN : L ≠ N) (h : cH F L N D ch n c) (hc : ∀ t, 0 ≤ t → t < n → ch_q t = ch t) (hx : ch_q n = x) (hD : D x) : cH F L N D ch_q (n + 1) (apd F L N x n c) := by
  have hl := h.2.2.2.2
  refine cH_add h hc (by rw [hx]; exact hD) (fun y hy => ?_) (fun y hy => ?_) (fun t t0 t1 => ?_)
  · unfold apd
    rw [hx]
    by_cases b : c F 0 x ≥ 0
    · rw [if_pos b, rUp_grp hFL, rUp_grp hFN, rUp_grp hFN]
      rw [if_neg (show ¬ (y = x ∧ c F 0 y < 0) from fun z => by rw [z.1] at z; omega)]
    · rw [if_neg b, rUp_grp hFL]
      by_cases e : y = x
      · rw [e, rUp_at, if_pos (show x = x ∧ c F 0 x < 0 from ⟨rfl, by omega⟩)]
      · rw [rUp_ne (fun q => e q.2.2), rUp_grp hFN, if_neg (show ¬ (y = x ∧ c F 0 y < 0) from fun z => e z.1)]
  · unfold apd
    rw [hx]
    by_cases b : c F 0 x ≥ 0
    · rw [if_pos b]
      by_cases e : y = x
      · rw [e, rUp_at, if_pos rfl]
      · rw [rUp_ne (fun q => e q.2.2), rUp_grp hLN, rUp_grp hLN, if_neg e]
    · rw [if_neg b]
      by_cases e : y = x
      · rw [e, rUp_at, if_pos rfl]
      · rw [rUp_ne (fun q => e q.2.2), rUp_grp (Ne.symm hFL), rUp_grp hLN, if_neg e]
  · unfold apd
    rw [hx]
    by_cases b : c F 0 x ≥ 0
    · have lx := hl x hD b
      rw [if_pos b, rUp_grp (Ne.symm hLN)]
      by_cases e : t = n
      · rw [e, rUp_ne (fun q => by have := q.2.2; omega), rUp_at, if_pos rfl]
      · rw [if_neg e]
        by_cases e2 : t = c L 0 x
        · rw [e2, rUp_at, if_pos (show c L 0 x = c L 0 x ∧ 0 ≤ c F 0 x from ⟨rfl, b⟩)]
        · rw [rUp_ne (fun q => e2 q.2.2), rUp_ne (fun q => e q.2.2), if_neg (show ¬ (t = c L 0 x ∧ 0 ≤ c F 0 x) from fun z => e2 z.1)]
    · rw [if_neg b, rUp_grp (Ne.symm hLN), rUp_grp (Ne.symm hFN)]
      by_cases e : t = n
      · rw [e, rUp_at, if_pos rfl]
      · rw [if_neg e, rUp_ne (fun q => e q.2.2), if_neg (show ¬ (t = c L 0 x ∧ 0 ≤ c F 0 x) from fun z => b z.2)]
theorem fn189_eq {k n : Int} {c : rHp} (h0 : 0 ≤ n) (h1 : n < 2000) : fn189 [k, n] c = (0, 0, apd 47 48 49 (hs 58 k) n c) := by
  unfold fn189 apd hs
  simp only [zLet, List.getD_cons_zero, List.getD_cons_succ]
  rw [if_neg (show ¬ n < 0 by omega), if_pos h1]
  split <;> rfl
theorem fn193_eq {k n : Int} {c : rHp} (h0 : 0 ≤ n) (h1 : n < 8000) : fn193 [k, n] c = (0, 0, apd 50 51 52 (hs 52 k) n c) := by
  unfold fn193 apd hs
  simp only [zLet, List.getD_cons_zero, List.getD_cons_succ]
  rw [if_neg (show ¬ n < 0 by omega), if_pos h1]
  split <;> rfl
theorem fn197_eq {k n : Int} {c : rHp} (h0 : 0 ≤ n) (h1 : n < 2000) : fn197 [k, n] c = (0, 0, apd 53 54 55 (hs 53 k) n c) := by
  unfold fn197 apd hs
  simp only [zLet, List.getD_cons_zero, List.getD_cons_succ]
  rw [if_neg (show ¬ n < 0 by omega), if_pos h1]
  split <;> rfl
theorem fn201_eq {k n : Int} {c : rHp} (h0 : 0 ≤ n) (h1 : n < 2000) : fn201 [k, n] c = (0, 0, apd 56 57 58 (hs 55 k) n c) := by
  unfold fn201 apd hs
  simp only [zLet, List.getD_cons_zero, List.getD_cons_succ]
  rw [if_neg (show ¬ n < 0 by omega), if_pos h1]
  split <;> rfl
theorem fn196_eq {t : Int} {c : rHp} (h0 : 0 ≤ t) (h1 : t < 2000) : fn196 [t] c = (0, c 55 0 t, c) := by
  unfold fn196
  simp only [zLet, List.getD_cons_zero]
  rw [if_neg (show ¬ t < 0 by omega), if_neg (show ¬ t ≥ 2000 by omega)]
theorem fn188_eq {t : Int} {c : rHp} (h0 : 0 ≤ t) (h1 : t < 2000) : fn188 [t] c = (0, c 49 0 t, c) := by
  unfold fn188
  simp only [zLet, List.getD_cons_zero]
  rw [if_neg (show ¬ t < 0 by omega), if_neg (show ¬ t ≥ 2000 by omega)]
theorem fn192_eq {t : Int} {c : rHp} (h0 : 0 ≤ t) (h1 : t < 8000) : fn192 [t] c = (0, c 52 0 t, c) := by
  unfold fn192
  simp only [zLet, List.getD_cons_zero]
  rw [if_neg (show ¬ t < 0 by omega), if_neg (show ¬ t ≥ 8000 by omega)]
theorem fn200_eq {t : Int} {c : rHp} (h0 : 0 ≤ t) (h1 : t < 2000) : fn200 [t] c = (0, c 58 0 t, c) := by
  unfold fn200
  simp only [zLet, List.getD_cons_zero]
  rw [if_neg (show ¬ t < 0 by omega), if_neg (show ¬ t ≥ 2000 by omega)]
theorem fn187_eq {k : Int} {c : rHp} : fn187 [k] c = (0, c 47 0 (hs 58 k), c) := rfl
theorem fn191_eq {k : Int} {c : rHp} : fn191 [k] c = (0, c 50 0 (hs 52 k), c) := rfl
theorem fn195_eq {k : Int} {c : rHp} : fn195 [k] c = (0, c 53 0 (hs 53 k), c) := rfl
theorem fn199_eq {k : Int} {c : rHp} : fn199 [k] c = (0, c 56 0 (hs 55 k), c) := rfl
/-- the key of a PREDICATE and four values -/
noncomputable def wKey (p : Int) (v : Int → Int) : Int := zF2 .ladd (zF2 .lmul (zF2 .ladd (zF2 .lmul (zF2 .ladd (zF2 .lmul (zF2 .ladd (zF2 .lmul p 1000003) (v 0)) 1000003) (v 1)) 1000003) (v 2)) 1000003) (v 3)
theorem fn203_eq {p : Int} {c : rHp} : fn203 [p] c = (0, wKey p (fun k => c 33 0 k), c) := by
  have st : ∀ k x, k < 4 → en203 c (0, [p, k, x], c) = .inl (0, [p, k + 1, zF2 .ladd (zF2 .lmul x 1000003) (c 33 0 k)], c) := by
    intro k x hk
    unfold en203
    simp only [zLet, List.getD_cons_zero, List.getD_cons_succ, ↓reduceIte]
    rw [if_neg (show ¬ k ≥ 4 by omega)]
  have en : ∀ x, en203 c (0, [p, 4, x], c) = .inr (0, x, c) := by
    intro x
    unfold en203
    simp only [zLet, List.getD_cons_zero, List.getD_cons_succ, ↓reduceIte]
    rw [if_pos (show (4 : Int) ≥ 4 by decide)]
  show zLoop (en203 c) (0, [p, 0, p], c) = _
  rw [zLoop_inl (st 0 p (by decide)), zLoop_inl (st (0 + 1) _ (by decide)), zLoop_inl (st (0 + 1 + 1) _ (by decide)), zLoop_inl (st (0 + 1 + 1 + 1) _ (by decide))]
  exact zLoop_inr (en _)
/-- the four values of the TUPLE t are the draft's -/
noncomputable def pDr (c : rHp) (t : Int) : Bool := decide (4 ≤ pIx (fun k => decide (c 27 0 (k + 4 * t) = c 33 0 k)) 4 0)
theorem pDr_iff {c : rHp} {t : Int} : pDr c t = true ↔ ∀ k, 0 ≤ k → k < 4 → c 27 0 (k + 4 * t) = c 33 0 k := by
  unfold pDr
  rw [decide_eq_true_eq, pIx_all]
  constructor
  · intro h k k0 k1
    have := h k k0 k1
    simpa using this
  · intro h k k0 k1
    exact decide_eq_true (h k k0 k1)
theorem fn205_eq {t : Int} {c : rHp} : fn205 [t] c = (0, (if pDr c t = true then 1 else 0), c) := by
  have st : ∀ k, en205 c (0, [t, k], c) = if k < 4 ∧ decide (c 27 0 (k + 4 * t) = c 33 0 k) = true then .inl (0, [t, k + 1], c) else if 4 ≤ k then .inr (0, 1, c) else .inr (0, 0, c) := by
    intro k
    unfold en205
    simp only [zLet, List.getD_cons_zero, List.getD_cons_succ, ↓reduceIte, decide_eq_true_eq]
    by_cases h1 : k ≥ 4
    · rw [if_pos h1, if_neg (show ¬ (k < 4 ∧ c 27 0 (k + 4 * t) = c 33 0 k) from fun z => by omega), if_pos (show 4 ≤ k by omega)]
    · rw [if_neg h1]
      by_cases h2 : c 27 0 (k + 4 * t) = c 33 0 k
      · rw [if_pos h2, if_pos (show k < 4 ∧ c 27 0 (k + 4 * t) = c 33 0 k from ⟨by omega, h2⟩)]
      · rw [if_neg h2, if_neg (show ¬ (k < 4 ∧ c 27 0 (k + 4 * t) = c 33 0 k) from fun z => h2 z.2), if_neg (show ¬ 4 ≤ k by omega)]
  have key : ∀ (f : Nat) (k : Int), (4 - k).toNat ≤ f → zLoop (en205 c) (0, [t, k], c) = (0, (if decide (4 ≤ pIx (fun k => decide (c 27 0 (k + 4 * t) = c 33 0 k)) 4 k) = true then 1 else 0), c) := by
    intro f
    induction f with
    | zero =>
      intro k hf
      rw [zLoop_inr ((st k).trans ((if_neg (fun z => by omega)).trans (if_pos (show 4 ≤ k by omega)))), pIx_no (fun z => by omega), decide_eq_true (show 4 ≤ k by omega), if_pos rfl]
    | succ f ih =>
      intro k hf
      by_cases hc : k < 4 ∧ decide (c 27 0 (k + 4 * t) = c 33 0 k) = true
      · rw [zLoop_inl ((st k).trans (if_pos hc)), pIx_go hc.1 hc.2]
        exact ih (k + 1) (by omega)
      · rw [pIx_no hc]
        by_cases h1 : 4 ≤ k
        · rw [zLoop_inr ((st k).trans ((if_neg hc).trans (if_pos h1))), decide_eq_true h1, if_pos rfl]
        · rw [zLoop_inr ((st k).trans ((if_neg hc).trans (if_neg h1))), decide_eq_false h1, if_neg (by decide)]
  exact key _ 0 (Nat.le_refl _)
