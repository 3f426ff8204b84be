/-! ===== are the HEAD's VARIABLES KNOWN: the class ===== -/
noncomputable def qHk (c : rHp) (h i : Int) : Bool := if c 43 h i = 1 then decide (qBt (c 2 0 5) (c 44 h i) = 1) else if c 43 h i = 4 then (if c 10 h 12 = 1 then true else decide (qBt (c 2 0 5) (c 10 h 14) = 1)) else true
theorem fn153_eq {h : Int} {c : rHp} : (c 10 h 5 ≤ pIx (qHk c h) (c 10 h 5) 0 → fn153 [h] c = (0, 1, c)) ∧ (¬ c 10 h 5 ≤ pIx (qHk c h) (c 10 h 5) 0 → ∃ p, fn153 [h] c = (0, 0, rUp c 2 0 4 p)) := by
  have go : ∀ i, i < c 10 h 5 → qHk c h i = true → en153 c (0, [h, i], c) = .inl (0, [h, i + 1], c) := by
    intro i hi hq
    unfold qHk at hq
    unfold en153
    simp only [zLet, List.getD_cons_zero, List.getD_cons_succ, ↓reduceIte, fn117_eq, fn118_eq, one_bit]
    rw [if_neg (show ¬ i ≥ c 10 h 5 by omega)]
    by_cases h1 : c 43 h i = 1
    · rw [if_pos h1] at hq
      rw [if_neg (show ¬ c 43 h i ≠ 1 from fun q => q h1), if_pos (of_decide_eq_true hq)]
    · rw [if_neg h1] at hq
      rw [if_pos (show c 43 h i ≠ 1 from h1)]
      by_cases h4 : c 43 h i = 4
      · rw [if_pos h4] at hq
        rw [if_neg (show ¬ c 43 h i ≠ 4 from fun q => q h4)]
        by_cases ht : c 10 h 12 = 1
        · rw [if_pos ht]
        · rw [if_neg ht] at hq
          rw [if_neg ht, if_pos (of_decide_eq_true hq)]
      · rw [if_pos (show c 43 h i ≠ 4 from h4)]
  have no : ∀ i, i < c 10 h 5 → qHk c h i = false → ∃ p, en153 c (0, [h, i], c) = .inr (0, 0, rUp c 2 0 4 p) := by
    intro i hi hq
    unfold qHk at hq
    by_cases h1 : c 43 h i = 1
    · rw [if_pos h1] at hq
      refine ⟨c 45 h i, ?_⟩
      unfold en153
      simp only [zLet, List.getD_cons_zero, List.getD_cons_succ, ↓reduceIte, fn117_eq, fn118_eq, one_bit, fn109_eq]
      rw [if_neg (show ¬ i ≥ c 10 h 5 by omega), if_neg (show ¬ c 43 h i ≠ 1 from fun q => q h1), if_neg (of_decide_eq_false hq)]
    · rw [if_neg h1] at hq
      by_cases h4 : c 43 h i = 4
      · rw [if_pos h4] at hq
        by_cases ht : c 10 h 12 = 1
        · rw [if_pos ht] at hq
          exact absurd hq (by decide)
        · rw [if_neg ht] at hq
          refine ⟨c 10 h 15, ?_⟩
          unfold en153
          simp only [zLet, List.getD_cons_zero, List.getD_cons_succ, ↓reduceIte, fn117_eq, fn118_eq, one_bit, fn109_eq]
          rw [if_neg (show ¬ i ≥ c 10 h 5 by omega), if_pos (show c 43 h i ≠ 1 from h1), if_neg (show ¬ c 43 h i ≠ 4 from fun q => q h4), if_neg ht, if_neg (of_decide_eq_false hq)]
      · rw [if_neg h4] at hq
        exact absurd hq (by decide)
  have stop : ∀ i, c 10 h 5 ≤ i → en153 c (0, [h, i], c) = .inr (0, 1, c) := by
    intro i hi
    unfold en153
    simp only [zLet, List.getD_cons_zero, List.getD_cons_succ, ↓reduceIte]
    rw [if_pos (show i ≥ c 10 h 5 from hi)]
  have key : ∀ (f : Nat) (i : Int), (c 10 h 5 - i).toNat ≤ f → (c 10 h 5 ≤ pIx (qHk c h) (c 10 h 5) i → zLoop (en153 c) (0, [h, i], c) = (0, 1, c)) ∧ (¬ c 10 h 5 ≤ pIx (qHk c h) (c 10 h 5) i → ∃ p, zLoop (en153 c) (0, [h, i], c) = (0, 0, rUp c 2 0 4 p)) := by
    intro f
    induction f with
    | zero =>
      intro i hf
      rw [pIx_no (fun q => by omega)]
      exact ⟨fun q => zLoop_inr (stop i q), fun q => absurd (show c 10 h 5 ≤ i by omega) q⟩
    | succ f ih =>
      intro i hf
      by_cases hi : i < c 10 h 5
      · cases hq : qHk c h i with
        | true =>
          rw [pIx_go hi hq, zLoop_inl (go i hi hq)]
          exact ih (i + 1) (by omega)
        | false =>
          rw [pIx_no (fun q => by rw [hq] at q; exact absurd q.2 (by decide))]
          refine ⟨fun q => absurd hi (by omega), fun _ => ?_⟩
          obtain ⟨p, hp⟩ := no i hi hq
          exact ⟨p, zLoop_inr hp⟩
      · rw [pIx_no (fun q => hi q.1)]
        exact ⟨fun q => zLoop_inr (stop i q), fun q => absurd (show c 10 h 5 ≤ i by omega) q⟩
  exact key _ 0 (Nat.le_refl _)
