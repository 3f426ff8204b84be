/-! ===== numbers ===== -/
/-- the value of k digits from f on, as the class reckons it -/
noncomputable def pNv (t : Int → Int) (f : Int) : Nat → Int
  | 0 => 0
  | k + 1 => zF2 .ladd (zF2 .lmul (pNv t f k) 10) (t (f + k) + (-48))
theorem fn116_loop {g : rHp} {p f b : Int} (hp : p = g 2 0 6) : ∀ (m k : Nat), (g 2 0 3 - (f + k)).toNat ≤ m → zLoop (en116 g) (0, [f, b], rUp (rUp g 2 0 6 (f + k)) 2 0 10 (pNv (g 21 0) f k)) =
    (if pEd pDg (g 21 0) (g 2 0 3) (f + k) = f ∨ 7 < pEd pDg (g 21 0) (g 2 0 3) (f + k) - f then (0, 0, rUp (rUp (rUp g 2 0 6 (pEd pDg (g 21 0) (g 2 0 3) (f + k))) 2 0 10 (pNv (g 21 0) f (pEd pDg (g 21 0) (g 2 0 3) (f + k) - f).toNat)) 2 0 4 p)
     else (0, 1, rUp (rUp g 2 0 6 (pEd pDg (g 21 0) (g 2 0 3) (f + k))) 2 0 10 (if b = 0 then pNv (g 21 0) f (pEd pDg (g 21 0) (g 2 0 3) (f + k) - f).toNat else zF1 .lneg (pNv (g 21 0) f (pEd pDg (g 21 0) (g 2 0 3) (f + k) - f).toNat)))) := by
  have stop : ∀ (k : Nat), (if f + (k : Int) = f then zGoo (en116 g) (.inr (0, 0, rUp (rUp (rUp g 2 0 6 (f + k)) 2 0 10 (pNv (g 21 0) f k)) 2 0 4 p)) else if f + (k : Int) + -f ≤ 7 then (if b = 0 then zGoo (en116 g) (.inr (0, 1, rUp (rUp g 2 0 6 (f + k)) 2 0 10 (pNv (g 21 0) f k))) else zGoo (en116 g) (.inr (0, 1, rUp (rUp g 2 0 6 (f + k)) 2 0 10 (zF1 .lneg (pNv (g 21 0) f k))))) else zGoo (en116 g) (.inr (0, 0, rUp (rUp (rUp g 2 0 6 (f + k)) 2 0 10 (pNv (g 21 0) f k)) 2 0 4 p))) =
      (if f + (k : Int) = f ∨ 7 < f + (k : Int) - f then (0, 0, rUp (rUp (rUp g 2 0 6 (f + k)) 2 0 10 (pNv (g 21 0) f (f + (k : Int) - f).toNat)) 2 0 4 p)
       else (0, 1, rUp (rUp g 2 0 6 (f + k)) 2 0 10 (if b = 0 then pNv (g 21 0) f (f + (k : Int) - f).toNat else zF1 .lneg (pNv (g 21 0) f (f + (k : Int) - f).toNat)))) := by
    intro k
    rw [show (f + (k : Int) - f).toNat = k by omega]
    by_cases h1 : f + (k : Int) = f
    · rw [if_pos h1, if_pos (Or.inl h1)]
      rfl
    · rw [if_neg h1]
      by_cases h2 : f + (k : Int) + -f ≤ 7
      · rw [if_pos h2, if_neg (show ¬ (f + (k : Int) = f ∨ 7 < f + (k : Int) - f) by omega)]
        by_cases hb : b = 0
        · rw [if_pos hb, if_pos hb]
          rfl
        · rw [if_neg hb, if_neg hb]
          rfl
      · rw [if_neg h2, if_pos (show f + (k : Int) = f ∨ 7 < f + (k : Int) - f by omega)]
        rfl
  have e10 : ∀ k : Nat, rUp (rUp g 2 0 6 (f + k)) 2 0 10 (pNv (g 21 0) f k) 2 0 10 = pNv (g 21 0) f k := fun k => rUp_at
  have e6 : ∀ k : Nat, rUp (rUp g 2 0 6 (f + k)) 2 0 10 (pNv (g 21 0) f k) 2 0 6 = f + k := fun k => by rw [rUp_ne (by omega), rUp_at]
  have f109 : ∀ h : rHp, fn109 [p] h = (0, 0, rUp h 2 0 4 p) := fun h => rfl
  intro m
  induction m with
  | zero =>
    intro k hf
    rw [zLoop_eq, pEd_no (by omega), ← stop]
    unfold en116
    simp only [zLet, List.getD_cons_zero, List.getD_cons_succ, fn107_eq, pBit_ge, e10, e6, ← hp, f109, rUp_two]
    rw [if_pos trivial, if_pos (by omega)]
    repeat' split
    all_goals rfl
  | succ m ih =>
    intro k hf
    by_cases hn : f + k < g 2 0 3
    · by_cases hw : pDg (g 21 0 (f + k)) = true
      · rw [zLoop_eq, pEd_go hn hw]
        have ih := ih (k + 1) (by omega)
        rw [show f + ((k + 1 : Nat) : Int) = f + k + 1 by omega] at ih
        rw [← ih]
        unfold en116
        simp only [zLet, List.getD_cons_zero, List.getD_cons_succ, fn107_eq, pBit_ge, e10, e6, ← hp, f109]
        rw [if_pos trivial, if_neg (by omega), if_pos hw, rUp_two, rUp_comm (by omega : ¬ ((2 : Nat) = 2 ∧ (0 : Int) = 0 ∧ (10 : Int) = 6)), rUp_two]
        rfl
      · rw [zLoop_eq, pEd_no (fun h => hw h.2), ← stop]
        unfold en116
        simp only [zLet, List.getD_cons_zero, List.getD_cons_succ, fn107_eq, pBit_ge, e10, e6, ← hp, f109, rUp_two]
        rw [if_pos trivial, if_neg (by omega), if_neg hw]
        repeat' split
        all_goals rfl
    · rw [zLoop_eq, pEd_no (by omega), ← stop]
      unfold en116
      simp only [zLet, List.getD_cons_zero, List.getD_cons_succ, fn107_eq, pBit_ge, e10, e6, ← hp, f109, rUp_two]
      rw [if_pos trivial, if_pos (by omega)]
      repeat' split
      all_goals rfl
/-- the class_q number: f its first digit's place, e its end -/
theorem fn116_eq (x : List Int) (g : rHp) {p f e b : Int} (hp : p = g 2 0 6) (hn : p < g 2 0 3) (hf : f = if g 21 0 p = 45 then p + 1 else p) (hb : b = if g 21 0 p = 45 then 1 else 0) (he : e = pEd pDg (g 21 0) (g 2 0 3) f) : fn116 x g =
    (if e = f ∨ 7 < e - f then (0, 0, rUp (rUp (rUp g 2 0 6 e) 2 0 10 (pNv (g 21 0) f (e - f).toNat)) 2 0 4 p)
     else (0, 1, rUp (rUp g 2 0 6 e) 2 0 10 (if b = 0 then pNv (g 21 0) f (e - f).toNat else zF1 .lneg (pNv (g 21 0) f (e - f).toNat)))) := by
  have h := fn116_loop (f := f) (b := b) hp _ 0 (Nat.le_refl _)
  rw [show f + ((0 : Nat) : Int) = f by omega, ← he] at h
  rw [← h]
  unfold fn116 dn116
  simp only [zLet]
  rw [← hp, if_neg (by omega)]
  by_cases h45 : g 21 0 p = 45
  · rw [if_neg (by omega)]
    rw [if_pos h45] at hf hb
    rw [hf, hb]
    rfl
  · rw [if_pos h45]
    rw [if_neg h45] at hf hb
    rw [hf, hb, rUp_self hp.symm]
    rfl
