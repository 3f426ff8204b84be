/-! ===== the functions: bytes, blanks, words ===== -/
theorem rUp_read {g : rHp} {G G_q : Nat} {k j v k_q j_q : Int} : rUp g G k j v G_q k_q j_q = if G_q = G ∧ k_q = k ∧ j_q = j then v else g G_q k_q j_q := rfl
noncomputable def pSkF (t : Int → Int) (n : Int) : Nat → Int → Int
  | 0, i => i
  | f + 1, i => if i < n ∧ (t i = 32 ∨ t i = 10) then pSkF t n f (i + 1) else i
/-- the first place from i on that is no blank, or the end -/
noncomputable def pSk (t : Int → Int) (n i : Int) : Int := pSkF t n (n - i).toNat i
theorem pSk_go {t : Int → Int} {n i : Int} (h : i < n) (hb : t i = 32 ∨ t i = 10) : pSk t n i = pSk t n (i + 1) := by
  unfold pSk
  have e : (n - i).toNat = (n - (i + 1)).toNat + 1 := by omega
  rw [e]
  show (if _ then _ else _) = _
  rw [if_pos ⟨h, hb⟩]
theorem pSk_no {t : Int → Int} {n i : Int} (h : ¬ (i < n ∧ (t i = 32 ∨ t i = 10))) : pSk t n i = i := by
  unfold pSk
  cases (n - i).toNat with
  | zero => rfl
  | succ f =>
    show (if _ then _ else _) = _
    rw [if_neg h]
/-- the byte at i, -1 behind the end -/
noncomputable def pB (t : Int → Int) (n i : Int) : Int := if n ≤ i then -1 else t i
theorem pB_in {t : Int → Int} {n i : Int} (h : i < n) : pB t n i = t i := if_neg (by omega)
theorem pB_out {t : Int → Int} {n i : Int} (h : n ≤ i) : pB t n i = -1 := if_pos h
theorem pSk_ge {t : Int → Int} {n : Int} : ∀ (f : Nat) (i : Int), (n - i).toNat ≤ f → i ≤ pSk t n i ∧ (i ≤ n → pSk t n i ≤ n) ∧ ¬ (pSk t n i < n ∧ (t (pSk t n i) = 32 ∨ t (pSk t n i) = 10)) := by
  intro f
  induction f with
  | zero =>
    intro i hf
    have h : ¬ (i < n ∧ (t i = 32 ∨ t i = 10)) := by omega
    rw [pSk_no h]
    exact ⟨Int.le_refl _, fun h => h, h⟩
  | succ f ih =>
    intro i hf
    by_cases h : i < n ∧ (t i = 32 ∨ t i = 10)
    · rw [pSk_go h.1 h.2]
      obtain ⟨h1, h2, h3⟩ := ih (i + 1) (by omega)
      exact ⟨by omega, fun _ => h2 (by omega), h3⟩
    · rw [pSk_no h]
      exact ⟨Int.le_refl _, fun h => h, h⟩
theorem pSk_le {t : Int → Int} {n i : Int} : i ≤ pSk t n i := (pSk_ge _ i (Nat.le_refl _)).1
theorem pSk_top {t : Int → Int} {n i : Int} (h : i ≤ n) : pSk t n i ≤ n := (pSk_ge _ i (Nat.le_refl _)).2.1 h
theorem pSk_stop {t : Int → Int} {n i : Int} : ¬ (pSk t n i < n ∧ (t (pSk t n i) = 32 ∨ t (pSk t n i) = 10)) := (pSk_ge _ i (Nat.le_refl _)).2.2
theorem pSk_idem {t : Int → Int} {n i : Int} : pSk t n (pSk t n i) = pSk t n i := pSk_no pSk_stop
noncomputable def pBit (b : Bool) : Int := if b then 1 else 0
noncomputable def pSm (c : Int) : Bool := decide (97 ≤ c) && decide (c ≤ 122)
noncomputable def pCa (c : Int) : Bool := decide (65 ≤ c) && decide (c ≤ 90)
noncomputable def pDg (c : Int) : Bool := decide (48 ≤ c) && decide (c ≤ 57)
theorem fn9_eq (c : Int) (g : rHp) : fn9 [c] g = (0, pBit (pSm c), g) := by
  unfold fn9
  simp only [zLet, List.getD_cons_zero]
  unfold pBit pSm
  split
  · rename_i h
    rw [show decide (97 ≤ c) = false by simp; omega]
    rfl
  · split
    · rename_i h1 h2
      rw [show decide (c ≤ 122) = false by simp; omega, Bool.and_false]
      rfl
    · rename_i h1 h2
      rw [show decide (97 ≤ c) = true by simp; omega, show decide (c ≤ 122) = true by simp; omega]
      rfl
theorem fn10_eq (c : Int) (g : rHp) : fn10 [c] g = (0, pBit (pCa c), g) := by
  unfold fn10
  simp only [zLet, List.getD_cons_zero]
  unfold pBit pCa
  split
  · rename_i h
    rw [show decide (65 ≤ c) = false by simp; omega]
    rfl
  · split
    · rename_i h1 h2
      rw [show decide (c ≤ 90) = false by simp; omega, Bool.and_false]
      rfl
    · rename_i h1 h2
      rw [show decide (65 ≤ c) = true by simp; omega, show decide (c ≤ 90) = true by simp; omega]
      rfl
theorem fn11_eq (c : Int) (g : rHp) : fn11 [c] g = (0, pBit (pDg c), g) := by
  unfold fn11
  simp only [zLet, List.getD_cons_zero]
  unfold pBit pDg
  split
  · rename_i h
    rw [show decide (48 ≤ c) = false by simp; omega]
    rfl
  · split
    · rename_i h1 h2
      rw [show decide (c ≤ 57) = false by simp; omega, Bool.and_false]
      rfl
    · rename_i h1 h2
      rw [show decide (48 ≤ c) = true by simp; omega, show decide (c ≤ 57) = true by simp; omega]
      rfl
theorem fn105_eq (c : Int) (g : rHp) : fn105 [c] g = (0, pBit (pSm c), g) := (show fn105 [c] g = fn9 [c] g from rfl).trans (fn9_eq c g)
theorem fn106_eq (c : Int) (g : rHp) : fn106 [c] g = (0, pBit (pCa c), g) := (show fn106 [c] g = fn10 [c] g from rfl).trans (fn10_eq c g)
theorem fn107_eq (c : Int) (g : rHp) : fn107 [c] g = (0, pBit (pDg c), g) := (show fn107 [c] g = fn11 [c] g from rfl).trans (fn11_eq c g)
theorem pBit_ge (b : Bool) : (1 ≤ pBit b) = (b = true) := by
  cases b <;> simp [pBit]
theorem fn6_eq (i : Int) (g : rHp) : fn6 [i] g = (0, pB (g 59 0) (g 15 0 34) i, g) := by
  unfold fn6
  simp only [zLet, List.getD_cons_zero]
  unfold pB
  by_cases h : g 15 0 34 ≤ i
  · rw [if_pos h, if_pos h]
  · rw [if_neg h, if_neg h]
theorem en7_step (g : rHp) (p : Int) : en7 g (0, [], rUp g 15 0 35 p) = if p < g 15 0 34 ∧ (g 59 0 p = 32 ∨ g 59 0 p = 10) then .inl (0, [], rUp g 15 0 35 (p + 1)) else .inr (0, 0, rUp g 15 0 35 p) := by
  have e1 : rUp g 15 0 35 p 15 0 35 = p := rUp_at
  have e2 : rUp g 15 0 35 p 15 0 34 = g 15 0 34 := rUp_ne (by omega)
  have e3 : rUp g 15 0 35 p 59 = g 59 := rUp_grp (by decide)
  unfold en7
  simp only [zLet, fn6_eq, e1, e2, e3, rUp_two, ↓reduceIte]
  by_cases hp : p < g 15 0 34
  · rw [if_pos (show 0 ≤ -p + g 15 0 34 + -1 by omega), pB_in hp]
    by_cases h1 : g 59 0 p = 32
    · rw [if_pos h1, if_pos ⟨hp, Or.inl h1⟩]
    · rw [if_neg h1]
      by_cases h2 : g 59 0 p = 10
      · rw [if_neg (by omega), if_pos ⟨hp, Or.inr h2⟩]
      · rw [if_pos h2, if_neg (by omega)]
  · rw [if_neg (show ¬ 0 ≤ -p + g 15 0 34 + -1 by omega), if_neg (by omega)]
theorem fn7_loop {g : rHp} : ∀ (f : Nat) (p : Int), (g 15 0 34 - p).toNat ≤ f → zLoop (en7 g) (0, [], rUp g 15 0 35 p) = (0, 0, rUp g 15 0 35 (pSk (g 59 0) (g 15 0 34) p)) := by
  intro f
  induction f with
  | zero =>
    intro p hf
    rw [zLoop_eq, en7_step, if_neg (by omega), pSk_no (by omega)]
    rfl
  | succ f ih =>
    intro p hf
    rw [zLoop_eq, en7_step]
    by_cases h : p < g 15 0 34 ∧ (g 59 0 p = 32 ∨ g 59 0 p = 10)
    · rw [if_pos h, pSk_go h.1 h.2]
      exact ih (p + 1) (by omega)
    · rw [if_neg h, pSk_no h]
      rfl
theorem fn7_eq (x : List Int) (g : rHp) : fn7 x g = (0, 0, rUp g 15 0 35 (pSk (g 59 0) (g 15 0 34) (g 15 0 35))) := by
  have h := fn7_loop (g := g) _ (g 15 0 35) (Nat.le_refl _)
  rw [rUp_self rfl, zLoop_eq] at h
  have e : dn7 x g = en7 g (0, [], g) := by
    unfold dn7 en7
    simp only [zLet, ↓reduceIte]
    rw [show g 15 0 34 + -g 15 0 35 + -1 = -g 15 0 35 + g 15 0 34 + -1 by omega]
  unfold fn7
  rw [e]
  exact h
/-- the byte as the class looks at it -/
noncomputable def pL (t : Int → Int) (n i : Int) : Int := if n ≤ i then -1 else zF2 .iand (t i) 255
theorem en114_step (g : rHp) (p : Int) : en114 g (0, [], rUp g 2 0 6 p) = if p < g 2 0 3 ∧ (g 21 0 p = 32 ∨ g 21 0 p = 10) then .inl (0, [], rUp g 2 0 6 (p + 1)) else .inr (0, pL (g 21 0) (g 2 0 3) p, rUp g 2 0 6 p) := by
  have e1 : rUp g 2 0 6 p 2 0 6 = p := rUp_at
  unfold en114
  simp only [zLet, e1, rUp_two, ↓reduceIte]
  unfold pL
  by_cases hp : p < g 2 0 3
  · rw [if_neg (by omega)]
    by_cases h1 : g 21 0 p = 10
    · rw [if_pos h1, if_pos ⟨hp, Or.inr h1⟩]
    · rw [if_neg h1]
      by_cases h2 : g 21 0 p = 32
      · rw [if_neg (by omega), if_pos ⟨hp, Or.inl h2⟩]
      · rw [if_pos h2, if_neg (by omega), if_neg (by omega)]
  · rw [if_pos (by omega), if_neg (by omega), if_pos (by omega)]
theorem fn114_loop {g : rHp} : ∀ (f : Nat) (p : Int), (g 2 0 3 - p).toNat ≤ f → zLoop (en114 g) (0, [], rUp g 2 0 6 p) = (0, pL (g 21 0) (g 2 0 3) (pSk (g 21 0) (g 2 0 3) p), rUp g 2 0 6 (pSk (g 21 0) (g 2 0 3) p)) := by
  intro f
  induction f with
  | zero =>
    intro p hf
    rw [zLoop_eq, en114_step, if_neg (by omega), pSk_no (by omega)]
    rfl
  | succ f ih =>
    intro p hf
    rw [zLoop_eq, en114_step]
    by_cases h : p < g 2 0 3 ∧ (g 21 0 p = 32 ∨ g 21 0 p = 10)
    · rw [if_pos h, pSk_go h.1 h.2]
      exact ih (p + 1) (by omega)
    · rw [if_neg h, pSk_no h]
      rfl
theorem fn114_eq (x : List Int) (g : rHp) : fn114 x g = (0, pL (g 21 0) (g 2 0 3) (pSk (g 21 0) (g 2 0 3) (g 2 0 6)), rUp g 2 0 6 (pSk (g 21 0) (g 2 0 3) (g 2 0 6))) := by
  have h := fn114_loop (g := g) _ (g 2 0 6) (Nat.le_refl _)
  rw [rUp_self rfl, zLoop_eq] at h
  have e : dn114 x g = en114 g (0, [], g) := rfl
  unfold fn114
  rw [e]
  exact h
