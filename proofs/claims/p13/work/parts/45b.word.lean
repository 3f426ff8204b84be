/-! ===== words ===== -/
theorem rUp_comm {g : rHp} {G G_q : Nat} {k j v k_q j_q v_q : Int} (h : ¬ (G = G_q ∧ k = k_q ∧ j = j_q)) : rUp (rUp g G k j v) G_q k_q j_q v_q = rUp (rUp g G_q k_q j_q v_q) G k j v := by
  funext a b c
  simp only [rUp]
  by_cases h1 : a = G_q ∧ b = k_q ∧ c = j_q
  · rw [if_pos h1]
    by_cases h2 : a = G ∧ b = k ∧ c = j
    · exact absurd ⟨h2.1.symm.trans h1.1, h2.2.1.symm.trans h1.2.1, h2.2.2.symm.trans h1.2.2⟩ h
    · rw [if_neg h2, if_pos h1]
  · rw [if_neg h1]
    by_cases h2 : a = G ∧ b = k ∧ c = j
    · rw [if_pos h2, if_pos h2]
    · rw [if_neg h2, if_neg h2, if_neg h1]
/-- a byte of a word behind its first -/
noncomputable def pWc (c : Int) : Bool := pSm c || (pDg c || decide (c = 95))
/-- the digit of base 38 -/
noncomputable def pSy (c : Int) : Int := if c < 97 then (if c < 48 then 0 else if c > 57 then (if c ≠ 95 then 0 else 37) else c + (-21)) else if c > 122 then 0 else c + (-96)
theorem fn108_eq (c : Int) (g : rHp) : fn108 [c] g = (0, pSy c, g) := by
  unfold fn108 pSy
  simp only [zLet, List.getD_cons_zero]
  repeat' split
  all_goals first | rfl | (exfalso; omega)
theorem pSy_wc (c : Int) : (0 < pSy c) = (pWc c = true) := by
  unfold pSy pWc pSm pDg
  simp only [Bool.or_eq_true, Bool.and_eq_true, decide_eq_true_eq, eq_iff_iff]
  repeat' split
  all_goals omega
theorem pSy_rg {c : Int} (h : pWc c = true) : 1 ≤ pSy c ∧ pSy c ≤ 37 := by
  have h1 := pSy_wc c
  rw [h] at h1
  simp only [eq_self, eq_iff_iff, iff_true] at h1
  refine ⟨h1, ?_⟩
  unfold pSy
  repeat' split
  all_goals omega
theorem pSy_inj {c d : Int} (hc : pWc c = true) (hd : pWc d = true) (h : pSy c = pSy d) : c = d := by
  have h1 := pSy_rg hc
  have h2 := pSy_rg hd
  unfold pSy at h h1 h2
  repeat' split at h
  all_goals first | omega | (simp at h1; omega) | (simp at h2; omega) | skip
  all_goals (repeat' split at h1) <;> omega
theorem pSy_no {c : Int} (h : pWc c = false) : pSy c = 0 := by
  have h1 := pSy_wc c
  rw [h] at h1
  simp only [Bool.false_eq_true, eq_iff_iff, iff_false] at h1
  unfold pSy at h1 ⊢
  repeat' split
  all_goals first | rfl | (repeat' split at h1) <;> omega
noncomputable def pEdF (q : Int → Bool) (t : Int → Int) (n : Int) : Nat → Int → Int
  | 0, i => i
  | f + 1, i => if i < n ∧ q (t i) = true then pEdF q t n f (i + 1) else i
/-- the first place from i on that is not so, or the end -/
noncomputable def pEd (q : Int → Bool) (t : Int → Int) (n i : Int) : Int := pEdF q t n (n - i).toNat i
theorem pEd_go {q : Int → Bool} {t : Int → Int} {n i : Int} (h : i < n) (hb : q (t i) = true) : pEd q t n i = pEd q t n (i + 1) := by
  unfold pEd
  have e : (n - i).toNat = (n - (i + 1)).toNat + 1 := by omega
  rw [e]
  show (if _ then _ else _) = _
  rw [if_pos ⟨h, hb⟩]
theorem pEd_no {q : Int → Bool} {t : Int → Int} {n i : Int} (h : ¬ (i < n ∧ q (t i) = true)) : pEd q t n i = i := by
  unfold pEd
  cases (n - i).toNat with
  | zero => rfl
  | succ f =>
    show (if _ then _ else _) = _
    rw [if_neg h]
theorem pEd_ge {q : Int → Bool} {t : Int → Int} {n : Int} : ∀ (f : Nat) (i : Int), (n - i).toNat ≤ f → i ≤ pEd q t n i ∧ (i ≤ n → pEd q t n i ≤ n) ∧ ¬ (pEd q t n i < n ∧ q (t (pEd q t n i)) = true) ∧ ∀ j, i ≤ j → j < pEd q t n i → q (t j) = true := by
  intro f
  induction f with
  | zero =>
    intro i hf
    have h : ¬ (i < n ∧ q (t i) = true) := by omega
    rw [pEd_no h]
    exact ⟨Int.le_refl _, fun h => h, h, fun j h1 h2 => by omega⟩
  | succ f ih =>
    intro i hf
    by_cases h : i < n ∧ q (t i) = true
    · rw [pEd_go h.1 h.2]
      obtain ⟨h1, h2, h3, h4⟩ := ih (i + 1) (by omega)
      refine ⟨by omega, fun _ => h2 (by omega), h3, fun j h5 h6 => ?_⟩
      by_cases e : j = i
      · rw [e]; exact h.2
      · exact h4 j (by omega) h6
    · rw [pEd_no h]
      exact ⟨Int.le_refl _, fun h => h, h, fun j h1 h2 => by omega⟩
theorem pEd_le {q : Int → Bool} {t : Int → Int} {n i : Int} : i ≤ pEd q t n i := (pEd_ge _ i (Nat.le_refl _)).1
theorem pEd_top {q : Int → Bool} {t : Int → Int} {n i : Int} (h : i ≤ n) : pEd q t n i ≤ n := (pEd_ge _ i (Nat.le_refl _)).2.1 h
theorem pEd_in {q : Int → Bool} {t : Int → Int} {n i j : Int} (h1 : i ≤ j) (h2 : j < pEd q t n i) : q (t j) = true := (pEd_ge _ i (Nat.le_refl _)).2.2.2 j h1 h2
/-- the model's word -/
theorem en12_step (g : rHp) (j : Int) : en12 g (0, [j], rUp g 15 0 37 (g 15 0 35)) = if j < g 15 0 34 ∧ pWc (g 59 0 j) = true then .inl (0, [j + 1], rUp g 15 0 37 (g 15 0 35)) else
    .inr (if j - g 15 0 35 ≤ 12 then (0, 1, rUp (rUp (rUp g 15 0 37 (g 15 0 35)) 15 0 38 (j - g 15 0 35)) 15 0 35 j) else (0, 0, (fn8 [g 15 0 35] (rUp (rUp g 15 0 37 (g 15 0 35)) 15 0 38 (j - g 15 0 35))).2.2)) := by
  have e2 : rUp g 15 0 37 (g 15 0 35) 15 0 34 = g 15 0 34 := rUp_ne (by omega)
  have e3 : rUp g 15 0 37 (g 15 0 35) 59 = g 59 := rUp_grp (by decide)
  unfold en12
  simp only [zLet, fn6_eq, fn9_eq, fn11_eq, List.getD_cons_zero, pBit_ge, e2, e3, ↓reduceIte]
  rw [show j + -g 15 0 35 = j - g 15 0 35 by omega]
  by_cases hp : j < g 15 0 34
  · rw [if_pos (show 0 ≤ -j + g 15 0 34 + -1 by omega), pB_in hp]
    by_cases h1 : pSm (g 59 0 j) = true
    · rw [if_pos h1, if_pos ⟨hp, by simp [pWc, h1]⟩]
    · rw [if_neg h1]
      by_cases h2 : pDg (g 59 0 j) = true
      · rw [if_pos h2, if_pos ⟨hp, by simp [pWc, h2]⟩]
      · rw [if_neg h2]
        by_cases h3 : g 59 0 j = 95
        · rw [if_neg (by omega), if_pos ⟨hp, by simp [pWc, h3]⟩]
        · rw [if_pos h3, if_neg (show ¬ (j < g 15 0 34 ∧ pWc (g 59 0 j) = true) by simp [pWc, h1, h2, h3])]
          by_cases h12 : j - g 15 0 35 ≤ 12
          · rw [if_pos h12, if_pos h12]
          · rw [if_neg h12, if_neg h12]
  · rw [if_neg (show ¬ 0 ≤ -j + g 15 0 34 + -1 by omega), if_neg (show ¬ (j < g 15 0 34 ∧ pWc (g 59 0 j) = true) from fun h => hp h.1)]
    by_cases h12 : j - g 15 0 35 ≤ 12
    · rw [if_pos h12, if_pos h12]
    · rw [if_neg h12, if_neg h12]
theorem fn12_loop {g : rHp} : ∀ (f : Nat) (j : Int), (g 15 0 34 - j).toNat ≤ f → zLoop (en12 g) (0, [j], rUp g 15 0 37 (g 15 0 35)) =
    (if pEd pWc (g 59 0) (g 15 0 34) j - g 15 0 35 ≤ 12 then (0, 1, rUp (rUp (rUp g 15 0 37 (g 15 0 35)) 15 0 38 (pEd pWc (g 59 0) (g 15 0 34) j - g 15 0 35)) 15 0 35 (pEd pWc (g 59 0) (g 15 0 34) j))
     else (0, 0, (fn8 [g 15 0 35] (rUp (rUp g 15 0 37 (g 15 0 35)) 15 0 38 (pEd pWc (g 59 0) (g 15 0 34) j - g 15 0 35))).2.2)) := by
  intro f
  induction f with
  | zero =>
    intro j hf
    rw [zLoop_eq, en12_step, if_neg (by omega), pEd_no (by omega)]
    rfl
  | succ f ih =>
    intro j hf
    rw [zLoop_eq, en12_step]
    by_cases h : j < g 15 0 34 ∧ pWc (g 59 0 j) = true
    · rw [if_pos h, pEd_go h.1 h.2]
      exact ih (j + 1) (by omega)
    · rw [if_neg h, pEd_no h]
      rfl
theorem fn12_eq (x : List Int) (g : rHp) : fn12 x g =
    (if pEd pWc (g 59 0) (g 15 0 34) (g 15 0 35 + 1) - g 15 0 35 ≤ 12 then (0, 1, rUp (rUp (rUp g 15 0 37 (g 15 0 35)) 15 0 38 (pEd pWc (g 59 0) (g 15 0 34) (g 15 0 35 + 1) - g 15 0 35)) 15 0 35 (pEd pWc (g 59 0) (g 15 0 34) (g 15 0 35 + 1)))
     else (0, 0, (fn8 [g 15 0 35] (rUp (rUp g 15 0 37 (g 15 0 35)) 15 0 38 (pEd pWc (g 59 0) (g 15 0 34) (g 15 0 35 + 1) - g 15 0 35))).2.2)) :=
  fn12_loop _ (g 15 0 35 + 1) (Nat.le_refl _)
/-- a word of k + 1 bytes from a on, packed as the class packs it -/
noncomputable def pPk (t : Int → Int) (a : Int) : Nat → Int
  | 0 => zF2 .iand (t a) 31
  | k + 1 => zF2 .ladd (zF2 .lmul (pPk t a k) 38) (pSy (t (a + k + 1)))
/-- where the class_q word stands behind k + 1 bytes -/
noncomputable def pWh (g : rHp) (p : Int) (k : Nat) : rHp := rUp (rUp (rUp g 2 0 9 p) 2 0 8 (pPk (g 21 0) p k)) 2 0 6 (p + k + 1)
noncomputable def pWs (g : rHp) (p : Int) (k : Nat) : Int := if p + k + 1 ≥ g 2 0 3 then 0 else pSy (g 21 0 (p + k + 1))
theorem en115_step {g : rHp} {p : Int} (hp : p = g 2 0 6) (k : Nat) : en115 g (0, [pWs g p k], pWh g p k) = if p + k + 1 < g 2 0 3 ∧ pWc (g 21 0 (p + k + 1)) = true then .inl (0, [pWs g p (k + 1)], pWh g p (k + 1)) else
    .inr (if p + k + 1 - p ≤ 12 then (0, 1, pWh g p k) else (0, 0, rUp (pWh g p k) 2 0 4 p)) := by
  have e6 : pWh g p k 2 0 6 = p + k + 1 := rUp_at
  have e8 : pWh g p k 2 0 8 = pPk (g 21 0) p k := by
    unfold pWh
    rw [rUp_ne (by omega), rUp_at]
  have f109 : ∀ h : rHp, fn109 [p] h = (0, 0, rUp h 2 0 4 p) := fun h => rfl
  have eh : rUp (rUp (pWh g p k) 2 0 8 (zF2 .ladd (zF2 .lmul (pPk (g 21 0) p k) 38) (pSy (g 21 0 (p + k + 1))))) 2 0 6 (p + k + 1 + 1) = pWh g p (k + 1) := by
    unfold pWh
    rw [rUp_comm (by omega : ¬ ((2 : Nat) = 2 ∧ (0 : Int) = 0 ∧ (6 : Int) = 8)), rUp_two, rUp_two, show p + ((k + 1 : Nat) : Int) + 1 = p + k + 1 + 1 by omega]
    rfl
  unfold en115
  simp only [zLet, List.getD_cons_zero, fn108_eq, e6, e8, ← hp, f109, ↓reduceIte]
  rw [show p + (k : Int) + 1 + -p = p + k + 1 - p by omega]
  by_cases hn : p + (k : Int) + 1 < g 2 0 3
  · by_cases hw : pWc (g 21 0 (p + k + 1)) = true
    · have h0 := pSy_rg hw
      have hs : pWs g p k = pSy (g 21 0 (p + k + 1)) := if_neg (by omega)
      rw [if_pos (show p + (k : Int) + 1 < g 2 0 3 ∧ pWc (g 21 0 (p + k + 1)) = true from ⟨hn, hw⟩), hs, if_neg (show ¬ pSy (g 21 0 (p + k + 1)) ≤ 0 by omega), if_neg (show ¬ p + (k : Int) + 1 ≥ g 2 0 3 by omega), eh]
      have hs2 : pWs g p (k + 1) = if p + (k : Int) + 1 + 1 ≥ g 2 0 3 then 0 else pSy (g 21 0 (p + k + 1 + 1)) := by
        unfold pWs
        rw [show p + ((k + 1 : Nat) : Int) + 1 = p + k + 1 + 1 by omega]
      rw [hs2]
      by_cases h2 : p + (k : Int) + 1 + 1 ≥ g 2 0 3
      · rw [if_pos h2, if_pos h2]
      · rw [if_neg h2, if_neg h2]
    · have hw2 : pWc (g 21 0 (p + k + 1)) = false := by simpa using hw
      have hs : pWs g p k = 0 := (if_neg (by omega)).trans (pSy_no hw2)
      rw [if_neg (show ¬ (p + (k : Int) + 1 < g 2 0 3 ∧ pWc (g 21 0 (p + k + 1)) = true) from fun h => hw h.2), hs, if_pos (Int.le_refl _)]
      by_cases h12 : p + (k : Int) + 1 - p ≤ 12
      · rw [if_pos h12, if_pos h12]
      · rw [if_neg h12, if_neg h12]
  · have hs : pWs g p k = 0 := if_pos (by omega)
    rw [if_neg (show ¬ (p + (k : Int) + 1 < g 2 0 3 ∧ pWc (g 21 0 (p + k + 1)) = true) from fun h => hn h.1), hs, if_pos (Int.le_refl _)]
    by_cases h12 : p + (k : Int) + 1 - p ≤ 12
    · rw [if_pos h12, if_pos h12]
    · rw [if_neg h12, if_neg h12]
theorem fn115_loop {g : rHp} {p : Int} (hp : p = g 2 0 6) : ∀ (f k : Nat), (g 2 0 3 - (p + k + 1)).toNat ≤ f → zLoop (en115 g) (0, [pWs g p k], pWh g p k) =
    (if pEd pWc (g 21 0) (g 2 0 3) (p + k + 1) - p ≤ 12 then (0, 1, pWh g p (pEd pWc (g 21 0) (g 2 0 3) (p + k + 1) - p - 1).toNat)
     else (0, 0, rUp (pWh g p (pEd pWc (g 21 0) (g 2 0 3) (p + k + 1) - p - 1).toNat) 2 0 4 p)) := by
  intro f
  induction f with
  | zero =>
    intro k hf
    rw [zLoop_eq, en115_step hp, if_neg (by omega), pEd_no (by omega), show (p + (k : Int) + 1 - p - 1).toNat = k by omega]
    rfl
  | succ f ih =>
    intro k hf
    rw [zLoop_eq, en115_step hp]
    by_cases h : p + (k : Int) + 1 < g 2 0 3 ∧ pWc (g 21 0 (p + k + 1)) = true
    · rw [if_pos h, pEd_go h.1 h.2]
      have := ih (k + 1) (by omega)
      rw [show p + ((k + 1 : Nat) : Int) + 1 = p + k + 1 + 1 by omega] at this
      exact this
    · rw [if_neg h, pEd_no h, show (p + (k : Int) + 1 - p - 1).toNat = k by omega]
      rfl
/-- the class_q word, its first byte being at hand -/
theorem fn115_eq (x : List Int) (g : rHp) {p e : Int} (hp : p = g 2 0 6) (he : e = pEd pWc (g 21 0) (g 2 0 3) (p + 1)) : fn115 x g =
    (if e - p ≤ 12 then (0, 1, rUp (rUp (rUp g 2 0 9 p) 2 0 8 (pPk (g 21 0) p (e - p - 1).toNat)) 2 0 6 e)
     else (0, 0, rUp (rUp (rUp (rUp g 2 0 9 p) 2 0 8 (pPk (g 21 0) p (e - p - 1).toNat)) 2 0 6 e) 2 0 4 p)) := by
  have h := fn115_loop hp _ 0 (Nat.le_refl _)
  rw [show p + ((0 : Nat) : Int) + 1 = p + 1 by omega, ← he] at h
  have hge : p + 1 ≤ e := by rw [he]; exact pEd_le
  have e1 : pWh g p (e - p - 1).toNat = rUp (rUp (rUp g 2 0 9 p) 2 0 8 (pPk (g 21 0) p (e - p - 1).toNat)) 2 0 6 e := by
    unfold pWh
    rw [show p + ((e - p - 1).toNat : Int) + 1 = e by omega]
  rw [e1] at h
  rw [← h]
  have e0 : dn115 x g = .inl (0, [pWs g p 0], pWh g p 0) := by
    have hs : pWs g p 0 = if p + 1 ≥ g 2 0 3 then 0 else pSy (g 21 0 (p + 1)) := by
      unfold pWs
      rw [show p + ((0 : Nat) : Int) + 1 = p + 1 by omega]
    have hh : pWh g p 0 = rUp (rUp (rUp g 2 0 9 p) 2 0 8 (zF2 .iand (g 21 0 p) 31)) 2 0 6 (p + 1) := by
      unfold pWh
      rw [show p + ((0 : Nat) : Int) + 1 = p + 1 by omega]
      rfl
    rw [hs, hh]
    unfold dn115
    simp only [zLet, fn108_eq, ← hp]
    split <;> rfl
  unfold fn115
  rw [e0]
  rfl
