/-! ===== an ATOM with ! , by both ===== -/
theorem fits_c {c m : rHp} {G q t : Int} (hg : gAt c m G q) (hT : tT c m) (hb : ∀ v, qVr v → qBt (m 79 0 q) v = 1 → c 37 0 v = m 103 0 v) (hf : ∀ k, 0 ≤ k → k < c 10 G 5 → c 43 G k ≠ 2) (t0 : 0 ≤ t) (t1 : t < c 4 0 7) : fn225 [G, t] c = (0, (if pFt m q t = true then 1 else 0), c) := by
  obtain ⟨g1, g2, g3, g4, g5, g6, g7⟩ := hg
  obtain ⟨v1, v2⟩ := hT.2.2.2 t t0 t1
  obtain ⟨c_q, k1, k2, k3, k4, -⟩ := fits_two g1 g3 g4 g5 hb v2 v1
  have e : c_q = c := by
    funext K j x
    by_cases hK : K = 37
    · subst hK
      by_cases hj : j = 0
      · subst hj
        exact k4 x (fun k k0 k1 z => absurd z (hf k k0 k1))
      · rw [k3 j hj]
    · rw [k2 K hK]
  rw [k1, e]
  rfl
theorem any_c {c m : rHp} {G q : Int} (hg : gAt c m G q) (hT : tT c m) (hb : ∀ v, qVr v → qBt (m 79 0 q) v = 1 → c 37 0 v = m 103 0 v) (hf : ∀ k, 0 ≤ k → k < c 10 G 5 → c 43 G k ≠ 2) (hL : 0 ≤ c 6 0 11 ∧ c 6 0 11 ≤ c 4 0 7) : fn228 [G] c = (0, (if c 6 0 11 ≤ pIx (fun t => !pFt m q t) (c 6 0 11) 0 then 0 else 1), c) := by
  have n0 := hT.2.2.1.1
  rw [← hT.1] at n0
  have st : ∀ met t r, 0 ≤ t → t < c 6 0 11 → met < 2000 → fn227 [G, t] c = (0, r, c) → en228 c (0, [G, met, t], c) = if pFt m q t = true then .inr (0, 1, c) else .inl (0, [G, met + 1, r], c) := by
    intro met t r t0 t1 hm hr
    unfold en228
    simp only [zLet, List.getD_cons_zero, List.getD_cons_succ, ↓reduceIte, fits_c hg hT hb hf t0 (show t < c 4 0 7 by omega), hr]
    rw [if_neg (show ¬ t < 0 by omega), if_neg (show ¬ t ≥ c 6 0 11 by omega), if_neg (show ¬ met ≥ 2000 by omega)]
    by_cases b : pFt m q t = true
    · rw [if_pos b, if_pos b, if_pos (Int.le_refl 1)]
    · rw [if_neg b, if_neg b, if_neg (show ¬ (1 : Int) ≤ 0 by decide)]
  have out : ∀ met t, t < 0 ∨ c 6 0 11 ≤ t → en228 c (0, [G, met, t], c) = .inr (0, 0, c) := by
    intro met t ht
    unfold en228
    simp only [zLet, List.getD_cons_zero, List.getD_cons_succ, ↓reduceIte]
    by_cases b : t < 0
    · rw [if_pos b]
    · rw [if_neg b, if_pos (show t ≥ c 6 0 11 by omega)]
  have none : ∀ i, (∀ j, i ≤ j → j < c 6 0 11 → pFt m q j = false) → (if c 6 0 11 ≤ pIx (fun t => !pFt m q t) (c 6 0 11) i then (0 : Int) else 1) = 0 := by
    intro i h
    by_cases hi : i ≤ c 6 0 11
    · rw [pIx_end hi (fun j j0 j1 => by show (!pFt m q j) = true; rw [h j j0 j1]; rfl), if_pos (Int.le_refl _)]
    · rw [pIx_no (fun z => by omega), if_pos (by omega)]
  have key : ∀ (f : Nat) (met i t : Int), (c 4 0 7 - i).toNat ≤ f → 0 ≤ i → met ≤ i → ((t = -1 ∧ ∀ j, i ≤ j → j < c 4 0 7 → pFt m q j = false) ∨ (i ≤ t ∧ t < c 4 0 7 ∧ cdG c (c 10 G 9) t = xCd c G ∧ ∀ j, i ≤ j → j < t → pFt m q j = false)) → zLoop (en228 c) (0, [G, met, t], c) = (0, (if c 6 0 11 ≤ pIx (fun t => !pFt m q t) (c 6 0 11) i then 0 else 1), c) := by
    intro f
    induction f with
    | zero =>
      intro met i t hf i0 hm h
      rcases h with ⟨h1, h2⟩ | ⟨h1, h2, h3, h4⟩
      · rw [zLoop_inr (out met t (Or.inl (by omega))), none i (fun j j0 j1 => h2 j j0 (by omega))]
      · omega
    | succ f ih =>
      intro met i t hf i0 hm h
      rcases h with ⟨h1, h2⟩ | ⟨h1, h2, h3, h4⟩
      · rw [zLoop_inr (out met t (Or.inl (by omega))), none i (fun j j0 j1 => h2 j j0 (by omega))]
      · by_cases hl : c 6 0 11 ≤ t
        · rw [zLoop_inr (out met t (Or.inr hl)), none i (fun j j0 j1 => h4 j j0 (by omega))]
        · obtain ⟨r, r1, r2⟩ := seek_on hg hT hb (show 0 ≤ t by omega) h2 h3
          have e1 : pIx (fun t => !pFt m q t) (c 6 0 11) i = pIx (fun t => !pFt m q t) (c 6 0 11) t := pIx_skip _ i t (Nat.le_refl _) h1 (by omega) (fun j j0 j1 => by show (!pFt m q j) = true; rw [h4 j j0 j1]; rfl)
          rw [e1]
          by_cases b : pFt m q t = true
          · rw [zLoop_inr ((st met t r (by omega) (by omega) (by omega) r1).trans (if_pos b)), pIx_no (fun z => by have := z.2; rw [b] at this; exact absurd this (by decide)), if_neg hl]
          · rw [zLoop_inl ((st met t r (by omega) (by omega) (by omega) r1).trans (if_neg b)), pIx_go (show t < c 6 0 11 by omega) (by show (!pFt m q t) = true; rw [Bool.eq_false_iff.mpr b]; rfl)]
            refine ih (met + 1) (t + 1) r (by omega) (by omega) (by omega) ?_
            rcases r2 with ⟨q1, q2⟩ | ⟨q1, q2, q3, q4⟩
            · exact Or.inl ⟨q1, fun j j0 j1 => q2 j (by omega) j1⟩
            · exact Or.inr ⟨by omega, q2, q3, fun j j0 j1 => q4 j (by omega) j1⟩
  obtain ⟨r, r1, r2⟩ := seek (l := 0) hg hT hb
  unfold fn228 dn228
  simp only [zLet, List.getD_cons_zero, r1]
  refine key _ 0 0 r (Nat.le_refl _) (Int.le_refl 0) (Int.le_refl 0) ?_
  rcases r2 with ⟨q1, q2⟩ | ⟨q1, q2, q3, q4⟩
  · exact Or.inl ⟨q1, fun j j0 j1 => q2 j j0 j0 j1⟩
  · exact Or.inr ⟨q1, q2, q3, fun j j0 j1 => q4 j j0 j0 j1⟩
theorem any_m {m : rHp} {q : Int} (hc : cM m) (hk : m 77 0 q = 1) (hp : 0 ≤ m 78 0 q ∧ m 78 0 q < m 15 0 13) (hL : m 15 0 81 ≤ m 15 0 71) : fn64 [q] m = (0, (if m 15 0 81 ≤ pIx (fun t => !pFt m q t) (m 15 0 81) 0 then 1 else 0), m) := by
  obtain ⟨⟨n0, n1⟩, c1, c2, c3⟩ := hc
  have st : ∀ t, en64 m (0, [q, t], m) = if t ≥ m 15 0 81 then .inr (0, 1, m) else if pMt m q t = true then .inr (0, 0, m) else if 0 ≤ -m 96 0 t + (-1) then .inr (0, 1, m) else .inl (0, [q, m 96 0 t], m) := by
    intro t
    unfold en64
    simp only [zLet, List.getD_cons_zero, List.getD_cons_succ, ↓reduceIte, fn60_eq]
    by_cases h1 : t ≥ m 15 0 81
    · rw [if_pos h1, if_pos h1]
    · rw [if_neg h1, if_neg h1]
      by_cases h3 : pMt m q t = true
      · rw [if_pos h3, if_pos h3, if_pos (Int.le_refl 1)]
      · rw [if_neg h3, if_neg h3, if_neg (show ¬ (1 : Int) ≤ 0 by decide)]
  have off : ∀ j, m 93 0 j ≠ m 78 0 q → (!pFt m q j) = true := fun j z => by
    unfold pFt
    rw [decide_eq_false z, Bool.false_and]; rfl
  have none : ∀ (i : Int), (∀ j, i ≤ j → j < m 15 0 81 → m 93 0 j ≠ m 78 0 q) → (if m 15 0 81 ≤ pIx (fun t => !pFt m q t) (m 15 0 81) i then (1 : Int) else 0) = 1 := by
    intro i h
    by_cases hi : i ≤ m 15 0 81
    · rw [pIx_end hi (fun j j0 j1 => off j (h j j0 j1)), if_pos (Int.le_refl _)]
    · rw [pIx_no (fun z => by omega), if_pos (by omega)]
  have key : ∀ (f : Nat) (i y : Int), (m 15 0 71 - i).toNat ≤ f → 0 ≤ i → y = pCh (fun t => m 93 0 t) (m 15 0 71) (m 78 0 q) i → y ≠ -1 → zLoop (en64 m) (0, [q, y], m) = (0, (if m 15 0 81 ≤ pIx (fun t => !pFt m q t) (m 15 0 81) i then 1 else 0), m) := by
    intro f
    induction f with
    | zero =>
      intro i y hf i0 hy hne
      exact absurd (hy.trans ((pCh_none i0).2 (fun j j0 j1 => by omega))) hne
    | succ f ih =>
      intro i y hf i0 hy hne
      obtain ⟨m1, m2, m3, m4⟩ := pCh_mem (ch := fun t => m 93 0 t) (n := m 15 0 71) (x := m 78 0 q) (i := i) (by rw [← hy]; exact hne)
      rw [← hy] at m1 m2 m3 m4
      by_cases hyl : y ≥ m 15 0 81
      · rw [zLoop_inr ((st y).trans (if_pos hyl)), none i (fun j j0 j1 => m4 j j0 (by omega))]
      · have e1 : pIx (fun t => !pFt m q t) (m 15 0 81) i = pIx (fun t => !pFt m q t) (m 15 0 81) y := pIx_skip _ i y (Nat.le_refl _) m1 (by omega) (fun j j0 j1 => off j (m4 j j0 j1))
        have e2 : pFt m q y = pMt m q y := by unfold pFt; rw [decide_eq_true m3, Bool.true_and]
        rw [e1]
        by_cases hok : pMt m q y = true
        · rw [zLoop_inr ((st y).trans ((if_neg hyl).trans (if_pos hok))), pIx_no (fun z => by have := z.2; rw [e2, hok] at this; exact absurd this (by decide)), if_neg (by omega)]
        · rw [pIx_go (show y < m 15 0 81 by omega) (by show (!pFt m q y) = true; rw [e2, Bool.eq_false_iff.mpr hok]; rfl)]
          have e96 : m 96 0 y = pCh (fun t => m 93 0 t) (m 15 0 71) (m 78 0 q) (y + 1) := by rw [c3 y (by omega) m2, m3]; rfl
          by_cases hl : pCh (fun t => m 93 0 t) (m 15 0 71) (m 78 0 q) (y + 1) = -1
          · have hl2 := (pCh_none (ch := fun t => m 93 0 t) (n := m 15 0 71) (x := m 78 0 q) (by omega)).1 hl
            rw [zLoop_inr ((st y).trans ((if_neg hyl).trans ((if_neg hok).trans (if_pos (by rw [e96, hl]; decide))))), none (y + 1) (fun j j0 j1 => hl2 j j0 (by omega))]
          · have q1 := (pCh_mem hl).1
            rw [zLoop_inl ((st y).trans ((if_neg hyl).trans ((if_neg hok).trans (if_neg (by rw [e96]; omega)))))]
            exact ih (y + 1) (m 96 0 y) (by omega) (by omega) e96 (by rw [e96]; exact hl)
  unfold fn64 dn64
  simp only [zLet, List.getD_cons_zero, hk]
  rw [if_pos (by decide)]
  have f0 : m 100 0 (m 78 0 q) = pCh (fun t => m 93 0 t) (m 15 0 71) (m 78 0 q) 0 := c2 _ hp.1 hp.2
  by_cases hl : pCh (fun t => m 93 0 t) (m 15 0 71) (m 78 0 q) 0 = -1
  · have hl2 := (pCh_none (ch := fun t => m 93 0 t) (n := m 15 0 71) (x := m 78 0 q) (Int.le_refl 0)).1 hl
    rw [if_pos (by rw [f0, hl]; decide), none 0 (fun j j0 j1 => hl2 j j0 (by omega))]
    rfl
  · have q1 := (pCh_mem hl).1
    rw [if_neg (by rw [f0]; omega)]
    exact key _ 0 _ (Nat.le_refl _) (Int.le_refl 0) f0 (by rw [f0]; exact hl)
