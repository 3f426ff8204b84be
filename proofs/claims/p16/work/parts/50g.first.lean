/-! ===== the first TUPLE that may fit, by the class ===== -/
theorem fn208_lp {c : rHp} {p l : Int} : ∀ (f : Nat) (t : Int), (c 4 0 7 - t).toNat ≤ f → zLoop (en208 c) (0, [p, l, t], c) = (0, pCh (fun t => c 28 0 t) (c 4 0 7) p t, c) := by
  have st : ∀ t, en208 c (0, [p, l, t], c) = if t < c 4 0 7 ∧ decide (c 28 0 t ≠ p) = true then .inl (0, [p, l, t + 1], c) else .inr (0, (if c 4 0 7 ≤ t then -1 else t), c) := by
    intro t
    unfold en208
    simp only [zLet, List.getD_cons_zero, List.getD_cons_succ, ↓reduceIte, decide_eq_true_eq]
    by_cases h1 : t ≥ c 4 0 7
    · rw [if_pos h1, if_neg (show ¬ (t < c 4 0 7 ∧ c 28 0 t ≠ p) from fun z => by omega), if_pos (show c 4 0 7 ≤ t by omega)]
    · rw [if_neg h1, if_neg (show ¬ c 4 0 7 ≤ t by omega)]
      by_cases h2 : c 28 0 t ≠ p
      · rw [if_pos h2, if_pos (show t < c 4 0 7 ∧ c 28 0 t ≠ p from ⟨by omega, h2⟩)]
      · rw [if_neg h2, if_neg (show ¬ (t < c 4 0 7 ∧ c 28 0 t ≠ p) from fun z => h2 z.2)]
  intro f
  induction f with
  | zero =>
    intro t hf
    unfold pCh
    rw [zLoop_inr ((st t).trans (if_neg (fun z => by omega))), pIx_no (fun z => by omega)]
  | succ f ih =>
    intro t hf
    by_cases h : t < c 4 0 7 ∧ decide (c 28 0 t ≠ p) = true
    · rw [zLoop_inl ((st t).trans (if_pos h)), ih (t + 1) (by omega)]
      unfold pCh
      rw [pIx_go (q := fun t => decide (c 28 0 t ≠ p)) h.1 h.2]
    · rw [zLoop_inr ((st t).trans (if_neg h))]
      unfold pCh
      rw [pIx_no (q := fun t => decide (c 28 0 t ≠ p)) h]
theorem fn211_st {p u V K X : Int} {c : rHp} (h1 : fn204 [p, u, V] c = (0, K, c)) (h2 : fn191 [K] c = (0, c 50 0 X, c)) : fn211 [p, u, V] c = (0, (zLoop (en210 c) (0, [c 50 0 X, u, 0, c 50 0 X], c)).2.1, (zLoop (en210 c) (0, [c 50 0 X, u, 0, c 50 0 X], c)).2.2) := by
  unfold fn211
  simp only [zLet, List.getD_cons_zero, List.getD_cons_succ, h1, h2]
  rfl
/-- the value that the guide of an ATOM asks for -/
noncomputable def vGd (c : rHp) (G u : Int) : Int := if c 43 G u ≠ 1 then c 46 G u else c 37 0 (c 44 G u)
/-- the TUPLE j is none that the ATOM may take -/
noncomputable def nCd (c : rHp) (G u X j : Int) : Prop := (u < 0 → c 28 0 j ≠ c 10 G 8) ∧ (0 ≤ u → cdG c u j ≠ X)
theorem firstFor {c : rHp} {G l n u X : Int} (hn : 0 ≤ n ∧ n ≤ 2000) (h7 : c 4 0 7 = n) (hc : tChn c n) (hu : c 10 G 9 = u) (u4 : u < 4) (hX1 : u < 0 → X = hs 58 (c 10 G 8)) (hX2 : 0 ≤ u → X = hs 52 (aKey (c 10 G 8) u (vGd c G u))) :
    ∃ r, fn226 [G, l] c = (0, r, c) ∧ ((r = -1 ∧ ∀ j, 0 ≤ j → l ≤ j → j < n → nCd c G u X j) ∨ (0 ≤ r ∧ r < n ∧ cdG c u r = X ∧ ∀ j, 0 ≤ j → l ≤ j → j < r → nCd c G u X j)) := by
  obtain ⟨⟨_, _, p2, _, _⟩, ⟨_, _, a2, a3, _⟩, _⟩ := hc
  unfold fn226
  simp only [zLet, List.getD_cons_zero, List.getD_cons_succ, hu, fn224_eq]
  by_cases hg : u ≥ 0
  · rw [if_pos hg]
    have hx := hX2 hg
    have e0 : fn191 [aKey (c 10 G 8) u (vGd c G u)] c = (0, c 50 0 X, c) := by rw [hx]; exact fn191_eq
    have e1 := fn211_st (p := c 10 G 8) (u := u) (V := vGd c G u) (c := c) fn204_eq e0
    have dx : dA X := by rw [hx]; exact hs52 _
    have e2 := a2 X dx
    obtain ⟨r, r1, r2⟩ := fn210_eq (c := c) (ch := chA c) (x := X) hn ⟨hg, u4⟩ a3 _ 0 0 (c 50 0 X) (Nat.le_refl _) (by omega) (by omega) (by omega)
    rw [← e2] at r1
    rw [r1] at e1
    have e3 : fn211 [c 10 G 8, u, if c 43 G u ≠ 1 then c 46 G u else c 37 0 (c 44 G u)] c = (0, r, c) := e1
    rw [e3]
    have ecd : ∀ j, cdG c u j = chA c (u + 4 * j) := fun j => by unfold cdG; rw [if_neg (show ¬ u < 0 by omega)]
    refine ⟨r, rfl, ?_⟩
    rcases r2 with ⟨q1, q2⟩ | ⟨q1, q2, q3, q4, q5⟩
    · exact Or.inl ⟨q1, fun j j0 _ j1 => ⟨fun z => by omega, fun _ => by rw [ecd]; exact q2 j j0 j1 (by omega)⟩⟩
    · exact Or.inr ⟨q1, q2, by rw [ecd]; exact q4, fun j j0 _ j1 => ⟨fun z => by omega, fun _ => by rw [ecd]; exact q5 j j0 j1 (by omega)⟩⟩
  · rw [if_neg hg]
    have hx := hX1 (by omega)
    have ecd : ∀ j, cdG c u j = chP c j := fun j => by unfold cdG; rw [if_pos (show u < 0 by omega)]
    have onp : ∀ j, c 28 0 j = c 10 G 8 → cdG c u j = X := fun j z => by rw [ecd, hx]; unfold chP; rw [z]
    unfold fn208 dn208
    simp only [zLet, List.getD_cons_zero, List.getD_cons_succ]
    by_cases hl : l > 0
    · rw [if_pos hl]
      have e1 : zGoo (en208 c) (.inl (0, [c 10 G 8, l, l], c)) = (0, pCh (fun t => c 28 0 t) n (c 10 G 8) l, c) := by
        have := fn208_lp (c := c) (p := c 10 G 8) (l := l) _ l (Nat.le_refl _)
        rw [h7] at this
        exact this
      rw [e1]
      refine ⟨pCh (fun t => c 28 0 t) n (c 10 G 8) l, rfl, ?_⟩
      by_cases b : pCh (fun t => c 28 0 t) n (c 10 G 8) l = -1
      · exact Or.inl ⟨b, fun j j0 j1 j2 => ⟨fun _ => (pCh_none (by omega)).1 b j j1 j2, fun z => absurd z (by omega)⟩⟩
      · obtain ⟨m1, m2, m3, m4⟩ := pCh_mem b
        exact Or.inr ⟨by omega, m2, onp _ m3, fun j j0 j1 j2 => ⟨fun _ => m4 j j1 j2, fun z => absurd z (by omega)⟩⟩
    · rw [if_neg hl, fn187_eq]
      have dx : dP X := by rw [hx]; exact hs58 _
      have e2 := p2 X dx
      rw [← hx, e2]
      refine ⟨pCh (chP c) n X 0, rfl, ?_⟩
      by_cases b : pCh (chP c) n X 0 = -1
      · exact Or.inl ⟨b, fun j j0 j1 j2 => ⟨fun _ z => (pCh_none (Int.le_refl 0)).1 b j j0 j2 (by rw [← ecd]; exact onp j z), fun z => absurd z (by omega)⟩⟩
      · obtain ⟨m1, m2, m3, m4⟩ := pCh_mem b
        exact Or.inr ⟨m1, m2, by rw [ecd]; exact m3, fun j j0 j1 j2 => ⟨fun _ z => m4 j j0 j2 (by rw [← ecd]; exact onp j z), fun z => absurd z (by omega)⟩⟩
