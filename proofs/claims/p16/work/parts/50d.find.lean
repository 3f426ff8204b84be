/-! ===== a TUPLE is sought, by both ===== -/
theorem hs58 (k : Int) : 0 ≤ hs 58 k ∧ hs 58 k ≤ 63 := hs_rg (s := 58) (by decide) (by decide)
theorem hs52 (k : Int) : 0 ≤ hs 52 k ∧ hs 52 k ≤ 4095 := hs_rg (s := 52) (by decide) (by decide)
theorem hs53 (k : Int) : 0 ≤ hs 53 k ∧ hs 53 k ≤ 2047 := hs_rg (s := 53) (by decide) (by decide)
theorem hs55 (k : Int) : 0 ≤ hs 55 k ∧ hs 55 k ≤ 511 := hs_rg (s := 55) (by decide) (by decide)
noncomputable def aKey (p k v : Int) : Int := zF2 .ladd (zF2 .ladd (zF2 .lmul v 1000003) (zF2 .imul p 4)) k
theorem fn204_eq {p k v : Int} {c : rHp} : fn204 [p, k, v] c = (0, aKey p k v, c) := rfl
noncomputable def chP (c : rHp) (t : Int) : Int := hs 58 (c 28 0 t)
noncomputable def chA (c : rHp) (j : Int) : Int := hs 52 (aKey (c 28 0 (j / 4)) (j % 4) (c 27 0 j))
noncomputable def chW (c : rHp) (t : Int) : Int := hs 53 (wKey (c 28 0 t) (fun k => c 27 0 (k + 4 * t)))
noncomputable def dP (x : Int) : Prop := 0 ≤ x ∧ x ≤ 63
noncomputable def dA (x : Int) : Prop := 0 ≤ x ∧ x ≤ 4095
noncomputable def dW (x : Int) : Prop := 0 ≤ x ∧ x ≤ 2047
noncomputable def dR (x : Int) : Prop := 0 ≤ x ∧ x ≤ 511
/-- the class_q chains of TUPLES -/
noncomputable def tChn (c : rHp) (n : Int) : Prop := cH 47 48 49 dP (chP c) n c ∧ cH 50 51 52 dA (chA c) (4 * n) c ∧ cH 53 54 55 dW (chW c) n c
theorem wKey_congr {p : Int} {v w : Int → Int} (h : ∀ k, 0 ≤ k → k < 4 → v k = w k) : wKey p v = wKey p w := by
  unfold wKey
  rw [h 0 (by decide) (by decide), h 1 (by decide) (by decide), h 2 (by decide) (by decide), h 3 (by decide) (by decide)]
/-- the TUPLE t is not the draft of the PREDICATE p -/
noncomputable def pNd (c : rHp) (p t : Int) : Bool := !(decide (c 28 0 t = p) && pDr c t)
theorem chW_off {p j : Int} {c : rHp} (hj : chW c j ≠ hs 53 (wKey p (fun k => c 33 0 k))) : pNd c p j = true := by
  unfold pNd
  by_cases b1 : c 28 0 j = p
  · by_cases b2 : pDr c j = true
    · have e : wKey (c 28 0 j) (fun k => c 27 0 (k + 4 * j)) = wKey p (fun k => c 33 0 k) := by
        rw [b1]
        exact wKey_congr (pDr_iff.1 b2)
      exact absurd (show chW c j = hs 53 (wKey p (fun k => c 33 0 k)) from congrArg (hs 53) e) hj
    · rw [Bool.eq_false_iff.mpr b2, Bool.and_false]; rfl
  · rw [decide_eq_false b1, Bool.false_and]; rfl
theorem fn206_st {p K X : Int} {c : rHp} (h1 : fn203 [p] c = (0, K, c)) (h2 : fn195 [K] c = (0, c 53 0 X, c)) : fn206 [p] c = zLoop (en206 c) (0, [p, 0, c 53 0 X], c) := by
  unfold fn206 dn206
  simp only [zLet, List.getD_cons_zero, h1, h2]
  rfl
theorem fn206_lp {p n X : Int} {c : rHp} (hn : n ≤ 2000) (n0 : 0 ≤ n) (h3 : ∀ t, 0 ≤ t → t < n → c 55 0 t = pCh (chW c) n (chW c t) (t + 1)) (off : ∀ j, chW c j ≠ X → pNd c p j = true) : zLoop (en206 c) (0, [p, 0, pCh (chW c) n X 0], c) = (0, pFd (pNd c p) n, c) := by
  have st : ∀ met y, 0 ≤ y → y < 2000 → met < 2000 → en206 c (0, [p, met, y], c) = if pNd c p y = true then .inl (0, [p, met + 1, c 55 0 y], c) else .inr (0, y, c) := by
    intro met y y0 y1 hm
    unfold en206 pNd
    simp only [zLet, List.getD_cons_zero, List.getD_cons_succ, ↓reduceIte, fn205_eq, fn196_eq y0 y1]
    rw [if_neg (show ¬ y < 0 by omega), if_neg (show ¬ met ≥ 2000 by omega)]
    by_cases b1 : c 28 0 y = p
    · rw [if_neg (fun z => z b1), decide_eq_true b1, Bool.true_and]
      by_cases b2 : pDr c y = true
      · rw [b2, if_pos rfl, if_pos (Int.le_refl 1)]; rfl
      · rw [Bool.eq_false_iff.mpr b2, if_neg (show ¬ false = true by decide), if_neg (show ¬ (1 : Int) ≤ 0 by decide)]; rfl
    · rw [if_pos b1, decide_eq_false b1, Bool.false_and]; rfl
  have key : ∀ (f : Nat) (met i : Int), (n - i).toNat ≤ f → 0 ≤ i → i ≤ n → met ≤ i → zLoop (en206 c) (0, [p, met, pCh (chW c) n X i], c) = (0, (if n ≤ pIx (pNd c p) n i then -1 else pIx (pNd c p) n i), c) := by
    intro f
    induction f with
    | zero =>
      intro met i hf i0 i1 hm
      have e : i = n := by omega
      have hno : pCh (chW c) n X i = -1 := (pCh_none i0).2 (fun j j0 j1 => by omega)
      have en : en206 c (0, [p, met, -1], c) = .inr (0, -1, c) := by
        unfold en206
        simp only [zLet, List.getD_cons_zero, List.getD_cons_succ, ↓reduceIte]
        rw [if_pos (show (-1 : Int) < 0 by decide)]
      rw [hno, zLoop_inr en, pIx_no (fun z => by omega), if_pos (by omega)]
    | succ f ih =>
      intro met i hf i0 i1 hm
      by_cases hno : pCh (chW c) n X i = -1
      · have en : en206 c (0, [p, met, -1], c) = .inr (0, -1, c) := by
          unfold en206
          simp only [zLet, List.getD_cons_zero, List.getD_cons_succ, ↓reduceIte]
          rw [if_pos (show (-1 : Int) < 0 by decide)]
        rw [hno, zLoop_inr en, pIx_end i1 (fun j j0 j1 => off j ((pCh_none i0).1 hno j j0 j1)), if_pos (Int.le_refl _)]
      · obtain ⟨m1, m2, m3, m4⟩ := pCh_mem hno
        generalize pCh (chW c) n X i = y at *
        have e1 : pIx (pNd c p) n i = pIx (pNd c p) n y := pIx_skip _ i y (Nat.le_refl _) m1 (by omega) (fun j j0 j1 => off j (m4 j j0 j1))
        rw [e1]
        by_cases hb : pNd c p y = true
        · rw [zLoop_inl ((st met y (by omega) (by omega) (by omega)).trans (if_pos hb)), pIx_go m2 hb, h3 y (by omega) m2, m3]
          exact ih (met + 1) (y + 1) (by omega) (by omega) (by omega) (by omega)
        · rw [zLoop_inr ((st met y (by omega) (by omega) (by omega)).trans (if_neg hb)), pIx_no (fun z => hb z.2), if_neg (by omega)]
  exact key _ 0 0 (Nat.le_refl _) (Int.le_refl 0) n0 (Int.le_refl 0)
theorem fn206_eq {p n : Int} {c : rHp} (hn : n ≤ 2000) (h : cH 53 54 55 dW (chW c) n c) : fn206 [p] c = (0, pFd (pNd c p) n, c) := by
  obtain ⟨n0, h1, h2, h3, h4⟩ := h
  rw [fn206_st fn203_eq fn195_eq, h2 _ (hs53 _)]
  exact fn206_lp hn n0 h3 (fun j hj => chW_off hj)
/-- the TUPLE t has what is made -/
noncomputable def pMd (m : rHp) (p t : Int) : Bool := decide (m 66 0 p ≤ pIx (fun k => decide (m 99 0 (4 * t + k) = m 102 0 k)) (m 66 0 p) 0)
noncomputable def pNmd (m : rHp) (p t : Int) : Bool := !(decide (m 93 0 t = p) && pMd m p t)
theorem fn56_eq {p : Int} {m : rHp} (hc : cM m) (hp : 0 ≤ p ∧ p < m 15 0 13) : fn56 [p] m = (0, pFd (pNmd m p) (m 15 0 71), m) := by
  obtain ⟨⟨n0, n1⟩, c1, c2, c3⟩ := hc
  have st0 : ∀ y, en56 m (0, [p, y], m) = .inl (1, [p, 0, 1, y], m) := fun y => by
    unfold en56
    simp only [zLet, List.getD_cons_zero, List.getD_cons_succ, ↓reduceIte]
  have nx : ∀ k y, en56 m (1, [p, k, 0, y], m) = if 0 ≤ -m 96 0 y + (-1) then .inr (0, -1, m) else .inl (0, [p, m 96 0 y], m) := fun k y => by
    unfold en56
    simp only [zLet, List.getD_cons_zero, List.getD_cons_succ, ↓reduceIte, Nat.one_ne_zero]
    split <;> rfl
  have st1 : ∀ k y, en56 m (1, [p, k, 1, y], m) = if k ≥ m 66 0 p then .inr (0, y, m) else if decide (m 99 0 (4 * y + k) = m 102 0 k) = true then .inl (1, [p, k + 1, 1, y], m) else .inl (1, [p, k + 1, 0, y], m) := fun k y => by
    unfold en56
    simp only [zLet, List.getD_cons_zero, List.getD_cons_succ, ↓reduceIte, Nat.one_ne_zero, decide_eq_true_eq]
    by_cases b : k ≥ m 66 0 p
    · rw [if_pos b, if_pos b, if_neg (show ¬ (1 : Int) = 0 by decide)]
    · rw [if_neg b, if_neg b, if_neg (show ¬ (1 : Int) = 0 by decide)]
      by_cases b2 : m 99 0 (4 * y + k) = m 102 0 k
      · rw [if_neg (fun z => z b2), if_pos b2]
      · rw [if_pos b2, if_neg b2]
  have inn : ∀ (f : Nat) (k y : Int), (m 66 0 p - k).toNat ≤ f → zLoop (en56 m) (1, [p, k, 1, y], m) = if m 66 0 p ≤ pIx (fun k => decide (m 99 0 (4 * y + k) = m 102 0 k)) (m 66 0 p) k then (0, y, m) else if 0 ≤ -m 96 0 y + (-1) then (0, -1, m) else zLoop (en56 m) (0, [p, m 96 0 y], m) := by
    intro f
    induction f with
    | zero =>
      intro k y hf
      rw [zLoop_inr ((st1 k y).trans (if_pos (show k ≥ m 66 0 p by omega))), pIx_no (fun z => by omega), if_pos (by omega)]
    | succ f ih =>
      intro k y hf
      by_cases b : k ≥ m 66 0 p
      · rw [zLoop_inr ((st1 k y).trans (if_pos b)), pIx_no (fun z => by omega), if_pos (by omega)]
      · by_cases b2 : decide (m 99 0 (4 * y + k) = m 102 0 k) = true
        · rw [zLoop_inl ((st1 k y).trans ((if_neg b).trans (if_pos b2))), pIx_go (show k < m 66 0 p by omega) b2]
          exact ih (k + 1) y (by omega)
        · rw [zLoop_inl ((st1 k y).trans ((if_neg b).trans (if_neg b2))), pIx_no (fun z => b2 z.2), if_neg (show ¬ m 66 0 p ≤ k by omega)]
          by_cases b3 : 0 ≤ -m 96 0 y + (-1)
          · rw [zLoop_inr ((nx (k + 1) y).trans (if_pos b3)), if_pos b3]
          · rw [zLoop_inl ((nx (k + 1) y).trans (if_neg b3)), if_neg b3]
  have off : ∀ j, m 93 0 j ≠ p → pNmd m p j = true := fun j hj => by
    unfold pNmd
    rw [decide_eq_false hj, Bool.false_and]; rfl
  have key : ∀ (f : Nat) (i y : Int), (m 15 0 71 - i).toNat ≤ f → 0 ≤ i → i ≤ m 15 0 71 → y = pTp m p i → y ≠ -1 → zLoop (en56 m) (0, [p, y], m) = (0, (if m 15 0 71 ≤ pIx (pNmd m p) (m 15 0 71) i then -1 else pIx (pNmd m p) (m 15 0 71) i), m) := by
    intro f
    induction f with
    | zero =>
      intro i y hf i0 i1 hy hne
      have := (pCh_none (ch := fun t => m 93 0 t) (n := m 15 0 71) (x := p) i0).2 (fun j j0 j1 => by omega)
      exact absurd (hy.trans this) hne
    | succ f ih =>
      intro i y hf i0 i1 hy hne
      obtain ⟨m1, m2, m3, m4⟩ := pCh_mem (ch := fun t => m 93 0 t) (n := m 15 0 71) (x := p) (i := i) (by rw [show pCh (fun t => m 93 0 t) (m 15 0 71) p i = y from hy.symm]; exact hne)
      rw [show pCh (fun t => m 93 0 t) (m 15 0 71) p i = y from hy.symm] at m1 m2 m3 m4
      have e1 : pIx (pNmd m p) (m 15 0 71) i = pIx (pNmd m p) (m 15 0 71) y := pIx_skip _ i y (Nat.le_refl _) m1 (by omega) (fun j j0 j1 => off j (m4 j j0 j1))
      rw [e1, zLoop_inl (st0 y), inn _ 0 y (Nat.le_refl _)]
      have pn : pNmd m p y = !pMd m p y := by
        unfold pNmd
        rw [decide_eq_true m3, Bool.true_and]
      by_cases hb : m 66 0 p ≤ pIx (fun k => decide (m 99 0 (4 * y + k) = m 102 0 k)) (m 66 0 p) 0
      · have e2 : pNmd m p y = false := by rw [pn]; unfold pMd; rw [decide_eq_true hb]; rfl
        rw [if_pos hb, pIx_no (fun z => by rw [e2] at z; exact absurd z.2 (by decide)), if_neg (by omega)]
      · have e2 : pNmd m p y = true := by rw [pn]; unfold pMd; rw [decide_eq_false hb]; rfl
        rw [if_neg hb, pIx_go m2 e2]
        have e96 : m 96 0 y = pTp m p (y + 1) := by rw [c3 y (by omega) m2, m3]
        by_cases hl : pTp m p (y + 1) = -1
        · have hl2 := (pCh_none (ch := fun t => m 93 0 t) (n := m 15 0 71) (x := p) (by omega)).1 hl
          rw [if_pos (by rw [e96, hl]; decide), pIx_end (by omega) (fun j j0 j1 => off j (hl2 j j0 j1)), if_pos (Int.le_refl _)]
        · have q1 := (pCh_mem (ch := fun t => m 93 0 t) (n := m 15 0 71) (x := p) (i := y + 1) hl).1
          have q2 : y + 1 ≤ pTp m p (y + 1) := q1
          rw [if_neg (by rw [e96]; omega)]
          exact ih (y + 1) (m 96 0 y) (by omega) (by omega) (by omega) e96 (by rw [e96]; exact hl)
  unfold fn56 dn56 pFd
  simp only [zLet, List.getD_cons_zero]
  have f0 := c2 p hp.1 hp.2
  by_cases hl : pTp m p 0 = -1
  · have hl2 := (pCh_none (ch := fun t => m 93 0 t) (n := m 15 0 71) (x := p) (Int.le_refl 0)).1 hl
    rw [if_pos (by rw [f0, hl]; decide), pIx_end n0 (fun j j0 j1 => off j (hl2 j j0 j1)), if_pos (Int.le_refl _)]
    rfl
  · have q1 := (pCh_mem (ch := fun t => m 93 0 t) (n := m 15 0 71) (x := p) (i := 0) hl).1
    have q2 : 0 ≤ pTp m p 0 := q1
    rw [if_neg (by rw [f0]; omega)]
    exact key _ 0 (m 100 0 p) (Nat.le_refl _) (Int.le_refl 0) n0 f0 (by rw [f0]; exact hl)
