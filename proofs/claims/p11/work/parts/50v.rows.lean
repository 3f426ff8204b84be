/-! ===== rows of a RULE with # ===== -/
theorem fn214_eq {c : rHp} : fn214 [] c = (0, wKey 0 (fun k => c 33 0 k), c) := by
  have st : ∀ k x, k < 4 → en214 c (0, [k, x], c) = .inl (0, [k + 1, zF2 .ladd (zF2 .lmul x 1000003) (c 33 0 k)], c) := by
    intro k x hk
    unfold en214
    simp only [zLet, List.getD_cons_zero, List.getD_cons_succ, ↓reduceIte]
    rw [if_neg (show ¬ k ≥ 4 by omega)]
  have en : ∀ x, en214 c (0, [4, x], c) = .inr (0, x, c) := by
    intro x
    unfold en214
    simp only [zLet, List.getD_cons_zero, List.getD_cons_succ, ↓reduceIte]
    rw [if_pos (show (4 : Int) ≥ 4 by decide)]
  show zLoop (en214 c) (0, [0, 0], c) = _
  rw [zLoop_inl (st 0 0 (by decide)), zLoop_inl (st (0 + 1) _ (by decide)), zLoop_inl (st (0 + 1 + 1) _ (by decide)), zLoop_inl (st (0 + 1 + 1 + 1) _ (by decide))]
  exact zLoop_inr (en _)
/-- the chain of a row -/
noncomputable def chR (c : rHp) (i : Int) : Int := hs 55 (wKey 0 (fun k => c 34 0 (k + 4 * i)))
/-- the row i is the draft's -/
noncomputable def pRw (c : rHp) (i : Int) : Bool := decide (4 ≤ pIx (fun k => decide (c 34 0 (k + 4 * i) = c 33 0 k)) 4 0)
theorem pRw_iff {c : rHp} {i : Int} : pRw c i = true ↔ ∀ k, 0 ≤ k → k < 4 → c 34 0 (k + 4 * i) = c 33 0 k := by
  unfold pRw
  rw [decide_eq_true_eq, pIx_all]
  exact ⟨fun h k k0 k1 => of_decide_eq_true (h k k0 k1), fun h k k0 k1 => decide_eq_true (h k k0 k1)⟩
theorem fn215_eq {i : Int} {c : rHp} : fn215 [i] c = (0, (if pRw c i = true then 1 else 0), c) := by
  have st : ∀ k, en215 c (0, [i, k], c) = if k ≥ 4 then .inr (0, 1, c) else if decide (c 34 0 (k + 4 * i) = c 33 0 k) = true then .inl (0, [i, k + 1], c) else .inr (0, 0, c) := by
    intro k
    unfold en215
    simp only [zLet, List.getD_cons_zero, List.getD_cons_succ, ↓reduceIte, decide_eq_true_eq]
  have key : ∀ (f : Nat) (k : Int), (4 - k).toNat ≤ f → zLoop (en215 c) (0, [i, k], c) = (0, (if decide (4 ≤ pIx (fun k => decide (c 34 0 (k + 4 * i) = c 33 0 k)) 4 k) = true then 1 else 0), c) := by
    intro f
    induction f with
    | zero =>
      intro k hf
      rw [zLoop_inr ((st k).trans (if_pos (show k ≥ 4 by omega))), pIx_no (fun z => by omega), decide_eq_true (show 4 ≤ k by omega), if_pos rfl]
    | succ f ih =>
      intro k hf
      by_cases hk : k ≥ 4
      · rw [zLoop_inr ((st k).trans (if_pos hk)), pIx_no (fun z => by omega), decide_eq_true (show 4 ≤ k by omega), if_pos rfl]
      · by_cases hb : decide (c 34 0 (k + 4 * i) = c 33 0 k) = true
        · rw [zLoop_inl ((st k).trans ((if_neg hk).trans (if_pos hb))), pIx_go (show k < 4 by omega) hb]
          exact ih (k + 1) (by omega)
        · rw [zLoop_inr ((st k).trans ((if_neg hk).trans (if_neg hb))), pIx_no (fun z => hb z.2), decide_eq_false (show ¬ 4 ≤ k by omega), if_neg (by decide)]
  exact key _ 0 (Nat.le_refl _)
/-- a new row -/
noncomputable def rNew (w : Int) (c : rHp) : rHp := rUp (apd 56 57 58 (hs 55 (wKey 0 (fun k => c 33 0 k))) w (rUp (rUp (zCpy c 33 0 0 34 0 (4 * w) 4) 35 0 w 0) 36 0 w 0)) 5 0 3 (w + 1)
theorem fn216_st {K X : Int} {c : rHp} (h1 : fn214 [] c = (0, K, c)) (h2 : fn199 [K] c = (0, c 56 0 X, c)) : fn216 [] c = zLoop (en216 c) (0, [0, c 56 0 X, K], c) := by
  unfold fn216 dn216
  simp only [zLet, h1, h2]
  rfl
theorem fn216_lp {w X K : Int} {c g5 : rHp} (hw : c 5 0 3 = w) (w0 : 0 ≤ w) (w1 : w ≤ 2000) (h3 : ∀ t, 0 ≤ t → t < w → c 58 0 t = pCh (chR c) w (chR c t) (t + 1)) (off : ∀ j, chR c j ≠ X → pRw c j = false) (hn : w < 2000 → fn201 [K, w] (rUp (rUp (zCpy c 33 0 0 34 0 (4 * w) 4) 35 0 w 0) 36 0 w 0) = (0, 0, g5)) :
    ∀ (f : Nat) (met i : Int), (w - i).toNat ≤ f → 0 ≤ i → i ≤ w → met ≤ i → zLoop (en216 c) (0, [met, pCh (chR c) w X i, K], c) = if w ≤ pIx (fun j => !pRw c j) w i then (if w < 2000 then (0, w, rUp g5 5 0 3 (w + 1)) else (0, -1, c)) else (0, pIx (fun j => !pRw c j) w i, c) := by
  have en : ∀ met, zLoop (en216 c) (0, [met, -1, K], c) = if w < 2000 then (0, w, rUp g5 5 0 3 (w + 1)) else (0, -1, c) := by
    intro met
    rw [zLoop_eq]
    unfold en216
    simp only [zLet, List.getD_cons_zero, List.getD_cons_succ, ↓reduceIte, hw]
    rw [if_pos (show (-1 : Int) < 0 by decide)]
    by_cases b : w < 2000
    · rw [if_pos b, if_pos b, hn b]; rfl
    · rw [if_neg b, if_neg b]; rfl
  have st : ∀ met y, 0 ≤ y → y < 2000 → met < 2000 → en216 c (0, [met, y, K], c) = if pRw c y = true then .inr (0, y, c) else .inl (0, [met + 1, c 58 0 y, K], c) := by
    intro met y y0 y1 hm
    unfold en216
    simp only [zLet, List.getD_cons_zero, List.getD_cons_succ, ↓reduceIte, fn215_eq, fn200_eq y0 y1]
    rw [if_neg (show ¬ y < 0 by omega), if_neg (show ¬ met ≥ 2000 by omega)]
    by_cases b : pRw c y = true
    · rw [if_pos b, if_pos b, if_pos (Int.le_refl 1)]
    · rw [if_neg b, if_neg b, if_neg (show ¬ (1 : Int) ≤ 0 by decide)]
  intro f
  induction f with
  | zero =>
    intro met i hf i0 i1 hm
    have hno : pCh (chR c) w X i = -1 := (pCh_none i0).2 (fun j j0 j1 => by omega)
    rw [hno, en, pIx_no (fun z => by omega), if_pos (show w ≤ i by omega)]
  | succ f ih =>
    intro met i hf i0 i1 hm
    by_cases hno : pCh (chR c) w X i = -1
    · rw [hno, en, pIx_end i1 (fun j j0 j1 => by show (!pRw c j) = true; rw [off j ((pCh_none i0).1 hno j j0 j1)]; rfl), if_pos (Int.le_refl _)]
    · obtain ⟨m1, m2, m3, m4⟩ := pCh_mem hno
      generalize pCh (chR c) w X i = y at *
      have e1 : pIx (fun j => !pRw c j) w i = pIx (fun j => !pRw c j) w y := pIx_skip _ i y (Nat.le_refl _) m1 (by omega) (fun j j0 j1 => by show (!pRw c j) = true; rw [off j (m4 j j0 j1)]; rfl)
      rw [e1]
      by_cases hb : pRw c y = true
      · rw [zLoop_inr ((st met y (by omega) (by omega) (by omega)).trans (if_pos hb))]
        have e2 : pIx (fun j => !pRw c j) w y = y := pIx_no (fun z => by have z2 : (!pRw c y) = true := z.2; rw [hb] at z2; exact absurd z2 (by decide))
        rw [e2, if_neg (by omega)]
      · rw [zLoop_inl ((st met y (by omega) (by omega) (by omega)).trans (if_neg hb)), pIx_go (q := fun j => !pRw c j) m2 (by show (!pRw c y) = true; rw [Bool.eq_false_iff.mpr hb]; rfl), h3 y (by omega) m2, m3]
        exact ih (met + 1) (y + 1) (by omega) (by omega) (by omega) (by omega)
theorem chR_off {j : Int} {c : rHp} (hj : chR c j ≠ hs 55 (wKey 0 (fun k => c 33 0 k))) : pRw c j = false := by
  by_cases b : pRw c j = true
  · have e : wKey 0 (fun k => c 34 0 (k + 4 * j)) = wKey 0 (fun k => c 33 0 k) := wKey_congr (pRw_iff.1 b)
    exact absurd (show chR c j = hs 55 (wKey 0 (fun k => c 33 0 k)) from congrArg (hs 55) e) hj
  · exact Bool.eq_false_iff.mpr b
theorem fn216_eq {w : Int} {c : rHp} (hw : c 5 0 3 = w) (w1 : w ≤ 2000) (h : cH 56 57 58 dR (chR c) w c) : fn216 [] c = if w ≤ pIx (fun j => !pRw c j) w 0 then (if w < 2000 then (0, w, rNew w c) else (0, -1, c)) else (0, pIx (fun j => !pRw c j) w 0, c) := by
  obtain ⟨n0, h1, h2, h3, h4⟩ := h
  rw [fn216_st fn214_eq fn199_eq, h2 _ (hs55 _)]
  exact fn216_lp hw n0 w1 h3 (fun j hj => chR_off hj) (fun b => fn201_eq n0 b) _ 0 0 (Nat.le_refl _) (Int.le_refl 0) n0 (Int.le_refl 0)
theorem rNew_chn {w : Int} {c : rHp} (w0 : 0 ≤ w) (h : cH 56 57 58 dR (chR c) w c) : cH 56 57 58 dR (chR (rNew w c)) (w + 1) (rNew w c) := by
  have e34 : ∀ j, rNew w c 34 0 j = zCpy c 33 0 0 34 0 (4 * w) 4 34 0 j := fun j => by
    unfold rNew
    rw [rUp_grp (by decide), apd_grp (by decide) (by decide) (by decide), rUp_grp (by decide), rUp_grp (by decide)]
  have old : ∀ t, 0 ≤ t → t < w → chR (rNew w c) t = chR c t := fun t t0 t1 => by
    unfold chR
    rw [wKey_congr (w := fun k => c 34 0 (k + 4 * t)) (fun k k0 k4 => by rw [e34, zCpy_off (by omega)])]
  have new : chR (rNew w c) w = hs 55 (wKey 0 (fun k => c 33 0 k)) := by
    unfold chR
    rw [wKey_congr (w := fun k => c 33 0 k) (fun k k0 k4 => by rw [e34, zCpy_in (by omega) (by omega), show 0 + (k + 4 * w - 4 * w) = k by omega])]
  have a := apd_cH (F := 56) (L := 57) (N := 58) (x := hs 55 (wKey 0 (fun k => c 33 0 k))) (ch_q := chR (rNew w c)) (by decide) (by decide) (by decide) (cH_eq (c_q := rUp (rUp (zCpy c 33 0 0 34 0 (4 * w) 4) 35 0 w 0) 36 0 w 0) h (by rw [rUp_grp (by decide), rUp_grp (by decide), zCpy_grp (by decide)]) (by rw [rUp_grp (by decide), rUp_grp (by decide), zCpy_grp (by decide)]) (by rw [rUp_grp (by decide), rUp_grp (by decide), zCpy_grp (by decide)])) old new (hs55 _)
  refine cH_eq a ?_ ?_ ?_ <;> (unfold rNew; rw [rUp_grp (by decide)])
/-- the reference's row i is what is made -/
noncomputable def pRm (m : rHp) (i : Int) : Bool := decide (4 ≤ pIx (fun k => decide (m 105 0 (k + 4 * i) = m 102 0 k)) 4 0)
theorem pRm_iff {m : rHp} {i : Int} : pRm m i = true ↔ ∀ k, 0 ≤ k → k < 4 → m 105 0 (k + 4 * i) = m 102 0 k := by
  unfold pRm
  rw [decide_eq_true_eq, pIx_all]
  exact ⟨fun h k k0 k1 => of_decide_eq_true (h k k0 k1), fun h k k0 k1 => decide_eq_true (h k k0 k1)⟩
theorem fn69_eq {i : Int} {m : rHp} : fn69 [i] m = (0, (if pRm m i = true then 1 else 0), m) := by
  have st : ∀ k, en69 m (0, [i, k], m) = if k ≥ 4 then .inr (0, 1, m) else if decide (m 105 0 (k + 4 * i) = m 102 0 k) = true then .inl (0, [i, k + 1], m) else .inr (0, 0, m) := by
    intro k
    unfold en69
    simp only [zLet, List.getD_cons_zero, List.getD_cons_succ, ↓reduceIte, decide_eq_true_eq]
  have key : ∀ (f : Nat) (k : Int), (4 - k).toNat ≤ f → zLoop (en69 m) (0, [i, k], m) = (0, (if decide (4 ≤ pIx (fun k => decide (m 105 0 (k + 4 * i) = m 102 0 k)) 4 k) = true then 1 else 0), m) := by
    intro f
    induction f with
    | zero =>
      intro k hf
      rw [zLoop_inr ((st k).trans (if_pos (show k ≥ 4 by omega))), pIx_no (fun z => by omega), decide_eq_true (show 4 ≤ k by omega), if_pos rfl]
    | succ f ih =>
      intro k hf
      by_cases hk : k ≥ 4
      · rw [zLoop_inr ((st k).trans (if_pos hk)), pIx_no (fun z => by omega), decide_eq_true (show 4 ≤ k by omega), if_pos rfl]
      · by_cases hb : decide (m 105 0 (k + 4 * i) = m 102 0 k) = true
        · rw [zLoop_inl ((st k).trans ((if_neg hk).trans (if_pos hb))), pIx_go (show k < 4 by omega) hb]
          exact ih (k + 1) (by omega)
        · rw [zLoop_inr ((st k).trans ((if_neg hk).trans (if_neg hb))), pIx_no (fun z => hb z.2), decide_eq_false (show ¬ 4 ≤ k by omega), if_neg (by decide)]
  exact key _ 0 (Nat.le_refl _)
