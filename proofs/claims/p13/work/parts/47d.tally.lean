/-! ===== the words of tallies ===== -/
theorem tl5_W {l : List Int} {k : Nat} {N : Int} (hk : k ≤ 11) (hV : pV pSm (tl5 l) 0 k) (hN : pK (tl5 l) 0 k = N) : qW pSm (tl5 l) (k + 1) N 0 (k + 1) := by
  refine ⟨k, hk, rfl, hV, ?_, by decide, by omega⟩
  rw [pPk_eq (Or.inl rfl) hk hV, hN]
theorem wd3 {t : Int → Int} {n w f s a b c N : Int} (h : qW pSm t n w f s) (hW : qW pSm (tl5 [a, b, c]) 3 N 0 3) : w = N ↔ s = 3 ∧ t f = a ∧ t (f + 1) = b ∧ t (f + 2) = c := by
  rw [qW_iff (Or.inl rfl) h hW, pSame_iff]
  constructor
  · rintro ⟨e, e2⟩
    have a := e2 0 (by decide) (by decide)
    have b := e2 1 (by decide) (by decide)
    have c := e2 2 (by decide) (by decide)
    rw [Int.zero_add] at a
    rw [Int.add_comm] at b c
    exact ⟨e, a, b, c⟩
  · rintro ⟨e, a, b, c⟩
    refine ⟨e, fun j j0 j1 => ?_⟩
    have : j = 0 ∨ j = 1 ∨ j = 2 := by omega
    rcases this with rfl | rfl | rfl
    · rw [Int.zero_add]; exact a
    · rw [Int.add_comm]; exact b
    · rw [Int.add_comm]; exact c
theorem wd5 {t : Int → Int} {n w f s a b c d e N : Int} (h : qW pSm t n w f s) (hW : qW pSm (tl5 [a, b, c, d, e]) 5 N 0 5) : w = N ↔ s = 5 ∧ t f = a ∧ t (f + 1) = b ∧ t (f + 2) = c ∧ t (f + 3) = d ∧ t (f + 4) = e := by
  rw [qW_iff (Or.inl rfl) h hW, pSame_iff]
  constructor
  · rintro ⟨e, e2⟩
    have a := e2 0 (by decide) (by decide)
    have b := e2 1 (by decide) (by decide)
    have c := e2 2 (by decide) (by decide)
    have d := e2 3 (by decide) (by decide)
    have x := e2 4 (by decide) (by decide)
    rw [Int.zero_add] at a
    rw [Int.add_comm] at b c d x
    exact ⟨e, a, b, c, d, x⟩
  · rintro ⟨e, a, b, c, d, x⟩
    refine ⟨e, fun j j0 j1 => ?_⟩
    have : j = 0 ∨ j = 1 ∨ j = 2 ∨ j = 3 ∨ j = 4 := by omega
    rcases this with rfl | rfl | rfl | rfl | rfl
    · rw [Int.zero_add]; exact a
    · rw [Int.add_comm]; exact b
    · rw [Int.add_comm]; exact c
    · rw [Int.add_comm]; exact d
    · rw [Int.add_comm]; exact x
theorem fn13_3 {g : rHp} {a b c : Int} (hb : b ≠ 0) (hc : c ≠ 0) : fn13 [a, b, c, 0, 0] g = (0, (if g 15 0 38 = 3 ∧ g 59 0 (g 15 0 37) = a ∧ g 59 0 (g 15 0 37 + 1) = b ∧ g 59 0 (g 15 0 37 + 2) = c then 1 else 0), g) := by
  unfold fn13
  simp only [zLet, List.getD_cons_zero, List.getD_cons_succ]
  rw [if_pos hb, if_pos hc, if_neg (by decide)]
  by_cases h1 : g 15 0 38 = 3
  · rw [if_neg (fun q => q h1)]
    by_cases h2 : g 59 0 (g 15 0 37) = a
    · rw [if_neg (fun q => q h2)]
      by_cases h3 : g 59 0 (g 15 0 37 + 1) = b
      · rw [if_neg (fun q => q h3)]
        by_cases h4 : g 59 0 (g 15 0 37 + 2) = c
        · rw [if_neg (fun q => q h4), if_pos ⟨h1, h2, h3, h4⟩]
        · rw [if_pos h4, if_neg (fun q => h4 q.2.2.2)]
      · rw [if_pos h3, if_neg (fun q => h3 q.2.2.1)]
    · rw [if_pos h2, if_neg (fun q => h2 q.2.1)]
  · rw [if_pos h1, if_neg (fun q => h1 q.1)]
theorem fn13_5 {g : rHp} {a b c d e : Int} (hb : b ≠ 0) (hc : c ≠ 0) (hd : d ≠ 0) (he : e ≠ 0) : fn13 [a, b, c, d, e] g = (0, (if g 15 0 38 = 5 ∧ g 59 0 (g 15 0 37) = a ∧ g 59 0 (g 15 0 37 + 1) = b ∧ g 59 0 (g 15 0 37 + 2) = c ∧ g 59 0 (g 15 0 37 + 3) = d ∧ g 59 0 (g 15 0 37 + 4) = e then 1 else 0), g) := by
  unfold fn13
  simp only [zLet, List.getD_cons_zero, List.getD_cons_succ]
  rw [if_pos hb, if_pos hc, if_pos hd, if_pos he]
  by_cases h1 : g 15 0 38 = 5
  · rw [if_neg (fun q => q h1)]
    by_cases h2 : g 59 0 (g 15 0 37) = a
    · rw [if_neg (fun q => q h2)]
      by_cases h3 : g 59 0 (g 15 0 37 + 1) = b
      · rw [if_neg (fun q => q h3)]
        by_cases h4 : g 59 0 (g 15 0 37 + 2) = c
        · rw [if_neg (fun q => q h4)]
          by_cases h5 : g 59 0 (g 15 0 37 + 3) = d
          · rw [if_neg (fun q => q h5)]
            by_cases h6 : g 59 0 (g 15 0 37 + 4) = e
            · rw [if_neg (fun q => q h6), if_pos ⟨h1, h2, h3, h4, h5, h6⟩]
            · rw [if_pos h6, if_neg (fun q => h6 q.2.2.2.2.2)]
          · rw [if_pos h5, if_neg (fun q => h5 q.2.2.2.2.1)]
        · rw [if_pos h4, if_neg (fun q => h4 q.2.2.2.1)]
      · rw [if_pos h3, if_neg (fun q => h3 q.2.2.1)]
    · rw [if_pos h2, if_neg (fun q => h2 q.2.1)]
  · rw [if_pos h1, if_neg (fun q => h1 q.1)]
theorem cnt_W : qW pSm (tl5 [99, 111, 117, 110, 116]) 5 7109364 0 5 := tl5_W (k := 4) (by decide) ⟨by decide, fun j hj => by
  have : j = 0 ∨ j = 1 ∨ j = 2 ∨ j = 3 := by omega
  rcases this with rfl | rfl | rfl | rfl <;> decide⟩ (by decide)
theorem sum_W : qW pSm (tl5 [115, 117, 109]) 3 28247 0 3 := tl5_W (k := 2) (by decide) ⟨by decide, fun j hj => by
  have : j = 0 ∨ j = 1 := by omega
  rcases this with rfl | rfl <;> decide⟩ (by decide)
theorem min_W : qW pSm (tl5 [109, 105, 110]) 3 19128 0 3 := tl5_W (k := 2) (by decide) ⟨by decide, fun j hj => by
  have : j = 0 ∨ j = 1 := by omega
  rcases this with rfl | rfl <;> decide⟩ (by decide)
theorem max_W : qW pSm (tl5 [109, 97, 120]) 3 18834 0 3 := tl5_W (k := 2) (by decide) ⟨by decide, fun j hj => by
  have : j = 0 ∨ j = 1 := by omega
  rcases this with rfl | rfl <;> decide⟩ (by decide)
/-- the tally of a word -/
noncomputable def qTy (w : Int) : Int := if w = 7109364 then 1 else if w = 28247 then 2 else if w = 19128 then 3 else if w = 18834 then 4 else 0
theorem qTy_rg (w : Int) : 0 ≤ qTy w ∧ qTy w ≤ 4 := by
  unfold qTy
  repeat' split
  all_goals decide
theorem fn122_eq {w : Int} {g : rHp} : fn122 [w] g = (0, qTy w, g) := by
  unfold fn122 qTy
  simp only [zLet, List.getD_cons_zero]
  by_cases h1 : w = 7109364
  · rw [if_neg (fun q => q h1), if_pos h1]
  · rw [if_pos h1, if_neg h1]
    by_cases h2 : w = 28247
    · rw [if_neg (fun q => q h2), if_pos h2]
    · rw [if_pos h2, if_neg h2]
      by_cases h3 : w = 19128
      · rw [if_neg (fun q => q h3), if_pos h3]
      · rw [if_pos h3, if_neg h3]
        by_cases h4 : w = 18834
        · rw [if_neg (fun q => q h4), if_pos h4]
        · rw [if_pos h4, if_neg h4]
theorem bit_ge {P : Prop} [Decidable P] : (1 ≤ (if P then (1 : Int) else 0)) = P := by
  by_cases h : P
  · rw [if_pos h]; simp [h]
  · rw [if_neg h]; simp [h]
/-- the reference behind the # and its word -/
noncomputable def qTz (n1 : Int) (g : rHp) : zR :=
  if 0 ≤ -(fn7 [] g).2.2 15 0 35 + n1 + (-1) then
    (if pCa (pB ((fn7 [] g).2.2 59 0) ((fn7 [] g).2.2 15 0 34) ((fn7 [] g).2.2 15 0 35)) = true then
      (if 1 ≤ (fn17 [] (fn7 [] g).2.2).2.1 then (0, 1, rUp (rUp (qOw (rUp (fn17 [] (fn7 [] g).2.2).2.2 15 0 50 ((fn17 [] (fn7 [] g).2.2).2.2 15 0 39)) ((fn7 [] g).2.2 15 0 35) ((fn17 [] (fn7 [] g).2.2).2.2 15 0 39) 0) 15 0 40 3) 15 0 39 0) else (0, 0, (fn17 [] (fn7 [] g).2.2).2.2))
    else (0, 0, (fn8 [(fn7 [] g).2.2 15 0 35] (fn7 [] g).2.2).2.2))
  else (0, 0, (fn8 [(fn7 [] g).2.2 15 0 35] (fn7 [] g).2.2).2.2)
theorem fn26_eq {m M : rHp} {w : Int} (h49 : m 15 0 49 ≤ 0) (h23 : fn23 [] (rUp m 15 0 35 (m 15 0 35 + 1)) = (0, 1, M)) (hW : qW pSm (M 59 0) (M 15 0 34) w (M 15 0 37) (M 15 0 38)) :
    fn26 [] m = if qTy w = 1 then (0, 1, rUp (rUp (rUp M 15 0 49 1) 15 0 40 3) 15 0 39 0) else if qTy w = 0 then (0, 0, (fn8 [M 15 0 37] (rUp M 15 0 49 0)).2.2) else qTz (m 15 0 34) (rUp M 15 0 49 (qTy w)) := by
  have f25 : ∀ (g : rHp) p v t, (fn25 [p, v, t] g).2.2 = qOw g p v t := fun g p v t => rfl
  unfold fn26 qTz
  simp only [zLet, h23, fn13_5 (show (111 : Int) ≠ 0 by decide) (show (117 : Int) ≠ 0 by decide) (show (110 : Int) ≠ 0 by decide) (show (116 : Int) ≠ 0 by decide), fn13_3 (show (117 : Int) ≠ 0 by decide) (show (109 : Int) ≠ 0 by decide), fn13_3 (show (105 : Int) ≠ 0 by decide) (show (110 : Int) ≠ 0 by decide), fn13_3 (show (97 : Int) ≠ 0 by decide) (show (120 : Int) ≠ 0 by decide), bit_ge, ← wd5 hW cnt_W, ← wd3 hW sum_W, ← wd3 hW min_W, ← wd3 hW max_W, fn6_eq, fn10_eq, pBit_ge, f25]
  rw [if_pos h49, if_pos (show (1 : Int) ≤ 1 by decide)]
  unfold qTy
  by_cases h1 : w = 7109364
  · rw [if_pos h1, if_pos h1, if_pos rfl]
  · rw [if_neg h1, if_neg h1]
    by_cases h2 : w = 28247
    · rw [if_pos h2, if_pos h2, if_neg (show ¬ (2 : Int) = 1 by decide), if_neg (show ¬ (2 : Int) = 0 by decide)]
    · rw [if_neg h2, if_neg h2]
      by_cases h3 : w = 19128
      · rw [if_pos h3, if_pos h3, if_neg (show ¬ (3 : Int) = 1 by decide), if_neg (show ¬ (3 : Int) = 0 by decide)]
      · rw [if_neg h3, if_neg h3]
        by_cases h4 : w = 18834
        · rw [if_pos h4, if_pos h4, if_neg (show ¬ (4 : Int) = 1 by decide), if_neg (show ¬ (4 : Int) = 0 by decide)]
        · rw [if_neg h4, if_neg h4, if_neg (show ¬ (0 : Int) = 1 by decide), if_pos rfl]
theorem fn26_bad {m M : rHp} (h49 : m 15 0 49 ≤ 0) (h23 : fn23 [] (rUp m 15 0 35 (m 15 0 35 + 1)) = (0, 0, M)) : fn26 [] m = (0, 0, M) := by
  unfold fn26
  simp only [zLet, h23]
  rw [if_pos h49, if_neg (show ¬ (1 : Int) ≤ 0 by decide)]
theorem fn26_two {m : rHp} (h49 : 0 < m 15 0 49) : fn26 [] m = (0, 0, (fn8 [m 15 0 35] m).2.2) := by
  unfold fn26
  simp only [zLet]
  rw [if_neg (by omega)]
/-- a NAME that is wanted: by the reference -/
theorem fn23_is {m : rHp} {q : Int} (l2 : fn7 [] m = (0, 0, rUp m 15 0 35 q)) (hq : q ≤ m 15 0 34) : fn23 [] m = if q < m 15 0 34 ∧ pSm (m 59 0 q) = true then (if 1 ≤ (fn12 [] (rUp m 15 0 35 q)).2.1 then (0, 1, (fn12 [] (rUp m 15 0 35 q)).2.2) else (0, 0, (fn12 [] (rUp m 15 0 35 q)).2.2)) else (0, 0, rUp (rUp m 15 0 35 q) 15 0 36 q) := by
  have z59 : rUp m 15 0 35 q 59 = m 59 := rUp_grp (by decide)
  have z34 : rUp m 15 0 35 q 15 0 34 = m 15 0 34 := rUp_ne (by decide)
  have z35 : rUp m 15 0 35 q 15 0 35 = q := rUp_at
  unfold fn23
  simp only [zLet, l2, z35, fn6_eq, z59, z34, fn9_eq, pBit_ge, fn8_eq (show q ≤ rUp m 15 0 35 q 15 0 34 by rw [z34]; exact hq)]
  by_cases h : q < m 15 0 34
  · rw [if_pos (show (0 : Int) ≤ -q + m 15 0 34 + -1 by omega), pB_in h]
    by_cases hs : pSm (m 59 0 q) = true
    · rw [if_pos hs, if_pos (show q < m 15 0 34 ∧ pSm (m 59 0 q) = true from ⟨h, hs⟩)]
    · rw [if_neg hs, if_neg (show ¬ (q < m 15 0 34 ∧ pSm (m 59 0 q) = true) from fun z => hs z.2)]
  · rw [if_neg (show ¬ (0 : Int) ≤ -q + m 15 0 34 + -1 by omega), if_neg (show ¬ (q < m 15 0 34 ∧ pSm (m 59 0 q) = true) from fun z => h z.1)]
