/-! ===== a RULE's end by the reference ===== -/
theorem en44_in {g0 m : rHp} {k g : Int} (hk : k < 4) : en44 g0 (1, [k, g], m) = .inl (0, [g + 1], m) ∨ ∃ m', en44 g0 (1, [k, g], m) = .inl (1, [k + 1, g], m') ∧ fH 15 [75, 80] [] m m' := by
  unfold en44
  simp only [zLet, List.getD_cons_zero, List.getD_cons_succ]
  rw [if_neg (show ¬ (1 : Nat) = 0 by decide), if_pos trivial, if_neg (show ¬ k ≥ 4 by omega)]
  by_cases h1 : g0 77 0 g ≠ 1
  · rw [if_pos h1]; exact Or.inl rfl
  · rw [if_neg h1]
    by_cases h2 : k ≥ g0 66 0 (g0 78 0 g)
    · rw [if_pos h2]; exact Or.inr ⟨m, rfl, fH_refl⟩
    · rw [if_neg h2]
      by_cases h3 : m 80 0 (4 * g + k) ≠ 1
      · rw [if_pos h3]; exact Or.inr ⟨m, rfl, fH_refl⟩
      · rw [if_neg h3]
        by_cases h4 : zF2 .iand (zF2 .ishr (g0 79 0 g) (zF1 .l2i (g0 81 0 (4 * g + k)))) 1 ≠ 0
        · rw [if_pos h4]; exact Or.inr ⟨m, rfl, fH_refl⟩
        · rw [if_neg h4]; exact Or.inr ⟨_, rfl, fH_grp fH_refl (by decide) (by decide)⟩
theorem en44_4 {g0 m : rHp} {g : Int} : en44 g0 (1, [4, g], m) = .inl (0, [g + 1], m) := by
  unfold en44
  simp only [zLet, List.getD_cons_zero, List.getD_cons_succ]
  rw [if_neg (show ¬ (1 : Nat) = 0 by decide), if_pos trivial, if_pos (show (4 : Int) ≥ 4 by decide)]
theorem fn44_in {g0 : rHp} {g : Int} : ∀ (x : Nat) (k : Int) (m : rHp), k + x = 4 → ∃ m', zLoop (en44 g0) (1, [k, g], m) = zLoop (en44 g0) (0, [g + 1], m') ∧ fH 15 [75, 80] [] m m' := by
  intro x
  induction x with
  | zero =>
    intro k m hk
    have : k = 4 := by omega
    subst this
    exact ⟨m, zLoop_inl en44_4, fH_refl⟩
  | succ x ih =>
    intro k m hk
    rcases en44_in (g0 := g0) (m := m) (k := k) (g := g) (by omega) with h | ⟨m1, h1, h2⟩
    · exact ⟨m, zLoop_inl h, fH_refl⟩
    · obtain ⟨m', h3, h4⟩ := ih (k + 1) m1 (by omega)
      exact ⟨m', (zLoop_inl h1).trans h3, fH_trans h2 h4⟩
theorem fn44_all (m : rHp) : ∃ m', fn44 [] m = (0, 0, m') ∧ fH 15 [75, 80] [] m m' := by
  have f33 : ∀ g : rHp, (fn33 [] g).2.2 = g := fun g => rfl
  have st : ∀ g m1, en44 m (0, [g], m1) = if g ≥ m 73 0 (m 15 0 44) + 8 * m 15 0 44 then .inr (0, 0, m1) else .inl (1, [0, g], m1) := by
    intro g m1
    unfold en44
    simp only [zLet, List.getD_cons_zero, ↓reduceIte, f33]
  have key : ∀ (x : Nat) (g : Int) (m1 : rHp), (m 73 0 (m 15 0 44) + 8 * m 15 0 44 - g).toNat ≤ x → ∃ m', zLoop (en44 m) (0, [g], m1) = (0, 0, m') ∧ fH 15 [75, 80] [] m1 m' := by
    intro x
    induction x with
    | zero =>
      intro g m1 hg
      exact ⟨m1, zLoop_inr ((st g m1).trans (if_pos (by omega))), fH_refl⟩
    | succ x ih =>
      intro g m1 hg
      by_cases h : g ≥ m 73 0 (m 15 0 44) + 8 * m 15 0 44
      · exact ⟨m1, zLoop_inr ((st g m1).trans (if_pos h)), fH_refl⟩
      · obtain ⟨m2, h1, h2⟩ := fn44_in (g0 := m) (g := g) 4 0 m1 (by decide)
        obtain ⟨m', h3, h4⟩ := ih (g + 1) m2 (by omega)
        exact ⟨m', (zLoop_inl ((st g m1).trans (if_neg h))).trans (h1.trans h3), fH_trans h2 h4⟩
  obtain ⟨m', h1, h2⟩ := key _ (8 * m 15 0 44) (rUp m 75 0 (m 15 0 44) (m 15 0 45)) (Nat.le_refl _)
  exact ⟨m', h1, fH_trans (fH_grp fH_refl (by decide) (by decide)) h2⟩
/-- the HEAD is kept with its RULE -/
theorem hcopy_loop {mS : rHp} {a b i : Int} : ∀ (x : Nat) (n : Int) (m : rHp), n + x = i → m 15 0 48 = i → ∃ m', zLoop (en49 mS) (1, [n, a, b], m) = zLoop (en49 mS) (1, [i, a, b], m') ∧ fH 15 [70, 76] [] m m' := by
  intro x
  induction x with
  | zero =>
    intro n m hn h48
    have : n = i := by omega
    subst this
    exact ⟨m, rfl, fH_refl⟩
  | succ x ih =>
    intro n m hn h48
    have st : en49 mS (1, [n, a, b], m) = .inl (1, [n + 1, a, b], rUp (rUp m 70 0 (4 * m 15 0 44 + n) (m 85 0 n)) 76 0 (4 * m 15 0 44 + n) (m 87 0 n)) := by
      unfold en49
      simp only [zLet, List.getD_cons_zero, List.getD_cons_succ]
      rw [if_neg (show ¬ (1 : Nat) = 0 by decide), if_pos trivial, if_neg (show ¬ n ≥ m 15 0 48 by omega)]
    have f : fH 15 [70, 76] [] m (rUp (rUp m 70 0 (4 * m 15 0 44 + n) (m 85 0 n)) 76 0 (4 * m 15 0 44 + n) (m 87 0 n)) := fH_grp (fH_grp fH_refl (by decide) (by decide)) (by decide) (by decide)
    obtain ⟨m', h1, h2⟩ := ih (n + 1) _ (by omega) ((f.2 48 (by decide)).trans h48)
    exact ⟨m', (zLoop_inl st).trans h1, fH_trans f h2⟩
theorem en49_goals {mS m X : rHp} {a b i v : Int} (h48 : m 15 0 48 = i) (h : qFt (mS 15 0 34) (fn43 [] m) = (0, v, X)) : (v = 1 → en49 mS (1, [i, a, b], m) = .inr (0, 1, rUp (fn44 [] (rUp X 15 0 35 (X 15 0 35 + 1))).2.2 15 0 33 (mS 15 0 33 + 1))) ∧ (v = 0 → en49 mS (1, [i, a, b], m) = .inr (0, 0, X)) := by
  unfold qFt at h
  unfold en49
  simp only [zLet, List.getD_cons_zero, List.getD_cons_succ, fn6_eq]
  rw [if_neg (show ¬ (1 : Nat) = 0 by decide), if_pos trivial, if_pos (show i ≥ m 15 0 48 by omega)]
  by_cases b1 : 1 ≤ (fn43 [] m).2.1
  · rw [if_pos b1] at h ⊢
    by_cases b2 : 0 ≤ -(fn7 [] (fn43 [] m).2.2).2.2 15 0 35 + mS 15 0 34 + (-1)
    · rw [if_pos b2] at h ⊢
      by_cases b3 : pB ((fn7 [] (fn43 [] m).2.2).2.2 59 0) ((fn7 [] (fn43 [] m).2.2).2.2 15 0 34) ((fn7 [] (fn43 [] m).2.2).2.2 15 0 35) = 46
      · rw [if_pos b3] at h ⊢
        obtain ⟨m6, e1, e2, e3⟩ := fn30_all [] (fn7 [] (fn43 [] m).2.2).2.2
        rw [e1] at h ⊢
        simp only at h ⊢
        by_cases b4 : 1 ≤ (fn28 [] m6).2.1
        · rw [if_pos b4] at h ⊢
          have hv : (1 : Int) = v := congrArg (fun r => r.2.1) h
          have hX : (fn28 [] m6).2.2 = X := congrArg (fun r => r.2.2) h
          have h28 := fn28_eq [] m6
          have hX6 : (fn28 [] m6).2.2 = m6 := by
            by_cases b5 : m6 15 0 58 ≤ pIx (qPd m6) (m6 15 0 58) 0
            · rw [if_pos b5] at h28
              rw [h28]
            · rw [if_neg b5] at h28
              rw [h28] at b4
              exact absurd b4 (show ¬ (1 : Int) ≤ 0 by decide)
          have e35 : (fn7 [] (fn43 [] m).2.2).2.2 15 0 35 = X 15 0 35 := by
            rw [← hX, hX6, e3.2 35 (by decide)]
          rw [hX, e35]
          exact ⟨fun _ => rfl, fun z => by omega⟩
        · rw [if_neg b4] at h ⊢
          have hv : (0 : Int) = v := congrArg (fun r => r.2.1) h
          have hX : (fn28 [] m6).2.2 = X := congrArg (fun r => r.2.2) h
          rw [hX]
          exact ⟨fun z => by omega, fun _ => rfl⟩
      · rw [if_neg b3] at h ⊢
        have hv : (0 : Int) = v := congrArg (fun r => r.2.1) h
        have hX := congrArg (fun r => r.2.2) h
        simp only at hX
        rw [hX]
        exact ⟨fun z => by omega, fun _ => rfl⟩
    · rw [if_neg b2] at h ⊢
      have hv : (0 : Int) = v := congrArg (fun r => r.2.1) h
      have hX := congrArg (fun r => r.2.2) h
      simp only at hX
      rw [hX]
      exact ⟨fun z => by omega, fun _ => rfl⟩
  · rw [if_neg b1] at h ⊢
    have hv : (0 : Int) = v := congrArg (fun r => r.2.1) h
    have hX := congrArg (fun r => r.2.2) h
    simp only at hX
    rw [hX]
    exact ⟨fun z => by omega, fun _ => rfl⟩
/-- the class' CLAUSE -/
noncomputable def qC2 (h : Int) (X : zR) : zR :=
  if 0 ≤ X.2.1 then
    (if X.2.1 ≠ 46 then
      (if 1 ≤ (fn151 [h] X.2.2).2.1 then (if 1 ≤ (fn158 [] (fn151 [h] X.2.2).2.2).2.1 then (0, 1, (fn160 [] (fn158 [] (fn151 [h] X.2.2).2.2).2.2).2.2) else (0, 0, (fn158 [] (fn151 [h] X.2.2).2.2).2.2)) else (0, 0, (fn151 [h] X.2.2).2.2))
    else (if 1 ≤ (fn150 [h] X.2.2).2.1 then (0, 1, (fn150 [h] X.2.2).2.2) else (0, 0, (fn150 [h] X.2.2).2.2)))
  else (0, 0, (fn151 [h] X.2.2).2.2)
noncomputable def qC1 (h : Int) (c : rHp) : zR := if 1 ≤ (fn146 [] c).2.1 then qC2 h (fn114 [] (fn146 [] c).2.2) else (0, 0, (fn146 [] c).2.2)
/-- the reference's CLAUSE behind its HEAD and its PREDICATE P: g2 stands behind the HEAD -/
noncomputable def qD2 (mS g1 g2 : rHp) (P : Int) (fresh : Bool) : zSt :=
  if 0 ≤ -(fn7 [] g2).2.2 15 0 35 + mS 15 0 34 + (-1) then
    (if pB ((fn7 [] g2).2.2 59 0) ((fn7 [] g2).2.2 15 0 34) ((fn7 [] g2).2.2 15 0 35) ≠ 46 then
      (if pB ((fn7 [] g2).2.2 59 0) ((fn7 [] g2).2.2 15 0 34) ((fn7 [] g2).2.2 15 0 35) = 58 then
        (if 0 ≤ -(fn7 [] g2).2.2 15 0 35 + mS 15 0 34 + (-2) then
          (if pB ((fn7 [] g2).2.2 59 0) ((fn7 [] g2).2.2 15 0 34) ((fn7 [] g2).2.2 15 0 35 + 1) = 45 then
            (if mS 15 0 33 + mS 15 0 32 ≠ 60 then .inl (1, [0, g1 15 0 46, P], rUp (rUp (rUp (rUp (fn7 [] g2).2.2 15 0 35 ((fn7 [] g2).2.2 15 0 35 + 2)) 69 0 (g1 15 0 44) P) 71 0 (g1 15 0 44) (g1 15 0 49)) 72 0 (g1 15 0 44) (g1 15 0 50))
            else .inr (0, 0, (fn8 [g1 15 0 46] (rUp (fn7 [] g2).2.2 15 0 35 ((fn7 [] g2).2.2 15 0 35 + 2))).2.2))
          else .inr (0, 0, (fn8 [(fn7 [] g2).2.2 15 0 35 + 1] (fn7 [] g2).2.2).2.2))
        else .inr (0, 0, (fn8 [(fn7 [] g2).2.2 15 0 35 + 1] (fn7 [] g2).2.2).2.2))
      else .inr (0, 0, (fn8 [(fn7 [] g2).2.2 15 0 35] (fn7 [] g2).2.2).2.2))
    else
      (if 1 ≤ (fn31 [] (fn7 [] g2).2.2).2.1 then
        (if fresh = false ∧ 0 ≤ (fn45 [P, mS 15 0 18 + mS 15 0 17] (rUp (fn31 [] (fn7 [] g2).2.2).2.2 15 0 35 ((fn7 [] g2).2.2 15 0 35 + 1))).2.1 then .inr (0, 1, rUp (fn31 [] (fn7 [] g2).2.2).2.2 15 0 35 ((fn7 [] g2).2.2 15 0 35 + 1))
        else if mS 15 0 18 + mS 15 0 17 ≠ 400 then
          (let g8 := rUp (rUp (fn31 [] (fn7 [] g2).2.2).2.2 15 0 35 ((fn7 [] g2).2.2 15 0 35 + 1)) 67 0 (mS 15 0 18 + mS 15 0 17) P
           let F := 4 * mS 15 0 18 + 4 * mS 15 0 17
           let v := fun k : Int => if k < g1 15 0 48 then g1 87 0 k else 0
           .inr (0, 1, rUp (rUp (rUp (rUp (rUp g8 68 0 F (v 0)) 68 0 (F + 1) (v 1)) 68 0 (F + 2) (v 2)) 68 0 (F + 3) (v 3)) 15 0 18 (mS 15 0 18 + 1)))
        else .inr (0, 0, (fn8 [g1 15 0 46] (rUp (fn31 [] (fn7 [] g2).2.2).2.2 15 0 35 ((fn7 [] g2).2.2 15 0 35 + 1))).2.2))
      else .inr (0, 0, (fn31 [] (fn7 [] g2).2.2).2.2)))
  else .inr (0, 0, (fn8 [(fn7 [] g2).2.2 15 0 35] (fn7 [] g2).2.2).2.2)
theorem v4_if {n : Int} {v : Int → Int} {R : Int → Int → Int → Int → zSt} :
    (if 0 ≥ n then R 0 0 0 0 else if 1 ≥ n then R (v 0) 0 0 0 else if 2 ≥ n then R (v 0) (v 1) 0 0 else if 3 ≥ n then R (v 0) (v 1) (v 2) 0 else R (v 0) (v 1) (v 2) (v 3)) =
    R (if 0 < n then v 0 else 0) (if 1 < n then v 1 else 0) (if 2 < n then v 2 else 0) (if 3 < n then v 3 else 0) := by
  by_cases h0 : 0 ≥ n
  · rw [if_pos h0, if_neg (show ¬ 0 < n by omega), if_neg (show ¬ 1 < n by omega), if_neg (show ¬ 2 < n by omega), if_neg (show ¬ 3 < n by omega)]
  · rw [if_neg h0, if_pos (show 0 < n by omega)]
    by_cases h1 : 1 ≥ n
    · rw [if_pos h1, if_neg (show ¬ 1 < n by omega), if_neg (show ¬ 2 < n by omega), if_neg (show ¬ 3 < n by omega)]
    · rw [if_neg h1, if_pos (show 1 < n by omega)]
      by_cases h2 : 2 ≥ n
      · rw [if_pos h2, if_neg (show ¬ 2 < n by omega), if_neg (show ¬ 3 < n by omega)]
      · rw [if_neg h2, if_pos (show 2 < n by omega)]
        by_cases h3 : 3 ≥ n
        · rw [if_pos h3, if_neg (show ¬ 3 < n by omega)]
        · rw [if_neg h3, if_pos (show 3 < n by omega)]
theorem en49_old {mS m : rHp} {i P : Int} (h48 : m 15 0 48 = i) (h21 : fn21 [m 15 0 46, m 15 0 47, i] m = (0, P, m)) (hP : 0 ≤ P) : en49 mS (0, [i], m) = qD2 mS m m P false := by
  unfold en49 qD2
  simp only [zLet, List.getD_cons_zero, ↓reduceIte, fn6_eq, h48, h21]
  rw [if_pos (show i ≥ i from Int.le_refl _), if_pos (show P ≥ 0 from hP)]
  by_cases b1 : 0 ≤ -(fn7 [] m).2.2 15 0 35 + mS 15 0 34 + (-1)
  · rw [if_pos b1, if_pos b1]
    by_cases b2 : pB ((fn7 [] m).2.2 59 0) ((fn7 [] m).2.2 15 0 34) ((fn7 [] m).2.2 15 0 35) ≠ 46
    · rw [if_pos b2, if_pos b2]
    · rw [if_neg b2, if_neg b2]
      by_cases b3 : 1 ≤ (fn31 [] (fn7 [] m).2.2).2.1
      · rw [if_pos b3, if_pos b3]
        simp only [fn45_eq]
        generalize pFd (fun f => !qFp (rUp (fn31 [] (fn7 [] m).2.2).2.2 15 0 35 ((fn7 [] m).2.2 15 0 35 + 1)) P f) (mS 15 0 18 + mS 15 0 17) = F
        by_cases b4 : F < 0
        · rw [if_pos b4, if_neg (show ¬ (True ∧ 0 ≤ F) from fun z => by omega)]
          by_cases b5 : mS 15 0 18 + mS 15 0 17 ≠ 400
          · rw [if_pos b5, if_pos b5]
            exact v4_if (n := i) (v := fun k => m 87 0 k) (R := fun a b c d => .inr (0, 1, rUp (rUp (rUp (rUp (rUp (rUp (rUp (fn31 [] (fn7 [] m).2.2).2.2 15 0 35 ((fn7 [] m).2.2 15 0 35 + 1)) 67 0 (mS 15 0 18 + mS 15 0 17) P) 68 0 (4 * mS 15 0 18 + 4 * mS 15 0 17) a) 68 0 (4 * mS 15 0 18 + 4 * mS 15 0 17 + 1) b) 68 0 (4 * mS 15 0 18 + 4 * mS 15 0 17 + 2) c) 68 0 (4 * mS 15 0 18 + 4 * mS 15 0 17 + 3) d) 15 0 18 (mS 15 0 18 + 1)))
          · rw [if_neg b5, if_neg b5]
        · rw [if_neg b4, if_pos (show True ∧ 0 ≤ F from ⟨trivial, by omega⟩)]
      · rw [if_neg b3, if_neg b3]
  · rw [if_neg b1, if_neg b1]
theorem en49_new {mS m m2 : rHp} {i : Int} (h48 : m 15 0 48 = i) (h21 : fn21 [m 15 0 46, m 15 0 47, i] m = (0, -1, m)) (h20 : mS 15 0 14 ≠ 20) (h39 : fn39 [m 15 0 46, m 15 0 47, i] m = (0, mS 15 0 14, m2)) : en49 mS (0, [i], m) = qD2 mS m m2 (mS 15 0 14) true := by
  unfold en49 qD2
  simp only [zLet, List.getD_cons_zero, ↓reduceIte, fn6_eq, h48, h21, h39]
  rw [if_pos (show i ≥ i from Int.le_refl _), if_neg (show ¬ (-1 : Int) ≥ 0 by decide), if_pos h20]
  by_cases b1 : 0 ≤ -(fn7 [] m2).2.2 15 0 35 + mS 15 0 34 + (-1)
  · rw [if_pos b1, if_pos b1]
    by_cases b2 : pB ((fn7 [] m2).2.2 59 0) ((fn7 [] m2).2.2 15 0 34) ((fn7 [] m2).2.2 15 0 35) ≠ 46
    · rw [if_pos b2, if_pos b2]
    · rw [if_neg b2, if_neg b2]
      by_cases b3 : 1 ≤ (fn31 [] (fn7 [] m2).2.2).2.1
      · rw [if_pos b3, if_pos b3]
        simp only [fn46_one]
        rw [if_neg (show ¬ (true = false ∧ _) from fun z => absurd z.1 (by decide))]
        by_cases b5 : mS 15 0 18 + mS 15 0 17 ≠ 400
        · rw [if_pos b5, if_pos b5]
          exact v4_if (n := i) (v := fun k => m 87 0 k) (R := fun a b c d => .inr (0, 1, rUp (rUp (rUp (rUp (rUp (rUp (rUp (fn31 [] (fn7 [] m2).2.2).2.2 15 0 35 ((fn7 [] m2).2.2 15 0 35 + 1)) 67 0 (mS 15 0 18 + mS 15 0 17) (mS 15 0 14)) 68 0 (4 * mS 15 0 18 + 4 * mS 15 0 17) a) 68 0 (4 * mS 15 0 18 + 4 * mS 15 0 17 + 1) b) 68 0 (4 * mS 15 0 18 + 4 * mS 15 0 17 + 2) c) 68 0 (4 * mS 15 0 18 + 4 * mS 15 0 17 + 3) d) 15 0 18 (mS 15 0 18 + 1)))
        · rw [if_neg b5, if_neg b5]
      · rw [if_neg b3, if_neg b3]
  · rw [if_neg b1, if_neg b1]
theorem en49_full {mS m : rHp} {i : Int} (h48 : m 15 0 48 = i) (h21 : fn21 [m 15 0 46, m 15 0 47, i] m = (0, -1, m)) (h20 : mS 15 0 14 = 20) : en49 mS (0, [i], m) = .inr (0, 0, (fn8 [m 15 0 46] m).2.2) := by
  unfold en49
  simp only [zLet, List.getD_cons_zero, ↓reduceIte, fn6_eq, h48, h21]
  rw [if_pos (show i ≥ i from Int.le_refl _), if_neg (show ¬ (-1 : Int) ≥ 0 by decide), if_neg (fun z => z h20)]
