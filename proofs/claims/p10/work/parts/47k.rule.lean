/-! ===== a RULE's end by the reference ===== -/
/-- ARG k of GOAL g stands for anything -/
noncomputable def lo (g0 m : rHp) (g k : Int) : Prop := g0 77 0 g = 1 ∧ k < g0 66 0 (g0 78 0 g) ∧ m 80 0 (4 * g + k) = 1 ∧ zF2 .iand (zF2 .ishr (g0 79 0 g) (zF1 .l2i (g0 81 0 (4 * g + k)))) 1 = 0
theorem en44_in {g0 m : rHp} {k g : Int} (hk : k < 4) : (en44 g0 (1, [k, g], m) = .inl (0, [g + 1], m) ∧ g0 77 0 g ≠ 1) ∨ ∃ m_q, en44 g0 (1, [k, g], m) = .inl (1, [k + 1, g], m_q) ∧ fH 15 [80] [] m m_q ∧ (∀ x, x ≠ 4 * g + k → m_q 80 0 x = m 80 0 x) ∧ (lo g0 m g k → m_q 80 0 (4 * g + k) = 2) ∧ (¬ lo g0 m g k → m_q 80 0 (4 * g + k) = m 80 0 (4 * g + k)) := by
  unfold en44
  simp only [zLet, List.getD_cons_zero, List.getD_cons_succ]
  rw [if_neg (show ¬ (1 : Nat) = 0 by decide), if_pos trivial, if_neg (show ¬ k ≥ 4 by omega)]
  by_cases h1 : g0 77 0 g ≠ 1
  · rw [if_pos h1]; exact Or.inl ⟨rfl, h1⟩
  · rw [if_neg h1]
    by_cases h2 : k ≥ g0 66 0 (g0 78 0 g)
    · rw [if_pos h2]; exact Or.inr ⟨m, rfl, fH_refl, fun _ _ => rfl, fun z => by have := z.2.1; omega, fun _ => rfl⟩
    · rw [if_neg h2]
      by_cases h3 : m 80 0 (4 * g + k) ≠ 1
      · rw [if_pos h3]; exact Or.inr ⟨m, rfl, fH_refl, fun _ _ => rfl, fun z => absurd z.2.2.1 h3, fun _ => rfl⟩
      · rw [if_neg h3]
        by_cases h4 : zF2 .iand (zF2 .ishr (g0 79 0 g) (zF1 .l2i (g0 81 0 (4 * g + k)))) 1 ≠ 0
        · rw [if_pos h4]; exact Or.inr ⟨m, rfl, fH_refl, fun _ _ => rfl, fun z => absurd z.2.2.2 h4, fun _ => rfl⟩
        · rw [if_neg h4]
          refine Or.inr ⟨_, rfl, fH_grp fH_refl (by decide) (by decide), fun x z => rUp_ne (fun y => z y.2.2), fun _ => rUp_at, fun z => ?_⟩
          exact absurd (show lo g0 m g k from ⟨Decidable.of_not_not h1, by omega, Decidable.of_not_not h3, Decidable.of_not_not h4⟩) z
theorem en44_4 {g0 m : rHp} {g : Int} : en44 g0 (1, [4, g], m) = .inl (0, [g + 1], m) := by
  unfold en44
  simp only [zLet, List.getD_cons_zero, List.getD_cons_succ]
  rw [if_neg (show ¬ (1 : Nat) = 0 by decide), if_pos trivial, if_pos (show (4 : Int) ≥ 4 by decide)]
theorem fn44_in {g0 : rHp} {g : Int} : ∀ (x : Nat) (k : Int) (m : rHp), k + x = 4 → ∃ m_q, zLoop (en44 g0) (1, [k, g], m) = zLoop (en44 g0) (0, [g + 1], m_q) ∧ fH 15 [80] [] m m_q ∧ (∀ y, y < 4 * g + k ∨ 4 * g + 4 ≤ y → m_q 80 0 y = m 80 0 y) ∧ ∀ j, k ≤ j → j < 4 → (lo g0 m g j → m_q 80 0 (4 * g + j) = 2) ∧ (¬ lo g0 m g j → m_q 80 0 (4 * g + j) = m 80 0 (4 * g + j)) := by
  intro x
  induction x with
  | zero =>
    intro k m hk
    have : k = 4 := by omega
    subst this
    exact ⟨m, zLoop_inl en44_4, fH_refl, fun _ _ => rfl, fun j j0 j1 => by omega⟩
  | succ x ih =>
    intro k m hk
    rcases en44_in (g0 := g0) (m := m) (k := k) (g := g) (by omega) with ⟨h, hn⟩ | ⟨m1, h1, h2, h5, h6, h7⟩
    · exact ⟨m, zLoop_inl h, fH_refl, fun _ _ => rfl, fun j j0 j1 => ⟨fun z => absurd z.1 hn, fun _ => rfl⟩⟩
    · obtain ⟨m_q, h3, h4, h8, h9⟩ := ih (k + 1) m1 (by omega)
      refine ⟨m_q, (zLoop_inl h1).trans h3, fH_trans h2 h4, fun y z => by rw [h8 y (by omega), h5 y (by omega)], fun j j0 j1 => ?_⟩
      by_cases e : j = k
      · subst e
        rw [h8 _ (by omega)]
        exact ⟨h6, h7⟩
      · have ej := h5 (4 * g + j) (by omega)
        obtain ⟨w1, w2⟩ := h9 j (by omega) j1
        unfold lo at w1 w2 ⊢
        rw [ej] at w1 w2
        exact ⟨w1, w2⟩
/-- loosen: what a ! binds to nothing stands for anything -/
theorem fn44_lo (m : rHp) : ∃ m_q, fn44 [] m = (0, 0, m_q) ∧ fH 15 [75, 80] [] m m_q ∧ (∀ x, x ≠ m 15 0 44 → m_q 75 0 x = m 75 0 x) ∧ (∀ y, y < 32 * m 15 0 44 → m_q 80 0 y = m 80 0 y) ∧ ∀ g j, 8 * m 15 0 44 ≤ g → g < m 73 0 (m 15 0 44) + 8 * m 15 0 44 → 0 ≤ j → j < 4 → (lo m m g j → m_q 80 0 (4 * g + j) = 2) ∧ (¬ lo m m g j → m_q 80 0 (4 * g + j) = m 80 0 (4 * g + j)) := by
  have f33 : ∀ g : rHp, (fn33 [] g).2.2 = g := fun g => rfl
  have st : ∀ g m1, en44 m (0, [g], m1) = if g ≥ m 73 0 (m 15 0 44) + 8 * m 15 0 44 then .inr (0, 0, m1) else .inl (1, [0, g], m1) := by
    intro g m1
    unfold en44
    simp only [zLet, List.getD_cons_zero, ↓reduceIte, f33]
  generalize hN : m 73 0 (m 15 0 44) + 8 * m 15 0 44 = N at *
  have key : ∀ (x : Nat) (g : Int) (m1 : rHp), (N - g).toNat ≤ x → ∃ m_q, zLoop (en44 m) (0, [g], m1) = (0, 0, m_q) ∧ fH 15 [80] [] m1 m_q ∧ (∀ y, y < 4 * g → m_q 80 0 y = m1 80 0 y) ∧ ∀ g_q j, g ≤ g_q → g_q < N → 0 ≤ j → j < 4 → (lo m m1 g_q j → m_q 80 0 (4 * g_q + j) = 2) ∧ (¬ lo m m1 g_q j → m_q 80 0 (4 * g_q + j) = m1 80 0 (4 * g_q + j)) := by
    intro x
    induction x with
    | zero =>
      intro g m1 hg
      exact ⟨m1, zLoop_inr ((st g m1).trans (if_pos (by omega))), fH_refl, fun _ _ => rfl, fun g_q j a b => by omega⟩
    | succ x ih =>
      intro g m1 hg
      by_cases h : g ≥ N
      · exact ⟨m1, zLoop_inr ((st g m1).trans (if_pos h)), fH_refl, fun _ _ => rfl, fun g_q j a b => by omega⟩
      · obtain ⟨m2, h1, h2, h5, h6⟩ := fn44_in (g0 := m) (g := g) 4 0 m1 (by decide)
        obtain ⟨m_q, h3, h4, h7, h8⟩ := ih (g + 1) m2 (by omega)
        refine ⟨m_q, (zLoop_inl ((st g m1).trans (if_neg h))).trans (h1.trans h3), fH_trans h2 h4, fun y z => by rw [h7 y (by omega), h5 y (by omega)], fun g_q j a b j0 j1 => ?_⟩
        by_cases e : g_q = g
        · subst e
          rw [h7 _ (by omega)]
          exact h6 j j0 j1
        · have ej := h5 (4 * g_q + j) (by omega)
          obtain ⟨w1, w2⟩ := h8 g_q j (by omega) b j0 j1
          unfold lo at w1 w2 ⊢
          rw [ej] at w1 w2
          exact ⟨w1, w2⟩
  have f0 : fH 15 [75] [] m (rUp m 75 0 (m 15 0 44) (m 15 0 45)) := fH_grp fH_refl (by decide) (by decide)
  have e80 : rUp m 75 0 (m 15 0 44) (m 15 0 45) 80 = m 80 := rUp_grp (by decide)
  obtain ⟨m_q, h1, h2, h3, h4⟩ := key _ (8 * m 15 0 44) (rUp m 75 0 (m 15 0 44) (m 15 0 45)) (Nat.le_refl _)
  unfold lo at h4
  rw [e80] at h3 h4
  exact ⟨m_q, h1, fH_trans (fH_sub f0 (by decide) (by decide)) (fH_sub h2 (by decide) (by decide)), fun x z => by rw [h2.1 75 (by decide) (by decide), rUp_ne (fun y => z y.2.2)], fun y z => h3 y (by omega), h4⟩
theorem fn44_all (m : rHp) : ∃ m_q, fn44 [] m = (0, 0, m_q) ∧ fH 15 [75, 80] [] m m_q := by
  obtain ⟨m_q, h1, h2, _⟩ := fn44_lo m
  exact ⟨m_q, h1, h2⟩
/-- a GOAL behind loosen -/
theorem gGo_lo {E : Prop} {kn kn_q G q : Int} {c m m_q : rHp} (h : gGo E kn kn_q G q c m) (hk : qKr kn) (fm : fH 15 [75, 80] [] m m_q) (hl : ∀ j, 0 ≤ j → j < 4 → (lo m m q j → m_q 80 0 (4 * q + j) = 2) ∧ (¬ lo m m q j → m_q 80 0 (4 * q + j) = m 80 0 (4 * q + j))) : gGo E kn kn_q G q c m_q ∧ gLo kn G q c m_q := by
  have e77 : m_q 77 = m 77 := fm.1 77 (by decide) (by decide)
  have e78 : m_q 78 = m 78 := fm.1 78 (by decide) (by decide)
  have e79 : m_q 79 = m 79 := fm.1 79 (by decide) (by decide)
  have e81 : m_q 81 = m 81 := fm.1 81 (by decide) (by decide)
  have e66 : m_q 66 = m 66 := fm.1 66 (by decide) (by decide)
  have e14 : m_q 15 0 14 = m 15 0 14 := fm.2 14 (by decide)
  by_cases z : m 77 0 q = 1
  · obtain ⟨k1, k2⟩ := h
    rcases k2 with ⟨k2, a1, a2, a3, a4, a5, a6, a7, ⟨a8, a9, a10, a11⟩, a12⟩ | ⟨a, _⟩ | ⟨a, _⟩
    · have kd : c 10 G 4 = 2 := by omega
      have bit : ∀ v, qVr v → (zF2 .iand (zF2 .ishr (m 79 0 q) (zF1 .l2i v)) 1 = qBt kn v) := fun v hv => by
        rw [l2i_slot hv, a2]
        rfl
      refine ⟨⟨by rw [e79]; exact k1, Or.inl ⟨k2, ?_⟩⟩, fun _ j j0 j1 j2 => ?_⟩
      · unfold qEc
        rw [e77, e78, e79, e66, e14]
        refine ⟨a1, a2, a3, a4, a5, a6, a7, ⟨fun j j0 j1 => ?_, a9, fun w => by omega, a11⟩, a12⟩
        obtain ⟨l1, l2⟩ := hl j j0 (by omega)
        rw [Int.add_comm (4 * q) j] at l1 l2
        have o := a8 j j0 j1
        unfold qAo at o ⊢
        rw [e81]
        by_cases b : lo m m q j
        · rw [l1 b]
          have b3 := b.2.2.1
          have b4 := b.2.2.2
          rw [Int.add_comm (4 * q) j] at b3 b4
          rcases o with o | ⟨o1, o2, o3⟩ | o
          · omega
          · rw [bit _ o2] at b4
            rcases o3 with o3 | o3 | o3 | o3
            · omega
            · omega
            · omega
            · exact Or.inr (Or.inr ⟨o3.2.1, rfl⟩)
          · omega
        · rw [l2 b]
          rcases o with o | ⟨o1, o2, o3⟩ | o
          · exact Or.inl o
          · refine Or.inr (Or.inl ⟨o1, o2, ?_⟩)
            rcases o3 with o3 | o3 | o3 | o3
            · exact Or.inl o3
            · omega
            · omega
            · exact Or.inr (Or.inr (Or.inr o3))
          · exact Or.inr (Or.inr o)
      · obtain ⟨l1, l2⟩ := hl j j0 (by omega)
        rw [Int.add_comm (4 * q) j] at l1 l2
        rw [e81]
        by_cases b : lo m m q j
        · rw [l1 b] at j2
          exact absurd j2 (by decide)
        · rw [l2 b] at j2
          have o := a8 j j0 j1
          unfold qAo at o
          have hv : qVr (m 81 0 (j + 4 * q)) := by
            rcases o with o | o | o
            · omega
            · exact o.2.1
            · omega
          rcases (qSt_all hk hv).2.2.2 with w | w
          · exact absurd (show lo m m q j from ⟨z, by rw [← a6]; exact j1, by rw [Int.add_comm (4 * q) j]; exact j2, by rw [Int.add_comm (4 * q) j, bit _ hv]; exact w⟩) b
          · exact w
    · have := a.2.1
      omega
    · have := a.2.1
      omega
  · refine ⟨gGo_to h (fun _ _ => rfl) (fun _ _ => rfl) (fun K w => by rw [fm.1 K (by rcases w with rfl | rfl | rfl <;> decide) (by omega)]) (fun K j w j0 j1 => ?_) (by rw [e14]; exact Int.le_refl _) (fun p _ => by rw [e66]), fun w => by rw [e77] at w; exact absurd w z⟩
    rcases w with rfl | rfl
    · have := (hl j j0 j1).2 (fun b => z b.1)
      rw [Int.add_comm (4 * q) j] at this
      exact this
    · rw [e81]
/-- the HEAD is kept with its RULE -/
theorem hcopy_loop {mS : rHp} {a b i : Int} : ∀ (x : Nat) (n : Int) (m : rHp), n + x = i → m 15 0 48 = i → ∃ m_q, zLoop (en49 mS) (1, [n, a, b], m) = zLoop (en49 mS) (1, [i, a, b], m_q) ∧ fH 15 [70, 76] [] m m_q ∧ (∀ (K : Nat) (y : Int), K = 70 ∨ K = 76 → y < 4 * m 15 0 44 + n → m_q K 0 y = m K 0 y) ∧ ∀ k, n ≤ k → k < i → m_q 70 0 (4 * m 15 0 44 + k) = m 85 0 k ∧ m_q 76 0 (4 * m 15 0 44 + k) = m 87 0 k := by
  intro x
  induction x with
  | zero =>
    intro n m hn h48
    have : n = i := by omega
    subst this
    exact ⟨m, rfl, fH_refl, fun _ _ _ _ => rfl, fun k k0 k1 => by omega⟩
  | succ x ih =>
    intro n m hn h48
    have st : en49 mS (1, [n, a, b], m) = .inl (1, [n + 1, a, b], rUp (rUp m 70 0 (4 * m 15 0 44 + n) (m 85 0 n)) 76 0 (4 * m 15 0 44 + n) (m 87 0 n)) := by
      unfold en49
      simp only [zLet, List.getD_cons_zero, List.getD_cons_succ]
      rw [if_neg (show ¬ (1 : Nat) = 0 by decide), if_pos trivial, if_neg (show ¬ n ≥ m 15 0 48 by omega)]
    have f : fH 15 [70, 76] [] m (rUp (rUp m 70 0 (4 * m 15 0 44 + n) (m 85 0 n)) 76 0 (4 * m 15 0 44 + n) (m 87 0 n)) := fH_grp (fH_grp fH_refl (by decide) (by decide)) (by decide) (by decide)
    have n70 : rUp (rUp m 70 0 (4 * m 15 0 44 + n) (m 85 0 n)) 76 0 (4 * m 15 0 44 + n) (m 87 0 n) 70 0 (4 * m 15 0 44 + n) = m 85 0 n := by rw [rUp_grp (by decide), rUp_at]
    have n76 : rUp (rUp m 70 0 (4 * m 15 0 44 + n) (m 85 0 n)) 76 0 (4 * m 15 0 44 + n) (m 87 0 n) 76 0 (4 * m 15 0 44 + n) = m 87 0 n := rUp_at
    have ol : ∀ (K : Nat) (y : Int), K = 70 ∨ K = 76 → y < 4 * m 15 0 44 + n → rUp (rUp m 70 0 (4 * m 15 0 44 + n) (m 85 0 n)) 76 0 (4 * m 15 0 44 + n) (m 87 0 n) K 0 y = m K 0 y := fun K y z y1 => by rw [rUp_ne (fun w => by have := w.2.2; omega), rUp_ne (fun w => by have := w.2.2; omega)]
    obtain ⟨m_q, h1, h2, h3, h4⟩ := ih (n + 1) _ (by omega) ((f.2 48 (by decide)).trans h48)
    rw [f.2 44 (by decide)] at h3 h4
    refine ⟨m_q, (zLoop_inl st).trans h1, fH_trans f h2, fun K y z y1 => by rw [h3 K y z (by omega), ol K y z y1], fun k k0 k1 => ?_⟩
    by_cases e : k = n
    · subst e
      rw [h3 70 _ (by decide) (by omega), h3 76 _ (by decide) (by omega)]
      exact ⟨n70, n76⟩
    · have := h4 k (by omega) k1
      rw [f.1 85 (by decide) (by decide), f.1 87 (by decide) (by decide)] at this
      exact this
theorem en49_goals {mS m X : rHp} {a b i v : Int} (h48 : m 15 0 48 = i) (h : qFt (mS 15 0 34) (fn43 [] m) = (0, v, X)) : (v = 1 → en49 mS (1, [i, a, b], m) = .inr (0, 1, rUp (fn44 [] (rUp X 15 0 35 (X 15 0 35 + 1))).2.2 15 0 33 (mS 15 0 33 + 1))) ∧ (v = 0 → en49 mS (1, [i, a, b], m) = .inr (0, 0, X)) := by
  unfold qFt at h
  unfold en49
  simp only [zLet, List.getD_cons_zero, List.getD_cons_succ, fn6_eq]
  rw [if_neg (show ¬ (1 : Nat) = 0 by decide), if_pos trivial, if_pos (show i ≥ m 15 0 48 by omega)]
  by_cases b1 : 1 ≤ (fn43 [] m).2.1
  · rw [if_pos b1] at h ⊢
    by_cases b2 : 0 ≤ -(fn7 [] (fn43 [] m).2.2).2.2 15 0 35 + mS 15 0 34 + (-1)
    · rw [if_pos b2] at h ⊢
      by_cases b3 : pB ((fn7 [] (fn43 [] m).2.2).2.2 59 0) ((fn7 [] (fn43 [] m).2.2).2.2 15 0 34) ((fn7 [] (fn43 [] m).2.2).2.2 15 0 35) = 46
      · rw [if_pos b3] at h ⊢
        obtain ⟨m6, e1, e2, e3⟩ := fn30_all [] (fn7 [] (fn43 [] m).2.2).2.2
        rw [e1] at h ⊢
        simp only at h ⊢
        by_cases b4 : 1 ≤ (fn28 [] m6).2.1
        · rw [if_pos b4] at h ⊢
          have hv : (1 : Int) = v := congrArg (fun r => r.2.1) h
          have hX : (fn28 [] m6).2.2 = X := congrArg (fun r => r.2.2) h
          have h28 := fn28_eq [] m6
          have hX6 : (fn28 [] m6).2.2 = m6 := by
            by_cases b5 : m6 15 0 58 ≤ pIx (qPd m6) (m6 15 0 58) 0
            · rw [if_pos b5] at h28
              rw [h28]
            · rw [if_neg b5] at h28
              rw [h28] at b4
              exact absurd b4 (show ¬ (1 : Int) ≤ 0 by decide)
          have e35 : (fn7 [] (fn43 [] m).2.2).2.2 15 0 35 = X 15 0 35 := by
            rw [← hX, hX6, e3.2 35 (by decide)]
          rw [hX, e35]
          exact ⟨fun _ => rfl, fun z => by omega⟩
        · rw [if_neg b4] at h ⊢
          have hv : (0 : Int) = v := congrArg (fun r => r.2.1) h
          have hX : (fn28 [] m6).2.2 = X := congrArg (fun r => r.2.2) h
          rw [hX]
          exact ⟨fun z => by omega, fun _ => rfl⟩
      · rw [if_neg b3] at h ⊢
        have hv : (0 : Int) = v := congrArg (fun r => r.2.1) h
        have hX := congrArg (fun r => r.2.2) h
        simp only at hX
        rw [hX]
        exact ⟨fun z => by omega, fun _ => rfl⟩
    · rw [if_neg b2] at h ⊢
      have hv : (0 : Int) = v := congrArg (fun r => r.2.1) h
      have hX := congrArg (fun r => r.2.2) h
      simp only at hX
      rw [hX]
      exact ⟨fun z => by omega, fun _ => rfl⟩
  · rw [if_neg b1] at h ⊢
    have hv : (0 : Int) = v := congrArg (fun r => r.2.1) h
    have hX := congrArg (fun r => r.2.2) h
    simp only at hX
    rw [hX]
    exact ⟨fun z => by omega, fun _ => rfl⟩
/-- the class_q CLAUSE -/
noncomputable def qC2 (h : Int) (X : zR) : zR :=
  if 0 ≤ X.2.1 then
    (if X.2.1 ≠ 46 then
      (if 1 ≤ (fn151 [h] X.2.2).2.1 then (if 1 ≤ (fn158 [] (fn151 [h] X.2.2).2.2).2.1 then (0, 1, (fn160 [] (fn158 [] (fn151 [h] X.2.2).2.2).2.2).2.2) else (0, 0, (fn158 [] (fn151 [h] X.2.2).2.2).2.2)) else (0, 0, (fn151 [h] X.2.2).2.2))
    else (if 1 ≤ (fn150 [h] X.2.2).2.1 then (0, 1, (fn150 [h] X.2.2).2.2) else (0, 0, (fn150 [h] X.2.2).2.2)))
  else (0, 0, (fn151 [h] X.2.2).2.2)
noncomputable def qC1 (h : Int) (c : rHp) : zR := if 1 ≤ (fn146 [] c).2.1 then qC2 h (fn114 [] (fn146 [] c).2.2) else (0, 0, (fn146 [] c).2.2)
/-- the reference's CLAUSE behind its HEAD and its PREDICATE P: g2 stands behind the HEAD -/
noncomputable def qD2 (mS g1 g2 : rHp) (P : Int) (fresh : Bool) : zSt :=
  if 0 ≤ -(fn7 [] g2).2.2 15 0 35 + mS 15 0 34 + (-1) then
    (if pB ((fn7 [] g2).2.2 59 0) ((fn7 [] g2).2.2 15 0 34) ((fn7 [] g2).2.2 15 0 35) ≠ 46 then
      (if pB ((fn7 [] g2).2.2 59 0) ((fn7 [] g2).2.2 15 0 34) ((fn7 [] g2).2.2 15 0 35) = 58 then
        (if 0 ≤ -(fn7 [] g2).2.2 15 0 35 + mS 15 0 34 + (-2) then
          (if pB ((fn7 [] g2).2.2 59 0) ((fn7 [] g2).2.2 15 0 34) ((fn7 [] g2).2.2 15 0 35 + 1) = 45 then
            (if mS 15 0 33 + mS 15 0 32 ≠ 60 then .inl (1, [0, g1 15 0 46, P], rUp (rUp (rUp (rUp (fn7 [] g2).2.2 15 0 35 ((fn7 [] g2).2.2 15 0 35 + 2)) 69 0 (g1 15 0 44) P) 71 0 (g1 15 0 44) (g1 15 0 49)) 72 0 (g1 15 0 44) (g1 15 0 50))
            else .inr (0, 0, (fn8 [g1 15 0 46] (rUp (fn7 [] g2).2.2 15 0 35 ((fn7 [] g2).2.2 15 0 35 + 2))).2.2))
          else .inr (0, 0, (fn8 [(fn7 [] g2).2.2 15 0 35 + 1] (fn7 [] g2).2.2).2.2))
        else .inr (0, 0, (fn8 [(fn7 [] g2).2.2 15 0 35 + 1] (fn7 [] g2).2.2).2.2))
      else .inr (0, 0, (fn8 [(fn7 [] g2).2.2 15 0 35] (fn7 [] g2).2.2).2.2))
    else
      (if 1 ≤ (fn31 [] (fn7 [] g2).2.2).2.1 then
        (if fresh = false ∧ 0 ≤ (fn45 [P, mS 15 0 18 + mS 15 0 17] (rUp (fn31 [] (fn7 [] g2).2.2).2.2 15 0 35 ((fn7 [] g2).2.2 15 0 35 + 1))).2.1 then .inr (0, 1, rUp (fn31 [] (fn7 [] g2).2.2).2.2 15 0 35 ((fn7 [] g2).2.2 15 0 35 + 1))
        else if mS 15 0 18 + mS 15 0 17 ≠ 400 then
          (let g8 := rUp (rUp (fn31 [] (fn7 [] g2).2.2).2.2 15 0 35 ((fn7 [] g2).2.2 15 0 35 + 1)) 67 0 (mS 15 0 18 + mS 15 0 17) P
           let F := 4 * mS 15 0 18 + 4 * mS 15 0 17
           let v := fun k : Int => if k < g1 15 0 48 then g1 87 0 k else 0
           .inr (0, 1, rUp (rUp (rUp (rUp (rUp g8 68 0 F (v 0)) 68 0 (F + 1) (v 1)) 68 0 (F + 2) (v 2)) 68 0 (F + 3) (v 3)) 15 0 18 (mS 15 0 18 + 1)))
        else .inr (0, 0, (fn8 [g1 15 0 46] (rUp (fn31 [] (fn7 [] g2).2.2).2.2 15 0 35 ((fn7 [] g2).2.2 15 0 35 + 1))).2.2))
      else .inr (0, 0, (fn31 [] (fn7 [] g2).2.2).2.2)))
  else .inr (0, 0, (fn8 [(fn7 [] g2).2.2 15 0 35] (fn7 [] g2).2.2).2.2)
theorem v4_if {n : Int} {v : Int → Int} {R : Int → Int → Int → Int → zSt} :
    (if 0 ≥ n then R 0 0 0 0 else if 1 ≥ n then R (v 0) 0 0 0 else if 2 ≥ n then R (v 0) (v 1) 0 0 else if 3 ≥ n then R (v 0) (v 1) (v 2) 0 else R (v 0) (v 1) (v 2) (v 3)) =
    R (if 0 < n then v 0 else 0) (if 1 < n then v 1 else 0) (if 2 < n then v 2 else 0) (if 3 < n then v 3 else 0) := by
  by_cases h0 : 0 ≥ n
  · rw [if_pos h0, if_neg (show ¬ 0 < n by omega), if_neg (show ¬ 1 < n by omega), if_neg (show ¬ 2 < n by omega), if_neg (show ¬ 3 < n by omega)]
  · rw [if_neg h0, if_pos (show 0 < n by omega)]
    by_cases h1 : 1 ≥ n
    · rw [if_pos h1, if_neg (show ¬ 1 < n by omega), if_neg (show ¬ 2 < n by omega), if_neg (show ¬ 3 < n by omega)]
    · rw [if_neg h1, if_pos (show 1 < n by omega)]
      by_cases h2 : 2 ≥ n
      · rw [if_pos h2, if_neg (show ¬ 2 < n by omega), if_neg (show ¬ 3 < n by omega)]
      · rw [if_neg h2, if_pos (show 2 < n by omega)]
        by_cases h3 : 3 ≥ n
        · rw [if_pos h3, if_neg (show ¬ 3 < n by omega)]
        · rw [if_neg h3, if_pos (show 3 < n by omega)]
theorem en49_old {mS m : rHp} {i P : Int} (h48 : m 15 0 48 = i) (h21 : fn21 [m 15 0 46, m 15 0 47, i] m = (0, P, m)) (hP : 0 ≤ P) : en49 mS (0, [i], m) = qD2 mS m m P false := by
  unfold en49 qD2
  simp only [zLet, List.getD_cons_zero, ↓reduceIte, fn6_eq, h48, h21]
  rw [if_pos (show i ≥ i from Int.le_refl _), if_pos (show P ≥ 0 from hP)]
  by_cases b1 : 0 ≤ -(fn7 [] m).2.2 15 0 35 + mS 15 0 34 + (-1)
  · rw [if_pos b1, if_pos b1]
    by_cases b2 : pB ((fn7 [] m).2.2 59 0) ((fn7 [] m).2.2 15 0 34) ((fn7 [] m).2.2 15 0 35) ≠ 46
    · rw [if_pos b2, if_pos b2]
    · rw [if_neg b2, if_neg b2]
      by_cases b3 : 1 ≤ (fn31 [] (fn7 [] m).2.2).2.1
      · rw [if_pos b3, if_pos b3]
        simp only [fn45_eq]
        generalize pFd (fun f => !qFp (rUp (fn31 [] (fn7 [] m).2.2).2.2 15 0 35 ((fn7 [] m).2.2 15 0 35 + 1)) P f) (mS 15 0 18 + mS 15 0 17) = F
        by_cases b4 : F < 0
        · rw [if_pos b4, if_neg (show ¬ (True ∧ 0 ≤ F) from fun z => by omega)]
          by_cases b5 : mS 15 0 18 + mS 15 0 17 ≠ 400
          · rw [if_pos b5, if_pos b5]
            exact v4_if (n := i) (v := fun k => m 87 0 k) (R := fun a b c d => .inr (0, 1, rUp (rUp (rUp (rUp (rUp (rUp (rUp (fn31 [] (fn7 [] m).2.2).2.2 15 0 35 ((fn7 [] m).2.2 15 0 35 + 1)) 67 0 (mS 15 0 18 + mS 15 0 17) P) 68 0 (4 * mS 15 0 18 + 4 * mS 15 0 17) a) 68 0 (4 * mS 15 0 18 + 4 * mS 15 0 17 + 1) b) 68 0 (4 * mS 15 0 18 + 4 * mS 15 0 17 + 2) c) 68 0 (4 * mS 15 0 18 + 4 * mS 15 0 17 + 3) d) 15 0 18 (mS 15 0 18 + 1)))
          · rw [if_neg b5, if_neg b5]
        · rw [if_neg b4, if_pos (show True ∧ 0 ≤ F from ⟨trivial, by omega⟩)]
      · rw [if_neg b3, if_neg b3]
  · rw [if_neg b1, if_neg b1]
theorem en49_new {mS m m2 : rHp} {i : Int} (h48 : m 15 0 48 = i) (h21 : fn21 [m 15 0 46, m 15 0 47, i] m = (0, -1, m)) (h20 : mS 15 0 14 ≠ 20) (h39 : fn39 [m 15 0 46, m 15 0 47, i] m = (0, mS 15 0 14, m2)) : en49 mS (0, [i], m) = qD2 mS m m2 (mS 15 0 14) true := by
  unfold en49 qD2
  simp only [zLet, List.getD_cons_zero, ↓reduceIte, fn6_eq, h48, h21, h39]
  rw [if_pos (show i ≥ i from Int.le_refl _), if_neg (show ¬ (-1 : Int) ≥ 0 by decide), if_pos h20]
  by_cases b1 : 0 ≤ -(fn7 [] m2).2.2 15 0 35 + mS 15 0 34 + (-1)
  · rw [if_pos b1, if_pos b1]
    by_cases b2 : pB ((fn7 [] m2).2.2 59 0) ((fn7 [] m2).2.2 15 0 34) ((fn7 [] m2).2.2 15 0 35) ≠ 46
    · rw [if_pos b2, if_pos b2]
    · rw [if_neg b2, if_neg b2]
      by_cases b3 : 1 ≤ (fn31 [] (fn7 [] m2).2.2).2.1
      · rw [if_pos b3, if_pos b3]
        simp only [fn46_one]
        rw [if_neg (show ¬ (true = false ∧ _) from fun z => absurd z.1 (by decide))]
        by_cases b5 : mS 15 0 18 + mS 15 0 17 ≠ 400
        · rw [if_pos b5, if_pos b5]
          exact v4_if (n := i) (v := fun k => m 87 0 k) (R := fun a b c d => .inr (0, 1, rUp (rUp (rUp (rUp (rUp (rUp (rUp (fn31 [] (fn7 [] m2).2.2).2.2 15 0 35 ((fn7 [] m2).2.2 15 0 35 + 1)) 67 0 (mS 15 0 18 + mS 15 0 17) (mS 15 0 14)) 68 0 (4 * mS 15 0 18 + 4 * mS 15 0 17) a) 68 0 (4 * mS 15 0 18 + 4 * mS 15 0 17 + 1) b) 68 0 (4 * mS 15 0 18 + 4 * mS 15 0 17 + 2) c) 68 0 (4 * mS 15 0 18 + 4 * mS 15 0 17 + 3) d) 15 0 18 (mS 15 0 18 + 1)))
        · rw [if_neg b5, if_neg b5]
      · rw [if_neg b3, if_neg b3]
  · rw [if_neg b1, if_neg b1]
theorem en49_full {mS m : rHp} {i : Int} (h48 : m 15 0 48 = i) (h21 : fn21 [m 15 0 46, m 15 0 47, i] m = (0, -1, m)) (h20 : mS 15 0 14 = 20) : en49 mS (0, [i], m) = .inr (0, 0, (fn8 [m 15 0 46] m).2.2) := by
  unfold en49
  simp only [zLet, List.getD_cons_zero, ↓reduceIte, fn6_eq, h48, h21]
  rw [if_pos (show i ≥ i from Int.le_refl _), if_neg (show ¬ (-1 : Int) ≥ 0 by decide), if_neg (fun z => z h20)]
