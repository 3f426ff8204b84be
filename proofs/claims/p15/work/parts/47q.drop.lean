/-! ===== drop by both ===== -/
theorem Rel_ru {B : Int} {c m c_q m_q : rHp} (h : Rel B c m) (h3 : c_q 3 = c 3) (h26 : c_q 26 = c 26) (h1 : ∀ j, j = 7 ∨ j = 9 → c_q 1 0 j = c 1 0 j) (h16 : c_q 16 = c 16) (h17 : c_q 17 = c 17) (h19 : c_q 19 = c 19) (h20 : c_q 20 = c 20)
    (hj : ∀ j, j = 8 ∨ j = 9 ∨ j = 13 ∨ j = 17 ∨ j = 3 → m_q 15 0 j = m 15 0 j) (hG : ∀ G, G = 61 ∨ G = 62 ∨ G = 63 ∨ G = 64 ∨ G = 65 ∨ G = 66 ∨ G = 67 ∨ G = 68 ∨ G = 59 → m_q G = m G) (hc3 : c_q 2 0 3 = c 2 0 3) (h21 : c_q 21 = c 21) (h10 : c_q 1 0 10 = m_q 15 0 32 ∧ 0 ≤ c_q 1 0 10 ∧ c_q 1 0 10 ≤ 60) : Rel B c_q m_q := by
  have key : Rel B (rUp c_q 1 0 10 (c 1 0 10)) (rUp m_q 15 0 32 (m 15 0 32)) := by
    have f1 : ∀ G : Nat, G ≠ 1 → rUp c_q 1 0 10 (c 1 0 10) G = c_q G := fun G z => rUp_grp z
    have f2 : ∀ G : Nat, G ≠ 15 → rUp m_q 15 0 32 (m 15 0 32) G = m_q G := fun G z => rUp_grp z
    have e3 : rUp m_q 15 0 32 (m 15 0 32) 15 0 3 = m 15 0 3 := by rw [rUp_ne (by decide)]; exact hj 3 (by omega)
    refine Rel_up h (by rw [f1 3 (by decide)]; exact h3) (by rw [f1 26 (by decide)]; exact h26) (fun j z => ?_) (by rw [f1 16 (by decide)]; exact h16) (by rw [f1 17 (by decide)]; exact h17) (by rw [f1 19 (by decide)]; exact h19) (by rw [f1 20 (by decide)]; exact h20) (fun j z => ?_) (fun G z => by rw [f2 G (by omega)]; exact hG G (by omega)) ⟨?_, ?_, ?_⟩ (by rw [e3]; exact h.1.2.2.1) (by rw [e3]; exact h.2.2.2.1)
    · by_cases e : j = 10
      · rw [e, rUp_at]
      · rw [rUp_ne (fun y => e y.2.2)]; exact h1 j (by omega)
    · by_cases e : j = 32
      · rw [e, rUp_at]
      · rw [rUp_ne (fun y => e y.2.2)]; exact hj j (by omega)
    · rw [e3, f1 2 (by decide), hc3]; exact h.1.1
    · rw [e3]; exact h.1.2.1
    · rw [e3, f1 21 (by decide), f2 59 (by decide), h21, hG 59 (by omega)]; exact h.1.2.2.2
  obtain ⟨r1, r2, r3, r4, r5, r6, r7, r8⟩ := key
  have f1 : ∀ G : Nat, G ≠ 1 → rUp c_q 1 0 10 (c 1 0 10) G = c_q G := fun G z => rUp_grp z
  have f2 : ∀ G : Nat, G ≠ 15 → rUp m_q 15 0 32 (m 15 0 32) G = m_q G := fun G z => rUp_grp z
  have g1 : ∀ j, j ≠ 10 → rUp c_q 1 0 10 (c 1 0 10) 1 0 j = c_q 1 0 j := fun j z => rUp_ne (fun y => z y.2.2)
  have g2 : ∀ j, j ≠ 32 → rUp m_q 15 0 32 (m 15 0 32) 15 0 j = m_q 15 0 j := fun j z => rUp_ne (fun y => z y.2.2)
  have cm : rUp (rUp m_q 15 0 32 (m 15 0 32)) 15 0 14 (rUp m_q 15 0 32 (m 15 0 32) 15 0 13) = rUp (rUp m_q 15 0 14 (m_q 15 0 13)) 15 0 32 (m 15 0 32) := by
    rw [g2 13 (by decide), rUp_comm (by decide)]
  rw [cm] at r5 r8
  have f3 : ∀ G : Nat, G ≠ 15 → rUp (rUp m_q 15 0 14 (m_q 15 0 13)) 15 0 32 (m 15 0 32) G = rUp m_q 15 0 14 (m_q 15 0 13) G := fun G z => rUp_grp z
  have g3 : ∀ j, j ≠ 32 → rUp (rUp m_q 15 0 14 (m_q 15 0 13)) 15 0 32 (m 15 0 32) 15 0 j = rUp m_q 15 0 14 (m_q 15 0 13) 15 0 j := fun j z => rUp_ne (fun y => z y.2.2)
  rw [f1 2 (by decide), f1 21 (by decide), g2 3 (by decide), f2 59 (by decide)] at r1
  rw [g1 9 (by decide)] at r7 r8
  rw [g2 17 (by decide)] at r7
  rw [f1 3 (by decide), g2 3 (by decide)] at r4
  refine ⟨r1, ?_, ?_, r4, ?_, h10, r7, ?_⟩
  · unfold qNc at r2 ⊢
    rw [f1 3 (by decide), f1 26 (by decide)] at r2
    exact r2
  · unfold qNm at r3 ⊢
    rw [g2 8 (by decide), g2 9 (by decide), f2 61 (by decide), f2 62 (by decide), f2 63 (by decide)] at r3
    exact r3
  · exact qP_up r5 (g1 7 (by decide)).symm (f1 16 (by decide)).symm (f1 17 (by decide)).symm (g3 14 (by decide)).symm (f3 64 (by decide)).symm (f3 65 (by decide)).symm (f3 66 (by decide)).symm
  · exact FR_less r8 (Int.le_refl _) (f1 3 (by decide)).symm (f1 26 (by decide)).symm (f1 19 (by decide)).symm (f1 20 (by decide)).symm (g3 8 (by decide)).symm (g3 9 (by decide)).symm (f3 61 (by decide)).symm (f3 62 (by decide)).symm (f3 63 (by decide)).symm (f3 66 (by decide)).symm (f3 67 (by decide)).symm (f3 68 (by decide)).symm (fun x x0 x1 => by
      have := (r8 x x0 x1).2.1.2.1
      rw [g3 14 (by decide)] at this
      exact this)
noncomputable def l53 : List Nat := [69, 70, 71, 72, 73, 74, 75, 76, 77, 78, 79, 80, 81]
set_option maxRecDepth 20000 in
theorem fn53_fr {n : Int} {m : rHp} : fH 15 l53 [] m (fn53 [n] m).2.2 := by
  unfold fn53
  simp only [zLet]
  repeat' first | exact fH_refl | (refine fH_grp ?_ (by decide) (by decide))
/-- t cells from w * n on are moved down by w -/
noncomputable def cp (m : rHp) (K : Nat) (w n t : Int) (g : rHp) : Prop := ∀ x, g K 0 x = if w * n ≤ x ∧ x < w * n + t then m K 0 (x + w) else m K 0 x
theorem cp_nil {m : rHp} {K : Nat} {w n t : Int} (ht : t = 0) : cp m K w n t m := fun x => by rw [if_neg (by omega)]
theorem cp_skip {m g : rHp} {K K_q : Nat} {w n t o j v : Int} (h : cp m K w n t g) (hK : K ≠ K_q) : cp m K w n t (rUp g K_q o j v) := fun x => by rw [rUp_grp hK]; exact h x
theorem cp_step {m g : rHp} {K : Nat} {w n t i v : Int} (h : cp m K w n (t - 1) g) (hi : i = w * n + (t - 1)) (ht : 1 ≤ t) (hv : v = m K 0 (i + w)) : cp m K w n t (rUp g K 0 i v) := fun x => by
  by_cases e : x = i
  · rw [e, rUp_at, if_pos (by omega)]; exact hv
  · rw [rUp_ne (fun y => e y.2.2), h x]
    by_cases a : w * n ≤ x ∧ x < w * n + (t - 1)
    · rw [if_pos a, if_pos (by omega)]
    · rw [if_neg a, if_neg (by omega)]
set_option maxRecDepth 20000 in
theorem fn53_1 {n : Int} {m : rHp} : (∀ K : Nat, K = 69 ∨ K = 71 ∨ K = 72 ∨ K = 73 → cp m K 1 n 1 (fn53 [n] m).2.2) := by
  intro K z
  unfold fn53
  simp only [zLet, List.getD_cons_zero]
  rcases z with rfl | rfl | rfl | rfl
  all_goals repeat' first | exact cp_nil (by omega) | (refine cp_skip ?_ (by decide)) | (refine cp_step ?_ (by omega) (by omega) (congrArg _ (by omega)))
set_option maxRecDepth 20000 in
theorem fn53_4 {n : Int} {m : rHp} : (∀ K : Nat, K = 70 ∨ K = 76 → cp m K 4 n 4 (fn53 [n] m).2.2) := by
  intro K z
  unfold fn53
  simp only [zLet, List.getD_cons_zero]
  rcases z with rfl | rfl
  all_goals repeat' first | exact cp_nil (by omega) | (refine cp_skip ?_ (by decide)) | (refine cp_step ?_ (by omega) (by omega) (congrArg _ (by omega)))
set_option maxRecDepth 20000 in
theorem fn53_8 {n : Int} {m : rHp} : (∀ K : Nat, K = 77 ∨ K = 78 ∨ K = 79 → cp m K 8 n 8 (fn53 [n] m).2.2) := by
  intro K z
  unfold fn53
  simp only [zLet, List.getD_cons_zero]
  rcases z with rfl | rfl | rfl
  all_goals repeat' first | exact cp_nil (by omega) | (refine cp_skip ?_ (by decide)) | (refine cp_step ?_ (by omega) (by omega) (congrArg _ (by omega)))
set_option maxRecDepth 20000 in
theorem fn53_32 {n : Int} {m : rHp} : (∀ K : Nat, K = 80 ∨ K = 81 → cp m K 32 n 32 (fn53 [n] m).2.2) := by
  intro K z
  unfold fn53
  simp only [zLet, List.getD_cons_zero]
  rcases z with rfl | rfl
  all_goals repeat' first | exact cp_nil (by omega) | (refine cp_skip ?_ (by decide)) | (refine cp_step ?_ (by omega) (by omega) (congrArg _ (by omega)))
/-- the RULES behind r are moved down, up to n -/
noncomputable def shD (r n : Int) (m m_q : rHp) : Prop := (∀ K : Nat, K = 69 ∨ K = 71 ∨ K = 72 ∨ K = 73 → cp m K 1 r (1 * (n - r)) m_q) ∧ (∀ K : Nat, K = 70 ∨ K = 76 → cp m K 4 r (4 * (n - r)) m_q) ∧ (∀ K : Nat, K = 77 ∨ K = 78 ∨ K = 79 → cp m K 8 r (8 * (n - r)) m_q) ∧ ∀ K : Nat, K = 80 ∨ K = 81 → cp m K 32 r (32 * (n - r)) m_q
theorem cp_more {m m1 m2 : rHp} {K : Nat} {w r i : Int} (h1 : cp m K w r (w * (i - r)) m1) (h2 : cp m1 K w i w m2) (hr : r ≤ i) (hw : 0 < w) : cp m K w r (w * (i + 1 - r)) m2 := fun x => by
  have e1 : w * (i - r) = w * i - w * r := by rw [Int.mul_sub]
  have e2 : w * (i + 1 - r) = w * i + w - w * r := by rw [Int.mul_sub, Int.mul_add, Int.mul_one]
  have e3 : w * r ≤ w * i := Int.mul_le_mul_of_nonneg_left hr (by omega)
  rw [h2 x, h1 (x + w), h1 x, e1, e2]
  by_cases a : w * i ≤ x ∧ x < w * i + w
  · rw [if_pos a, if_neg (by omega), if_pos (by omega)]
  · rw [if_neg a]
    by_cases b : w * r ≤ x ∧ x < w * r + (w * i - w * r)
    · rw [if_pos b, if_pos (by omega)]
    · rw [if_neg b, if_neg (by omega)]
theorem shD_more {m m1 m2 : rHp} {r i : Int} (h : shD r i m m1) (hr : r ≤ i) (e : m2 = (fn53 [i] m1).2.2) : shD r (i + 1) m m2 := by
  subst e
  exact ⟨fun K z => cp_more (h.1 K z) (fn53_1 K z) hr (by decide), fun K z => cp_more (h.2.1 K z) (fn53_4 K z) hr (by decide), fun K z => cp_more (h.2.2.1 K z) (fn53_8 K z) hr (by decide), fun K z => cp_more (h.2.2.2 K z) (fn53_32 K z) hr (by decide)⟩
theorem shD_H {m m1 m2 : rHp} {r i : Int} {J : List Int} (h : shD r i m m1) (f : fH 15 [] J m1 m2) : shD r i m m2 := by
  have k : ∀ K : Nat, K ≠ 15 → m2 K = m1 K := fun K z => f.1 K (by simp) z
  exact ⟨fun K z x => by rw [k K (by omega)]; exact h.1 K z x, fun K z x => by rw [k K (by omega)]; exact h.2.1 K z x, fun K z x => by rw [k K (by omega)]; exact h.2.2.1 K z x, fun K z x => by rw [k K (by omega)]; exact h.2.2.2 K z x⟩
theorem shD_nil {m m1 : rHp} {r : Int} {J : List Int} (f : fH 15 [] J m m1) : shD r r m m1 := by
  have k : ∀ K : Nat, K ≠ 15 → m1 K = m K := fun K z => f.1 K (by simp) z
  exact ⟨fun K z x => by rw [k K (by omega), if_neg (by omega)], fun K z x => by rw [k K (by omega), if_neg (by omega)], fun K z x => by rw [k K (by omega), if_neg (by omega)], fun K z x => by rw [k K (by omega), if_neg (by omega)]⟩
theorem fn54_loop {mS : rHp} {r : Int} {mB : rHp} : ∀ (x : Nat) (i : Int) (m : rHp), (m 15 0 32 - i).toNat ≤ x → shD r i mB m → r ≤ i → i ≤ m 15 0 32 → ∃ m_q, zLoop (en54 mS) (0, [r, i], m) = (0, m 15 0 32, m_q) ∧ fH 15 l53 [59, 93] m m_q ∧ shD r (m 15 0 32) mB m_q ∧ m_q 15 0 59 = 0 ∧ m_q 15 0 93 = 0 := by
  have st : ∀ i (m : rHp), en54 mS (0, [r, i], m) = if i ≥ m 15 0 32 then .inr (0, m 15 0 32, rUp (rUp m 15 0 59 0) 15 0 93 0) else .inl (0, [r, i + 1], (fn53 [i] m).2.2) := by
    intro i m
    unfold en54 fn50
    simp only [zLet, List.getD_cons_zero, List.getD_cons_succ, ↓reduceIte]
  intro x
  induction x with
  | zero =>
    intro i m hi hS hr hi2
    have e : m 15 0 32 = i := by omega
    exact ⟨_, zLoop_inr ((st i m).trans (if_pos (by omega))), fH_fld (fH_fld fH_refl (by decide)) (by decide), by rw [e]; exact shD_H (J := [59, 93]) hS (fH_fld (fH_fld fH_refl (by decide)) (by decide)), by rw [rUp_ne (by decide), rUp_at], rUp_at⟩
  | succ x ih =>
    intro i m hi hS hr hi2
    by_cases h : i ≥ m 15 0 32
    · have e : m 15 0 32 = i := by omega
      exact ⟨_, zLoop_inr ((st i m).trans (if_pos h)), fH_fld (fH_fld fH_refl (by decide)) (by decide), by rw [e]; exact shD_H (J := [59, 93]) hS (fH_fld (fH_fld fH_refl (by decide)) (by decide)), by rw [rUp_ne (by decide), rUp_at], rUp_at⟩
    · have f := fn53_fr (n := i) (m := m)
      have e32 : (fn53 [i] m).2.2 15 0 32 = m 15 0 32 := f.2 32 (by decide)
      obtain ⟨m_q, h1, h2, h3, h4⟩ := ih (i + 1) (fn53 [i] m).2.2 (by rw [e32]; omega) (shD_more hS hr rfl) (by omega) (by rw [e32]; omega)
      rw [e32] at h3
      exact ⟨m_q, (zLoop_inl ((st i m).trans (if_neg h))).trans (by rw [h1, e32]), fH_trans (fH_sub f (by decide) (by decide)) h2, h3, h4⟩
/-- RULES are the same still when one is gone -/
theorem yU_drop {r : Int} {c m c_q m_q : rHp} (h : yU c m) (hn : c 1 0 10 = m 15 0 32) (h60 : m 15 0 32 ≤ 60) (h0 : 0 ≤ r) (h1 : r < m 15 0 32) (h40 : ∀ j, c_q 40 0 j = if r ≤ j ∧ j < m 15 0 32 - 1 then c 40 0 (j + 1) else if j = m 15 0 32 - 1 then c 40 0 r else c 40 0 j) (hc : ∀ K : Nat, K = 3 ∨ K = 26 ∨ K = 9 ∨ K = 10 ∨ K = 43 ∨ K = 44 ∨ K = 46 → c_q K = c K) (hS : shD r (m 15 0 32 - 1) m m_q) (fm : fH 15 l53 [0, 32, 59, 93] m m_q) (e32 : m_q 15 0 32 = m 15 0 32 - 1) : yU c_q m_q := by
  obtain ⟨y1, y2, y3⟩ := h
  refine ⟨fun i j i0 i1 j0 j1 e => ?_, ?_, fun q q0 q1 => ?_⟩
  · rw [h40, h40] at e
    by_cases a : r ≤ i ∧ i < m 15 0 32 - 1
    · rw [if_pos a] at e
      by_cases b : r ≤ j ∧ j < m 15 0 32 - 1
      · rw [if_pos b] at e
        have := y1 _ _ (by omega) (by omega) (by omega) (by omega) e
        omega
      · rw [if_neg b] at e
        by_cases d : j = m 15 0 32 - 1
        · rw [if_pos d] at e
          have := y1 _ _ (by omega) (by omega) (by omega) (by omega) e
          omega
        · rw [if_neg d] at e
          have := y1 _ _ (by omega) (by omega) (by omega) (by omega) e
          omega
    · rw [if_neg a] at e
      by_cases a2 : i = m 15 0 32 - 1
      · rw [if_pos a2] at e
        by_cases b : r ≤ j ∧ j < m 15 0 32 - 1
        · rw [if_pos b] at e
          have := y1 _ _ (by omega) (by omega) (by omega) (by omega) e
          omega
        · rw [if_neg b] at e
          by_cases d : j = m 15 0 32 - 1
          · omega
          · rw [if_neg d] at e
            have := y1 _ _ (by omega) (by omega) (by omega) (by omega) e
            omega
      · rw [if_neg a2] at e
        by_cases b : r ≤ j ∧ j < m 15 0 32 - 1
        · rw [if_pos b] at e
          have := y1 _ _ (by omega) (by omega) (by omega) (by omega) e
          omega
        · rw [if_neg b] at e
          by_cases d : j = m 15 0 32 - 1
          · rw [if_pos d] at e
            have := y1 _ _ (by omega) (by omega) (by omega) (by omega) e
            omega
          · rw [if_neg d] at e
            exact y1 _ _ (by omega) (by omega) (by omega) (by omega) e
  · unfold sN at y2 ⊢
    rw [hc 3 (by decide), hc 26 (by decide), fm.2 8 (by decide), fm.2 9 (by decide), fm.1 61 (by decide) (by decide), fm.1 62 (by decide) (by decide), fm.1 63 (by decide) (by decide)]
    exact y2
  · have e13 : m_q 15 0 13 = m 15 0 13 := fm.2 13 (by decide)
    rw [e32] at q1
    rw [e13]
    have g : ∀ (x : rHp) (K : Nat), K ≠ 15 → rUp x 15 0 14 (m 15 0 13) K = x K := fun x K z => rUp_grp z
    have e66 : ∀ p, p < rUp m 15 0 14 (m 15 0 13) 15 0 14 → rUp m_q 15 0 14 (m 15 0 13) 66 0 p = rUp m 15 0 14 (m 15 0 13) 66 0 p := fun p _ => by rw [g _ 66 (by decide), g _ 66 (by decide), fm.1 66 (by decide) (by decide)]
    have e14 : rUp m 15 0 14 (m 15 0 13) 15 0 14 ≤ rUp m_q 15 0 14 (m 15 0 13) 15 0 14 := by rw [rUp_at, rUp_at]; exact Int.le_refl _
    obtain ⟨s1, s2, s3, s4⟩ := hS
    by_cases a : r ≤ q
    · rw [h40, if_pos ⟨a, q1⟩]
      refine gR2_to (y3 (q + 1) (by omega) (by omega)) (by rw [hc 9 (by decide)]) (fun K g z _ _ => by rw [hc K (by omega)]) (fun K z => ?_) (fun K k z k0 k1 => ?_) (fun K k z k0 k1 => ?_) (fun K k j z k0 k1 j0 j1 => ?_) e14 e66
      · rw [g _ K (by omega), g _ K (by omega), s1 K z, if_pos (by omega)]
      · rw [g _ K (by omega), g _ K (by omega), s2 K z, if_pos (by omega)]
        exact congrArg _ (by omega)
      · rw [g _ K (by omega), g _ K (by omega), s3 K z, if_pos (by omega)]
        exact congrArg _ (by omega)
      · rw [g _ K (by omega), g _ K (by omega), s4 K z, if_pos (by omega)]
        exact congrArg _ (by omega)
    · rw [h40, if_neg (by omega), if_neg (by omega)]
      refine gR2_to (y3 q q0 (by omega)) (by rw [hc 9 (by decide)]) (fun K g z _ _ => by rw [hc K (by omega)]) (fun K z => ?_) (fun K k z k0 k1 => ?_) (fun K k z k0 k1 => ?_) (fun K k j z k0 k1 j0 j1 => ?_) e14 e66
      · rw [g _ K (by omega), g _ K (by omega), s1 K z, if_neg (by omega)]
      · rw [g _ K (by omega), g _ K (by omega), s2 K z, if_neg (by omega)]
      · rw [g _ K (by omega), g _ K (by omega), s3 K z, if_neg (by omega)]
      · rw [g _ K (by omega), g _ K (by omega), s4 K z, if_neg (by omega)]
/-- drop answers the same, and keeps what holds between calls -/
theorem drop_two {B r : Int} {c m : rHp} (h : Rel B c m) : (∃ v c_q m_q, fn169 [r] c = (0, v, c_q) ∧ fn54 [r] m = (0, v, m_q) ∧ m_q 15 0 0 = 0 ∧ Rel B c_q m_q ∧ (yU c m → yU c_q m_q) ∧ yFA c m c_q m_q) ∨ (∃ m_q, fn169 [r] c = (1, 0, c) ∧ fn54 [r] m = (0, 0, m_q) ∧ m_q 15 0 0 = 1 ∧ Rel B c m_q ∧ (yU c m → yU c m_q) ∧ yFA c m c m_q) := by
  have ef : fn1 [1] m = (0, 1, rUp m 15 0 0 1) := rfl
  have eg : fn1 [0] m = (0, 0, rUp m 15 0 0 0) := rfl
  have h6 := h.2.2.2.2.2.1
  by_cases h0 : r < 0
  · refine Or.inr ⟨rUp m 15 0 0 1, ?_, ?_, rUp_at, Rel_0 h, yU_0, yFA_0 yFA_refl⟩
    · unfold fn169
      simp only [zLet, List.getD_cons_zero]
      rw [if_pos h0]
    · unfold fn54 dn54
      simp only [zLet, List.getD_cons_zero, ef]
      rw [if_pos h0]
      rfl
  · by_cases h1 : r < m 15 0 32
    · have e320 : rUp (rUp m 15 0 0 0) 15 0 32 (m 15 0 32 + (-1)) 15 0 32 = m 15 0 32 + (-1) := rUp_at
      obtain ⟨m_q, e1, e2, e3, e59, e93⟩ := fn54_loop (mS := m) (r := r) (mB := m) _ r (rUp (rUp m 15 0 0 0) 15 0 32 (m 15 0 32 + (-1))) (Nat.le_refl _) (shD_nil (J := [0, 32]) (fH_fld (fH_fld fH_refl (by decide)) (by decide))) (Int.le_refl _) (by rw [e320]; omega)
      rw [e320] at e3
      rw [show rUp (rUp m 15 0 0 0) 15 0 32 (m 15 0 32 + (-1)) 15 0 32 = m 15 0 32 + (-1) from rUp_at] at e1
      have fm : fH 15 l53 [0, 32, 59, 93] m m_q := fH_trans (fH_fld (fH_fld fH_refl (by decide)) (by decide)) (fH_sub e2 (by decide) (by decide))
      have m0 : m_q 15 0 0 = 0 := by rw [e2.2 0 (by decide), rUp_ne (by decide), rUp_at]
      have m32 : m_q 15 0 32 = m 15 0 32 + (-1) := by rw [e2.2 32 (by decide), rUp_at]
      have c168 : ∃ c1, fn168 [r] c = (0, 0, c1) ∧ (∀ G : Nat, G ≠ 40 → G ≠ 1 → c1 G = c G) ∧ (∀ j, j ≠ 10 → c1 1 0 j = c 1 0 j) ∧ c1 1 0 10 = c 1 0 10 - 1 ∧ (∀ j, c1 40 0 j = if r ≤ j ∧ j < c 1 0 10 - 1 then c 40 0 (j + 1) else if j = c 1 0 10 - 1 then c 40 0 r else c 40 0 j) := by
        refine ⟨_, rfl, fun G z1 z2 => ?_, fun j z => ?_, rUp_at, fun j => ?_⟩
        · rw [rUp_grp z2]
          funext k j
          rw [if_neg (fun y => z1 y.1), if_neg (fun y => z1 y.1)]
        · rw [rUp_ne (fun y => z y.2.2)]
          rw [if_neg (fun y => absurd y.1 (by decide)), if_neg (fun y => absurd y.1 (by decide))]
        · rw [rUp_grp (by decide)]
          show (if (40 : Nat) = 40 ∧ (0 : Int) = 0 ∧ r ≤ j ∧ j < c 1 0 10 - 1 then c 40 0 (j + 1) else if (40 : Nat) = 40 ∧ (0 : Int) = 0 ∧ j = c 1 0 10 - 1 then c 40 0 r else c 40 0 j) = _
          by_cases a : r ≤ j ∧ j < c 1 0 10 - 1
          · rw [if_pos ⟨rfl, rfl, a⟩, if_pos a]
          · rw [if_neg (fun y => a y.2.2), if_neg a]
            by_cases b : j = c 1 0 10 - 1
            · rw [if_pos ⟨rfl, rfl, b⟩, if_pos b]
            · rw [if_neg (fun y => b y.2.2), if_neg b]
      obtain ⟨c1, d1, d2, d3, d4, d5⟩ := c168
      obtain ⟨k1, k2, k3⟩ := fn163_8 c1
      have f163 := fn163_fr c1
      refine Or.inl ⟨m 15 0 32 + (-1), (fn163 [] c1).2.2, m_q, ?_, ?_, m0, ?_, ?_, ?_⟩
      · unfold fn169
        simp only [zLet, List.getD_cons_zero, d1, h6.1]
        rw [if_neg h0, if_pos h1]
      · unfold fn54 dn54
        simp only [zLet, List.getD_cons_zero, eg]
        rw [if_neg h0, if_pos h1]
        exact e1
      · generalize (fn163 [] c1).2.2 = c2 at *
        have k : ∀ G : Nat, G ≠ 0 → G ≠ 8 → G ≠ 2 → c2 G = c1 G := fun G z1 z2 z3 => f163.1 G (by simp; omega) z3
        have c22 : c2 2 0 3 = c 2 0 3 := by rw [f163.2 3 (by decide), d2 2 (by decide) (by decide)]
        refine Rel_ru h ?_ ?_ (fun j z => ?_) ?_ ?_ ?_ ?_ (fun j z => fm.2 j (by rcases z with rfl | rfl | rfl | rfl | rfl <;> decide)) (fun G z => fm.1 G (by rcases z with rfl | rfl | rfl | rfl | rfl | rfl | rfl | rfl | rfl <;> decide) (by omega)) c22 ?_ ?_
        · rw [k 3 (by decide) (by decide) (by decide), d2 3 (by decide) (by decide)]
        · rw [k 26 (by decide) (by decide) (by decide), d2 26 (by decide) (by decide)]
        · rw [k 1 (by decide) (by decide) (by decide), d3 j (by omega)]
        · rw [k 16 (by decide) (by decide) (by decide), d2 16 (by decide) (by decide)]
        · rw [k 17 (by decide) (by decide) (by decide), d2 17 (by decide) (by decide)]
        · rw [k 19 (by decide) (by decide) (by decide), d2 19 (by decide) (by decide)]
        · rw [k 20 (by decide) (by decide) (by decide), d2 20 (by decide) (by decide)]
        · rw [k 21 (by decide) (by decide) (by decide), d2 21 (by decide) (by decide)]
        · rw [k 1 (by decide) (by decide) (by decide), d4, m32]; omega
      · intro hy
        have k : ∀ G : Nat, G ≠ 0 → G ≠ 8 → G ≠ 2 → (fn163 [] c1).2.2 G = c1 G := fun G z1 z2 z3 => f163.1 G (by simp; omega) z3
        refine yU_drop hy h6.1 (by omega) (by omega) h1 (fun j => ?_) (fun K z => ?_) (by rw [show m 15 0 32 - 1 = m 15 0 32 + (-1) by omega]; exact e3) fm (by rw [m32]; omega)
        · rw [k 40 (by decide) (by decide) (by decide), d5, h6.1]
        · rw [k K (by omega) (by omega) (by omega), d2 K (by omega) (by omega)]
      · have k : ∀ G : Nat, G ≠ 0 → G ≠ 8 → G ≠ 2 → (fn163 [] c1).2.2 G = c1 G := fun G z1 z2 z3 => f163.1 G (by simp; omega) z3
        refine ⟨fun K z => ?_, fun j z => by rw [k1 j z, d2 0 (by decide) (by decide)], by rw [k 1 (by decide) (by decide) (by decide), d3 8 (by decide)], fun K z => fm.1 K (fun w => ?_) (by omega), fun j z => fm.2 j (fun w => ?_), Or.inr ⟨k2, ?_, e59, e93⟩⟩
        · have zz : K ≠ 0 ∧ K ≠ 8 ∧ K ≠ 2 ∧ K ≠ 40 ∧ K ≠ 1 := by
            refine ⟨?_, ?_, ?_, ?_, ?_⟩ <;> (rintro rfl; exact z (by decide))
          rw [k K zz.1 zz.2.1 zz.2.2.1, d2 K zz.2.2.2.1 zz.2.2.2.2]
        · unfold l53 at w
          simp only [List.mem_cons, List.not_mem_nil, or_false] at w
          omega
        · unfold jBB at z
          simp only [List.mem_cons, List.not_mem_nil, or_false] at w z
          omega
        · unfold qo8 at k3 ⊢
          rw [d2 0 (by decide) (by decide), d2 8 (by decide) (by decide)] at k3
          exact k3
    · refine Or.inr ⟨rUp m 15 0 0 1, ?_, ?_, rUp_at, Rel_0 h, yU_0, yFA_0 yFA_refl⟩
      · unfold fn169
        simp only [zLet, List.getD_cons_zero, h6.1]
        rw [if_neg h0, if_neg h1]
      · unfold fn54 dn54
        simp only [zLet, List.getD_cons_zero, ef]
        rw [if_neg h0, if_neg h1]
        rfl
