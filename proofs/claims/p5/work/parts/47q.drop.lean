/-! ===== drop by both ===== -/
theorem Rel_ru {B : Int} {c m c' m' : rHp} (h : Rel B c m) (h3 : c' 3 = c 3) (h26 : c' 26 = c 26) (h1 : ∀ j, j = 7 ∨ j = 9 → c' 1 0 j = c 1 0 j) (h16 : c' 16 = c 16) (h17 : c' 17 = c 17) (h19 : c' 19 = c 19) (h20 : c' 20 = c 20)
    (hj : ∀ j, j = 8 ∨ j = 9 ∨ j = 13 ∨ j = 17 ∨ j = 3 → m' 15 0 j = m 15 0 j) (hG : ∀ G, G = 61 ∨ G = 62 ∨ G = 63 ∨ G = 64 ∨ G = 65 ∨ G = 66 ∨ G = 67 ∨ G = 68 ∨ G = 59 → m' G = m G) (hc3 : c' 2 0 3 = c 2 0 3) (h21 : c' 21 = c 21) (h10 : c' 1 0 10 = m' 15 0 32 ∧ 0 ≤ c' 1 0 10 ∧ c' 1 0 10 ≤ 60) : Rel B c' m' := by
  have key : Rel B (rUp c' 1 0 10 (c 1 0 10)) (rUp m' 15 0 32 (m 15 0 32)) := by
    have f1 : ∀ G : Nat, G ≠ 1 → rUp c' 1 0 10 (c 1 0 10) G = c' G := fun G z => rUp_grp z
    have f2 : ∀ G : Nat, G ≠ 15 → rUp m' 15 0 32 (m 15 0 32) G = m' G := fun G z => rUp_grp z
    have e3 : rUp m' 15 0 32 (m 15 0 32) 15 0 3 = m 15 0 3 := by rw [rUp_ne (by decide)]; exact hj 3 (by omega)
    refine Rel_up h (by rw [f1 3 (by decide)]; exact h3) (by rw [f1 26 (by decide)]; exact h26) (fun j z => ?_) (by rw [f1 16 (by decide)]; exact h16) (by rw [f1 17 (by decide)]; exact h17) (by rw [f1 19 (by decide)]; exact h19) (by rw [f1 20 (by decide)]; exact h20) (fun j z => ?_) (fun G z => by rw [f2 G (by omega)]; exact hG G (by omega)) ⟨?_, ?_, ?_⟩ (by rw [e3]; exact h.1.2.2.1) (by rw [e3]; exact h.2.2.2.1)
    · by_cases e : j = 10
      · rw [e, rUp_at]
      · rw [rUp_ne (fun y => e y.2.2)]; exact h1 j (by omega)
    · by_cases e : j = 32
      · rw [e, rUp_at]
      · rw [rUp_ne (fun y => e y.2.2)]; exact hj j (by omega)
    · rw [e3, f1 2 (by decide), hc3]; exact h.1.1
    · rw [e3]; exact h.1.2.1
    · rw [e3, f1 21 (by decide), f2 59 (by decide), h21, hG 59 (by omega)]; exact h.1.2.2.2
  obtain ⟨r1, r2, r3, r4, r5, r6, r7, r8⟩ := key
  have f1 : ∀ G : Nat, G ≠ 1 → rUp c' 1 0 10 (c 1 0 10) G = c' G := fun G z => rUp_grp z
  have f2 : ∀ G : Nat, G ≠ 15 → rUp m' 15 0 32 (m 15 0 32) G = m' G := fun G z => rUp_grp z
  have g1 : ∀ j, j ≠ 10 → rUp c' 1 0 10 (c 1 0 10) 1 0 j = c' 1 0 j := fun j z => rUp_ne (fun y => z y.2.2)
  have g2 : ∀ j, j ≠ 32 → rUp m' 15 0 32 (m 15 0 32) 15 0 j = m' 15 0 j := fun j z => rUp_ne (fun y => z y.2.2)
  have cm : rUp (rUp m' 15 0 32 (m 15 0 32)) 15 0 14 (rUp m' 15 0 32 (m 15 0 32) 15 0 13) = rUp (rUp m' 15 0 14 (m' 15 0 13)) 15 0 32 (m 15 0 32) := by
    rw [g2 13 (by decide), rUp_comm (by decide)]
  rw [cm] at r5 r8
  have f3 : ∀ G : Nat, G ≠ 15 → rUp (rUp m' 15 0 14 (m' 15 0 13)) 15 0 32 (m 15 0 32) G = rUp m' 15 0 14 (m' 15 0 13) G := fun G z => rUp_grp z
  have g3 : ∀ j, j ≠ 32 → rUp (rUp m' 15 0 14 (m' 15 0 13)) 15 0 32 (m 15 0 32) 15 0 j = rUp m' 15 0 14 (m' 15 0 13) 15 0 j := fun j z => rUp_ne (fun y => z y.2.2)
  rw [f1 2 (by decide), f1 21 (by decide), g2 3 (by decide), f2 59 (by decide)] at r1
  rw [g1 9 (by decide)] at r7 r8
  rw [g2 17 (by decide)] at r7
  rw [f1 3 (by decide), g2 3 (by decide)] at r4
  refine ⟨r1, ?_, ?_, r4, ?_, h10, r7, ?_⟩
  · unfold qNc at r2 ⊢
    rw [f1 3 (by decide), f1 26 (by decide)] at r2
    exact r2
  · unfold qNm at r3 ⊢
    rw [g2 8 (by decide), g2 9 (by decide), f2 61 (by decide), f2 62 (by decide), f2 63 (by decide)] at r3
    exact r3
  · exact qP_up r5 (g1 7 (by decide)).symm (f1 16 (by decide)).symm (f1 17 (by decide)).symm (g3 14 (by decide)).symm (f3 64 (by decide)).symm (f3 65 (by decide)).symm (f3 66 (by decide)).symm
  · exact FR_less r8 (Int.le_refl _) (f1 3 (by decide)).symm (f1 26 (by decide)).symm (f1 19 (by decide)).symm (f1 20 (by decide)).symm (g3 8 (by decide)).symm (g3 9 (by decide)).symm (f3 61 (by decide)).symm (f3 62 (by decide)).symm (f3 63 (by decide)).symm (f3 66 (by decide)).symm (f3 67 (by decide)).symm (f3 68 (by decide)).symm (fun x x0 x1 => by
      have := (r8 x x0 x1).2.1.2.1
      rw [g3 14 (by decide)] at this
      exact this)
def l53 : List Nat := [69, 70, 71, 72, 73, 74, 75, 76, 77, 78, 79, 80, 81]
set_option maxRecDepth 20000 in
theorem fn53_fr {n : Int} {m : rHp} : fH 15 l53 [] m (fn53 [n] m).2.2 := by
  unfold fn53
  simp only [zLet]
  repeat' first | exact fH_refl | (refine fH_grp ?_ (by decide) (by decide))
theorem fn54_loop {mS : rHp} {r : Int} : ∀ (x : Nat) (i : Int) (m : rHp), (m 15 0 32 - i).toNat ≤ x → ∃ m', zLoop (en54 mS) (0, [r, i], m) = (0, m 15 0 32, m') ∧ fH 15 l53 [59, 93] m m' := by
  have st : ∀ i (m : rHp), en54 mS (0, [r, i], m) = if i ≥ m 15 0 32 then .inr (0, m 15 0 32, rUp (rUp m 15 0 59 0) 15 0 93 0) else .inl (0, [r, i + 1], (fn53 [i] m).2.2) := by
    intro i m
    unfold en54 fn50
    simp only [zLet, List.getD_cons_zero, List.getD_cons_succ, ↓reduceIte]
  intro x
  induction x with
  | zero =>
    intro i m hi
    exact ⟨_, zLoop_inr ((st i m).trans (if_pos (by omega))), fH_fld (fH_fld fH_refl (by decide)) (by decide)⟩
  | succ x ih =>
    intro i m hi
    by_cases h : i ≥ m 15 0 32
    · exact ⟨_, zLoop_inr ((st i m).trans (if_pos h)), fH_fld (fH_fld fH_refl (by decide)) (by decide)⟩
    · have f := fn53_fr (n := i) (m := m)
      have e32 : (fn53 [i] m).2.2 15 0 32 = m 15 0 32 := f.2 32 (by decide)
      obtain ⟨m', h1, h2⟩ := ih (i + 1) (fn53 [i] m).2.2 (by rw [e32]; omega)
      exact ⟨m', (zLoop_inl ((st i m).trans (if_neg h))).trans (by rw [h1, e32]), fH_trans (fH_sub f (by decide) (by decide)) h2⟩
/-- drop answers the same, and keeps what holds between calls -/
theorem drop_two {B r : Int} {c m : rHp} (h : Rel B c m) : (∃ v c' m', fn169 [r] c = (0, v, c') ∧ fn54 [r] m = (0, v, m') ∧ m' 15 0 0 = 0 ∧ Rel B c' m') ∨ (∃ m', fn169 [r] c = (1, 0, c) ∧ fn54 [r] m = (0, 0, m') ∧ m' 15 0 0 = 1 ∧ Rel B c m') := by
  have ef : fn1 [1] m = (0, 1, rUp m 15 0 0 1) := rfl
  have eg : fn1 [0] m = (0, 0, rUp m 15 0 0 0) := rfl
  have h6 := h.2.2.2.2.2.1
  by_cases h0 : r < 0
  · refine Or.inr ⟨rUp m 15 0 0 1, ?_, ?_, rUp_at, Rel_0 h⟩
    · unfold fn169
      simp only [zLet, List.getD_cons_zero]
      rw [if_pos h0]
    · unfold fn54 dn54
      simp only [zLet, List.getD_cons_zero, ef]
      rw [if_pos h0]
      rfl
  · by_cases h1 : r < m 15 0 32
    · obtain ⟨m', e1, e2⟩ := fn54_loop (mS := m) (r := r) _ r (rUp (rUp m 15 0 0 0) 15 0 32 (m 15 0 32 + (-1))) (Nat.le_refl _)
      rw [show rUp (rUp m 15 0 0 0) 15 0 32 (m 15 0 32 + (-1)) 15 0 32 = m 15 0 32 + (-1) from rUp_at] at e1
      have fm : fH 15 l53 [0, 32, 59, 93] m m' := fH_trans (fH_fld (fH_fld fH_refl (by decide)) (by decide)) (fH_sub e2 (by decide) (by decide))
      have m0 : m' 15 0 0 = 0 := by rw [e2.2 0 (by decide), rUp_ne (by decide), rUp_at]
      have m32 : m' 15 0 32 = m 15 0 32 + (-1) := by rw [e2.2 32 (by decide), rUp_at]
      have c168 : ∃ c1, fn168 [r] c = (0, 0, c1) ∧ (∀ G : Nat, G ≠ 40 → G ≠ 1 → c1 G = c G) ∧ (∀ j, j ≠ 10 → c1 1 0 j = c 1 0 j) ∧ c1 1 0 10 = c 1 0 10 - 1 := by
        refine ⟨_, rfl, fun G z1 z2 => ?_, fun j z => ?_, rUp_at⟩
        · rw [rUp_grp z2]
          funext k j
          rw [if_neg (fun y => z1 y.1), if_neg (fun y => z1 y.1)]
        · rw [rUp_ne (fun y => z y.2.2)]
          rw [if_neg (fun y => absurd y.1 (by decide)), if_neg (fun y => absurd y.1 (by decide))]
      obtain ⟨c1, d1, d2, d3, d4⟩ := c168
      have f163 := fn163_fr c1
      refine Or.inl ⟨m 15 0 32 + (-1), (fn163 [] c1).2.2, m', ?_, ?_, m0, ?_⟩
      · unfold fn169
        simp only [zLet, List.getD_cons_zero, d1, h6.1]
        rw [if_neg h0, if_pos h1]
      · unfold fn54 dn54
        simp only [zLet, List.getD_cons_zero, eg]
        rw [if_neg h0, if_pos h1]
        exact e1
      · generalize (fn163 [] c1).2.2 = c2 at *
        have k : ∀ G : Nat, G ≠ 0 → G ≠ 8 → G ≠ 2 → c2 G = c1 G := fun G z1 z2 z3 => f163.1 G (by simp; omega) z3
        have c22 : c2 2 0 3 = c 2 0 3 := by rw [f163.2 3 (by decide), d2 2 (by decide) (by decide)]
        refine Rel_ru h ?_ ?_ (fun j z => ?_) ?_ ?_ ?_ ?_ (fun j z => fm.2 j (by rcases z with rfl | rfl | rfl | rfl | rfl <;> decide)) (fun G z => fm.1 G (by rcases z with rfl | rfl | rfl | rfl | rfl | rfl | rfl | rfl | rfl <;> decide) (by omega)) c22 ?_ ?_
        · rw [k 3 (by decide) (by decide) (by decide), d2 3 (by decide) (by decide)]
        · rw [k 26 (by decide) (by decide) (by decide), d2 26 (by decide) (by decide)]
        · rw [k 1 (by decide) (by decide) (by decide), d3 j (by omega)]
        · rw [k 16 (by decide) (by decide) (by decide), d2 16 (by decide) (by decide)]
        · rw [k 17 (by decide) (by decide) (by decide), d2 17 (by decide) (by decide)]
        · rw [k 19 (by decide) (by decide) (by decide), d2 19 (by decide) (by decide)]
        · rw [k 20 (by decide) (by decide) (by decide), d2 20 (by decide) (by decide)]
        · rw [k 21 (by decide) (by decide) (by decide), d2 21 (by decide) (by decide)]
        · rw [k 1 (by decide) (by decide) (by decide), d4, m32]; omega
    · refine Or.inr ⟨rUp m 15 0 0 1, ?_, ?_, rUp_at, Rel_0 h⟩
      · unfold fn169
        simp only [zLet, List.getD_cons_zero, h6.1]
        rw [if_neg h0, if_neg h1]
      · unfold fn54 dn54
        simp only [zLet, List.getD_cons_zero, ef]
        rw [if_neg h0, if_neg h1]
        rfl
