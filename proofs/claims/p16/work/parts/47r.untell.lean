/-! ===== untell by both ===== -/
/-- a HEAD begins, or GOALS that are asked -/
theorem pre_any {N0 r : Int} {c m : rHp} (k1 : qT c m) (k2 : qA c m) (k3 : qNc c) (k4 : qNm m) (k5 : qP c m) (k7 : 0 ≤ N0 ∧ 2 * N0 + m 15 0 34 ≤ 10239 ∧ 2 * c 3 0 1 ≤ 2 * N0 + m 15 0 35) :
    ∃ c0 c1 m1, rUp (rUp (fn110 [] c).2.2 9 (c 40 0 (c 1 0 10)) 2 0) 9 (c 40 0 (c 1 0 10)) 3 0 = c1 ∧ (fn47 [r] m).2.2 = m1 ∧ qR 0 c0 m1 c1 m1 ∧ qB (fun _ => False) c1 m1 ∧ c0 1000 0 0 = N0 ∧ c0 1000 0 1 = m 15 0 35 ∧ fH 2 [9] [5, 13, 16] c c1 ∧ fH 15 [73, 74] [44, 45, 58] m m1 ∧ m1 73 0 (m1 15 0 44) = 0 ∧ (∀ j, c0 1 0 j = c 1 0 j) ∧ c0 40 = c 40 ∧ c1 2 0 16 = 0 ∧ gNc c0 c1 ∧ c0 3 = c 3 ∧ c0 26 = c 26 ∧ c0 19 = c 19 ∧ c0 20 = c 20 ∧ fH 2 [9, 1000] [5, 13, 16] c c0 := by
  have fc : fH 2 [9] [5, 13, 16] c (rUp (rUp (rUp (rUp (rUp c 2 0 13 0) 2 0 16 0) 2 0 5 0) 9 (c 40 0 (c 1 0 10)) 2 0) 9 (c 40 0 (c 1 0 10)) 3 0) := fH_grp (fH_grp (fH_fld (fH_fld (fH_fld fH_refl (by decide)) (by decide)) (by decide)) (by decide) (by decide)) (by decide) (by decide)
  have x13 : rUp (rUp (rUp (rUp (rUp c 2 0 13 0) 2 0 16 0) 2 0 5 0) 9 (c 40 0 (c 1 0 10)) 2 0) 9 (c 40 0 (c 1 0 10)) 3 0 2 0 13 = 0 := by rw [rUp_grp (by decide), rUp_grp (by decide), rUp_ne (by decide), rUp_ne (by decide), rUp_at]
  have x16 : rUp (rUp (rUp (rUp (rUp c 2 0 13 0) 2 0 16 0) 2 0 5 0) 9 (c 40 0 (c 1 0 10)) 2 0) 9 (c 40 0 (c 1 0 10)) 3 0 2 0 16 = 0 := by rw [rUp_grp (by decide), rUp_grp (by decide), rUp_ne (by decide), rUp_at]
  have x5 : rUp (rUp (rUp (rUp (rUp c 2 0 13 0) 2 0 16 0) 2 0 5 0) 9 (c 40 0 (c 1 0 10)) 2 0) 9 (c 40 0 (c 1 0 10)) 3 0 2 0 5 = 0 := by rw [rUp_grp (by decide), rUp_grp (by decide), rUp_at]
  have fm : fH 15 [73, 74] [44, 45, 58] m (rUp (rUp (rUp (rUp (rUp m 15 0 44 r) 73 0 r 0) 74 0 r 0) 15 0 45 0) 15 0 58 0) := fH_fld (fH_fld (fH_grp (fH_grp (fH_fld fH_refl (by decide)) (by decide) (by decide)) (by decide) (by decide)) (by decide)) (by decide)
  have y44 : rUp (rUp (rUp (rUp (rUp m 15 0 44 r) 73 0 r 0) 74 0 r 0) 15 0 45 0) 15 0 58 0 15 0 44 = r := by rw [rUp_ne (by decide), rUp_ne (by decide), rUp_grp (by decide), rUp_grp (by decide), rUp_at]
  have y45 : rUp (rUp (rUp (rUp (rUp m 15 0 44 r) 73 0 r 0) 74 0 r 0) 15 0 45 0) 15 0 58 0 15 0 45 = 0 := by rw [rUp_ne (by decide), rUp_at]
  have y58 : rUp (rUp (rUp (rUp (rUp m 15 0 44 r) 73 0 r 0) 74 0 r 0) 15 0 45 0) 15 0 58 0 15 0 58 = 0 := rUp_at
  have y73 : rUp (rUp (rUp (rUp (rUp m 15 0 44 r) 73 0 r 0) 74 0 r 0) 15 0 45 0) 15 0 58 0 73 0 r = 0 := by rw [rUp_grp (by decide), rUp_grp (by decide), rUp_grp (by decide), rUp_at]
  have y74 : rUp (rUp (rUp (rUp (rUp m 15 0 44 r) 73 0 r 0) 74 0 r 0) 15 0 45 0) 15 0 58 0 74 0 r = 0 := by rw [rUp_grp (by decide), rUp_grp (by decide), rUp_at]
  have e1 : rUp (rUp (fn110 [] c).2.2 9 (c 40 0 (c 1 0 10)) 2 0) 9 (c 40 0 (c 1 0 10)) 3 0 = rUp (rUp (rUp (rUp (rUp c 2 0 13 0) 2 0 16 0) 2 0 5 0) 9 (c 40 0 (c 1 0 10)) 2 0) 9 (c 40 0 (c 1 0 10)) 3 0 := rfl
  have e2 : (fn47 [r] m).2.2 = rUp (rUp (rUp (rUp (rUp m 15 0 44 r) 73 0 r 0) 74 0 r 0) 15 0 45 0) 15 0 58 0 := rfl
  rw [e1, e2]
  generalize rUp (rUp (rUp (rUp (rUp c 2 0 13 0) 2 0 16 0) 2 0 5 0) 9 (c 40 0 (c 1 0 10)) 2 0) 9 (c 40 0 (c 1 0 10)) 3 0 = c1 at *
  generalize rUp (rUp (rUp (rUp (rUp m 15 0 44 r) 73 0 r 0) 74 0 r 0) 15 0 45 0) 15 0 58 0 = m1 at *
  have f0 : fH 2 [1000] [] (rUp (rUp c1 1000 0 0 N0) 1000 0 1 (m 15 0 35)) c1 := fH_symm (fH_grp (fH_grp fH_refl (by decide) (by decide)) (by decide) (by decide))
  have g0 : ∀ G : Nat, G ≠ 1000 → rUp (rUp c1 1000 0 0 N0) 1000 0 1 (m 15 0 35) G = c1 G := fun G z => by rw [rUp_grp z, rUp_grp z]
  have n0 : rUp (rUp c1 1000 0 0 N0) 1000 0 1 (m 15 0 35) 1000 0 0 = N0 := by rw [rUp_ne (by decide), rUp_at]
  have n1 : rUp (rUp c1 1000 0 0 N0) 1000 0 1 (m 15 0 35) 1000 0 1 = m 15 0 35 := rUp_at
  have s34 : m1 15 0 34 = m 15 0 34 := fm.2 34 (by decide)
  have s35 : m1 15 0 35 = m 15 0 35 := fm.2 35 (by decide)
  have cnt0 : m1 74 0 (m1 15 0 44) = 0 := by rw [y44, y74]
  have gc : gNc (rUp (rUp c1 1000 0 0 N0) 1000 0 1 (m 15 0 35)) c1 := gNc_fl f0 (by decide) (by decide)
  refine ⟨rUp (rUp c1 1000 0 0 N0) 1000 0 1 (m 15 0 35), c1, m1, rfl, rfl, ⟨qT_up k1 (fc.2 3 (by decide)) (fc.1 21 (by decide) (by decide)) s34 (fm.1 59 (by decide) (by decide)), ⟨?_, ?_, ?_⟩, ⟨?_, ?_, gc, gNm_refl, fun z => by unfold sN at z ⊢; rw [rUp_grp (by decide), rUp_grp (by decide), rUp_grp (by decide), rUp_grp (by decide)] at z; exact z⟩, ?_, ?_, fH_sub f0 (by decide) (by decide), fun j _ => by rw [g0 1 (by decide)], fH_refl, ⟨Int.le_refl _, fun _ _ => rfl⟩, ?_⟩, ?_, n0, n1, fc, fm, by rw [y44, y73], fun j => by rw [g0 1 (by decide), fc.1 1 (by decide) (by decide)], by rw [g0 40 (by decide), fc.1 40 (by decide) (by decide)], x16, gc, by rw [g0 3 (by decide), fc.1 3 (by decide) (by decide)], by rw [g0 26 (by decide), fc.1 26 (by decide) (by decide)], by rw [g0 19 (by decide), fc.1 19 (by decide) (by decide)], by rw [g0 20 (by decide), fc.1 20 (by decide) (by decide)], fH_trans (fH_sub fc (by decide) (by decide)) (fH_sub (fH_symm f0) (by decide) (by decide))⟩
  · rw [fc.2 6 (by decide), s35]; exact k2.1
  · rw [s35]; exact k2.2.1
  · rw [s35, s34]; exact k2.2.2
  · unfold qNc
    rw [fc.1 3 (by decide) (by decide), fc.1 26 (by decide) (by decide)]; exact k3
  · unfold qNm
    rw [fm.2 8 (by decide), fm.2 9 (by decide), fm.1 61 (by decide) (by decide), fm.1 62 (by decide) (by decide), fm.1 63 (by decide) (by decide)]; exact k4
  · exact qP_up k5 (by rw [fc.1 1 (by decide) (by decide)]) (fc.1 16 (by decide) (by decide)) (fc.1 17 (by decide) (by decide)) (fm.2 14 (by decide)) (fm.1 64 (by decide) (by decide)) (fm.1 65 (by decide) (by decide)) (fm.1 66 (by decide) (by decide))
  · refine ⟨by rw [x13, cnt0], by rw [cnt0]; decide, by rw [cnt0]; decide, fun v v0 v1 => ?_⟩
    rw [cnt0] at v1
    omega
  · rw [n0, n1, fc.1 3 (by decide) (by decide), s35]
    have := k7.2.2
    exact ⟨by omega, by omega, Or.inr ⟨rfl, (g0 1 (by decide)).symm, (g0 16 (by decide)).symm, (g0 17 (by decide)).symm, rfl, rfl, rfl⟩⟩
  · refine ⟨fun v v0 v1 => ?_, ⟨by rw [x16]; decide, by rw [y58]; decide, fun i i0 i1 => ?_, fun k k0 k1 => ?_, fun u => ⟨?_, ?_⟩, fun u => ⟨?_, fun z => z.elim⟩⟩, by rw [x5, y45], by rw [x5]; exact ⟨by decide, by decide⟩, fun v v0 v1 => ?_⟩
    · rw [cnt0] at v1
      omega
    · rw [x16] at i1
      omega
    · rw [y58] at k1
      omega
    · rintro ⟨i, i0, i1, _⟩
      rw [x16] at i1
      omega
    · rintro ⟨k, k0, k1, _⟩
      rw [y58] at k1
      omega
    · rintro ⟨k, k0, k1, _⟩
      rw [y58] at k1
      omega
    · rw [cnt0] at v0
      rw [x5, qBt_zero ⟨v0, v1⟩]
      decide
/-- what is left between calls of a BROKEN text in which nothing is told -/
theorem Rel_Z {N0 B n : Int} {cU mU c0 m1 c_q m_q : rHp} (hZ : qZ c0 m1 c_q m_q) (hN : c0 1000 0 0 = N0) (h7 : c0 2 0 7 ≠ 0) (hF : FR cU mU n) (hn : n = cU 1 0 9) (fc0 : fH 2 [9, 1000] [5, 13, 16] cU c0) (fm : fH 15 [73, 74] [44, 45, 58] mU m1) (h14 : mU 15 0 14 = mU 15 0 13) (h3 : mU 15 0 3 = 0) (hr : cU 1 0 10 = mU 15 0 32 ∧ 0 ≤ cU 1 0 10 ∧ cU 1 0 10 ≤ 60) (hf : cU 1 0 9 = mU 15 0 17 ∧ 0 ≤ cU 1 0 9 ∧ cU 1 0 9 ≤ 400) (hB : 2 * N0 + mU 15 0 34 + 1 ≤ B) : Rel B (rUp c_q 2 0 3 0) m_q := by
  obtain ⟨a3, a4, a6, a7, a8, a9, a10⟩ := hZ
  obtain ⟨f1, f2, f3⟩ := FR_at hF fc0 fm a3 a6 a8 a9
  have e : ∀ j, j ∉ jMM → j ∉ [(44 : Int), 45, 58] → m_q 15 0 j = mU 15 0 j := fun j z1 z2 => (a8.2 j z1).trans (fm.2 j z2)
  have e14 : m_q 15 0 14 = mU 15 0 14 := (a10.2.resolve_left h7).1.trans (fm.2 14 (by decide))
  have e3 : m_q 15 0 3 = 0 := (e 3 (by decide) (by decide)).trans h3
  have same : rUp m_q 15 0 14 (m_q 15 0 13) = m_q := rUp_self (by rw [e14, h14, e 13 (by decide) (by decide)])
  have c1 : ∀ j, j ≠ 7 → c_q 1 0 j = cU 1 0 j := fun j hj => by rw [a7 j hj, fc0.1 1 (by decide) (by decide)]
  have g : ∀ G : Nat, G ≠ 2 → rUp c_q 2 0 3 0 G = c_q G := fun G z => rUp_grp z
  refine ⟨⟨by rw [rUp_at, e3], by rw [e3]; decide, by rw [e3]; decide, fun j j0 j1 => by rw [e3] at j1; omega⟩, ?_, a3.2.1, ?_, ?_, ?_, ?_, ?_⟩
  · unfold qNc
    rw [g 3 (by decide), g 26 (by decide)]; exact a3.1
  · rw [g 3 (by decide), e3]
    have z := a10.1
    rw [hN, fm.2 34 (by decide)] at z
    omega
  · rw [same]
    exact qP_up a4 (by rw [g 1 (by decide)]) (g 16 (by decide)) (g 17 (by decide)) rfl rfl rfl rfl
  · rw [g 1 (by decide), c1 10 (by decide), e 32 (by decide) (by decide)]; exact hr
  · rw [g 1 (by decide), c1 9 (by decide), e 17 (by decide) (by decide)]; exact hf
  · rw [same, g 1 (by decide), c1 9 (by decide), ← hn]
    exact FR_less f1 (Int.le_refl _) (g 3 (by decide)) (g 26 (by decide)) (g 19 (by decide)) (g 20 (by decide)) rfl rfl rfl rfl rfl rfl rfl rfl (fun x x0 x1 => (f1 x x0 x1).2.1.2.1)
/-- a PREDICATE that is sought alone -/
theorem fn133_1 {c : rHp} {h P : Int} (hh : h = 9 * c 40 0 (c 1 0 10)) (hp : c 2 0 7 = 1) (h125 : fn125 [c 10 h 6, c 10 h 5] c = (0, P, c)) : fn133 [] c = (0, 1, rUp c 10 h 8 P) := by
  unfold fn133
  simp only [zLet, ← hh, hp, h125]
  by_cases b : P ≥ 0
  · rw [if_pos b]
  · rw [if_neg b, if_pos (show (1 : Int) ≠ 0 by decide), if_pos trivial]
/-- a FACT goes: the class_q rows -/
theorem fn130_eq {c : rHp} {F n : Int} (hn : c 1 0 9 = n) (h : F < n) : ∃ c_q, fn130 [F] c = (0, 0, c_q) ∧ (∀ G : Nat, G ≠ 19 → G ≠ 20 → G ≠ 1 → c_q G = c G) ∧ (∀ j, j ≠ 9 → c_q 1 0 j = c 1 0 j) ∧ c_q 1 0 9 = n - 1 ∧ (∀ f, c_q 19 0 f = if F ≤ f ∧ f < n - 1 then c 19 0 (f + 1) else c 19 0 f) ∧ (∀ x, c_q 20 0 x = if 4 * F ≤ x ∧ x < 4 * n - 4 then c 20 0 (x + 4) else c 20 0 x) := by
  refine ⟨rUp (zCpy (zCpy c 19 0 (F + 1) 19 0 F (n + -F + (-1))) 20 0 (4 * F + 4) 20 0 (4 * F) (4 * n + (-4) * F + (-4))) 1 0 9 (n + (-1)), ?_, fun G z1 z2 z3 => ?_, fun j z => ?_, ?_, fun f => ?_, fun x => ?_⟩
  · unfold fn130
    simp only [zLet, List.getD_cons_zero, hn]
    rw [if_pos (show n + -F + (-1) ≥ 0 by omega)]
  · rw [rUp_grp z3, zCpy_grp z2, zCpy_grp z1]
  · rw [rUp_ne (fun y => z y.2.2), zCpy_grp (by decide), zCpy_grp (by decide)]
  · rw [rUp_at]; omega
  · rw [rUp_grp (by decide), zCpy_grp (by decide)]
    by_cases e : F ≤ f ∧ f < n - 1
    · rw [if_pos e, zCpy_in e.1 (by omega)]
      congr 1
      omega
    · rw [if_neg e, zCpy_off (by omega)]
  · rw [rUp_grp (by decide)]
    by_cases e : 4 * F ≤ x ∧ x < 4 * n - 4
    · rw [if_pos e, zCpy_in e.1 (by omega), zCpy_grp (by decide)]
      congr 1
      omega
    · rw [if_neg e, zCpy_off (by omega), zCpy_grp (by decide)]
/-- the reference's rows -/
theorem fn52_loop {mS m0 : rHp} {F P n : Int} : ∀ (x : Nat) (i : Int) (m : rHp), i + x = n - 1 → F ≤ i → m 15 0 17 = n - 1 → fH 15 [67, 68] [] m0 m → (∀ f, m 67 0 f = if F ≤ f ∧ f < i then m0 67 0 (f + 1) else m0 67 0 f) → (∀ y, m 68 0 y = if 4 * F ≤ y ∧ y < 4 * i then m0 68 0 (y + 4) else m0 68 0 y) →
    ∃ m_q, zLoop (en52 mS) (0, [i, F, P], m) = (0, 1, m_q) ∧ fH 15 [67, 68] [59, 93] m0 m_q ∧ (∀ f, m_q 67 0 f = if F ≤ f ∧ f < n - 1 then m0 67 0 (f + 1) else m0 67 0 f) ∧ (∀ y, m_q 68 0 y = if 4 * F ≤ y ∧ y < 4 * n - 4 then m0 68 0 (y + 4) else m0 68 0 y) ∧ m_q 15 0 59 = 0 ∧ m_q 15 0 93 = 0 := by
  intro x
  induction x with
  | zero =>
    intro i m hi hF h17 hf h67 h68
    have : i = n - 1 := by omega
    subst this
    have st : en52 mS (0, [n - 1, F, P], m) = .inr (0, 1, rUp (rUp m 15 0 59 0) 15 0 93 0) := by
      unfold en52 fn50
      simp only [zLet, List.getD_cons_zero, ↓reduceIte]
      rw [if_pos (show n - 1 ≥ m 15 0 17 by omega)]
    refine ⟨_, zLoop_inr st, fH_fld (fH_fld (fH_sub hf (by decide) (by decide)) (by decide)) (by decide), fun f => ?_, fun y => ?_, by rw [rUp_ne (by decide), rUp_at], rUp_at⟩
    · rw [rUp_grp (by decide), rUp_grp (by decide)]; exact h67 f
    · rw [rUp_grp (by decide), rUp_grp (by decide), h68 y, show 4 * (n - 1) = 4 * n - 4 by omega]
  | succ x ih =>
    intro i m hi hF h17 hf h67 h68
    have st : en52 mS (0, [i, F, P], m) = .inl (0, [i + 1, F, P], rUp (rUp (rUp (rUp (rUp m 67 0 i (m 67 0 (i + 1))) 68 0 (4 * i) (m 68 0 (4 * i + 4))) 68 0 (4 * i + 1) (m 68 0 (4 * i + 5))) 68 0 (4 * i + 2) (m 68 0 (4 * i + 6))) 68 0 (4 * i + 3) (m 68 0 (4 * i + 7))) := by
      unfold en52
      simp only [zLet, List.getD_cons_zero, List.getD_cons_succ, ↓reduceIte]
      rw [if_neg (show ¬ i ≥ m 15 0 17 by omega)]
    have f2 : fH 15 [67, 68] [] m (rUp (rUp (rUp (rUp (rUp m 67 0 i (m 67 0 (i + 1))) 68 0 (4 * i) (m 68 0 (4 * i + 4))) 68 0 (4 * i + 1) (m 68 0 (4 * i + 5))) 68 0 (4 * i + 2) (m 68 0 (4 * i + 6))) 68 0 (4 * i + 3) (m 68 0 (4 * i + 7))) := fH_grp (fH_grp (fH_grp (fH_grp (fH_grp fH_refl (by decide) (by decide)) (by decide) (by decide)) (by decide) (by decide)) (by decide) (by decide)) (by decide) (by decide)
    have old : ∀ k, 4 ≤ k → k ≤ 7 → m 68 0 (4 * i + k) = m0 68 0 (4 * i + k) := fun k z1 z2 => by rw [h68, if_neg (by omega)]
    rw [zLoop_inl st]
    refine ih (i + 1) _ (by omega) (by omega) ((f2.2 17 (by decide)).trans h17) (fH_trans hf f2) (fun f => ?_) (fun y => ?_)
    · rw [rUp_grp (by decide), rUp_grp (by decide), rUp_grp (by decide), rUp_grp (by decide)]
      by_cases e : f = i
      · rw [e, rUp_at, h67, if_neg (by omega), if_pos (by omega)]
      · rw [rUp_ne (fun y => e y.2.2), h67]
        by_cases e2 : F ≤ f ∧ f < i
        · rw [if_pos e2, if_pos (by omega)]
        · rw [if_neg e2, if_neg (by omega)]
    · by_cases y3 : y = 4 * i + 3
      · rw [y3, rUp_at, old 7 (by decide) (by decide), if_pos (by omega)]
        congr 1
        omega
      · rw [rUp_ne (fun z => y3 z.2.2)]
        by_cases y2 : y = 4 * i + 2
        · rw [y2, rUp_at, old 6 (by decide) (by decide), if_pos (by omega)]
          congr 1
          omega
        · rw [rUp_ne (fun z => y2 z.2.2)]
          by_cases y1 : y = 4 * i + 1
          · rw [y1, rUp_at, old 5 (by decide) (by decide), if_pos (by omega)]
            congr 1
            omega
          · rw [rUp_ne (fun z => y1 z.2.2)]
            by_cases y0 : y = 4 * i
            · rw [y0, rUp_at, old 4 (by decide) (by decide), if_pos (by omega)]
            · rw [rUp_ne (fun z => y0 z.2.2), rUp_grp (by decide), h68]
              by_cases e2 : 4 * F ≤ y ∧ y < 4 * i
              · rw [if_pos e2, if_pos (by omega)]
              · rw [if_neg e2, if_neg (by omega)]
theorem FR_gone {c m c_q m_q : rHp} {n F : Int} (h : FR c m n) (hF : 0 ≤ F) (h3 : c_q 3 = c 3) (h26 : c_q 26 = c 26) (h8 : m_q 15 0 8 = m 15 0 8) (h9 : m_q 15 0 9 = m 15 0 9) (h61 : m_q 61 = m 61) (h62 : m_q 62 = m 62) (h63 : m_q 63 = m 63) (h66 : m_q 66 = m 66) (h14 : m_q 15 0 14 = m 15 0 14)
    (h19 : ∀ f, c_q 19 0 f = if F ≤ f ∧ f < n - 1 then c 19 0 (f + 1) else c 19 0 f) (h20 : ∀ x, c_q 20 0 x = if 4 * F ≤ x ∧ x < 4 * n - 4 then c 20 0 (x + 4) else c 20 0 x) (h67 : ∀ f, m_q 67 0 f = if F ≤ f ∧ f < n - 1 then m 67 0 (f + 1) else m 67 0 f) (h68 : ∀ y, m_q 68 0 y = if 4 * F ≤ y ∧ y < 4 * n - 4 then m 68 0 (y + 4) else m 68 0 y) : FR c_q m_q (n - 1) := by
  intro f f0 f1
  have up : ∀ a b, vR c m a b → vR c_q m_q a b := fun a b q => vR_up q h3 h26 h8 h9 h61 h62 h63
  by_cases e : F ≤ f
  · obtain ⟨a1, ⟨a2, a3, a4⟩, a5, a6⟩ := h (f + 1) (by omega) (by omega)
    rw [h19, h67, if_pos ⟨e, f1⟩, if_pos ⟨e, f1⟩, h66, h14]
    refine ⟨a1, ⟨a2, a3, a4⟩, fun k k0 k1 => ?_, fun k kz k0 k1 => ?_⟩
    · rw [h20, h68, if_pos (by omega), if_pos (by omega), show k + 4 * f + 4 = k + 4 * (f + 1) by omega, show 4 * f + k + 4 = 4 * (f + 1) + k by omega]
      exact up _ _ (a5 k k0 k1)
    · rw [h20, h68, if_pos (by omega), if_pos (by omega), show k + 4 * f + 4 = k + 4 * (f + 1) by omega, show 4 * f + k + 4 = 4 * (f + 1) + k by omega]
      exact a6 k kz k0 k1
  · obtain ⟨a1, ⟨a2, a3, a4⟩, a5, a6⟩ := h f f0 (by omega)
    rw [h19, h67, if_neg (by omega), if_neg (by omega), h66, h14]
    refine ⟨a1, ⟨a2, a3, a4⟩, fun k k0 k1 => ?_, fun k kz k0 k1 => ?_⟩
    · rw [h20, h68, if_neg (by omega), if_neg (by omega)]
      exact up _ _ (a5 k k0 k1)
    · rw [h20, h68, if_neg (by omega), if_neg (by omega)]
      exact a6 k kz k0 k1
