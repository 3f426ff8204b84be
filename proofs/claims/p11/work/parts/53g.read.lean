/-! ===== a question is read by both, with what it holds ===== -/
theorem start_any2 {B p r : Int} {c m : rHp} (h : Rel B c m) (hB : B ≤ 10239) (hp : p ≠ 0) :
    ∃ c0 c1 m1, rUp (rUp (fn110 [] (qUc p c)).2.2 9 (c 40 0 (c 1 0 10)) 2 0) 9 (c 40 0 (c 1 0 10)) 3 0 = c1 ∧ (fn47 [r] (qUm m)).2.2 = m1 ∧ qR 0 c0 m1 c1 m1 ∧ qB (fun _ => False) c1 m1 ∧ 0 ≤ c0 1000 0 0 ∧ 2 * c0 1000 0 0 + m1 15 0 34 ≤ 10239 ∧ c0 2 0 7 = p ∧ c1 40 0 (c1 1 0 10) = c 40 0 (c 1 0 10) ∧ c1 2 0 7 = p ∧ c1 2 0 16 = 0 ∧ m1 73 0 (m1 15 0 44) = 0 ∧ m1 15 0 34 = m 15 0 3 ∧ m1 15 0 17 = m 15 0 17 ∧ m1 15 0 3 = 0 ∧
      (∀ c_q m_q, qZ c0 m1 c_q m_q → Rel (B + 1) (rUp c_q 2 0 3 0) m_q ∧ FR c_q m_q (c 1 0 9) ∧ c_q 1 0 9 = c 1 0 9 ∧ m_q 15 0 17 = m 15 0 17 ∧ qSd (B + 1) c m c_q m_q ∧ (fD (c 40 0 (c 1 0 10)) c1 c_q → fE r m1 m_q → m 15 0 32 ≤ r → yU c m → yU (rUp c_q 2 0 3 0) m_q) ∧ yFA c m (rUp c_q 2 0 3 0) m_q ∧ m_q 15 0 95 = m 15 0 95) ∧ (sN c m → sN c0 m1) ∧ m1 15 0 14 = m 15 0 13 := by
  obtain ⟨r1, r2, r3, r4, r5, r6, r7, r8⟩ := h
  have eU : qUc p c = rUp (rUp (rUp (rUp (rUp c 2 0 7 p) 2 0 6 0) 2 0 13 0) 2 0 16 0) 2 0 5 0 := rfl
  have eM : qUm m = rUp (rUp (rUp (rUp (rUp m 15 0 0 0) 15 0 34 (m 15 0 3)) 15 0 3 0) 15 0 35 0) 15 0 14 (m 15 0 13) := by
    show rUp (rUp (rUp (rUp (rUp m 15 0 0 0) 15 0 34 (rUp m 15 0 0 0 15 0 3)) 15 0 3 0) 15 0 35 0) 15 0 14 (m 15 0 13) = _
    rw [show rUp m 15 0 0 0 15 0 3 = m 15 0 3 from rUp_ne (by decide)]
  have fc : fH 2 [] [5, 6, 7, 13, 16] c (qUc p c) := by
    rw [eU]
    exact fH_fld (fH_fld (fH_fld (fH_fld (fH_fld fH_refl (by decide)) (by decide)) (by decide)) (by decide)) (by decide)
  have x6 : qUc p c 2 0 6 = 0 := by rw [eU, rUp_ne (by decide), rUp_ne (by decide), rUp_ne (by decide), rUp_at]
  have x7 : qUc p c 2 0 7 = p := by rw [eU, rUp_ne (by decide), rUp_ne (by decide), rUp_ne (by decide), rUp_ne (by decide), rUp_at]
  have fm : fH 15 [] [0, 3, 14, 34, 35] m (qUm m) := by
    rw [eM]
    exact fH_fld (fH_fld (fH_fld (fH_fld (fH_fld fH_refl (by decide)) (by decide)) (by decide)) (by decide)) (by decide)
  have y34 : qUm m 15 0 34 = m 15 0 3 := by rw [eM, rUp_ne (by decide), rUp_ne (by decide), rUp_ne (by decide), rUp_at]
  have y3 : qUm m 15 0 3 = 0 := by rw [eM, rUp_ne (by decide), rUp_ne (by decide), rUp_at]
  have y35 : qUm m 15 0 35 = 0 := by rw [eM, rUp_ne (by decide), rUp_at]
  have y14 : qUm m 15 0 14 = m 15 0 13 := by rw [eM, rUp_at]
  have y13 : qUm m 15 0 13 = m 15 0 13 := fm.2 13 (by decide)
  have fds : fD (c 40 0 (c 1 0 10)) c (rUp (rUp (fn110 [] (qUc p c)).2.2 9 (c 40 0 (c 1 0 10)) 2 0) 9 (c 40 0 (c 1 0 10)) 3 0) := fD_start
  have fes : fE r (rUp m 15 0 14 (m 15 0 13)) (fn47 [r] (qUm m)).2.2 := fE_start
  generalize qUc p c = cU at *
  generalize qUm m = mU at *
  have p14 : rUp m 15 0 14 (m 15 0 13) 15 0 14 = m 15 0 13 := rUp_at
  have pg : ∀ G : Nat, G ≠ 15 → rUp m 15 0 14 (m 15 0 13) G = m G := fun G z => rUp_grp z
  have c9 : cU 1 0 9 = c 1 0 9 := by rw [fc.1 1 (by decide) (by decide)]
  have hF : FR cU mU (cU 1 0 9) := by
    rw [c9]
    refine FR_less r8 (Int.le_refl _) (fc.1 3 (by decide) (by decide)) (fc.1 26 (by decide) (by decide)) (fc.1 19 (by decide) (by decide)) (fc.1 20 (by decide) (by decide)) ?_ ?_ ?_ ?_ ?_ ?_ ?_ ?_ (fun x x0 x1 => by have := (r8 x x0 x1).2.1.2.1; rw [p14] at this; rw [y14]; exact this)
    · rw [rUp_ne (by decide)]; exact fm.2 8 (by decide)
    · rw [rUp_ne (by decide)]; exact fm.2 9 (by decide)
    · rw [pg 61 (by decide)]; exact fm.1 61 (by decide) (by decide)
    · rw [pg 62 (by decide)]; exact fm.1 62 (by decide) (by decide)
    · rw [pg 63 (by decide)]; exact fm.1 63 (by decide) (by decide)
    · rw [pg 66 (by decide)]; exact fm.1 66 (by decide) (by decide)
    · rw [pg 67 (by decide)]; exact fm.1 67 (by decide) (by decide)
    · rw [pg 68 (by decide)]; exact fm.1 68 (by decide) (by decide)
  have k1 : qT cU mU := by
    refine ⟨by rw [fc.2 3 (by decide), y34]; exact r1.1, by rw [y34]; exact r1.2.1, fun j j0 j1 => ?_⟩
    rw [y34] at j1
    rw [fc.1 21 (by decide) (by decide), fm.1 59 (by decide) (by decide)]
    exact r1.2.2.2 j j0 j1
  have k2 : qA cU mU := ⟨by rw [x6, y35], by rw [y35]; decide, by rw [y35, y34]; exact r1.2.1⟩
  have k3 : qNc cU := by
    unfold qNc
    rw [fc.1 3 (by decide) (by decide), fc.1 26 (by decide) (by decide)]; exact r2
  have k4 : qNm mU := by
    unfold qNm
    rw [fm.2 8 (by decide), fm.2 9 (by decide), fm.1 61 (by decide) (by decide), fm.1 62 (by decide) (by decide), fm.1 63 (by decide) (by decide)]; exact r3
  have k5 : qP cU mU := qP_up r5 (by rw [fc.1 1 (by decide) (by decide)]) (fc.1 16 (by decide) (by decide)) (fc.1 17 (by decide) (by decide)) (by rw [y14, p14]) (by rw [pg 64 (by decide)]; exact fm.1 64 (by decide) (by decide)) (by rw [pg 65 (by decide)]; exact fm.1 65 (by decide) (by decide)) (by rw [pg 66 (by decide)]; exact fm.1 66 (by decide) (by decide))
  obtain ⟨c0, c1, m1, e1, e2, hR, hBB, hN, hat, gc, gm, h73, h1j, h40, h16, _, _, _, _, _, fc0⟩ := pre_any (N0 := c 3 0 1) (r := r) k1 k2 k3 k4 k5 ⟨r2.1, by rw [y34]; omega, by rw [fc.1 3 (by decide) (by decide), y35]; omega⟩
  rw [fc.1 40 (by decide) (by decide), fc.1 1 (by decide) (by decide)] at e1
  have o7 : c0 2 0 7 = p := by rw [fc0.2 7 (by decide)]; exact x7
  have m34 : m1 15 0 34 = m 15 0 3 := (gm.2 34 (by decide)).trans y34
  refine ⟨c0, c1, m1, e1, e2, hR, hBB, by rw [hN]; exact r2.1, by rw [hN, m34]; omega, o7, ?_, ?_, h16, h73, m34, ?_, ?_, fun c_q m_q hZ => ⟨?_, ?_, ?_, ?_, ?_, ?_, ?_, ?_⟩, fun y2 => sN_0 fc0 gm (sN_H y2 fc (by decide) fm (by decide) (by decide)), (gm.2 14 (by decide)).trans y14⟩
  · rw [gc.1 40 (by decide) (by decide), gc.1 1 (by decide) (by decide), fc.1 40 (by decide) (by decide), fc.1 1 (by decide) (by decide)]
  · rw [gc.2 7 (by decide)]; exact x7
  · rw [gm.2 17 (by decide)]; exact fm.2 17 (by decide)
  · rw [gm.2 3 (by decide)]; exact y3
  · exact Rel_Z hZ hN (by rw [o7]; exact hp) hF rfl fc0 gm (by rw [y14, y13]) y3 (by rw [fc.1 1 (by decide) (by decide), fm.2 32 (by decide)]; exact r6) (by rw [c9, fm.2 17 (by decide)]; exact r7) (by rw [y34]; omega)
  · have := (FR_at hF fc0 gm hZ.1 hZ.2.2.1 hZ.2.2.2.2.1 hZ.2.2.2.2.2.1).1
    rw [c9] at this
    exact this
  · rw [hZ.2.2.2.1 9 (by decide), fc0.1 1 (by decide) (by decide)]; exact c9
  · rw [hZ.2.2.2.2.1.2 17 (by decide), gm.2 17 (by decide), fm.2 17 (by decide)]
  · obtain ⟨a3, a4, a6, a7, a8, a9, a10⟩ := hZ
    obtain ⟨q1, q2, q3⟩ := FR_at hF fc0 gm a3 a6 a8 a9
    obtain ⟨z1, z2, z3, z4, z5, z6, z7⟩ := a10.2.resolve_left (by rw [o7]; exact hp)
    have kc : ∀ G : Nat, G ∉ [9, 1000] → G ≠ 2 → c0 G = c G := fun G w1 w2 => (fc0.1 G w1 w2).trans (fc.1 G (by simp) w2)
    refine ⟨⟨a3.1, gNc_trans (gNc_fl fc (by decide) (by decide)) q2, z2.trans (kc 1 (by decide) (by decide)), z3.trans (kc 16 (by decide) (by decide)), z4.trans (kc 17 (by decide) (by decide)), (a6.1 19 (by decide) (by decide)).trans (kc 19 (by decide) (by decide)), (a6.1 20 (by decide) (by decide)).trans (kc 20 (by decide) (by decide)), ?_⟩, a3.2.1, gNm_trans (gNm_fl fm (by decide) (by decide) (by decide) (by decide) (by decide)) q3, fun j w => ?_, ?_, fun G w => ?_⟩
    · have w := a10.1
      rw [hN, m34] at w
      omega
    · rw [a8.2 j (by rcases w with rfl | rfl | rfl <;> decide), gm.2 j (by rcases w with rfl | rfl | rfl <;> decide), fm.2 j (by rcases w with rfl | rfl | rfl <;> decide)]
    · rw [a8.2 3 (by decide), gm.2 3 (by decide)]; exact y3
    · have e : m1 G = m G := by rw [gm.1 G (by rcases w with rfl | rfl | rfl | rfl | rfl <;> decide) (by omega), fm.1 G (by simp) (by omega)]
      rcases w with rfl | rfl | rfl | rfl | rfl
      · rw [z5]; exact e
      · rw [z6]; exact e
      · rw [z7]; exact e
      · rw [a8.1 67 (by decide) (by decide)]; exact e
      · rw [a8.1 68 (by decide) (by decide)]; exact e
  · intro hD hE hr hy
    rw [e1] at fds
    rw [e2] at fes
    obtain ⟨y1, y2, y3⟩ := hy
    have D := fD_tr fds hD
    have E := fE_tr fes hE
    obtain ⟨a3, a4, a6, a7, a8, a9, a10⟩ := hZ
    obtain ⟨z1, _⟩ := a10.2.resolve_left (by rw [o7]; exact hp)
    have m14 : m_q 15 0 14 = m 15 0 13 := by rw [z1, gm.2 14 (by decide)]; exact y14
    have m13 : m_q 15 0 13 = m 15 0 13 := by rw [a8.2 13 (by decide), gm.2 13 (by decide)]; exact y13
    have m32 : m_q 15 0 32 = m 15 0 32 := by rw [a8.2 32 (by decide), gm.2 32 (by decide), fm.2 32 (by decide)]
    have same : rUp m_q 15 0 14 (m_q 15 0 13) = m_q := rUp_self (by rw [m14, m13])
    have s0 : sN c0 m1 := sN_0 fc0 gm (sN_H y2 fc (by decide) fm (by decide) (by decide))
    refine ⟨by rw [rUp_grp (by decide), D.1]; exact y1, sN_H (L := []) (J := [3]) (L2 := []) (J2 := []) (a3.2.2.2.2 s0) (fH_fld fH_refl (by decide)) (by decide) fH_refl (by decide) (by decide), fun q q0 q1 => ?_⟩
    rw [m32] at q1
    rw [rUp_grp (by decide), D.1, same]
    have g1 := gR2_DE (y3 q q0 q1) D E (fun w => by have := y1 q (c 1 0 10) q0 (by omega) (by omega) (by omega) w; omega) (by omega)
    exact gR2_all g1 (fun K z => rUp_grp (by omega)) (fun _ _ => rfl) (Int.le_refl _)
  · obtain ⟨a3, a4, a6, a7, a8, a9, a10⟩ := hZ
    obtain ⟨z1, z2, _⟩ := a10.2.resolve_left (by rw [o7]; exact hp)
    have fcc : fH 2 [9, 10, 24, 25, 43, 44, 45, 46, 1, 3, 16, 17, 22, 23, 26, 1000] jTT c (rUp c_q 2 0 3 0) := fH_fld (fH_trans (fH_trans (fH_sub fc (by decide) (by decide)) (fH_sub fc0 (by decide) (by decide))) (fH_sub a6 (by decide) (by decide))) (by decide)
    have fmm : fH 15 lU jUV m m_q := fH_trans (fH_trans (fH_sub fm (by decide) (by decide)) (fH_sub gm (by decide) (by decide))) (fH_sub a8 (by decide) (by decide))
    refine yFA_fin ⟨fH_sub fcc (by decide) (by decide), fun j _ => by rw [fcc.1 0 (by decide) (by decide)], ?_, fH_sub fmm (by decide) (by decide), Or.inl ⟨by rw [fcc.1 0 (by decide) (by decide)], fcc.1 8 (by decide) (by decide), fmm.2 59 (by decide), fmm.2 93 (by decide), fmm.2 13 (by decide)⟩⟩
    rw [rUp_grp (by decide), z2, fc0.1 1 (by decide) (by decide), fc.1 1 (by decide) (by decide)]
  · rw [hZ.2.2.2.2.1.2 95 (by decide), gm.2 95 (by decide), fm.2 95 (by decide)]
/-- loosen: what a ! binds to nothing stands for anything -/
theorem fn44_kn (m : rHp) : ∃ m_q, fn44 [] m = (0, 0, m_q) ∧ m_q 75 0 (m 15 0 44) = m 15 0 45 ∧ fH 15 [75, 80] [] m m_q ∧ (∀ x, x ≠ m 15 0 44 → m_q 75 0 x = m 75 0 x) ∧ (∀ y, y < 32 * m 15 0 44 → m_q 80 0 y = m 80 0 y) ∧ ∀ g j, 8 * m 15 0 44 ≤ g → g < m 73 0 (m 15 0 44) + 8 * m 15 0 44 → 0 ≤ j → j < 4 → (lo m m g j → m_q 80 0 (4 * g + j) = 2) ∧ (¬ lo m m g j → m_q 80 0 (4 * g + j) = m 80 0 (4 * g + j)) := by
  have f33 : ∀ g : rHp, (fn33 [] g).2.2 = g := fun g => rfl
  have st : ∀ g m1, en44 m (0, [g], m1) = if g ≥ m 73 0 (m 15 0 44) + 8 * m 15 0 44 then .inr (0, 0, m1) else .inl (1, [0, g], m1) := by
    intro g m1
    unfold en44
    simp only [zLet, List.getD_cons_zero, ↓reduceIte, f33]
  generalize hN : m 73 0 (m 15 0 44) + 8 * m 15 0 44 = N at *
  have key : ∀ (x : Nat) (g : Int) (m1 : rHp), (N - g).toNat ≤ x → ∃ m_q, zLoop (en44 m) (0, [g], m1) = (0, 0, m_q) ∧ fH 15 [80] [] m1 m_q ∧ (∀ y, y < 4 * g → m_q 80 0 y = m1 80 0 y) ∧ ∀ g_q j, g ≤ g_q → g_q < N → 0 ≤ j → j < 4 → (lo m m1 g_q j → m_q 80 0 (4 * g_q + j) = 2) ∧ (¬ lo m m1 g_q j → m_q 80 0 (4 * g_q + j) = m1 80 0 (4 * g_q + j)) := by
    intro x
    induction x with
    | zero =>
      intro g m1 hg
      exact ⟨m1, zLoop_inr ((st g m1).trans (if_pos (by omega))), fH_refl, fun _ _ => rfl, fun g_q j a b => by omega⟩
    | succ x ih =>
      intro g m1 hg
      by_cases h : g ≥ N
      · exact ⟨m1, zLoop_inr ((st g m1).trans (if_pos h)), fH_refl, fun _ _ => rfl, fun g_q j a b => by omega⟩
      · obtain ⟨m2, h1, h2, h5, h6⟩ := fn44_in (g0 := m) (g := g) 4 0 m1 (by decide)
        obtain ⟨m_q, h3, h4, h7, h8⟩ := ih (g + 1) m2 (by omega)
        refine ⟨m_q, (zLoop_inl ((st g m1).trans (if_neg h))).trans (h1.trans h3), fH_trans h2 h4, fun y z => by rw [h7 y (by omega), h5 y (by omega)], fun g_q j a b j0 j1 => ?_⟩
        by_cases e : g_q = g
        · subst e
          rw [h7 _ (by omega)]
          exact h6 j j0 j1
        · have ej := h5 (4 * g_q + j) (by omega)
          obtain ⟨w1, w2⟩ := h8 g_q j (by omega) b j0 j1
          unfold lo at w1 w2 ⊢
          rw [ej] at w1 w2
          exact ⟨w1, w2⟩
  have f0 : fH 15 [75] [] m (rUp m 75 0 (m 15 0 44) (m 15 0 45)) := fH_grp fH_refl (by decide) (by decide)
  have e80 : rUp m 75 0 (m 15 0 44) (m 15 0 45) 80 = m 80 := rUp_grp (by decide)
  obtain ⟨m_q, h1, h2, h3, h4⟩ := key _ (8 * m 15 0 44) (rUp m 75 0 (m 15 0 44) (m 15 0 45)) (Nat.le_refl _)
  unfold lo at h4
  rw [e80] at h3 h4
  exact ⟨m_q, h1, by rw [h2.1 75 (by decide) (by decide), rUp_at], fH_trans (fH_sub f0 (by decide) (by decide)) (fH_sub h2 (by decide) (by decide)), fun x z => by rw [h2.1 75 (by decide) (by decide), rUp_ne (fun y => z y.2.2)], fun y z => h3 y (by omega), h4⟩
/-- a question is read by both -/
theorem ask_read {B : Int} {c m : rHp} (h : Rel B c m) (hB : B ≤ 10239) (hy : yU c m) :
    ∃ m1, (fn32 [61] (rUp (rUp (fn5 [] m).2.2 15 0 0 0) 15 0 14 (m 15 0 13))).2.2 = m1 ∧ m1 15 0 34 = m 15 0 3 ∧ m1 15 0 45 = 0 ∧ qAk True (c 40 0 (c 1 0 10)) 61 m1 (fn159 [] (qUc 2 c)) (fn38 [0] m1) ∧ Rel (B + 1) (rUp (fn159 [] (qUc 2 c)).2.2 2 0 3 0) (fn38 [0] m1).2.2 ∧ yU (rUp (fn159 [] (qUc 2 c)).2.2 2 0 3 0) (fn38 [0] m1).2.2 ∧ yFA c m (rUp (fn159 [] (qUc 2 c)).2.2 2 0 3 0) (fn38 [0] m1).2.2 ∧ (fn38 [0] m1).2.2 66 = m 66 ∧ (fn38 [0] m1).2.2 15 0 14 = m 15 0 13 ∧ (fn38 [0] m1).2.2 15 0 13 = m 15 0 13 ∧ (fn38 [0] m1).2.2 15 0 95 = m 15 0 95 := by
  obtain ⟨c0, c1, m1, e1, e2, hR, hBB, h00, hlim, o7, x40, x7, x16, x73, m34, m17, m3, fin, hs, m14⟩ := start_any2 (p := 2) (r := 61) h hB (by decide)
  have eU : (fn110 [] (qUc 2 c)).2.2 = qUc 2 c := by
    show rUp (rUp (rUp (qUc 2 c) 2 0 13 0) 2 0 16 0) 2 0 5 0 = qUc 2 c
    have q : qUc 2 c = rUp (rUp (rUp (rUp (rUp c 2 0 7 2) 2 0 6 0) 2 0 13 0) 2 0 16 0) 2 0 5 0 := rfl
    rw [rUp_self (g := qUc 2 c) (G := 2) (k := 0) (j := 13) (v := 0) (by rw [q, rUp_ne (by decide), rUp_ne (by decide), rUp_at]), rUp_self (g := qUc 2 c) (G := 2) (k := 0) (j := 16) (v := 0) (by rw [q, rUp_ne (by decide), rUp_at]), rUp_self (g := qUc 2 c) (G := 2) (k := 0) (j := 5) (v := 0) (by rw [q, rUp_at])]
  rw [eU] at e1
  have e9 : fn159 [] (qUc 2 c) = zLoop (en159 (qUc 2 c)) (0, [], c1) := by
    rw [← e1]
    rfl
  have e38 : fn38 [0] m1 = zLoop (en38 m1) (0, [0, 1], m1) := rfl
  have fc : fH 2 [9] [] (qUc 2 c) c1 := by
    rw [← e1]
    exact fH_grp (fH_grp fH_refl (by decide) (by decide)) (by decide) (by decide)
  have x2 : c1 9 (c 40 0 (c 1 0 10)) 2 = 0 := by rw [← e1, rUp_ne (fun y => absurd y.2.2 (by decide)), rUp_at]
  have x3 : c1 9 (c 40 0 (c 1 0 10)) 3 = 0 := by rw [← e1, rUp_at]
  have fD1 : fD (c 40 0 (c 1 0 10)) (qUc 2 c) c1 := by
    rw [← e1]
    refine ⟨by rw [rUp_grp (by decide), rUp_grp (by decide)], fun x z => ?_, fun K x z _ => by rw [rUp_grp (by omega), rUp_grp (by omega)]⟩
    funext y
    rw [rUp_ne (fun w => z w.2.1), rUp_ne (fun w => z w.2.1)]
  have c110 : ∀ j, qUc 2 c 1 0 j = c1 1 0 j := fun j => by rw [fc.1 1 (by decide) (by decide)]
  have m44 : m1 15 0 44 = 61 := by
    rw [← e2]
    show rUp (rUp (rUp (rUp (rUp (qUm m) 15 0 44 61) 73 0 61 0) 74 0 61 0) 15 0 45 0) 15 0 58 0 15 0 44 = 61
    rw [rUp_ne (by decide), rUp_ne (by decide), rUp_grp (by decide), rUp_grp (by decide), rUp_at]
  have hB45 : c1 2 0 5 = m1 15 0 45 := hBB.2.2.1
  have hZ : qZ c0 m1 (fn159 [] (qUc 2 c)).2.2 (fn38 [0] m1).2.2 ∧ fD (c 40 0 (c 1 0 10)) c1 (fn159 [] (qUc 2 c)).2.2 ∧ fE 61 m1 (fn38 [0] m1).2.2 := by
    rw [e9, e38]
    by_cases hne : m1 15 0 34 = 0
    · obtain ⟨c_q, m_q, z1, z2, z3, z4⟩ := goal_e hR hBB hne x73
      have f7 : fn37 [0] (fn7 [] m1).2.2 = (0, 0, m_q) := by rw [fn37_is, fn7_eq, fnQ_look]; exact z2
      have g := goal_two_a hR hBB h00 hlim (by rw [x16]; decide) x7
      rw [zLoop_inr (en159_bad (cS := qUc 2 c) (n1 := c 40 0 (c 1 0 10)) rfl x2 (by decide) z1), zLoop_inr (en38_bad (mS := m1) rfl x73 (by decide) f7)]
      refine ⟨?_, fD_H z3 (by decide), by rw [m44] at z4; exact z4⟩
      rcases g with ⟨a, b, g1, _⟩ | ⟨a, b, g1, g2, g3⟩
      · rw [z1] at g1
        exact absurd (congrArg (fun r : zR => r.2.1) g1) (show ¬ (0 : Int) = 1 by decide)
      · rw [z1] at g1
        rw [z2] at g2
        have q1 : c_q = a := congrArg (fun r : zR => r.2.2) g1
        have q2 : m_q = b := congrArg (fun r : zR => r.2.2) g2
        rw [q1, q2]
        exact g3
    · have key := goals_loop_a (H := fun _ => False) (cS := qUc 2 c) (mS := m1) (n1 := c 40 0 (c 1 0 10)) (n8 := m1 15 0 44) h00 hlim rfl rfl rfl (fun j hj => by rw [c110 j]; exact hR.2.2.2.2.2.2.1 j hj) hne 8 0 c1 m1 (by decide) (by decide) hR hBB ⟨x2, x73, by rw [x16]; decide, fH_sub fc (by decide) (by decide), fH_refl, fun G z => by rw [fc.1 G (by simp only [List.mem_cons, List.not_mem_nil, or_false] at z ⊢; omega) (memG z).1], fD1, fE_refl, gGs_nil rfl (by rw [← hB45]; exact hBB.2.2.2.1) x3⟩
      rw [m44] at key
      refine ⟨key.1, ⟨key.2.1.1.trans fD1.1.symm, fun x z => (key.2.1.2.1 x z).trans (fD1.2.1 x z).symm, fun K x z1 z2 => (key.2.1.2.2 K x z1 z2).trans (fD1.2.2 K x z1 z2).symm⟩, key.2.2⟩
  have m45 : m1 15 0 45 = 0 := by
    rw [← e2]
    show rUp (rUp (rUp (rUp (rUp (qUm m) 15 0 44 61) 73 0 61 0) 74 0 61 0) 15 0 45 0) 15 0 58 0 15 0 45 = 0
    rw [rUp_ne (by decide), rUp_at]
  have key : qAk (sN c0 m1) (c 40 0 (c 1 0 10)) 61 m1 (fn159 [] (qUc 2 c)) (fn38 [0] m1) := by
    rw [e9, e38]
    by_cases hne : m1 15 0 34 = 0
    · obtain ⟨c_q, m_q, z1, z2, z3, z4⟩ := goal_e hR hBB hne x73
      have f7 : fn37 [0] (fn7 [] m1).2.2 = (0, 0, m_q) := by rw [fn37_is, fn7_eq, fnQ_look]; exact z2
      rw [zLoop_inr (en159_bad (cS := qUc 2 c) (n1 := c 40 0 (c 1 0 10)) rfl x2 (by decide) z1), zLoop_inr (en38_bad (mS := m1) rfl x73 (by decide) f7)]
      exact Or.inl ⟨⟨_, rfl⟩, Or.inl ⟨_, rfl⟩⟩
    · have k := goals_loop_b (cS := qUc 2 c) (mS := m1) (n1 := c 40 0 (c 1 0 10)) (n8 := m1 15 0 44) h00 hlim rfl rfl rfl (fun j hj => by rw [c110 j]; exact hR.2.2.2.2.2.2.1 j hj) hne 8 0 c1 m1 (by decide) (by decide) hR hBB ⟨x2, x73, by rw [x16]; decide, fH_sub fc (by decide) (by decide), fH_refl, fun G z => by rw [fc.1 G (by simp only [List.mem_cons, List.not_mem_nil, or_false] at z ⊢; omega) (memG z).1], fD1, fE_refl, gGs_nil rfl (by rw [← hB45]; exact hBB.2.2.2.1) x3⟩
      rw [m44] at k
      exact k
  rw [eq_true (hs hy.2.1)] at key
  obtain ⟨fR, fF, f9, f17, sd, fy, fA, f95⟩ := fin _ _ hZ.1
  have e3 : (fn32 [61] (rUp (rUp (fn5 [] m).2.2 15 0 0 0) 15 0 14 (m 15 0 13))).2.2 = m1 := by
    rw [qUm_eq, ← e2]; rfl
  have z14 : (fn38 [0] m1).2.2 15 0 14 = m1 15 0 14 := (hZ.1.2.2.2.2.2.2.2.resolve_left (by rw [o7]; decide)).1
  exact ⟨m1, e3, m34, m45, key, fR, fy hZ.2.1 hZ.2.2 (by have := h.2.2.2.2.2.1; omega) hy, fA, sd.2.2.2.2.2 66 (by decide), z14.trans m14, sd.2.2.2.1 13 (by decide), f95⟩
