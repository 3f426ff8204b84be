/-! ===== untell: reading where nothing is told ===== -/
noncomputable def qUc (p : Int) (c : rHp) : rHp := (fn111 [p] c).2.2
noncomputable def qUm (m : rHp) : rHp := rUp (fn5 [] (rUp m 15 0 0 0)).2.2 15 0 14 (m 15 0 13)
/-- what each side alone is after reading where nothing is told -/
noncomputable def qSd (B : Int) (c m c_q m_q : rHp) : Prop := (qNc c_q ∧ gNc c c_q ∧ c_q 1 = c 1 ∧ c_q 16 = c 16 ∧ c_q 17 = c 17 ∧ c_q 19 = c 19 ∧ c_q 20 = c 20 ∧ 2 * c_q 3 0 1 ≤ B) ∧ qNm m_q ∧ gNm m m_q ∧ (∀ j, j = 13 ∨ j = 17 ∨ j = 32 → m_q 15 0 j = m 15 0 j) ∧ m_q 15 0 3 = 0 ∧ (∀ G, G = 64 ∨ G = 65 ∨ G = 66 ∨ G = 67 ∨ G = 68 → m_q G = m G)
theorem yFA_tr {a b c d e f : rHp} (h1 : yFA a b c d) (h2 : yFA c d e f) : yFA a b e f := by
  obtain ⟨a1, a2, a3, a4, a5, a6⟩ := h1
  obtain ⟨b1, b2, b3, b4, b5, b6⟩ := h2
  refine ⟨fun K z => (b1 K z).trans (a1 K z), fun j z => (b2 j z).trans (a2 j z), b3.trans a3, fun K z => (b4 K z).trans (a4 K z), fun j z => (b5 j z).trans (a5 j z), ?_⟩
  rcases a6 with ⟨x1, x2, x3, x4, x5⟩ | ⟨x1, x2, x3, x4⟩
  · rcases b6 with ⟨y1, y2, y3, y4, y5⟩ | ⟨y1, y2, y3, y4⟩
    · exact Or.inl ⟨y1.trans x1, y2.trans x2, y3.trans x3, y4.trans x4, y5.trans x5⟩
    · refine Or.inr ⟨y1, ?_, y3, y4⟩
      unfold qo8 at y2 ⊢
      rw [a2 5 (by decide), x2] at y2
      exact y2
  · rcases b6 with ⟨y1, y2, y3, y4, y5⟩ | ⟨y1, y2, y3, y4⟩
    · refine Or.inr ⟨y1.trans x1, ?_, y3.trans x3, y4.trans x4⟩
      unfold qo8
      rw [y2]
      exact x2
    · refine Or.inr ⟨y1, ?_, y3, y4⟩
      obtain ⟨w1, w2, w3⟩ := y2
      rw [a2 5 (by decide)] at w1 w2 w3
      exact ⟨w1, w2, fun h j z => (w3 h j z).trans (x2.2.2 h j z)⟩
theorem fD_start {p : Int} {c : rHp} {R : Int} : fD R c (rUp (rUp (fn110 [] (qUc p c)).2.2 9 R 2 0) 9 R 3 0) := by
  have e : (fn110 [] (qUc p c)).2.2 = rUp (rUp (rUp (rUp (rUp (rUp (rUp (rUp c 2 0 7 p) 2 0 6 0) 2 0 13 0) 2 0 16 0) 2 0 5 0) 2 0 13 0) 2 0 16 0) 2 0 5 0 := rfl
  have g : ∀ K : Nat, K ≠ 2 → (fn110 [] (qUc p c)).2.2 K = c K := fun K z => by
    rw [e, rUp_grp z, rUp_grp z, rUp_grp z, rUp_grp z, rUp_grp z, rUp_grp z, rUp_grp z, rUp_grp z]
  generalize (fn110 [] (qUc p c)).2.2 = x at *
  refine ⟨by rw [rUp_grp (by decide), rUp_grp (by decide)]; exact g 40 (by decide), fun h z => ?_, fun K h z _ => by rw [rUp_grp (by omega), rUp_grp (by omega), g K (by omega)]⟩
  funext y
  rw [rUp_ne (fun w => z w.2.1), rUp_ne (fun w => z w.2.1), g 9 (by decide)]
theorem fE_start {r : Int} {m : rHp} : fE r (rUp m 15 0 14 (m 15 0 13)) (fn47 [r] (qUm m)).2.2 := by
  have e : (fn47 [r] (qUm m)).2.2 = rUp (rUp (rUp (rUp (rUp (qUm m) 15 0 44 r) 73 0 r 0) 74 0 r 0) 15 0 45 0) 15 0 58 0 := rfl
  have eM : qUm m = rUp (rUp (rUp (rUp (rUp m 15 0 0 0) 15 0 34 (rUp m 15 0 0 0 15 0 3)) 15 0 3 0) 15 0 35 0) 15 0 14 (m 15 0 13) := rfl
  have g : ∀ K : Nat, K ≠ 15 → qUm m K = m K := fun K z => by
    rw [eM, rUp_grp z, rUp_grp z, rUp_grp z, rUp_grp z, rUp_grp z]
  have y14 : qUm m 15 0 14 = m 15 0 13 := by rw [eM, rUp_at]
  rw [e]
  generalize qUm m = x at *
  have k : ∀ K : Nat, K ≠ 15 → K ≠ 73 → K ≠ 74 → rUp (rUp (rUp (rUp (rUp x 15 0 44 r) 73 0 r 0) 74 0 r 0) 15 0 45 0) 15 0 58 0 K = m K := fun K z1 z2 z3 => by
    rw [rUp_grp z1, rUp_grp z1, rUp_grp z3, rUp_grp z2, rUp_grp z1, g K z1]
  have q : ∀ K : Nat, K ≠ 15 → rUp m 15 0 14 (m 15 0 13) K = m K := fun K z => rUp_grp z
  refine ⟨fun K y z1 z2 => ?_, fun K y z1 _ => ?_, fun K y z1 _ => ?_, fun K y z1 _ => ?_, ?_, fun p _ => ?_⟩
  · rw [q K (by omega)]
    by_cases e73 : K = 73
    · rw [e73, rUp_grp (by decide), rUp_grp (by decide), rUp_grp (by decide), rUp_ne (fun w => by have := w.2.2; omega), rUp_grp (by decide), g 73 (by decide)]
    · rw [k K (by omega) e73 (by omega)]
  · rw [q K (by omega), k K (by omega) (by omega) (by omega)]
  · rw [q K (by omega), k K (by omega) (by omega) (by omega)]
  · rw [q K (by omega), k K (by omega) (by omega) (by omega)]
  · rw [rUp_at, rUp_ne (by decide), rUp_ne (by decide), rUp_grp (by decide), rUp_grp (by decide), rUp_ne (by decide), y14]; exact Int.le_refl _
  · rw [q 66 (by decide), k 66 (by decide) (by decide) (by decide)]
theorem start_any {B p r : Int} {c m : rHp} (h : Rel B c m) (hB : B ≤ 10239) (hp : p ≠ 0) :
    ∃ c0 c1 m1, rUp (rUp (fn110 [] (qUc p c)).2.2 9 (c 40 0 (c 1 0 10)) 2 0) 9 (c 40 0 (c 1 0 10)) 3 0 = c1 ∧ (fn47 [r] (qUm m)).2.2 = m1 ∧ qR 0 c0 m1 c1 m1 ∧ qB (fun _ => False) c1 m1 ∧ 0 ≤ c0 1000 0 0 ∧ 2 * c0 1000 0 0 + m1 15 0 34 ≤ 10239 ∧ c0 2 0 7 = p ∧ c1 40 0 (c1 1 0 10) = c 40 0 (c 1 0 10) ∧ c1 2 0 7 = p ∧ c1 2 0 16 = 0 ∧ m1 73 0 (m1 15 0 44) = 0 ∧ m1 15 0 34 = m 15 0 3 ∧ m1 15 0 17 = m 15 0 17 ∧ m1 15 0 3 = 0 ∧
      (∀ c_q m_q, qZ c0 m1 c_q m_q → Rel (B + 1) (rUp c_q 2 0 3 0) m_q ∧ FR c_q m_q (c 1 0 9) ∧ c_q 1 0 9 = c 1 0 9 ∧ m_q 15 0 17 = m 15 0 17 ∧ qSd (B + 1) c m c_q m_q ∧ (fD (c 40 0 (c 1 0 10)) c1 c_q → fE r m1 m_q → m 15 0 32 ≤ r → yU c m → yU (rUp c_q 2 0 3 0) m_q) ∧ yFA c m (rUp c_q 2 0 3 0) m_q) := by
  obtain ⟨r1, r2, r3, r4, r5, r6, r7, r8⟩ := h
  have eU : qUc p c = rUp (rUp (rUp (rUp (rUp c 2 0 7 p) 2 0 6 0) 2 0 13 0) 2 0 16 0) 2 0 5 0 := rfl
  have eM : qUm m = rUp (rUp (rUp (rUp (rUp m 15 0 0 0) 15 0 34 (m 15 0 3)) 15 0 3 0) 15 0 35 0) 15 0 14 (m 15 0 13) := by
    show rUp (rUp (rUp (rUp (rUp m 15 0 0 0) 15 0 34 (rUp m 15 0 0 0 15 0 3)) 15 0 3 0) 15 0 35 0) 15 0 14 (m 15 0 13) = _
    rw [show rUp m 15 0 0 0 15 0 3 = m 15 0 3 from rUp_ne (by decide)]
  have fc : fH 2 [] [5, 6, 7, 13, 16] c (qUc p c) := by
    rw [eU]
    exact fH_fld (fH_fld (fH_fld (fH_fld (fH_fld fH_refl (by decide)) (by decide)) (by decide)) (by decide)) (by decide)
  have x6 : qUc p c 2 0 6 = 0 := by rw [eU, rUp_ne (by decide), rUp_ne (by decide), rUp_ne (by decide), rUp_at]
  have x7 : qUc p c 2 0 7 = p := by rw [eU, rUp_ne (by decide), rUp_ne (by decide), rUp_ne (by decide), rUp_ne (by decide), rUp_at]
  have fm : fH 15 [] [0, 3, 14, 34, 35] m (qUm m) := by
    rw [eM]
    exact fH_fld (fH_fld (fH_fld (fH_fld (fH_fld fH_refl (by decide)) (by decide)) (by decide)) (by decide)) (by decide)
  have y34 : qUm m 15 0 34 = m 15 0 3 := by rw [eM, rUp_ne (by decide), rUp_ne (by decide), rUp_ne (by decide), rUp_at]
  have y3 : qUm m 15 0 3 = 0 := by rw [eM, rUp_ne (by decide), rUp_ne (by decide), rUp_at]
  have y35 : qUm m 15 0 35 = 0 := by rw [eM, rUp_ne (by decide), rUp_at]
  have y14 : qUm m 15 0 14 = m 15 0 13 := by rw [eM, rUp_at]
  have y13 : qUm m 15 0 13 = m 15 0 13 := fm.2 13 (by decide)
  have fds : fD (c 40 0 (c 1 0 10)) c (rUp (rUp (fn110 [] (qUc p c)).2.2 9 (c 40 0 (c 1 0 10)) 2 0) 9 (c 40 0 (c 1 0 10)) 3 0) := fD_start
  have fes : fE r (rUp m 15 0 14 (m 15 0 13)) (fn47 [r] (qUm m)).2.2 := fE_start
  generalize qUc p c = cU at *
  generalize qUm m = mU at *
  have p14 : rUp m 15 0 14 (m 15 0 13) 15 0 14 = m 15 0 13 := rUp_at
  have pg : ∀ G : Nat, G ≠ 15 → rUp m 15 0 14 (m 15 0 13) G = m G := fun G z => rUp_grp z
  have c9 : cU 1 0 9 = c 1 0 9 := by rw [fc.1 1 (by decide) (by decide)]
  have hF : FR cU mU (cU 1 0 9) := by
    rw [c9]
    refine FR_less r8 (Int.le_refl _) (fc.1 3 (by decide) (by decide)) (fc.1 26 (by decide) (by decide)) (fc.1 19 (by decide) (by decide)) (fc.1 20 (by decide) (by decide)) ?_ ?_ ?_ ?_ ?_ ?_ ?_ ?_ (fun x x0 x1 => by have := (r8 x x0 x1).2.1.2.1; rw [p14] at this; rw [y14]; exact this)
    · rw [rUp_ne (by decide)]; exact fm.2 8 (by decide)
    · rw [rUp_ne (by decide)]; exact fm.2 9 (by decide)
    · rw [pg 61 (by decide)]; exact fm.1 61 (by decide) (by decide)
    · rw [pg 62 (by decide)]; exact fm.1 62 (by decide) (by decide)
    · rw [pg 63 (by decide)]; exact fm.1 63 (by decide) (by decide)
    · rw [pg 66 (by decide)]; exact fm.1 66 (by decide) (by decide)
    · rw [pg 67 (by decide)]; exact fm.1 67 (by decide) (by decide)
    · rw [pg 68 (by decide)]; exact fm.1 68 (by decide) (by decide)
  have k1 : qT cU mU := by
    refine ⟨by rw [fc.2 3 (by decide), y34]; exact r1.1, by rw [y34]; exact r1.2.1, fun j j0 j1 => ?_⟩
    rw [y34] at j1
    rw [fc.1 21 (by decide) (by decide), fm.1 59 (by decide) (by decide)]
    exact r1.2.2.2 j j0 j1
  have k2 : qA cU mU := ⟨by rw [x6, y35], by rw [y35]; decide, by rw [y35, y34]; exact r1.2.1⟩
  have k3 : qNc cU := by
    unfold qNc
    rw [fc.1 3 (by decide) (by decide), fc.1 26 (by decide) (by decide)]; exact r2
  have k4 : qNm mU := by
    unfold qNm
    rw [fm.2 8 (by decide), fm.2 9 (by decide), fm.1 61 (by decide) (by decide), fm.1 62 (by decide) (by decide), fm.1 63 (by decide) (by decide)]; exact r3
  have k5 : qP cU mU := qP_up r5 (by rw [fc.1 1 (by decide) (by decide)]) (fc.1 16 (by decide) (by decide)) (fc.1 17 (by decide) (by decide)) (by rw [y14, p14]) (by rw [pg 64 (by decide)]; exact fm.1 64 (by decide) (by decide)) (by rw [pg 65 (by decide)]; exact fm.1 65 (by decide) (by decide)) (by rw [pg 66 (by decide)]; exact fm.1 66 (by decide) (by decide))
  obtain ⟨c0, c1, m1, e1, e2, hR, hBB, hN, hat, gc, gm, h73, h1j, h40, h16, _, _, _, _, _, fc0⟩ := pre_any (N0 := c 3 0 1) (r := r) k1 k2 k3 k4 k5 ⟨r2.1, by rw [y34]; omega, by rw [fc.1 3 (by decide) (by decide), y35]; omega⟩
  rw [fc.1 40 (by decide) (by decide), fc.1 1 (by decide) (by decide)] at e1
  have o7 : c0 2 0 7 = p := by rw [fc0.2 7 (by decide)]; exact x7
  have m34 : m1 15 0 34 = m 15 0 3 := (gm.2 34 (by decide)).trans y34
  refine ⟨c0, c1, m1, e1, e2, hR, hBB, by rw [hN]; exact r2.1, by rw [hN, m34]; omega, o7, ?_, ?_, h16, h73, m34, ?_, ?_, fun c_q m_q hZ => ⟨?_, ?_, ?_, ?_, ?_, ?_, ?_⟩⟩
  · rw [gc.1 40 (by decide) (by decide), gc.1 1 (by decide) (by decide), fc.1 40 (by decide) (by decide), fc.1 1 (by decide) (by decide)]
  · rw [gc.2 7 (by decide)]; exact x7
  · rw [gm.2 17 (by decide)]; exact fm.2 17 (by decide)
  · rw [gm.2 3 (by decide)]; exact y3
  · exact Rel_Z hZ hN (by rw [o7]; exact hp) hF rfl fc0 gm (by rw [y14, y13]) y3 (by rw [fc.1 1 (by decide) (by decide), fm.2 32 (by decide)]; exact r6) (by rw [c9, fm.2 17 (by decide)]; exact r7) (by rw [y34]; omega)
  · have := (FR_at hF fc0 gm hZ.1 hZ.2.2.1 hZ.2.2.2.2.1 hZ.2.2.2.2.2.1).1
    rw [c9] at this
    exact this
  · rw [hZ.2.2.2.1 9 (by decide), fc0.1 1 (by decide) (by decide)]; exact c9
  · rw [hZ.2.2.2.2.1.2 17 (by decide), gm.2 17 (by decide), fm.2 17 (by decide)]
  · obtain ⟨a3, a4, a6, a7, a8, a9, a10⟩ := hZ
    obtain ⟨q1, q2, q3⟩ := FR_at hF fc0 gm a3 a6 a8 a9
    obtain ⟨z1, z2, z3, z4, z5, z6, z7⟩ := a10.2.resolve_left (by rw [o7]; exact hp)
    have kc : ∀ G : Nat, G ∉ [9, 1000] → G ≠ 2 → c0 G = c G := fun G w1 w2 => (fc0.1 G w1 w2).trans (fc.1 G (by simp) w2)
    refine ⟨⟨a3.1, gNc_trans (gNc_fl fc (by decide) (by decide)) q2, z2.trans (kc 1 (by decide) (by decide)), z3.trans (kc 16 (by decide) (by decide)), z4.trans (kc 17 (by decide) (by decide)), (a6.1 19 (by decide) (by decide)).trans (kc 19 (by decide) (by decide)), (a6.1 20 (by decide) (by decide)).trans (kc 20 (by decide) (by decide)), ?_⟩, a3.2.1, gNm_trans (gNm_fl fm (by decide) (by decide) (by decide) (by decide) (by decide)) q3, fun j w => ?_, ?_, fun G w => ?_⟩
    · have w := a10.1
      rw [hN, m34] at w
      omega
    · rw [a8.2 j (by rcases w with rfl | rfl | rfl <;> decide), gm.2 j (by rcases w with rfl | rfl | rfl <;> decide), fm.2 j (by rcases w with rfl | rfl | rfl <;> decide)]
    · rw [a8.2 3 (by decide), gm.2 3 (by decide)]; exact y3
    · have e : m1 G = m G := by rw [gm.1 G (by rcases w with rfl | rfl | rfl | rfl | rfl <;> decide) (by omega), fm.1 G (by simp) (by omega)]
      rcases w with rfl | rfl | rfl | rfl | rfl
      · rw [z5]; exact e
      · rw [z6]; exact e
      · rw [z7]; exact e
      · rw [a8.1 67 (by decide) (by decide)]; exact e
      · rw [a8.1 68 (by decide) (by decide)]; exact e
  · intro hD hE hr hy
    rw [e1] at fds
    rw [e2] at fes
    obtain ⟨y1, y2, y3⟩ := hy
    have D := fD_tr fds hD
    have E := fE_tr fes hE
    obtain ⟨a3, a4, a6, a7, a8, a9, a10⟩ := hZ
    obtain ⟨z1, _⟩ := a10.2.resolve_left (by rw [o7]; exact hp)
    have m14 : m_q 15 0 14 = m 15 0 13 := by rw [z1, gm.2 14 (by decide)]; exact y14
    have m13 : m_q 15 0 13 = m 15 0 13 := by rw [a8.2 13 (by decide), gm.2 13 (by decide)]; exact y13
    have m32 : m_q 15 0 32 = m 15 0 32 := by rw [a8.2 32 (by decide), gm.2 32 (by decide), fm.2 32 (by decide)]
    have same : rUp m_q 15 0 14 (m_q 15 0 13) = m_q := rUp_self (by rw [m14, m13])
    have s0 : sN c0 m1 := sN_0 fc0 gm (sN_H y2 fc (by decide) fm (by decide) (by decide))
    refine ⟨by rw [rUp_grp (by decide), D.1]; exact y1, sN_H (L := []) (J := [3]) (L2 := []) (J2 := []) (a3.2.2.2.2 s0) (fH_fld fH_refl (by decide)) (by decide) fH_refl (by decide) (by decide), fun q q0 q1 => ?_⟩
    rw [m32] at q1
    rw [rUp_grp (by decide), D.1, same]
    have g1 := gR2_DE (y3 q q0 q1) D E (fun w => by have := y1 q (c 1 0 10) q0 (by omega) (by omega) (by omega) w; omega) (by omega)
    exact gR2_all g1 (fun K z => rUp_grp (by omega)) (fun _ _ => rfl) (Int.le_refl _)
  · obtain ⟨a3, a4, a6, a7, a8, a9, a10⟩ := hZ
    obtain ⟨z1, z2, _⟩ := a10.2.resolve_left (by rw [o7]; exact hp)
    have fcc : fH 2 [9, 10, 24, 25, 43, 44, 45, 46, 1, 3, 16, 17, 22, 23, 26, 1000] jTT c (rUp c_q 2 0 3 0) := fH_fld (fH_trans (fH_trans (fH_sub fc (by decide) (by decide)) (fH_sub fc0 (by decide) (by decide))) (fH_sub a6 (by decide) (by decide))) (by decide)
    have fmm : fH 15 lU jUV m m_q := fH_trans (fH_trans (fH_sub fm (by decide) (by decide)) (fH_sub gm (by decide) (by decide))) (fH_sub a8 (by decide) (by decide))
    refine yFA_fin ⟨fH_sub fcc (by decide) (by decide), fun j _ => by rw [fcc.1 0 (by decide) (by decide)], ?_, fH_sub fmm (by decide) (by decide), Or.inl ⟨by rw [fcc.1 0 (by decide) (by decide)], fcc.1 8 (by decide) (by decide), fmm.2 59 (by decide), fmm.2 93 (by decide), fmm.2 13 (by decide)⟩⟩
    rw [rUp_grp (by decide), z2, fc0.1 1 (by decide) (by decide), fc.1 1 (by decide) (by decide)]
/-- the class alone has read -/
theorem Rel_c {B B_q : Int} {c m c_q m_q : rHp} (h : Rel B c m) (hN : qNc c_q) (hg : gNc c c_q) (h1 : c_q 1 = c 1) (h16 : c_q 16 = c 16) (h17 : c_q 17 = c 17) (h19 : c_q 19 = c 19) (h20 : c_q 20 = c 20) (fm : fH 15 [] [0, 3, 34, 35] m m_q) (m3 : m_q 15 0 3 = 0) (c3 : c_q 2 0 3 = 0) (hB : 2 * c_q 3 0 1 ≤ B_q) : Rel B_q c_q m_q := by
  obtain ⟨r1, r2, r3, r4, r5, r6, r7, r8⟩ := h
  have pg : ∀ (G : Nat) (m : rHp), G ≠ 15 → rUp m 15 0 14 (m 15 0 13) G = m G := fun G m z => rUp_grp z
  have f2 : fH 15 [] [0, 3, 34, 35] (rUp m 15 0 14 (m 15 0 13)) (rUp m_q 15 0 14 (m_q 15 0 13)) := by
    rw [fm.2 13 (by decide)]
    exact fH_both fm _ _ _ _
  refine ⟨⟨by rw [c3, m3], by rw [m3]; decide, by rw [m3]; decide, fun j j0 j1 => by rw [m3] at j1; omega⟩, hN, ?_, by rw [m3]; omega, ?_, ?_, ?_, ?_⟩
  · unfold qNm
    rw [fm.2 8 (by decide), fm.2 9 (by decide), fm.1 61 (by decide) (by decide), fm.1 62 (by decide) (by decide), fm.1 63 (by decide) (by decide)]; exact r3
  · exact qP_up r5 (by rw [h1]) h16 h17 (f2.2 14 (by decide)) (f2.1 64 (by decide) (by decide)) (f2.1 65 (by decide) (by decide)) (f2.1 66 (by decide) (by decide))
  · rw [h1, fm.2 32 (by decide)]; exact r6
  · rw [h1, fm.2 17 (by decide)]; exact r7
  · rw [h1]
    exact FR_grow r8 hg (gNm_fl f2 (by decide) (by decide) (by decide) (by decide) (by decide)) h19 h20 (f2.1 67 (by decide) (by decide)) (f2.1 68 (by decide) (by decide)) (by rw [f2.2 14 (by decide)]; exact Int.le_refl _) (fun p _ => by rw [f2.1 66 (by decide) (by decide)])
/-- the reference alone has read -/
theorem Rel_m {B B_q : Int} {c m c_q m_q : rHp} (h : Rel B c m) (fc : fH 2 [] [3] c c_q) (c3 : c_q 2 0 3 = 0) (hN : qNm m_q) (hg : gNm m m_q) (hj : ∀ j, j = 13 ∨ j = 17 ∨ j = 32 → m_q 15 0 j = m 15 0 j) (m3 : m_q 15 0 3 = 0) (hG : ∀ G, G = 64 ∨ G = 65 ∨ G = 66 ∨ G = 67 ∨ G = 68 → m_q G = m G) (hB : B ≤ B_q) : Rel B_q c_q m_q := by
  obtain ⟨r1, r2, r3, r4, r5, r6, r7, r8⟩ := h
  have pg : ∀ (G : Nat) (m : rHp), G ≠ 15 → rUp m 15 0 14 (m 15 0 13) G = m G := fun G m z => rUp_grp z
  have p14 : ∀ m : rHp, rUp m 15 0 14 (m 15 0 13) 15 0 14 = m 15 0 13 := fun m => rUp_at
  have pj : ∀ (m : rHp) j, j ≠ 14 → rUp m 15 0 14 (m 15 0 13) 15 0 j = m 15 0 j := fun m j z => rUp_ne (fun y => z y.2.2)
  have q : ∀ G : Nat, G = 64 ∨ G = 65 ∨ G = 66 ∨ G = 67 ∨ G = 68 → rUp m_q 15 0 14 (m_q 15 0 13) G = rUp m 15 0 14 (m 15 0 13) G := fun G w => by rw [pg G m_q (by omega), pg G m (by omega), hG G w]
  have g2 : gNm (rUp m 15 0 14 (m 15 0 13)) (rUp m_q 15 0 14 (m_q 15 0 13)) := by
    unfold gNm
    rw [pj m 8 (by decide), pj m_q 8 (by decide), pj m 9 (by decide), pj m_q 9 (by decide), pg 61 m (by decide), pg 61 m_q (by decide), pg 62 m (by decide), pg 62 m_q (by decide), pg 63 m (by decide), pg 63 m_q (by decide)]
    exact hg
  have e14 : rUp m_q 15 0 14 (m_q 15 0 13) 15 0 14 = rUp m 15 0 14 (m 15 0 13) 15 0 14 := by rw [p14, p14]; exact hj 13 (by omega)
  have k : ∀ G : Nat, G ≠ 2 → c_q G = c G := fun G w => fc.1 G (by simp) w
  refine ⟨⟨by rw [c3, m3], by rw [m3]; decide, by rw [m3]; decide, fun j j0 j1 => by rw [m3] at j1; omega⟩, ?_, hN, ?_, ?_, ?_, ?_, ?_⟩
  · unfold qNc
    rw [k 3 (by decide), k 26 (by decide)]; exact r2
  · rw [m3, k 3 (by decide)]
    have := r1.2.1
    omega
  · exact qP_up r5 (by rw [k 1 (by decide)]) (k 16 (by decide)) (k 17 (by decide)) e14 (q 64 (by omega)) (q 65 (by omega)) (q 66 (by omega))
  · rw [k 1 (by decide), hj 32 (by omega)]; exact r6
  · rw [k 1 (by decide), hj 17 (by omega)]; exact r7
  · rw [k 1 (by decide)]
    exact FR_grow r8 (gNc_fl fc (by decide) (by decide)) g2 (k 19 (by decide)) (k 20 (by decide)) (q 67 (by omega)) (q 68 (by omega)) (by rw [e14]; exact Int.le_refl _) (fun p _ => by rw [q 66 (by omega)])
theorem Rel_gone {B F n : Int} {c m c_q m_q : rHp} (h : Rel B c m) (hn : c 1 0 9 = n) (hF : 0 ≤ F) (hFn : F < n) (k1 : ∀ G : Nat, G ≠ 19 → G ≠ 20 → G ≠ 1 → G ≠ 0 → G ≠ 8 → c_q G = c G) (k2 : ∀ j, j ≠ 9 → c_q 1 0 j = c 1 0 j) (k3 : c_q 1 0 9 = n - 1) (k4 : ∀ f, c_q 19 0 f = if F ≤ f ∧ f < n - 1 then c 19 0 (f + 1) else c 19 0 f) (k5 : ∀ x, c_q 20 0 x = if 4 * F ≤ x ∧ x < 4 * n - 4 then c 20 0 (x + 4) else c 20 0 x)
    (f1 : fH 15 [67, 68] [17, 59, 93] m m_q) (f2 : m_q 15 0 17 = n - 1) (f3 : ∀ f, m_q 67 0 f = if F ≤ f ∧ f < n - 1 then m 67 0 (f + 1) else m 67 0 f) (f4 : ∀ y, m_q 68 0 y = if 4 * F ≤ y ∧ y < 4 * n - 4 then m 68 0 (y + 4) else m 68 0 y) : Rel B c_q m_q := by
  obtain ⟨r1, r2, r3, r4, r5, r6, r7, r8⟩ := h
  have pg : ∀ (G : Nat) (m : rHp), G ≠ 15 → rUp m 15 0 14 (m 15 0 13) G = m G := fun G m z => rUp_grp z
  have p14 : ∀ m : rHp, rUp m 15 0 14 (m 15 0 13) 15 0 14 = m 15 0 13 := fun m => rUp_at
  have pj : ∀ (m : rHp) j, j ≠ 14 → rUp m 15 0 14 (m 15 0 13) 15 0 j = m 15 0 j := fun m j z => rUp_ne (fun y => z y.2.2)
  have e3 : m_q 15 0 3 = m 15 0 3 := f1.2 3 (by decide)
  have e13 : m_q 15 0 13 = m 15 0 13 := f1.2 13 (by decide)
  have g2 := k1 2 (by decide) (by decide) (by decide) (by decide) (by decide)
  have g3 := k1 3 (by decide) (by decide) (by decide) (by decide) (by decide)
  have g26 := k1 26 (by decide) (by decide) (by decide) (by decide) (by decide)
  refine ⟨⟨?_, ?_, ?_, ?_⟩, ?_, ?_, ?_, ?_, ?_, ?_, ?_⟩
  · rw [g2, e3]; exact r1.1
  · rw [e3]; exact r1.2.1
  · rw [e3]; exact r1.2.2.1
  · rw [e3, k1 21 (by decide) (by decide) (by decide) (by decide) (by decide), f1.1 59 (by decide) (by decide)]; exact r1.2.2.2
  · unfold qNc
    rw [g3, g26]; exact r2
  · unfold qNm
    rw [f1.2 8 (by decide), f1.2 9 (by decide), f1.1 61 (by decide) (by decide), f1.1 62 (by decide) (by decide), f1.1 63 (by decide) (by decide)]; exact r3
  · rw [g3, e3]; exact r4
  · exact qP_up r5 (k2 7 (by decide)) (k1 16 (by decide) (by decide) (by decide) (by decide) (by decide)) (k1 17 (by decide) (by decide) (by decide) (by decide) (by decide)) (by rw [p14, p14]; exact e13) (by rw [pg 64 m_q (by decide), pg 64 m (by decide)]; exact f1.1 64 (by decide) (by decide)) (by rw [pg 65 m_q (by decide), pg 65 m (by decide)]; exact f1.1 65 (by decide) (by decide)) (by rw [pg 66 m_q (by decide), pg 66 m (by decide)]; exact f1.1 66 (by decide) (by decide))
  · rw [k2 10 (by decide), f1.2 32 (by decide)]; exact r6
  · rw [k3, f2]
    omega
  · rw [k3]
    rw [hn] at r8
    refine FR_gone r8 hF g3 g26 ?_ ?_ ?_ ?_ ?_ ?_ ?_ k4 k5 (fun f => ?_) (fun y => ?_)
    · rw [pj m_q 8 (by decide), pj m 8 (by decide)]; exact f1.2 8 (by decide)
    · rw [pj m_q 9 (by decide), pj m 9 (by decide)]; exact f1.2 9 (by decide)
    · rw [pg 61 m_q (by decide), pg 61 m (by decide)]; exact f1.1 61 (by decide) (by decide)
    · rw [pg 62 m_q (by decide), pg 62 m (by decide)]; exact f1.1 62 (by decide) (by decide)
    · rw [pg 63 m_q (by decide), pg 63 m (by decide)]; exact f1.1 63 (by decide) (by decide)
    · rw [pg 66 m_q (by decide), pg 66 m (by decide)]; exact f1.1 66 (by decide) (by decide)
    · rw [p14, p14]; exact e13
    · rw [pg 67 m_q (by decide), pg 67 m (by decide)]; exact f3 f
    · rw [pg 68 m_q (by decide), pg 68 m (by decide)]; exact f4 y
