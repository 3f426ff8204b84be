/-! ===== what the law's rows rest on ===== -/
/-- between calls: what holds of both -/
noncomputable def JJ (B : Int) (c m : rHp) : Prop := Rel B c m ∧ yU c m ∧ c 0 0 7 = m 15 0 59
/-- behind i numbers of the script -/
noncomputable def lJ (i : Int) (g : rHp) : Prop := ∃ B : Int, 6 * B ≤ 20 * i ∧ JJ B g g
theorem Rel_eq {B : Int} {c m c_q m_q : rHp} (h : Rel B c m) (hc : eqC c c_q) (hm : eqM m m_q) : Rel B c_q m_q := by
  obtain ⟨⟨a1, a2, a3, a4, a5, _⟩, a6⟩ := hc
  obtain ⟨⟨b3, b8, b9, b13, b17, b32, _⟩, bG, _⟩ := hm
  have p14 : ∀ m : rHp, rUp m 15 0 14 (m 15 0 13) 15 0 14 = m 15 0 13 := fun m => rUp_at
  have p8 : ∀ m : rHp, rUp m 15 0 14 (m 15 0 13) 15 0 8 = m 15 0 8 := fun m => rUp_ne (by decide)
  have p9 : ∀ m : rHp, rUp m 15 0 14 (m 15 0 13) 15 0 9 = m 15 0 9 := fun m => rUp_ne (by decide)
  have g61 : ∀ m : rHp, rUp m 15 0 14 (m 15 0 13) 61 = m 61 := fun m => rUp_grp (by decide)
  have g62 : ∀ m : rHp, rUp m 15 0 14 (m 15 0 13) 62 = m 62 := fun m => rUp_grp (by decide)
  have g63 : ∀ m : rHp, rUp m 15 0 14 (m 15 0 13) 63 = m 63 := fun m => rUp_grp (by decide)
  have g64 : ∀ m : rHp, rUp m 15 0 14 (m 15 0 13) 64 = m 64 := fun m => rUp_grp (by decide)
  have g65 : ∀ m : rHp, rUp m 15 0 14 (m 15 0 13) 65 = m 65 := fun m => rUp_grp (by decide)
  have g66 : ∀ m : rHp, rUp m 15 0 14 (m 15 0 13) 66 = m 66 := fun m => rUp_grp (by decide)
  have g67 : ∀ m : rHp, rUp m 15 0 14 (m 15 0 13) 67 = m 67 := fun m => rUp_grp (by decide)
  have g68 : ∀ m : rHp, rUp m 15 0 14 (m 15 0 13) 68 = m 68 := fun m => rUp_grp (by decide)
  have k16 := a6 16 (by decide)
  have k17 := a6 17 (by decide)
  have k19 := a6 19 (by decide)
  have k20 := a6 20 (by decide)
  have k21 := a6 21 (by decide)
  have k26 := a6 26 (by decide)
  have n59 := bG 59 (by decide)
  have n61 := bG 61 (by decide)
  have n62 := bG 62 (by decide)
  have n63 := bG 63 (by decide)
  have n64 := bG 64 (by decide)
  have n65 := bG 65 (by decide)
  have n66 := bG 66 (by decide)
  have n67 := bG 67 (by decide)
  have n68 := bG 68 (by decide)
  unfold Rel qNc qNm qP FR vR at h ⊢
  simp only [p14, p8, p9, g61, g62, g63, g64, g65, g66, g67, g68] at h ⊢
  simp only [a1, a2, a3, a4, a5, k16, k17, k19, k20, k21, k26, b3, b8, b9, b13, b17, b32, n59, n61, n62, n63, n64, n65, n66, n67, n68]
  exact h
theorem yU_eq {c m c_q m_q : rHp} (h : yU c m) (h60 : m 15 0 32 ≤ 60) (hc : eqC c c_q) (hm : eqM m m_q) : yU c_q m_q := by
  obtain ⟨⟨_, a2, _, _, _, _⟩, a6⟩ := hc
  obtain ⟨⟨_, b8, b9, b13, _, b32, _⟩, bG, b80⟩ := hm
  obtain ⟨y1, y2, y3⟩ := h
  have g : ∀ (x : rHp) (v : Int) (K : Nat), K ≠ 15 → rUp x 15 0 14 v K = x K := fun x v K z => rUp_grp z
  unfold yU
  rw [a6 40 (by decide), b32, b13]
  refine ⟨y1, ?_, fun r r0 r1 => ?_⟩
  · unfold sN at y2 ⊢
    rw [a2, a6 26 (by decide), b8, b9, bG 61 (by decide), bG 62 (by decide), bG 63 (by decide)]
    exact y2
  · refine gR2_to (y3 r r0 r1) (by rw [a6 9 (by decide)]) (fun K k z _ _ => ?_) (fun K z => ?_) (fun K k z _ _ => ?_) (fun K k z _ _ => ?_) (fun K k j z k0 k1 j0 j1 => ?_) (by rw [rUp_at, rUp_at]; exact Int.le_refl _) (fun p _ => by rw [g _ _ 66 (by decide), g _ _ 66 (by decide), bG 66 (by decide)])
    · rw [a6 K (by rcases z with rfl | rfl | rfl | rfl <;> decide)]
    · rw [g _ _ K (by omega), g _ _ K (by omega), bG K (by rcases z with rfl | rfl | rfl | rfl <;> decide)]
    · rw [g _ _ K (by omega), g _ _ K (by omega), bG K (by rcases z with rfl | rfl <;> decide)]
    · rw [g _ _ K (by omega), g _ _ K (by omega), bG K (by rcases z with rfl | rfl | rfl <;> decide)]
    · rw [g _ _ K (by omega), g _ _ K (by omega)]
      rcases z with rfl | rfl
      · exact b80 _ (by omega)
      · rw [bG 81 (by decide)]
theorem JJ_eq {B : Int} {c m c_q m_q : rHp} (h : JJ B c m) (hc : eqC c c_q) (hm : eqM m m_q) : JJ B c_q m_q :=
  ⟨Rel_eq h.1 hc hm, yU_eq h.2.1 (by have := h.1.2.2.2.2.2.1; omega) hc hm, by rw [hc.1.2.2.2.2.2, hm.1.2.2.2.2.2.2]; exact h.2.2⟩
theorem flag_A {c m c_q m_q : rHp} (h : c 0 0 7 = m 15 0 59) (hA : yFA c m c_q m_q) : c_q 0 0 7 = m_q 15 0 59 := by
  rcases hA.2.2.2.2.2 with ⟨a1, _, a3, _⟩ | ⟨a1, _, a3, _⟩
  · rw [a1, a3]; exact h
  · rw [a1, a3]
theorem JJ_of {B B_q : Int} {c m c_q m_q : rHp} (h : JJ B c m) (hR : Rel B_q c_q m_q) (hy : yU c m → yU c_q m_q) (hA : yFA c m c_q m_q) : JJ B_q c_q m_q := ⟨hR, hy h.2.1, flag_A h.2.2 hA⟩
theorem feed_row {B a b d e f v v_q : Int} {o o_q : Nat} {x y : List Int} {c m c_q m_q : rHp} (h : JJ B c m) (l1 : sn267 (a :: b :: d :: e :: f :: x) c o v c_q) (l2 : sn3 (a :: b :: d :: e :: f :: y) m o_q v_q m_q) : JJ (B + 20) c_q m_q := by
  have l1 : (o, v, c_q) = fn267 [a, b, d, e, f] c := l1
  have l2 : (o_q, v_q, m_q) = fn3 [a, b, d, e, f] m := l2
  obtain ⟨o1, v1, c1, v2, m1, p1, p2, hR, hy, hA⟩ := feed_two (a := a) (b := b) (d := d) (e := e) (f := f) h.1
  have e1 : c_q = (fn267 [a, b, d, e, f] c).2.2 := congrArg (fun r : zR => r.2.2) l1
  have e2 : m_q = m1 := by
    have := congrArg (fun r : zR => r.2.2) l2
    rw [p2] at this
    exact this
  have e3 : eqC c1 (fn267 [a, b, d, e, f] c).2.2 := by
    unfold fn267
    simp only [zLet, List.getD_cons_zero, List.getD_cons_succ, p1]
    split
    · exact eqC_up rfl (by decide)
    · exact eqC_rf
  rw [e1, e2]
  exact JJ_eq (JJ_of h hR hy hA) e3 eqM_rf
theorem end_row {B a v v_q : Int} {o o_q : Nat} {x y : List Int} {c m c_q m_q : rHp} (h : JJ B c m) (l1 : sn268 (a :: x) c o v c_q) (l2 : sn4 (a :: y) m o_q v_q m_q) : JJ B c_q m_q := by
  have l1 : (o, v, c_q) = fn268 [a] c := l1
  have l2 : (o_q, v_q, m_q) = fn4 [a] m := l2
  obtain ⟨o1, v1, c1, v2, m1, p1, p2, hR, hy, hA⟩ := end_two (n := a) h.1
  have e1 : c_q = (fn268 [a] c).2.2 := congrArg (fun r : zR => r.2.2) l1
  have e2 : m_q = m1 := by
    have := congrArg (fun r : zR => r.2.2) l2
    rw [p2] at this
    exact this
  have e3 : eqC c1 (fn268 [a] c).2.2 := by
    unfold fn268
    simp only [zLet, List.getD_cons_zero, List.getD_cons_succ, p1]
    split
    · exact eqC_up rfl (by decide)
    · exact eqC_rf
  rw [e1, e2]
  exact JJ_eq (JJ_of h hR hy hA) e3 eqM_rf
theorem tell_row {B v v_q : Int} {o o_q : Nat} {x y : List Int} {c m c_q m_q : rHp} (h : JJ B c m) (hB : B ≤ 10239) (l1 : sn166 x c o v c_q) (l2 : sn51 y m o_q v_q m_q) : JJ (B + 1) c_q m_q := by
  have l1 : (o, v, c_q) = fn166 [] c := l1
  have l2 : (o_q, v_q, m_q) = fn51 [] m := l2
  obtain ⟨v1, c1, v2, m1, p1, p2, hR, hy, hA⟩ := tell_two h.1 hB
  rw [p1] at l1
  rw [p2] at l2
  have e1 : c_q = c1 := congrArg (fun r : zR => r.2.2) l1
  have e2 : m_q = m1 := congrArg (fun r : zR => r.2.2) l2
  rw [e1, e2]
  exact JJ_of h hR hy (yFA_fin hA)
theorem untell_row {B v v_q : Int} {o o_q : Nat} {x y : List Int} {c m c_q m_q : rHp} (h : JJ B c m) (hB : B ≤ 10239) (l1 : sn167 x c o v c_q) (l2 : sn52 y m o_q v_q m_q) : JJ (B + 1) c_q m_q := by
  have l1 : (o, v, c_q) = fn167 [] c := l1
  have l2 : (o_q, v_q, m_q) = fn52 [] m := l2
  obtain ⟨v1, c1, v2, m1, p1, p2, hR, hy, hA⟩ := untell_two h.1 hB
  rw [p1] at l1
  rw [p2] at l2
  have e1 : c_q = c1 := congrArg (fun r : zR => r.2.2) l1
  have e2 : m_q = m1 := congrArg (fun r : zR => r.2.2) l2
  rw [e1, e2]
  exact JJ_of h hR hy hA
theorem drop_row {B r v v_q : Int} {o o_q : Nat} {x y : List Int} {c m c_q m_q : rHp} (h : JJ B c m) (l1 : sn269 (r :: x) c o v c_q) (l2 : sn54 (r :: y) m o_q v_q m_q) : JJ B c_q m_q := by
  have l1 : (o, v, c_q) = fn269 [r] c := l1
  have l2 : (o_q, v_q, m_q) = fn54 [r] m := l2
  have e1 : c_q = (fn269 [r] c).2.2 := congrArg (fun r : zR => r.2.2) l1
  have e2 : m_q = (fn54 [r] m).2.2 := congrArg (fun r : zR => r.2.2) l2
  rcases drop_two (r := r) h.1 with ⟨w, c1, m1, p1, p2, _, hR, hy, hA⟩ | ⟨m1, p1, p2, _, hR, hy, hA⟩
  · have e3 : eqC c1 (fn269 [r] c).2.2 := by
      unfold fn269
      simp only [zLet, List.getD_cons_zero, List.getD_cons_succ, p1]
      split
      · exact eqC_up rfl (by decide)
      · exact eqC_rf
    rw [e1, e2, p2]
    exact JJ_eq (JJ_of h hR hy hA) e3 eqM_rf
  · have e3 : eqC c (fn269 [r] c).2.2 := by
      unfold fn269
      simp only [zLet, List.getD_cons_zero, List.getD_cons_succ, p1]
      split
      · exact eqC_up rfl (by decide)
      · exact eqC_rf
    rw [e1, e2, p2]
    exact JJ_eq (JJ_of h hR hy hA) e3 eqM_rf
/-- the HEAD alone, where nothing is told -/
theorem head_Z {c0 m1 cU c1 : rHp} {h : Int} (e1 : rUp (rUp (fn110 [] cU).2.2 9 (cU 40 0 (cU 1 0 10)) 2 0) 9 (cU 40 0 (cU 1 0 10)) 3 0 = c1) (hR : qR 0 c0 m1 c1 m1) (hB : qB (fun _ => False) c1 m1) (h00 : 0 ≤ c0 1000 0 0) (hlim : 2 * c0 1000 0 0 + m1 15 0 34 ≤ 10239) (hh : h = 9 * c1 40 0 (c1 1 0 10)) (hp : c1 2 0 7 = 1) :
    qZ c0 m1 (fn146 [] cU).2.2 (fn27 [] m1).2.2 := by
  have hw := head_two hR hB h00 hlim hh
  have e146 : fn146 [] cU = qH6 c1 := by rw [fn146_eq, e1]
  rw [e146]
  rcases hw with ⟨H, i, w, c9, m9, w1, w2, w3, w4, w5, w6, w7, w8, w9, w10, w11, w12, w13⟩ | ⟨c_q, m_q, w1, w2, w3⟩
  · obtain ⟨s1, s2, s3, s4, s5, s6, s7, s8, s9⟩ := w4
    have h7 : c9 2 0 7 = 1 := by rw [w7.2 7 (by decide)]; exact hp
    have hh9 : h = 9 * c9 40 0 (c9 1 0 10) := by rw [w7.1 40 (by decide) (by decide), w7.1 1 (by decide) (by decide)]; exact hh
    obtain ⟨P, h125, h21, hP⟩ := pred_two (n := i) w3.2.2.2.1 w10
    have e133 : fn133 [] c9 = (0, 1, rUp c9 10 h 8 P) := fn133_1 hh9 h7 (by rw [w9, s3]; exact h125)
    rw [w1, e133, w2]
    exact qZ_up w3 (by decide) (fH_grp fH_refl (by decide) (by decide)) fH_refl
  · rw [w1, w2]
    exact w3
theorem head_D {c0 m1 cU c1 : rHp} {r : Int} (e : fn146 [] cU = qH6 c1) (hR : qR 0 c0 m1 c1 m1) (hZ : qZ c0 m1 (fn146 [] cU).2.2 (fn27 [] m1).2.2) : fD (c1 40 0 (c1 1 0 10)) c1 (fn146 [] cU).2.2 ∧ fE r m1 (fn27 [] m1).2.2 := by
  refine read_D hR (by rw [e]; exact qH6_o) (fun q => fn27_y) (fun hl => ?_) (hZ.2.2.1.2 3 (by decide)) (hZ.2.2.2.2.1.2 34 (by decide))
  obtain ⟨a, b, z1, z2, z3, z4⟩ := head_e hR hl
  rw [e, z1, z2]
  exact ⟨fD_H z3 (by decide), fE_H z4 (by decide) (by decide)⟩
theorem find_row1 {B : Int} {c m : rHp} (h : JJ B c m) (hB : B ≤ 10239) : JJ (B + 1) (hF1 c) (hG1 m) := by
  obtain ⟨c0, c1, m1, e1, e2, hR, hBB, h00, hlim, o7, x40, x7, x16, x73, m34, m17, m3, fin⟩ := start_any (p := 1) (r := 61) h.1 hB (by decide)
  have k40 : qUc 1 c 40 0 (qUc 1 c 1 0 10) = c 40 0 (c 1 0 10) := rfl
  have e1_q := e1
  rw [← k40] at e1_q
  have hZ := head_Z (h := 9 * c 40 0 (c 1 0 10)) e1_q hR hBB h00 hlim (by rw [x40]) x7
  obtain ⟨fR, fF, f9, f17, sd, fy, fA⟩ := fin _ _ hZ
  have e3 : (fn32 [61] (rUp (rUp (fn5 [] m).2.2 15 0 0 0) 15 0 14 (m 15 0 13))).2.2 = m1 := by
    rw [qUm_eq, ← e2]; rfl
  unfold hF1 hG1
  by_cases b : c 0 0 7 ≠ 0
  · rw [if_pos b, if_pos (by rw [← h.2.2]; exact b), e3]
    obtain ⟨d1, d2⟩ := head_D (r := 61) (by rw [fn146_eq, e1_q]) hR hZ
    rw [x40] at d1
    exact JJ_of h fR (fy d1 d2 (by have := h.1.2.2.2.2.2.1; omega)) fA
  · rw [if_neg b, if_neg (by rw [← h.2.2]; exact b)]
    have n := none_read (c := c) (m := m)
    refine JJ_of h ?_ n.1 n.2
    refine four (a := False) (b := False) h.1 fR sd (Or.inr ⟨id, rfl⟩) (Or.inr ⟨id, rfl⟩)
theorem ask_row1 {B : Int} {c m : rHp} (h : JJ B c m) (hB : B ≤ 10239) : JJ (B + 1) (hA1 c) (hB1 m) := by
  obtain ⟨a1, a2⟩ := ask_two h.1 hB
  obtain ⟨a3, a4⟩ := a2 h.2.2
  exact JJ_of h a1 a3 a4
