/-! ===== what the readers keep ===== -/
/-- g_q is g but for the groups of L and the fields of J of the object o -/
noncomputable def fH (o : Nat) (L : List Nat) (J : List Int) (g g_q : rHp) : Prop := (∀ G, G ∉ L → G ≠ o → g_q G = g G) ∧ ∀ j, j ∉ J → g_q o 0 j = g o 0 j
theorem fH_refl {o : Nat} {L : List Nat} {J : List Int} {g : rHp} : fH o L J g g := ⟨fun _ _ _ => rfl, fun _ _ => rfl⟩
theorem fH_trans {o : Nat} {L : List Nat} {J : List Int} {g g1 g2 : rHp} (h : fH o L J g g1) (h2 : fH o L J g1 g2) : fH o L J g g2 :=
  ⟨fun G a b => (h2.1 G a b).trans (h.1 G a b), fun j a => (h2.2 j a).trans (h.2 j a)⟩
theorem fH_sub {o : Nat} {L L_q : List Nat} {J J_q : List Int} {g g_q : rHp} (h : fH o L J g g_q) (hL : ∀ x ∈ L, x ∈ L_q) (hJ : ∀ x ∈ J, x ∈ J_q) : fH o L_q J_q g g_q :=
  ⟨fun G a b => h.1 G (fun q => a (hL G q)) b, fun j a => h.2 j (fun q => a (hJ j q))⟩
theorem fH_grp {o : Nat} {L : List Nat} {J : List Int} {g g_q : rHp} {G : Nat} {k j v : Int} (h : fH o L J g g_q) (hG : G ∈ L) (ho : o ≠ G) : fH o L J g (rUp g_q G k j v) :=
  ⟨fun G_q a b => (rUp_grp (fun q => a (by rw [q]; exact hG))).trans (h.1 G_q a b), fun i a => by rw [rUp_grp ho]; exact h.2 i a⟩
theorem fH_fld {o : Nat} {L : List Nat} {J : List Int} {g g_q : rHp} {j v : Int} (h : fH o L J g g_q) (hJ : j ∈ J) : fH o L J g (rUp g_q o 0 j v) :=
  ⟨fun G_q a b => (rUp_grp b).trans (h.1 G_q a b), fun i a => by rw [rUp_ne (fun q => a (by rw [q.2.2]; exact hJ))]; exact h.2 i a⟩
noncomputable def lC : List Nat := [9, 10, 24, 25, 43, 44, 45, 46]
noncomputable def jC : List Int := [4, 5, 6, 8, 9, 10, 16]
noncomputable def lM : List Nat := [69, 70, 71, 72, 73, 75, 76, 77, 78, 79, 80, 81, 85, 86, 87, 88, 89, 90, 91]
noncomputable def jM : List Int := [35, 36, 37, 38, 39, 40, 45, 46, 47, 48, 49, 50, 58]
noncomputable def lCC : List Nat := [9, 10, 24, 25, 43, 44, 45, 46, 1, 3, 16, 17, 22, 23, 26, 1000]
noncomputable def jCC : List Int := [4, 5, 6, 8, 9, 10, 16, 13]
noncomputable def lMM : List Nat := [69, 70, 71, 72, 73, 75, 76, 77, 78, 79, 80, 81, 85, 86, 87, 88, 89, 90, 91, 61, 62, 63, 64, 65, 66, 74, 82, 83, 84]
noncomputable def jMM : List Int := [35, 36, 37, 38, 39, 40, 45, 46, 47, 48, 49, 50, 58, 8, 9, 14]
/-- where nothing is told, PREDICATES stand as they are -/
noncomputable def pU (c0 m0 c m : rHp) : Prop := c0 2 0 7 = 0 ∨ (m 15 0 14 = m0 15 0 14 ∧ c 1 = c0 1 ∧ c 16 = c0 16 ∧ c 17 = c0 17 ∧ m 64 = m0 64 ∧ m 65 = m0 65 ∧ m 66 = m0 66)
theorem pU_up {c0 m0 c m c_q m_q : rHp} (h : pU c0 m0 c m) (h14 : m_q 15 0 14 = m 15 0 14) (h1 : c_q 1 = c 1) (h16 : c_q 16 = c 16) (h17 : c_q 17 = c 17) (h64 : m_q 64 = m 64) (h65 : m_q 65 = m 65) (h66 : m_q 66 = m 66) : pU c0 m0 c_q m_q := by
  unfold pU
  rw [h14, h1, h16, h17, h64, h65, h66]
  exact h
/-- what holds of both sides while nothing is BROKEN: c0, m0 are the heaps of the text's beginning -/
noncomputable def qR (d : Int) (c0 m0 c m : rHp) : Prop := qT c m ∧ qA c m ∧ qN c0 m0 c m ∧ qP c m ∧ qV c m ∧ fH 2 lCC jCC c0 c ∧ (∀ j, j ≠ 7 → c 1 0 j = c0 1 0 j) ∧ fH 15 lMM jMM m0 m ∧ (m0 15 0 14 ≤ m 15 0 14 ∧ ∀ p, p < m0 15 0 14 → m 66 0 p = m0 66 0 p) ∧ (2 * c 3 0 1 ≤ 2 * c0 1000 0 0 + m 15 0 35 + d ∧ c0 1000 0 1 ≤ m 15 0 35 + d ∧ pU c0 m0 c m)
/-- what is left of it once the text is BROKEN -/
noncomputable def qZ (c0 m0 c m : rHp) : Prop := qN c0 m0 c m ∧ qP c m ∧ fH 2 lCC jCC c0 c ∧ (∀ j, j ≠ 7 → c 1 0 j = c0 1 0 j) ∧ fH 15 lMM jMM m0 m ∧ (m0 15 0 14 ≤ m 15 0 14 ∧ ∀ p, p < m0 15 0 14 → m 66 0 p = m0 66 0 p) ∧ (2 * c 3 0 1 ≤ 2 * c0 1000 0 0 + m0 15 0 34 + 1 ∧ pU c0 m0 c m)
theorem lC_sub : ∀ x ∈ lC, x ∈ lCC := by decide
theorem jC_sub : ∀ x ∈ jC, x ∈ jCC := by decide
theorem lM_sub : ∀ x ∈ lM, x ∈ lMM := by decide
theorem jM_sub : ∀ x ∈ jM, x ∈ jMM := by decide
theorem qN_up {c0 m0 c m c_q m_q : rHp} (h : qN c0 m0 c m) (h3 : c_q 3 = c 3) (h26 : c_q 26 = c 26) (h8 : m_q 15 0 8 = m 15 0 8) (h9 : m_q 15 0 9 = m 15 0 9) (h61 : m_q 61 = m 61) (h62 : m_q 62 = m 62) (h63 : m_q 63 = m 63) : qN c0 m0 c_q m_q := by
  unfold qN sN qNc qNm gNc gNm at h ⊢
  rw [h3, h26, h8, h9, h61, h62, h63]
  exact h
theorem vR_up {c m c_q m_q : rHp} {v v_q : Int} (h : vR c m v v_q) (h3 : c_q 3 = c 3) (h26 : c_q 26 = c 26) (h8 : m_q 15 0 8 = m 15 0 8) (h9 : m_q 15 0 9 = m 15 0 9) (h61 : m_q 61 = m 61) (h62 : m_q 62 = m 62) (h63 : m_q 63 = m 63) : vR c_q m_q v v_q := by
  unfold vR at h ⊢
  rw [h3, h26, h8, h9, h61, h62, h63]
  exact h
theorem qP_up {c m c_q m_q : rHp} (h : qP c m) (h7 : c_q 1 0 7 = c 1 0 7) (h16 : c_q 16 = c 16) (h17 : c_q 17 = c 17) (h14 : m_q 15 0 14 = m 15 0 14) (h64 : m_q 64 = m 64) (h65 : m_q 65 = m 65) (h66 : m_q 66 = m 66) : qP c_q m_q := by
  unfold qP at h ⊢
  rw [h7, h16, h17, h14, h64, h65, h66]
  exact h
theorem qV_up {c m c_q m_q : rHp} (h : qV c m) (h13 : c_q 2 0 13 = c 2 0 13) (h22 : c_q 22 = c 22) (h23 : c_q 23 = c 23) (h44 : m_q 15 0 44 = m 15 0 44) (h34 : m_q 15 0 34 = m 15 0 34) (h59 : m_q 59 = m 59) (h74 : m_q 74 = m 74) (h82 : m_q 82 = m 82) (h83 : m_q 83 = m 83) (h84 : m_q 84 = m 84) : qV c_q m_q := by
  unfold qV at h ⊢
  rw [h13, h22, h23, h44, h34, h59, h74, h82, h83, h84]
  exact h
theorem qT_up {c m c_q m_q : rHp} (h : qT c m) (h3 : c_q 2 0 3 = c 2 0 3) (h21 : c_q 21 = c 21) (h34 : m_q 15 0 34 = m 15 0 34) (h59 : m_q 59 = m 59) : qT c_q m_q := by
  unfold qT at h ⊢
  rw [h3, h21, h34, h59]
  exact h
/-- a step that touches only what is local -/
theorem qR_up {d d_q : Int} {c0 m0 c m c_q m_q : rHp} (h : qR d c0 m0 c m) (hc : fH 2 lC jC c c_q) (hm : fH 15 lM jM m m_q) (ha : c_q 2 0 6 = m_q 15 0 35) (h1 : m 15 0 35 + d ≤ m_q 15 0 35 + d_q) (h0 : 0 ≤ m_q 15 0 35) (h2 : m_q 15 0 35 ≤ m 15 0 34) : qR d_q c0 m0 c_q m_q := by
  obtain ⟨a1, a2, a3, a4, a5, a6, a7, a8, a9, a10⟩ := h
  have g : ∀ G, G ∉ lC → G ≠ 2 → c_q G = c G := hc.1
  have k : ∀ G, G ∉ lM → G ≠ 15 → m_q G = m G := hm.1
  have e34 : m_q 15 0 34 = m 15 0 34 := hm.2 34 (by decide)
  refine ⟨qT_up a1 (hc.2 3 (by decide)) (g 21 (by decide) (by decide)) e34 (k 59 (by decide) (by decide)), ⟨ha, h0, by rw [e34]; exact h2⟩,
    qN_up a3 (g 3 (by decide) (by decide)) (g 26 (by decide) (by decide)) (hm.2 8 (by decide)) (hm.2 9 (by decide)) (k 61 (by decide) (by decide)) (k 62 (by decide) (by decide)) (k 63 (by decide) (by decide)),
    qP_up a4 (by rw [g 1 (by decide) (by decide)]) (g 16 (by decide) (by decide)) (g 17 (by decide) (by decide)) (hm.2 14 (by decide)) (k 64 (by decide) (by decide)) (k 65 (by decide) (by decide)) (k 66 (by decide) (by decide)),
    qV_up a5 (hc.2 13 (by decide)) (g 22 (by decide) (by decide)) (g 23 (by decide) (by decide)) (hm.2 44 (by decide)) e34 (k 59 (by decide) (by decide)) (k 74 (by decide) (by decide)) (k 82 (by decide) (by decide)) (k 83 (by decide) (by decide)) (k 84 (by decide) (by decide)),
    fH_trans a6 (fH_sub hc lC_sub jC_sub), fun j hj => by rw [g 1 (by decide) (by decide)]; exact a7 j hj, fH_trans a8 (fH_sub hm lM_sub jM_sub), ⟨by rw [hm.2 14 (by decide)]; exact a9.1, fun p hp => by rw [k 66 (by decide) (by decide)]; exact a9.2 p hp⟩, ?_⟩
  have h14 := a10.1
  have h15 := a10.2.1
  rw [g 3 (by decide) (by decide)]
  exact ⟨by omega, by omega, pU_up a10.2.2 (hm.2 14 (by decide)) (g 1 (by decide) (by decide)) (g 16 (by decide) (by decide)) (g 17 (by decide) (by decide)) (k 64 (by decide) (by decide)) (k 65 (by decide) (by decide)) (k 66 (by decide) (by decide))⟩
/-- the end of a BROKEN text -/
theorem qZ_up {d : Int} {c0 m0 c m c_q m_q : rHp} (h : qR d c0 m0 c m) (hd : d ≤ 1) (hc : fH 2 lC jC c c_q) (hm : fH 15 lM jM m m_q) : qZ c0 m0 c_q m_q := by
  obtain ⟨a1, a2, a3, a4, a5, a6, a7, a8, a9, a10⟩ := h
  have g : ∀ G, G ∉ lC → G ≠ 2 → c_q G = c G := hc.1
  have k : ∀ G, G ∉ lM → G ≠ 15 → m_q G = m G := hm.1
  refine ⟨qN_up a3 (g 3 (by decide) (by decide)) (g 26 (by decide) (by decide)) (hm.2 8 (by decide)) (hm.2 9 (by decide)) (k 61 (by decide) (by decide)) (k 62 (by decide) (by decide)) (k 63 (by decide) (by decide)),
    qP_up a4 (by rw [g 1 (by decide) (by decide)]) (g 16 (by decide) (by decide)) (g 17 (by decide) (by decide)) (hm.2 14 (by decide)) (k 64 (by decide) (by decide)) (k 65 (by decide) (by decide)) (k 66 (by decide) (by decide)),
    fH_trans a6 (fH_sub hc lC_sub jC_sub), fun j hj => by rw [g 1 (by decide) (by decide)]; exact a7 j hj, fH_trans a8 (fH_sub hm lM_sub jM_sub), ⟨by rw [hm.2 14 (by decide)]; exact a9.1, fun p hp => by rw [k 66 (by decide) (by decide)]; exact a9.2 p hp⟩, ?_⟩
  have e34 : m 15 0 34 = m0 15 0 34 := a8.2 34 (by decide)
  have := a2.2.2
  have h14 := a10.1
  rw [g 3 (by decide) (by decide)]
  exact ⟨by omega, pU_up a10.2.2 (hm.2 14 (by decide)) (g 1 (by decide) (by decide)) (g 16 (by decide) (by decide)) (g 17 (by decide) (by decide)) (k 64 (by decide) (by decide)) (k 65 (by decide) (by decide)) (k 66 (by decide) (by decide))⟩
theorem qZ_more {c0 m0 c m c_q m_q : rHp} (h : qZ c0 m0 c m) (hc : fH 2 lC jC c c_q) (hm : fH 15 lM jM m m_q) : qZ c0 m0 c_q m_q := by
  obtain ⟨a3, a4, a6, a7, a8, a9, a10⟩ := h
  have g : ∀ G, G ∉ lC → G ≠ 2 → c_q G = c G := hc.1
  have k : ∀ G, G ∉ lM → G ≠ 15 → m_q G = m G := hm.1
  refine ⟨qN_up a3 (g 3 (by decide) (by decide)) (g 26 (by decide) (by decide)) (hm.2 8 (by decide)) (hm.2 9 (by decide)) (k 61 (by decide) (by decide)) (k 62 (by decide) (by decide)) (k 63 (by decide) (by decide)),
    qP_up a4 (by rw [g 1 (by decide) (by decide)]) (g 16 (by decide) (by decide)) (g 17 (by decide) (by decide)) (hm.2 14 (by decide)) (k 64 (by decide) (by decide)) (k 65 (by decide) (by decide)) (k 66 (by decide) (by decide)),
    fH_trans a6 (fH_sub hc lC_sub jC_sub), fun j hj => by rw [g 1 (by decide) (by decide)]; exact a7 j hj, fH_trans a8 (fH_sub hm lM_sub jM_sub), ⟨by rw [hm.2 14 (by decide)]; exact a9.1, fun p hp => by rw [k 66 (by decide) (by decide)]; exact a9.2 p hp⟩, ?_⟩
  rw [g 3 (by decide) (by decide)]
  exact ⟨a10.1, pU_up a10.2 (hm.2 14 (by decide)) (g 1 (by decide) (by decide)) (g 16 (by decide) (by decide)) (g 17 (by decide) (by decide)) (k 64 (by decide) (by decide)) (k 65 (by decide) (by decide)) (k 66 (by decide) (by decide))⟩
/-- NAMES stand as they are where they are not touched -/
theorem gNc_fl {L : List Nat} {J : List Int} {c c_q : rHp} (h : fH 2 L J c c_q) (h3 : 3 ∉ L) (h26 : 26 ∉ L) : gNc c c_q := by
  have e3 := h.1 3 h3 (by decide)
  have e26 := h.1 26 h26 (by decide)
  refine ⟨by rw [e3]; exact Int.le_refl _, fun k _ _ => by rw [e26]⟩
theorem gNm_fl {L : List Nat} {J : List Int} {m m_q : rHp} (h : fH 15 L J m m_q) (h61 : 61 ∉ L) (h62 : 62 ∉ L) (h63 : 63 ∉ L) (h8 : 8 ∉ J) (h9 : 9 ∉ J) : gNm m m_q := by
  have e61 := h.1 61 h61 (by decide)
  have e62 := h.1 62 h62 (by decide)
  have e63 := h.1 63 h63 (by decide)
  refine ⟨by rw [h.2 8 h8]; exact Int.le_refl _, by rw [h.2 9 h9]; exact Int.le_refl _, fun k _ _ => by rw [e62, e63]; exact ⟨rfl, rfl⟩, fun j _ _ => by rw [e61]⟩
/-- a NAME is read as a CONSTANT by both -/
theorem qR_name {c0 m0 c m : rHp} (h : qR 0 c0 m0 c m) (hlim : 2 * c0 1000 0 0 + m0 15 0 34 ≤ 10239) {w : Int} (hW : qW pSm (m 59 0) (m 15 0 34) w (m 15 0 37) (m 15 0 38)) (h37 : 2 * c 3 0 1 + 1 ≤ 2 * c0 1000 0 0 + m 15 0 35) (y : List Int) :
    ∃ k k_q c_q m_q, fn92 [w] c = (0, k, c_q) ∧ fn15 y m = (0, k_q + 1099511627776, m_q) ∧ 0 ≤ k ∧ vR c_q m_q (k + 1099511627776) (k_q + 1099511627776) ∧ qR 1 c0 m0 c_q m_q ∧ (∀ G, G ≠ 26 → G ≠ 3 → c_q G = c G) ∧ fH 15 [61, 62, 63] [8, 9] m m_q ∧ gNc c c_q ∧ gNm m m_q := by
  obtain ⟨a1, a2, a3, a4, a5, a6, a7, a8, a9, a10⟩ := h
  have e34 : m 15 0 34 = m0 15 0 34 := a8.2 34 (by decide)
  have a22 := a2.2.2
  have a101 := a10.1
  obtain ⟨k, k_q, c_q, m_q, h1, h2, h3, h4, h5, h6, h7, h8, h9, h10⟩ := name_two a3 hW (by omega) y
  have h8_q : fH 15 [61, 62, 63] [8, 9] m m_q := h8
  have g : ∀ G, G ∉ [61, 62, 63] → G ≠ 15 → m_q G = m G := h8.1
  have e2 : c_q 2 = c 2 := h7 2 (by decide) (by decide)
  refine ⟨k, k_q, c_q, m_q, h1, h2, h4, h5, ⟨qT_up a1 (by rw [e2]) (h7 21 (by decide) (by decide)) (h8.2 34 (by decide)) (g 59 (by decide) (by decide)), ⟨?_, ?_, ?_⟩, h3, qP_up a4 (by rw [h7 1 (by decide) (by decide)]) (h7 16 (by decide) (by decide)) (h7 17 (by decide) (by decide)) (h8.2 14 (by decide)) (g 64 (by decide) (by decide)) (g 65 (by decide) (by decide)) (g 66 (by decide) (by decide)),
    qV_up a5 (by rw [e2]) (h7 22 (by decide) (by decide)) (h7 23 (by decide) (by decide)) (h8.2 44 (by decide)) (h8.2 34 (by decide)) (g 59 (by decide) (by decide)) (g 74 (by decide) (by decide)) (g 82 (by decide) (by decide)) (g 83 (by decide) (by decide)) (g 84 (by decide) (by decide)), ?_, ?_, ?_, ⟨?_, ?_⟩, ?_⟩, h7, h8_q, h9, h10⟩
  · rw [e2, h8.2 35 (by decide)]; exact a2.1
  · rw [h8.2 35 (by decide)]; exact a2.2.1
  · rw [h8.2 35 (by decide), h8.2 34 (by decide)]; exact a2.2.2
  · refine ⟨fun G x1 x2 => (h7 G (fun q => x1 (by rw [q]; decide)) (fun q => x1 (by rw [q]; decide))).trans (a6.1 G x1 x2), fun j hj => by rw [e2]; exact a6.2 j hj⟩
  · intro j hj
    rw [h7 1 (by decide) (by decide)]
    exact a7 j hj
  · exact fH_trans a8 (fH_sub h8_q (by decide) (by decide))
  · rw [h8.2 14 (by decide)]; exact a9.1
  · intro p hp
    rw [g 66 (by decide) (by decide)]
    exact a9.2 p hp
  · have h14 := a10.1
    have h15 := a10.2.1
    rw [h8.2 35 (by decide)]
    exact ⟨by omega, by omega, pU_up a10.2.2 (h8.2 14 (by decide)) (h7 1 (by decide) (by decide)) (h7 16 (by decide) (by decide)) (h7 17 (by decide) (by decide)) (g 64 (by decide) (by decide)) (g 65 (by decide) (by decide)) (g 66 (by decide) (by decide))⟩
