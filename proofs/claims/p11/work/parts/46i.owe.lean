/-! ===== new PREDICATES in a text; strays and what is owed ===== -/
theorem newpred_R {d : Int} {c0 m0 c m : rHp} (hR : qR d c0 m0 c m) (hp0 : c0 2 0 7 = 0) {w f s n n0 : Int} (hW : qW pSm (m 59 0) n0 w f s) (hB : m 15 0 14 < 20) :
    ∃ c_q m_q, fn126 [w, n] c = (0, m 15 0 14, c_q) ∧ fn22 [f, s, n] m = (0, m 15 0 14, m_q) ∧ qR d c0 m0 c_q m_q ∧ m_q 15 0 14 = m 15 0 14 + 1 ∧ m_q 66 0 (m 15 0 14) = n ∧ (∀ p, p ≠ m 15 0 14 → m_q 66 0 p = m 66 0 p) ∧ (∀ G, G ≠ 16 → G ≠ 17 → G ≠ 1 → c_q G = c G) ∧ (∀ j, j ≠ 7 → c_q 1 0 j = c 1 0 j) ∧ fH 15 [64, 65, 66] [14] m m_q := by
  obtain ⟨a1, a2, a3, a4, a5, a6, a7, a8, a9, a10⟩ := hR
  obtain ⟨c_q, m_q, h1, h2, h3, h4, h5, h6, h7, h8, h9⟩ := newpred_two (n := n) a4 hW hB
  have h9_q : fH 15 [64, 65, 66] [14] m m_q := h9
  have g : ∀ G, G ∉ [64, 65, 66] → G ≠ 15 → m_q G = m G := h9.1
  have e2 : c_q 2 = c 2 := h7 2 (by decide) (by decide) (by decide)
  have p2 := a4.2.1
  refine ⟨c_q, m_q, h1, h2, ⟨qT_up a1 (by rw [e2]) (h7 21 (by decide) (by decide) (by decide)) (h9.2 34 (by decide)) (g 59 (by decide) (by decide)), ⟨?_, ?_, ?_⟩,
    qN_up a3 (h7 3 (by decide) (by decide) (by decide)) (h7 26 (by decide) (by decide) (by decide)) (h9.2 8 (by decide)) (h9.2 9 (by decide)) (g 61 (by decide) (by decide)) (g 62 (by decide) (by decide)) (g 63 (by decide) (by decide)), h3,
    qV_up a5 (by rw [e2]) (h7 22 (by decide) (by decide) (by decide)) (h7 23 (by decide) (by decide) (by decide)) (h9.2 44 (by decide)) (h9.2 34 (by decide)) (g 59 (by decide) (by decide)) (g 74 (by decide) (by decide)) (g 82 (by decide) (by decide)) (g 83 (by decide) (by decide)) (g 84 (by decide) (by decide)), ?_, ?_, ?_, ⟨?_, ?_⟩, ?_⟩, h4, h5, h6, h7, h8, h9_q⟩
  · rw [e2, h9.2 35 (by decide)]; exact a2.1
  · rw [h9.2 35 (by decide)]; exact a2.2.1
  · rw [h9.2 35 (by decide), h9.2 34 (by decide)]; exact a2.2.2
  · refine ⟨fun G x1 x2 => (h7 G (fun q => x1 (by rw [q]; decide)) (fun q => x1 (by rw [q]; decide)) (fun q => x1 (by rw [q]; decide))).trans (a6.1 G x1 x2), fun j hj => by rw [e2]; exact a6.2 j hj⟩
  · intro j hj
    rw [h8 j hj]
    exact a7 j hj
  · exact fH_trans a8 (fH_sub h9_q (by decide) (by decide))
  · rw [h4]; have := a9.1; omega
  · intro p hp
    rw [h6 p (by have := a9.1; omega)]
    exact a9.2 p hp
  · rw [h7 3 (by decide) (by decide) (by decide), h9.2 35 (by decide)]
    exact ⟨a10.1, a10.2.1, Or.inl hp0⟩
/-- the strays of the class are what the reference owes for a ! ATOM and had not KNOWN -/
noncomputable def qO (H : Int → Prop) (c m : rHp) : Prop := 0 ≤ c 2 0 16 ∧ 0 ≤ m 15 0 58 ∧ (∀ i, 0 ≤ i → i < c 2 0 16 → qVr (c 25 0 i)) ∧
  (∀ k, 0 ≤ k → k < m 15 0 58 → qVr (m 89 0 k) ∧ m 89 0 k < m 74 0 (m 15 0 44) ∧ (m 91 0 k = 0 ∨ m 91 0 k = 1)) ∧
  (∀ u, (∃ i, 0 ≤ i ∧ i < c 2 0 16 ∧ c 25 0 i = u) ↔ ∃ k, 0 ≤ k ∧ k < m 15 0 58 ∧ m 91 0 k = 1 ∧ m 89 0 k = u ∧ qBt (m 90 0 k) u ≠ 1) ∧
  ∀ u, (∃ k, 0 ≤ k ∧ k < m 15 0 58 ∧ m 91 0 k = 0 ∧ m 89 0 k = u) ↔ H u
theorem qO_up {H : Int → Prop} {c m c_q m_q : rHp} (h : qO H c m) (h16 : c_q 2 0 16 = c 2 0 16) (h25 : c_q 25 = c 25) (h58 : m_q 15 0 58 = m 15 0 58) (h89 : m_q 89 = m 89) (h90 : m_q 90 = m 90) (h91 : m_q 91 = m 91) (hc : m 74 0 (m 15 0 44) ≤ m_q 74 0 (m_q 15 0 44)) : qO H c_q m_q := by
  obtain ⟨a1, a2, a3, a4, a5, a6⟩ := h
  unfold qO
  rw [h16, h25, h58, h89, h90, h91]
  refine ⟨a1, a2, a3, fun k k0 k1 => ?_, a5, a6⟩
  obtain ⟨b1, b2, b3⟩ := a4 k k0 k1
  exact ⟨b1, by omega, b3⟩
/-- one more is owed: by a ! ATOM (t = 1) or by the HEAD (t = 0) -/
noncomputable def qOw (m : rHp) (p v t : Int) : rHp := (fn25 [p, v, t] m).2.2
theorem qOw_eq {m : rHp} {p v t : Int} : qOw m p v t = rUp (rUp (rUp (rUp (rUp m 88 0 (m 15 0 58) p) 89 0 (m 15 0 58) v) 91 0 (m 15 0 58) t) 90 0 (m 15 0 58) (m 15 0 45)) 15 0 58 (m 15 0 58 + 1) := rfl
theorem fn25_one {m : rHp} {p v t : Int} : fn25 [p, v, t] m = (0, 0, qOw m p v t) := rfl
theorem qOw_fr {m : rHp} {p v t : Int} : fH 15 [88, 89, 90, 91] [58] m (qOw m p v t) := by
  rw [qOw_eq]
  exact fH_fld (fH_grp (fH_grp (fH_grp (fH_grp fH_refl (by decide) (by decide)) (by decide) (by decide)) (by decide) (by decide)) (by decide) (by decide)) (by decide)
theorem qOw_89 {m : rHp} {p v t : Int} (k : Int) : qOw m p v t 89 0 k = if k = m 15 0 58 then v else m 89 0 k := by
  rw [qOw_eq, rUp_grp (by decide), rUp_grp (by decide), rUp_grp (by decide)]
  by_cases h : k = m 15 0 58
  · rw [h, rUp_at, if_pos rfl]
  · rw [rUp_ne (fun q => h q.2.2), if_neg h, rUp_grp (by decide)]
theorem qOw_91 {m : rHp} {p v t : Int} (k : Int) : qOw m p v t 91 0 k = if k = m 15 0 58 then t else m 91 0 k := by
  rw [qOw_eq, rUp_grp (by decide), rUp_grp (by decide)]
  by_cases h : k = m 15 0 58
  · rw [h, rUp_at, if_pos rfl]
  · rw [rUp_ne (fun q => h q.2.2), if_neg h, rUp_grp (by decide), rUp_grp (by decide)]
theorem qOw_90 {m : rHp} {p v t : Int} (k : Int) : qOw m p v t 90 0 k = if k = m 15 0 58 then m 15 0 45 else m 90 0 k := by
  rw [qOw_eq, rUp_grp (by decide)]
  by_cases h : k = m 15 0 58
  · rw [h, rUp_at, if_pos rfl]
  · rw [rUp_ne (fun q => h q.2.2), if_neg h, rUp_grp (by decide), rUp_grp (by decide), rUp_grp (by decide)]
theorem qOw_58 {m : rHp} {p v t : Int} : qOw m p v t 15 0 58 = m 15 0 58 + 1 := by rw [qOw_eq, rUp_at]
/-- what is owed by the HEAD, with one more -/
theorem qOw_hd {H : Int → Prop} {m : rHp} {p v t : Int} (a2 : 0 ≤ m 15 0 58) (h : ∀ u, (∃ k, 0 ≤ k ∧ k < m 15 0 58 ∧ m 91 0 k = 0 ∧ m 89 0 k = u) ↔ H u) (u : Int) :
    (∃ k, 0 ≤ k ∧ k < qOw m p v t 15 0 58 ∧ qOw m p v t 91 0 k = 0 ∧ qOw m p v t 89 0 k = u) ↔ (H u ∨ t = 0 ∧ v = u) := by
  rw [← h u, qOw_58]
  constructor
  · rintro ⟨k, k0, k1, k2, k3⟩
    rw [qOw_91] at k2
    rw [qOw_89] at k3
    by_cases hk : k = m 15 0 58
    · rw [if_pos hk] at k2 k3
      exact Or.inr ⟨k2, k3⟩
    · rw [if_neg hk] at k2 k3
      exact Or.inl ⟨k, k0, by omega, k2, k3⟩
  · rintro (⟨k, k0, k1, k2, k3⟩ | ⟨k2, k3⟩)
    · have hk : k ≠ m 15 0 58 := by omega
      refine ⟨k, k0, by omega, ?_, ?_⟩
      · rw [qOw_91, if_neg hk]; exact k2
      · rw [qOw_89, if_neg hk]; exact k3
    · refine ⟨m 15 0 58, a2, by omega, ?_, ?_⟩
      · rw [qOw_91, if_pos rfl]; exact k2
      · rw [qOw_89, if_pos rfl]; exact k3
/-- a ! ATOM's VARIABLE that is KNOWN, or a HEAD's: the class keeps no stray -/
theorem qO_kn_q {H : Int → Prop} {c m : rHp} (h : qO H c m) {p v t : Int} (hv : qVr v) (hc : v < m 74 0 (m 15 0 44)) (ht : t = 0 ∨ t = 1 ∧ qBt (m 15 0 45) v = 1) : qO (fun u => H u ∨ t = 0 ∧ v = u) c (qOw m p v t) := by
  obtain ⟨a1, a2, a3, a4, a5, a6⟩ := h
  have e74 : qOw m p v t 74 0 (qOw m p v t 15 0 44) = m 74 0 (m 15 0 44) := by rw [qOw_fr.1 74 (by decide) (by decide), qOw_fr.2 44 (by decide)]
  refine ⟨a1, by rw [qOw_58]; omega, a3, fun k k0 k1 => ?_, fun u => (a5 u).trans ⟨?_, ?_⟩, qOw_hd a2 a6⟩
  · rw [qOw_58] at k1
    rw [qOw_89, qOw_91, e74]
    by_cases hk : k = m 15 0 58
    · rw [if_pos hk, if_pos hk]
      exact ⟨hv, hc, ht.imp id (fun q => q.1)⟩
    · rw [if_neg hk, if_neg hk]
      exact a4 k k0 (by omega)
  · rintro ⟨k, k0, k1, k2, k3, k4⟩
    have hk : k ≠ m 15 0 58 := by omega
    refine ⟨k, k0, by rw [qOw_58]; omega, ?_, ?_, ?_⟩
    · rw [qOw_91, if_neg hk]; exact k2
    · rw [qOw_89, if_neg hk]; exact k3
    · rw [qOw_90, if_neg hk]; exact k4
  · rintro ⟨k, k0, k1, k2, k3, k4⟩
    rw [qOw_58] at k1
    rw [qOw_91] at k2
    rw [qOw_89] at k3
    rw [qOw_90] at k4
    by_cases hk : k = m 15 0 58
    · rw [if_pos hk] at k2 k3 k4
      rcases ht with ht | ht
      · omega
      · rw [← k3] at k4
        exact absurd ht.2 k4
    · rw [if_neg hk] at k2 k3 k4
      exact ⟨k, k0, by omega, k2, k3, k4⟩
theorem qO_H {H H_q : Int → Prop} {c m : rHp} (h : qO H c m) (e : ∀ u, H u ↔ H_q u) : qO H_q c m := by
  obtain ⟨a1, a2, a3, a4, a5, a6⟩ := h
  exact ⟨a1, a2, a3, a4, a5, fun u => (a6 u).trans (e u)⟩
theorem qO_kn {H : Int → Prop} {c m : rHp} (h : qO H c m) {p v : Int} (hv : qVr v) (hc : v < m 74 0 (m 15 0 44)) (hb : qBt (m 15 0 45) v = 1) : qO H c (qOw m p v 1) :=
  qO_H (qO_kn_q h hv hc (Or.inr ⟨rfl, hb⟩)) (fun u => ⟨fun q => q.resolve_right (fun x => absurd x.1 (by decide)), Or.inl⟩)
/-- a ! ATOM's VARIABLE that is not KNOWN: the class keeps a stray -/
theorem qO_st {H : Int → Prop} {c m c_q : rHp} (h : qO H c m) {p v : Int} (hv : qVr v) (hc : v < m 74 0 (m 15 0 44)) (hb : qBt (m 15 0 45) v ≠ 1) (h16 : c_q 2 0 16 = c 2 0 16 + 1) (h25 : c_q 25 0 = fun i => if i = c 2 0 16 then v else c 25 0 i) : qO H c_q (qOw m p v 1) := by
  obtain ⟨a1, a2, a3, a4, a5, a6⟩ := h
  have e74 : qOw m p v 1 74 0 (qOw m p v 1 15 0 44) = m 74 0 (m 15 0 44) := by rw [qOw_fr.1 74 (by decide) (by decide), qOw_fr.2 44 (by decide)]
  refine ⟨by omega, by rw [qOw_58]; omega, fun i i0 i1 => ?_, fun k k0 k1 => ?_, fun u => ⟨?_, ?_⟩, fun u => (qOw_hd a2 a6 u).trans ⟨fun q => q.resolve_right (fun x => absurd x.1 (by decide)), Or.inl⟩⟩
  · rw [h25]
    show qVr (if i = c 2 0 16 then v else c 25 0 i)
    by_cases hi : i = c 2 0 16
    · rw [if_pos hi]; exact hv
    · rw [if_neg hi]; exact a3 i i0 (by omega)
  · rw [qOw_58] at k1
    rw [qOw_89, qOw_91, e74]
    by_cases hk : k = m 15 0 58
    · rw [if_pos hk, if_pos hk]
      exact ⟨hv, hc, Or.inr rfl⟩
    · rw [if_neg hk, if_neg hk]
      exact a4 k k0 (by omega)
  · rintro ⟨i, i0, i1, i2⟩
    rw [h25] at i2
    have i2 : (if i = c 2 0 16 then v else c 25 0 i) = u := i2
    by_cases hi : i = c 2 0 16
    · rw [if_pos hi] at i2
      refine ⟨m 15 0 58, a2, by rw [qOw_58]; omega, ?_, ?_, ?_⟩
      · rw [qOw_91, if_pos rfl]
      · rw [qOw_89, if_pos rfl]; exact i2
      · rw [qOw_90, if_pos rfl, ← i2]; exact hb
    · rw [if_neg hi] at i2
      obtain ⟨k, k0, k1, k2, k3, k4⟩ := (a5 u).1 ⟨i, i0, by omega, i2⟩
      have hk : k ≠ m 15 0 58 := by omega
      refine ⟨k, k0, by rw [qOw_58]; omega, ?_, ?_, ?_⟩
      · rw [qOw_91, if_neg hk]; exact k2
      · rw [qOw_89, if_neg hk]; exact k3
      · rw [qOw_90, if_neg hk]; exact k4
  · rintro ⟨k, k0, k1, k2, k3, k4⟩
    rw [qOw_58] at k1
    rw [qOw_91] at k2
    rw [qOw_89] at k3
    rw [qOw_90] at k4
    rw [h25]
    by_cases hk : k = m 15 0 58
    · rw [if_pos hk] at k3
      refine ⟨c 2 0 16, a1, by omega, ?_⟩
      show (if c 2 0 16 = c 2 0 16 then v else c 25 0 (c 2 0 16)) = u
      rw [if_pos rfl]; exact k3
    · rw [if_neg hk] at k2 k3 k4
      obtain ⟨i, i0, i1, i2⟩ := (a5 u).2 ⟨k, k0, by omega, k2, k3, k4⟩
      refine ⟨i, i0, by omega, ?_⟩
      show (if i = c 2 0 16 then v else c 25 0 i) = u
      rw [if_neg (by omega)]; exact i2
