/-! ===== the HEAD's ARGS by both ===== -/
noncomputable def hArg (c m : rHp) (h k : Int) : Prop := (c 43 h k = 0 ∧ m 85 0 k = 0 ∧ vR c m (c 46 h k) (m 87 0 k)) ∨ (c 43 h k = 1 ∧ m 85 0 k = 1 ∧ c 44 h k = m 87 0 k ∧ qVr (c 44 h k) ∧ c 44 h k < m 74 0 (m 15 0 44)) ∨ (c 43 h k = 4 ∧ m 85 0 k = 3)
/-- beside: the VARIABLE that is counted, the place of the tally -/
noncomputable def qHx (c m : rHp) (h i : Int) : Prop := (2 ≤ c 10 h 12 → c 10 h 14 = m 15 0 50 ∧ qVr (m 15 0 50)) ∧ ∀ k, 0 ≤ k → k < i → c 43 h k = 4 → c 46 h k = 0 ∧ k = c 10 h 13
noncomputable def qHs (H : Int → Prop) (c m : rHp) (h i : Int) : Prop := qB H c m ∧ c 10 h 4 = 0 ∧ c 10 h 5 = i ∧ m 15 0 48 = i ∧ c 10 h 12 = m 15 0 49 ∧ (0 ≤ c 10 h 12 ∧ c 10 h 12 ≤ 4) ∧ (∀ k, 0 ≤ k → k < i → hArg c m h k) ∧ (∀ u, H u ↔ 2 ≤ c 10 h 12 ∧ c 10 h 14 = u) ∧ ((∃ k, 0 ≤ k ∧ k < i ∧ c 43 h k = 4) ↔ 1 ≤ c 10 h 12) ∧ qHx c m h i
theorem qB_up {H : Int → Prop} {c m c_q m_q : rHp} {L : List Nat} {J : List Int} (h : qB H c m) (h5 : c_q 2 0 5 = c 2 0 5) (h16 : c_q 2 0 16 = c 2 0 16) (h25 : c_q 25 = c 25) (hm : fH 15 L J m m_q) (hL : ∀ x ∈ [74, 84, 89, 90, 91], x ∉ L) (hJ : ∀ x ∈ [(44 : Int), 58, 45], x ∉ J) (ha : m 15 0 35 ≤ m_q 15 0 35) : qB H c_q m_q := by
  obtain ⟨s1, s2, s3, s4, s5⟩ := h
  have e74 := hm.1 74 (hL 74 (by decide)) (by decide)
  have e44 := hm.2 44 (hJ 44 (by decide))
  have g74 : m_q 74 0 (m_q 15 0 44) = m 74 0 (m 15 0 44) := by rw [e74, e44]
  refine ⟨qS_up s1 e44 e74 (hm.1 84 (hL 84 (by decide)) (by decide)) ha, qO_up s2 h16 h25 (hm.2 58 (hJ 58 (by decide))) (hm.1 89 (hL 89 (by decide)) (by decide)) (hm.1 90 (hL 90 (by decide)) (by decide)) (hm.1 91 (hL 91 (by decide)) (by decide)) (by rw [g74]; exact Int.le_refl _), ?_, ?_, ?_⟩
  · rw [h5, hm.2 45 (hJ 45 (by decide))]; exact s3
  · rw [h5]; exact s4
  · rw [h5, g74]; exact s5
theorem qHs_add {H H_q : Int → Prop} {c m c_q mF : rHp} {h i kd v : Int} (hs : qHs H c m h i) (hi : 0 ≤ i) (hB_q : qB H_q c_q mF) (h4 : c_q 10 h 4 = 0) (h5 : c_q 10 h 5 = i + 1) (h49 : c_q 10 h 12 = mF 15 0 49) (ht : 0 ≤ c_q 10 h 12 ∧ c_q 10 h 12 ≤ 4) (hk : ∀ k, k ≠ i → c_q 43 h k = c 43 h k ∧ c_q 44 h k = c 44 h k ∧ c_q 46 h k = c 46 h k) (hc : gNc c c_q) (hm : gNm m mF) (h85 : mF 85 = m 85) (h87 : mF 87 = m 87) (hcnt : m 74 0 (m 15 0 44) ≤ mF 74 0 (mF 15 0 44))
    (hnew : (c_q 43 h i = 0 ∧ kd = 0 ∧ vR c_q mF (c_q 46 h i) v) ∨ (c_q 43 h i = 1 ∧ kd = 1 ∧ c_q 44 h i = v ∧ qVr (c_q 44 h i) ∧ c_q 44 h i < mF 74 0 (mF 15 0 44)) ∨ (c_q 43 h i = 4 ∧ kd = 3)) (hH : ∀ u, H_q u ↔ 2 ≤ c_q 10 h 12 ∧ c_q 10 h 14 = u) (hT : c_q 43 h i = 4 ∧ 1 ≤ c_q 10 h 12 ∨ c_q 43 h i ≠ 4 ∧ c_q 10 h 12 = c 10 h 12) (hx : (c_q 10 h 12 = c 10 h 12 ∧ c_q 10 h 13 = c 10 h 13 ∧ c_q 10 h 14 = c 10 h 14 ∧ mF 15 0 50 = m 15 0 50 ∧ c_q 43 h i ≠ 4) ∨ (c 10 h 12 = 0 ∧ c_q 10 h 13 = i ∧ c_q 46 h i = 0 ∧ (2 ≤ c_q 10 h 12 → c_q 10 h 14 = mF 15 0 50 ∧ qVr (mF 15 0 50)))) :
    qHs H_q c_q (rUp (rUp (rUp mF 85 0 i kd) 87 0 i v) 15 0 48 (i + 1)) h (i + 1) := by
  obtain ⟨s1, s2, s3, s4, s5, s6, s7, s8, s9, s10⟩ := hs
  have f : fH 15 [85, 87] [48] mF (rUp (rUp (rUp mF 85 0 i kd) 87 0 i v) 15 0 48 (i + 1)) := fH_fld (fH_grp (fH_grp fH_refl (by decide) (by decide)) (by decide) (by decide)) (by decide)
  have x48 : rUp (rUp (rUp mF 85 0 i kd) 87 0 i v) 15 0 48 (i + 1) 15 0 48 = i + 1 := rUp_at
  have x85 : ∀ k, rUp (rUp (rUp mF 85 0 i kd) 87 0 i v) 15 0 48 (i + 1) 85 0 k = if k = i then kd else m 85 0 k := by
    intro k
    rw [rUp_grp (by decide), rUp_grp (by decide)]
    by_cases e : k = i
    · rw [if_pos e, e, rUp_at]
    · rw [if_neg e, rUp_ne (fun y => e y.2.2), h85]
  have x87 : ∀ k, rUp (rUp (rUp mF 85 0 i kd) 87 0 i v) 15 0 48 (i + 1) 87 0 k = if k = i then v else m 87 0 k := by
    intro k
    rw [rUp_grp (by decide)]
    by_cases e : k = i
    · rw [if_pos e, e, rUp_at]
    · rw [if_neg e, rUp_ne (fun y => e y.2.2), rUp_grp (by decide), h87]
  have x74 : rUp (rUp (rUp mF 85 0 i kd) 87 0 i v) 15 0 48 (i + 1) 74 0 (rUp (rUp (rUp mF 85 0 i kd) 87 0 i v) 15 0 48 (i + 1) 15 0 44) = mF 74 0 (mF 15 0 44) := by rw [f.1 74 (by decide) (by decide), f.2 44 (by decide)]
  have up : ∀ a b, vR c_q mF a b → vR c_q (rUp (rUp (rUp mF 85 0 i kd) 87 0 i v) 15 0 48 (i + 1)) a b := fun a b q => vR_up q rfl rfl (f.2 8 (by decide)) (f.2 9 (by decide)) (f.1 61 (by decide) (by decide)) (f.1 62 (by decide) (by decide)) (f.1 63 (by decide) (by decide))
  refine ⟨qB_up hB_q rfl rfl rfl f (by decide) (by decide) (by rw [f.2 35 (by decide)]; exact Int.le_refl _), h4, h5, x48, ?_, ht, ?_, hH, ?_, ?_⟩
  · rw [f.2 49 (by decide)]; exact h49
  · intro k k0 k1
    unfold hArg
    rw [x85, x87, x74]
    by_cases e : k = i
    · rw [if_pos e, if_pos e, e]
      rcases hnew with ⟨q1, q2, q3⟩ | ⟨q1, q2, q3, q4, q5⟩ | ⟨q1, q2⟩
      · exact Or.inl ⟨q1, q2, up _ _ q3⟩
      · exact Or.inr (Or.inl ⟨q1, q2, q3, q4, q5⟩)
      · exact Or.inr (Or.inr ⟨q1, q2⟩)
    · rw [if_neg e, if_neg e]
      obtain ⟨j1, j2, j3⟩ := hk k e
      rw [j1, j2, j3]
      rcases s7 k k0 (by omega) with ⟨q1, q2, q3⟩ | ⟨q1, q2, q3, q4, q5⟩ | ⟨q1, q2⟩
      · exact Or.inl ⟨q1, q2, up _ _ (vR_grow q3 hc hm)⟩
      · exact Or.inr (Or.inl ⟨q1, q2, q3, q4, by omega⟩)
      · exact Or.inr (Or.inr ⟨q1, q2⟩)
  · rcases hT with ⟨t1, t2⟩ | ⟨t1, t2⟩
    · exact ⟨fun _ => t2, fun _ => ⟨i, hi, by omega, t1⟩⟩
    · rw [t2, ← s9]
      constructor
      · rintro ⟨k, k0, k1, k2⟩
        by_cases e : k = i
        · rw [e] at k2; exact absurd k2 t1
        · rw [(hk k e).1] at k2
          exact ⟨k, k0, by omega, k2⟩
      · rintro ⟨k, k0, k1, k2⟩
        exact ⟨k, k0, by omega, by rw [(hk k (by omega)).1]; exact k2⟩
  · unfold qHx
    rw [f.2 50 (by decide)]
    rcases hx with ⟨z1, z2, z3, z4, z5⟩ | ⟨z1, z2, z3, z4⟩
    · rw [z1, z2, z3, z4]
      refine ⟨s10.1, fun k k0 k1 k2 => ?_⟩
      by_cases e : k = i
      · rw [e] at k2; exact absurd k2 z5
      · rw [(hk k e).1] at k2
        rw [(hk k e).2.2]
        exact s10.2 k k0 (by omega) k2
    · refine ⟨z4, fun k k0 k1 k2 => ?_⟩
      by_cases e : k = i
      · rw [e, z2]; exact ⟨z3, rfl⟩
      · rw [(hk k e).1] at k2
        have := s9.1 ⟨k, k0, by omega, k2⟩
        omega
/-- an ARG is put: its cells -/
theorem put_at {c : rHp} {h kd pl sl v i : Int} (h5 : c 10 h 5 = i) (hi : i < 4) : (∀ k, (fn104 [h, kd, pl, sl, v] c).2.2 43 h k = if k = i then kd else c 43 h k) ∧ (∀ k, (fn104 [h, kd, pl, sl, v] c).2.2 44 h k = if k = i then sl else c 44 h k) ∧ (∀ k, (fn104 [h, kd, pl, sl, v] c).2.2 46 h k = if k = i then v else c 46 h k) ∧ ∀ j, (fn104 [h, kd, pl, sl, v] c).2.2 10 h j = if j = 5 then i + 1 else c 10 h j := by
  rw [fn104_eq (by omega), h5]
  refine ⟨fun k => ?_, fun k => ?_, fun k => ?_, fun j => ?_⟩
  · rw [rUp_grp (by decide), rUp_grp (by decide), rUp_grp (by decide), rUp_grp (by decide)]
    by_cases e : k = i
    · rw [if_pos e, e, rUp_at]
    · rw [if_neg e, rUp_ne (fun y => e y.2.2)]
  · rw [rUp_grp (by decide), rUp_grp (by decide)]
    by_cases e : k = i
    · rw [if_pos e, e, rUp_at]
    · rw [if_neg e, rUp_ne (fun y => e y.2.2), rUp_grp (by decide), rUp_grp (by decide)]
  · rw [rUp_grp (by decide)]
    by_cases e : k = i
    · rw [if_pos e, e, rUp_at]
    · rw [if_neg e, rUp_ne (fun y => e y.2.2), rUp_grp (by decide), rUp_grp (by decide), rUp_grp (by decide)]
  · by_cases e : j = 5
    · rw [if_pos e, e, rUp_at]
    · rw [if_neg e, rUp_ne (fun y => e y.2.2), rUp_grp (by decide), rUp_grp (by decide), rUp_grp (by decide), rUp_grp (by decide)]
noncomputable def lP : List Nat := [3, 26, 22, 23, 10, 43, 44, 45, 46]
noncomputable def jP : List Int := [6, 8, 9, 10, 13]
noncomputable def lQ : List Nat := [61, 62, 63, 74, 82, 83, 84, 85, 86, 87, 88, 89, 90, 91]
noncomputable def jQ : List Int := [8, 9, 35, 37, 38, 39, 40, 48, 49, 50, 58]
/-- the reference's ARG -/
noncomputable def qHb (i : Int) (r : zR) : zR := if 1 ≤ r.2.1 then (0, 1, rUp (rUp (rUp r.2.2 85 0 i (r.2.2 15 0 40)) 87 0 i (r.2.2 15 0 39)) 15 0 48 (i + 1)) else (0, 0, r.2.2)
/-- what holds behind an ARG of the HEAD -/
noncomputable def qHo (c0 m0 c m : rHp) (h i : Int) (r s : zR) : Prop := (∃ H_q c_q m_q, r = (0, 1, c_q) ∧ s = (0, 1, m_q) ∧ qR 1 c0 m0 c_q m_q ∧ qHs H_q c_q m_q h (i + 1) ∧ fH 2 lP jP c c_q ∧ fH 15 lQ jQ m m_q ∧ gNc c c_q ∧ gNm m m_q ∧ c_q 10 h 6 = c 10 h 6 ∧ ∀ k, k ≠ i → c_q 46 h k = c 46 h k) ∨ (∃ c_q m_q, r = (0, 0, c_q) ∧ s = (0, 0, m_q) ∧ qZ c0 m0 c_q m_q)
/-- a CONSTANT in the HEAD: c1, m3 stand at it -/
theorem hcon_two {H : Int → Prop} {c0 m0 c m c1 m3 : rHp} {h i : Int} (hR : qR 0 c0 m0 c1 m3) (hs : qHs H c1 m3 h i) (hi : 0 ≤ i) (hi4 : i < 4) (hlim : 2 * c0 1000 0 0 + m0 15 0 34 ≤ 10239) (hsk : pSk (m3 59 0) (m3 15 0 34) (m3 15 0 35) = m3 15 0 35) (hca : pCa (pB (m3 59 0) (m3 15 0 34) (m3 15 0 35)) = false) (fc : fH 2 [] [6] c c1) (fm : fH 15 [86] [35] m m3) :
    qHo c0 m0 c m h i (fn136 [h] c1) (qHb i (fn20 [0] m3)) := by
  rcases const_two (any := 0) (g := h) hR hlim hsk hca (Or.inl rfl) with ⟨c3, m_q, v, h1, h2, h3, h4, h5, h6, h7, h8, h9, h10⟩ | ⟨c_q, m_q, h1, h2, h3⟩
  · have z5 : c3 10 h 5 = i := by rw [h4.1 10 (by decide) (by decide)]; exact hs.2.2.1
    obtain ⟨p1, p2, p3, p4⟩ := put_at (kd := 0) (pl := m3 15 0 35) (sl := 0) (v := v) z5 hi4
    have fx := fn104_fr (g := h) (k := 0) (p := m3 15 0 35) (s := 0) (v := v) (c := c3)
    generalize (fn104 [h, 0, m3 15 0 35, 0, v] c3).2.2 = c_q at *
    have fS := hs
    obtain ⟨s1, s2, s3, s4, s5, s6, s7, s8, s9, s10⟩ := fS
    have e10 : ∀ j, c3 10 h j = c1 10 h j := fun j => by rw [h4.1 10 (by decide) (by decide)]
    have c12 : c_q 10 h 12 = c1 10 h 12 := by rw [p4, if_neg (by decide), e10]
    have c14 : c_q 10 h 14 = c1 10 h 14 := by rw [p4, if_neg (by decide), e10]
    have c13 : c_q 10 h 13 = c1 10 h 13 := by rw [p4, if_neg (by decide), e10]
    have gc : gNc c1 c_q := gNc_trans h9 (gNc_fl fx (by decide) (by decide))
    have hB_q : qB H c_q m_q := qB_up s1 ((fx.2 5 (by decide)).trans (h4.2 5 (by decide))) ((fx.2 16 (by decide)).trans (h4.2 16 (by decide))) ((fx.1 25 (by decide) (by decide)).trans (h4.1 25 (by decide) (by decide))) h5 (by decide) (by decide) (by omega)
    have hadd := qHs_add (H_q := H) (c_q := c_q) (mF := m_q) (kd := 0) (v := m_q 15 0 39) hs hi hB_q (by rw [p4, if_neg (by decide), e10]; exact s2) (by rw [p4, if_pos rfl]) (by rw [c12, s5, h5.2 49 (by decide)]) (by rw [c12]; exact s6)
      (fun k hk => ⟨by rw [p1, if_neg hk, h4.1 43 (by decide) (by decide)], by rw [p2, if_neg hk, h4.1 44 (by decide) (by decide)], by rw [p3, if_neg hk, h4.1 46 (by decide) (by decide)]⟩) gc h10 (h5.1 85 (by decide) (by decide)) (h5.1 87 (by decide) (by decide)) (by rw [h5.1 74 (by decide) (by decide), h5.2 44 (by decide)]; exact Int.le_refl _)
      (Or.inl ⟨by rw [p1, if_pos rfl], rfl, by rw [p3, if_pos rfl]; exact vR_up h6 (fx.1 3 (by decide) (by decide)) (fx.1 26 (by decide) (by decide)) rfl rfl rfl rfl rfl⟩) (by rw [c12, c14]; exact s8) (Or.inr ⟨by rw [p1, if_pos rfl]; decide, c12⟩) (Or.inl ⟨c12, c13, c14, h5.2 50 (by decide), by rw [p1, if_pos rfl]; decide⟩)
    have fF : fH 15 [85, 87] [48] m_q (rUp (rUp (rUp m_q 85 0 i 0) 87 0 i (m_q 15 0 39)) 15 0 48 (i + 1)) := fH_fld (fH_grp (fH_grp fH_refl (by decide) (by decide)) (by decide) (by decide)) (by decide)
    refine Or.inl ⟨H, c_q, rUp (rUp (rUp m_q 85 0 i 0) 87 0 i (m_q 15 0 39)) 15 0 48 (i + 1), h1, ?_, ?_, hadd, ?_, ?_, ?_, ?_, by rw [p4, if_neg (by decide), e10, fc.1 10 (by decide) (by decide)], fun k hk => by rw [p3, if_neg hk, h4.1 46 (by decide) (by decide), fc.1 46 (by decide) (by decide)]⟩
    · unfold qHb
      rw [h2]
      simp only [h7]
      exact if_pos (show (1 : Int) ≤ 1 by decide)
    · refine qR_up h3 (fH_sub fx (by decide) (by decide)) (fH_sub fF (by decide) (by decide)) ?_ ?_ ?_ ?_
      · rw [fx.2 6 (by decide), fF.2 35 (by decide)]; exact h3.2.1.1
      · rw [fF.2 35 (by decide)]; exact Int.le_refl _
      · rw [fF.2 35 (by decide)]; exact h3.2.1.2.1
      · rw [fF.2 35 (by decide)]; exact h3.2.1.2.2
    · exact fH_trans (fH_trans (fH_sub fc (by decide) (by decide)) (fH_sub h4 (by decide) (by decide))) (fH_sub fx (by decide) (by decide))
    · exact fH_trans (fH_trans (fH_sub fm (by decide) (by decide)) (fH_sub h5 (by decide) (by decide))) (fH_sub fF (by decide) (by decide))
    · exact gNc_trans (gNc_fl fc (by decide) (by decide)) gc
    · exact gNm_trans (gNm_trans (gNm_fl fm (by decide) (by decide) (by decide) (by decide) (by decide)) h10) (gNm_fl fF (by decide) (by decide) (by decide) (by decide) (by decide))
  · refine Or.inr ⟨c_q, m_q, h1, ?_, h3⟩
    unfold qHb
    rw [h2]
    exact if_neg (show ¬ (1 : Int) ≤ 0 by decide)
