/-! ===== numbers, NAMES, PREDICATES and VARIABLES by both ===== -/
theorem pNv_congr {t t_q : Int → Int} {f : Int} : ∀ {k : Nat}, (∀ j : Nat, j < k → t (f + j) = t_q (f + j)) → pNv t f k = pNv t_q f k
  | 0, _ => rfl
  | k + 1, e => by
    show zF2 .ladd (zF2 .lmul (pNv t f k) 10) (t (f + k) + (-48)) = zF2 .ladd (zF2 .lmul (pNv t_q f k) 10) (t_q (f + k) + (-48))
    rw [pNv_congr (fun j hj => e j (by omega)), e k (by omega)]
theorem lneg_lo {v : Int} (h0 : 0 ≤ v) (h1 : v ≤ 10000000) : zF1 .lneg v = -v := by
  show (-(Int64.ofInt v)).toInt = -v
  rw [Int64.toInt_neg, zL_of (by omega) (by omega)]
  exact aB64 (by omega) (by omega)
/-- a number: both read it, or both find it BROKEN -/
theorem num_two {c m : rHp} (hT : qT c m) (hA : qA c m) (hn : m 15 0 35 < m 15 0 34) (x y : List Int) :
    (∃ e v, fn116 x c = (0, 1, rUp (rUp c 2 0 6 e) 2 0 10 v) ∧ fn14 y m = (0, 1, rUp (rUp (rUp m 15 0 35 e) 15 0 39 v) 15 0 40 0) ∧ m 15 0 35 < e ∧ e ≤ m 15 0 34 ∧ v < 1099511627776 ∧ -2147483648 ≤ v ∧ v ≤ 2147483647) ∨
    (∃ e v, fn116 x c = (0, 0, rUp (rUp (rUp c 2 0 6 e) 2 0 10 v) 2 0 4 (m 15 0 35)) ∧ fn14 y m = (0, 0, rUp m 15 0 36 (m 15 0 35))) := by
  obtain ⟨t1, t2, t3⟩ := hT
  obtain ⟨a1, a2, a3⟩ := hA
  have hb : c 21 0 (m 15 0 35) = m 59 0 (m 15 0 35) := (t3 _ a2 hn).1
  have key : ∀ f : Int, m 15 0 35 ≤ f → pEd pDg (c 21 0) (c 2 0 3) f = pEd pDg (m 59 0) (m 15 0 34) f := by
    intro f hf
    rw [t1]
    exact pEd_congr _ _ (Nat.le_refl _) (fun j h1 h2 => (t3 j (by omega) h2).1)
  have val : ∀ f e : Int, m 15 0 35 ≤ f → f ≤ m 15 0 34 → e = pEd pDg (m 59 0) (m 15 0 34) f → ¬ (e = f ∨ 7 < e - f) → pNv (c 21 0) f (e - f).toNat = vK (m 59 0) f (e - f).toNat := by
    intro f e hf hf2 he h
    have h1 : f ≤ e := by rw [he]; exact pEd_le
    have h2 : e ≤ m 15 0 34 := by rw [he]; exact pEd_top hf2
    rw [pNv_congr (t_q := m 59 0) (fun j hj => (t3 _ (by omega) (by omega)).1)]
    refine pNv_eq (by omega) (fun j hj => ?_)
    exact pEd_in (q := pDg) (t := m 59 0) (n := m 15 0 34) (i := f) (by omega) (by rw [← he]; omega)
  have rg : ∀ f e : Int, m 15 0 35 ≤ f → f ≤ m 15 0 34 → e = pEd pDg (m 59 0) (m 15 0 34) f → ¬ (e = f ∨ 7 < e - f) → 0 ≤ vK (m 59 0) f (e - f).toNat ∧ vK (m 59 0) f (e - f).toNat ≤ 10000000 := by
    intro f e hf hf2 he h
    have h1 : f ≤ e := by rw [he]; exact pEd_le
    have h3 := vK_rg (t := m 59 0) (f := f) (k := (e - f).toNat) (fun j hj => pEd_in (q := pDg) (t := m 59 0) (n := m 15 0 34) (i := f) (by omega) (by rw [← he]; omega))
    have h4 := pow10 (k := (e - f).toNat) (by omega)
    omega
  have h14 := fn14_eq y m rfl hn
  rw [fn8_eq a3] at h14
  have h116 := fn116_eq x c (p := m 15 0 35) a1.symm (by rw [t1]; exact hn) rfl rfl rfl
  rw [hb] at h116
  by_cases h45 : m 59 0 (m 15 0 35) = 45
  · rw [if_pos h45] at h14
    rw [if_pos h45, if_pos h45, key _ (by omega)] at h116
    by_cases h : pEd pDg (m 59 0) (m 15 0 34) (m 15 0 35 + 1) = m 15 0 35 + 1 ∨ 7 < pEd pDg (m 59 0) (m 15 0 34) (m 15 0 35 + 1) - (m 15 0 35 + 1)
    · rw [if_pos h] at h14 h116
      exact Or.inr ⟨_, _, h116, h14⟩
    · rw [if_neg h] at h14 h116
      rw [if_neg (by decide), val _ _ (by omega) (by omega) rfl h] at h116
      have h1 : m 15 0 35 + 1 ≤ pEd pDg (m 59 0) (m 15 0 34) (m 15 0 35 + 1) := pEd_le
      have r := rg _ _ (by omega) (by omega) rfl h
      exact Or.inl ⟨_, _, h116, h14, by omega, pEd_top (by omega), by rw [lneg_lo r.1 r.2]; omega⟩
  · rw [if_neg h45] at h14
    rw [if_neg h45, if_neg h45, key _ (by omega)] at h116
    by_cases h : pEd pDg (m 59 0) (m 15 0 34) (m 15 0 35) = m 15 0 35 ∨ 7 < pEd pDg (m 59 0) (m 15 0 34) (m 15 0 35) - m 15 0 35
    · rw [if_pos h] at h14 h116
      exact Or.inr ⟨_, _, h116, h14⟩
    · rw [if_neg h] at h14 h116
      rw [if_pos rfl, val _ _ (by omega) (by omega) rfl h] at h116
      have h1 : m 15 0 35 ≤ pEd pDg (m 59 0) (m 15 0 34) (m 15 0 35) := pEd_le
      have r := rg _ _ (by omega) (by omega) rfl h
      exact Or.inl ⟨_, _, h116, h14, by omega, pEd_top (by omega), by omega⟩
theorem zCpy_grp {g : rHp} {G0 G1 G : Nat} {k0 sp k1 dp n : Int} (h : G ≠ G1) : zCpy g G0 k0 sp G1 k1 dp n G = g G := by
  funext k j
  unfold zCpy
  rw [if_neg (fun q => h q.1)]
theorem zCpy_in {g : rHp} {G0 G1 : Nat} {k0 sp k1 dp n j : Int} (h1 : dp ≤ j) (h2 : j < dp + n) : zCpy g G0 k0 sp G1 k1 dp n G1 k1 j = g G0 k0 (sp + (j - dp)) := by
  unfold zCpy
  rw [if_pos ⟨rfl, rfl, h1, h2⟩]
theorem zCpy_off {g : rHp} {G0 G1 : Nat} {k0 sp k1 dp n j : Int} (h : ¬ (dp ≤ j ∧ j < dp + n)) : zCpy g G0 k0 sp G1 k1 dp n G1 k1 j = g G1 k1 j := by
  unfold zCpy
  rw [if_neg (fun q => h q.2.2)]
/-- g_q is g but for the groups of L and the fields of J of the reference's object -/
noncomputable def qFm (L : List Nat) (J : List Int) (g g_q : rHp) : Prop := (∀ G, G ∉ L → G ≠ 15 → g_q G = g G) ∧ ∀ j, j ∉ J → g_q 15 0 j = g 15 0 j
/-- the CONSTANT of a NAME by the class -/
theorem name_c {c : rHp} (hN : qNc c) (w : Int) (hB : c 3 0 1 < 5120) :
    ∃ k c_q, fn92 [w] c = (0, k, c_q) ∧ qNc c_q ∧ gNc c c_q ∧ 0 ≤ k ∧ k < c_q 3 0 1 ∧ c_q 26 0 k = w ∧ c_q 3 0 1 ≤ c 3 0 1 + 1 ∧ (∀ G, G ≠ 26 → G ≠ 3 → c_q G = c G) ∧ ((k = c 3 0 1 ∧ c_q 3 0 1 = c 3 0 1 + 1) ∨ (k < c 3 0 1 ∧ c_q 3 0 1 = c 3 0 1)) := by
  have h92 := fn92_eq w c
  obtain ⟨n1, n2⟩ := hN
  by_cases h : c 3 0 1 ≤ pIx (fun j => decide (c 26 0 j ≠ w)) (c 3 0 1) 0
  · rw [if_pos h, if_pos hB] at h92
    have hno : ∀ j, 0 ≤ j → j < c 3 0 1 → c 26 0 j ≠ w := fun j h0 h1 => by
      have := pIx_in (q := fun j => decide (c 26 0 j ≠ w)) (n := c 3 0 1) (i := 0) (j := j) h0 (by omega)
      simpa using this
    have e3 : rUp (rUp c 26 0 (c 3 0 1) w) 3 0 1 (c 3 0 1 + 1) 3 0 1 = c 3 0 1 + 1 := rUp_at
    have e26 : ∀ j, rUp (rUp c 26 0 (c 3 0 1) w) 3 0 1 (c 3 0 1 + 1) 26 0 j = if j = c 3 0 1 then w else c 26 0 j := by
      intro j
      rw [rUp_grp (by decide)]
      by_cases hj : j = c 3 0 1
      · rw [if_pos hj, hj, rUp_at]
      · rw [if_neg hj, rUp_ne (fun q => hj q.2.2)]
    refine ⟨_, _, h92, ⟨by rw [e3]; omega, ?_⟩, ⟨by rw [e3]; omega, ?_⟩, n1, by rw [e3]; omega, by rw [e26, if_pos rfl], by rw [e3]; omega, ?_, Or.inl ⟨rfl, e3⟩⟩
    · intro i j i0 i1 j0 j1 e
      rw [e3] at i1 j1
      rw [e26, e26] at e
      by_cases hi : i = c 3 0 1
      · by_cases hj : j = c 3 0 1
        · rw [hi, hj]
        · rw [if_pos hi, if_neg hj] at e
          exact absurd e.symm (hno j j0 (by omega))
      · by_cases hj : j = c 3 0 1
        · rw [if_neg hi, if_pos hj] at e
          exact absurd e (hno i i0 (by omega))
        · rw [if_neg hi, if_neg hj] at e
          exact n2 i j i0 (by omega) j0 (by omega) e
    · intro k k0 k1
      rw [e26, if_neg (by omega)]
    · intro G g1 g2
      rw [rUp_grp g2, rUp_grp g1]
  · rw [if_neg h] at h92
    have h0 : 0 ≤ pIx (fun j => decide (c 26 0 j ≠ w)) (c 3 0 1) 0 := pIx_le
    have h3 := pIx_stop (q := fun j => decide (c 26 0 j ≠ w)) (n := c 3 0 1) (i := 0) (by omega)
    refine ⟨_, _, h92, ⟨n1, n2⟩, ⟨Int.le_refl _, fun _ _ _ => rfl⟩, h0, by omega, ?_, by omega, fun _ _ _ => rfl, Or.inr ⟨by omega, rfl⟩⟩
    simpa using h3
/-- the CONSTANT of a NAME by the reference -/
theorem name_m {m : rHp} (hN : qNm m) {w : Int} (hW : qW pSm (m 59 0) (m 15 0 34) w (m 15 0 37) (m 15 0 38)) (y : List Int) :
    ∃ k m_q, fn15 y m = (0, k + 1099511627776, m_q) ∧ qNm m_q ∧ gNm m m_q ∧ 0 ≤ k ∧ k < m_q 15 0 8 ∧ qW pSm (m_q 61 0) (m_q 15 0 9) w (m_q 62 0 k) (m_q 63 0 k) ∧ qFm [61, 62, 63] [8, 9] m m_q ∧ ((k = m 15 0 8 ∧ m_q 15 0 8 = m 15 0 8 + 1) ∨ (k < m 15 0 8 ∧ m_q 15 0 8 = m 15 0 8)) := by
  have hs := qW_s hW
  obtain ⟨n2, n3, n4, n5⟩ := hN
  have h15 := fn15_eq y m (by omega)
  by_cases h : m 15 0 8 ≤ pIx (fun k => !(pNm m k)) (m 15 0 8) 0
  · rw [if_pos h] at h15
    have hno : ∀ j, 0 ≤ j → j < m 15 0 8 → ¬ pNm m j = true := fun j h0 h1 => by
      have := pIx_in (q := fun k => !(pNm m k)) (n := m 15 0 8) (i := 0) (j := j) h0 (by omega)
      simpa using this
    have e61 : ∀ j, pNb m (m 15 0 38) 61 0 j = if m 15 0 9 ≤ j ∧ j < m 15 0 9 + m 15 0 38 then m 59 0 (m 15 0 37 + (j - m 15 0 9)) else m 61 0 j := by
      intro j
      unfold pNb
      by_cases hj : m 15 0 9 ≤ j ∧ j < m 15 0 9 + m 15 0 38
      · rw [if_pos hj, zCpy_in hj.1 hj.2, pNa_59]
      · rw [if_neg hj, zCpy_off hj]
        unfold pNa
        rw [rUp_grp (by decide), rUp_grp (by decide)]
    have e62 : ∀ j, pNb m (m 15 0 38) 62 0 j = if j = m 15 0 8 then m 15 0 9 else m 62 0 j := by
      intro j
      unfold pNb pNa
      rw [zCpy_grp (by decide), rUp_grp (by decide)]
      by_cases hj : j = m 15 0 8
      · rw [if_pos hj, hj, rUp_at]
      · rw [if_neg hj, rUp_ne (fun q => hj q.2.2)]
    have e63 : ∀ j, pNb m (m 15 0 38) 63 0 j = if j = m 15 0 8 then m 15 0 38 else m 63 0 j := by
      intro j
      unfold pNb pNa
      rw [zCpy_grp (by decide)]
      by_cases hj : j = m 15 0 8
      · rw [if_pos hj, hj, rUp_at]
      · rw [if_neg hj, rUp_ne (fun q => hj q.2.2), rUp_grp (by decide)]
    have eo : ∀ G : Nat, G ≠ 61 → G ≠ 62 → G ≠ 63 → pNb m (m 15 0 38) G = m G := by
      intro G g1 g2 g3
      unfold pNb pNa
      rw [zCpy_grp g1, rUp_grp g3, rUp_grp g2]
    have x8 : rUp (rUp (pNb m (m 15 0 38)) 15 0 9 (m 15 0 38 + m 15 0 9)) 15 0 8 (m 15 0 8 + 1) 15 0 8 = m 15 0 8 + 1 := rUp_at
    have x9 : rUp (rUp (pNb m (m 15 0 38)) 15 0 9 (m 15 0 38 + m 15 0 9)) 15 0 8 (m 15 0 8 + 1) 15 0 9 = m 15 0 38 + m 15 0 9 := by rw [rUp_ne (by decide), rUp_at]
    have xg : ∀ G : Nat, G ≠ 15 → rUp (rUp (pNb m (m 15 0 38)) 15 0 9 (m 15 0 38 + m 15 0 9)) 15 0 8 (m 15 0 8 + 1) G = pNb m (m 15 0 38) G := fun G q => by rw [rUp_grp q, rUp_grp q]
    have x61 := xg 61 (by decide)
    have x62 := xg 62 (by decide)
    have x63 := xg 63 (by decide)
    have fr : qFm [61, 62, 63] [8, 9] m (rUp (rUp (pNb m (m 15 0 38)) 15 0 9 (m 15 0 38 + m 15 0 9)) 15 0 8 (m 15 0 8 + 1)) := by
      refine ⟨fun G g1 g2 => ?_, fun j hj => ?_⟩
      · simp only [List.mem_cons, List.not_mem_nil, or_false, not_or] at g1
        rw [rUp_grp g2, rUp_grp g2, eo G g1.1 g1.2.1 g1.2.2]
      · simp only [List.mem_cons, List.not_mem_nil, or_false, not_or] at hj
        rw [rUp_ne (fun q => hj.1 q.2.2), rUp_ne (fun q => hj.2 q.2.2), eo 15 (by decide) (by decide) (by decide)]
    refine ⟨_, _, h15, ?_, ?_, n2, ?_, ?_, fr, Or.inl ⟨rfl, x8⟩⟩
    · refine ⟨by rw [x8]; omega, by rw [x9]; omega, ?_, ?_⟩
      · intro k k0 k1
        rw [x8] at k1
        rw [x9, x62, x63, e62, e63]
        by_cases hk : k = m 15 0 8
        · rw [if_pos hk, if_pos hk]; omega
        · rw [if_neg hk, if_neg hk]
          have := n4 k k0 (by omega)
          omega
      · intro i j i0 i1 j0 j1 e ee
        rw [x8] at i1 j1
        rw [x63, e63, e63] at e
        rw [x61, x62, x63, e62, e62, e63] at ee
        by_cases hi : i = m 15 0 8
        · by_cases hj : j = m 15 0 8
          · rw [hi, hj]
          · rw [if_pos hi, if_neg hj] at e
            rw [if_pos hi, if_neg hj, if_neg hj] at ee
            refine absurd ?_ (hno j j0 (by omega))
            unfold pNm
            rw [decide_eq_true e.symm, Bool.true_and, pSame_iff]
            intro x x0 x1
            have h4 := n4 j j0 (by omega)
            have := ee x x0 (by omega)
            rw [e61, e61, if_pos (by omega), if_neg (by omega)] at this
            rw [← this]
            congr 1
            omega
        · by_cases hj : j = m 15 0 8
          · rw [if_neg hi, if_pos hj] at e
            rw [if_neg hi, if_pos hj, if_pos hj] at ee
            refine absurd ?_ (hno i i0 (by omega))
            unfold pNm
            rw [decide_eq_true e, Bool.true_and, pSame_iff]
            intro x x0 x1
            have h4 := n4 i i0 (by omega)
            have := ee x x0 (by omega)
            rw [e61, e61, if_neg (by omega), if_pos (by omega)] at this
            rw [this]
            congr 1
            omega
          · rw [if_neg hi, if_neg hj] at e
            rw [if_neg hi, if_neg hj, if_neg hj] at ee
            refine n5 i j i0 (by omega) j0 (by omega) e (fun x x0 x1 => ?_)
            have h4 := n4 i i0 (by omega)
            have h5 := n4 j j0 (by omega)
            have := ee x x0 x1
            rw [e61, e61, if_neg (by omega), if_neg (by omega)] at this
            exact this
    · refine ⟨by rw [x8]; omega, by rw [x9]; omega, ?_, ?_⟩
      · intro k k0 k1
        rw [x62, x63, e62, e63, if_neg (by omega), if_neg (by omega)]
        exact ⟨rfl, rfl⟩
      · intro j j0 j1
        rw [x61, e61, if_neg (by omega)]
    · rw [x8]; omega
    · rw [x9, x61, x62, x63, e62, e63, if_pos rfl, if_pos rfl]
      refine qW_move hW (fun j j0 j1 => ?_) n3 (by omega)
      rw [e61, if_pos (by omega), show m 15 0 37 + (m 15 0 9 + j - m 15 0 9) = m 15 0 37 + j by omega]
  · rw [if_neg h] at h15
    have h0 : 0 ≤ pIx (fun k => !(pNm m k)) (m 15 0 8) 0 := pIx_le
    have h3 := pIx_stop (q := fun k => !(pNm m k)) (n := m 15 0 8) (i := 0) (by omega)
    refine ⟨_, _, h15, ⟨n2, n3, n4, n5⟩, ⟨Int.le_refl _, Int.le_refl _, fun _ _ _ => ⟨rfl, rfl⟩, fun _ _ _ => rfl⟩, h0, by omega, ?_, ⟨fun _ _ _ => rfl, fun _ _ => rfl⟩, Or.inr ⟨by omega, rfl⟩⟩
    have h4 := n4 _ h0 (by omega)
    generalize pIx (fun k => !(pNm m k)) (m 15 0 8) 0 = r at *
    simp only [Bool.not_eq_false'] at h3
    unfold pNm at h3
    rw [Bool.and_eq_true, decide_eq_true_eq, pSame_iff] at h3
    rw [h3.1]
    refine qW_move hW (fun j j0 j1 => ?_) h4.1 (by omega)
    have := h3.2 j j0 j1
    rw [Int.add_comm (m 15 0 37), Int.add_comm (m 62 0 r), this]
theorem gNc_trans {a b c : rHp} (h : gNc a b) (h2 : gNc b c) : gNc a c := ⟨Int.le_trans h.1 h2.1, fun k h0 h1 => (h2.2 k h0 (Int.lt_of_lt_of_le h1 h.1)).trans (h.2 k h0 h1)⟩
theorem gNm_trans {a b c : rHp} (h : gNm a b) (h2 : gNm b c) : gNm a c :=
  ⟨Int.le_trans h.1 h2.1, Int.le_trans h.2.1 h2.2.1, fun k h0 h1 => ⟨(h2.2.2.1 k h0 (Int.lt_of_lt_of_le h1 h.1)).1.trans (h.2.2.1 k h0 h1).1, (h2.2.2.1 k h0 (Int.lt_of_lt_of_le h1 h.1)).2.trans (h.2.2.1 k h0 h1).2⟩, fun j h0 h1 => (h2.2.2.2 j h0 (Int.lt_of_lt_of_le h1 h.2.1)).trans (h.2.2.2 j h0 h1)⟩
theorem gNc_refl {a : rHp} : gNc a a := ⟨Int.le_refl _, fun _ _ _ => rfl⟩
theorem gNm_refl {a : rHp} : gNm a a := ⟨Int.le_refl _, Int.le_refl _, fun _ _ _ => ⟨rfl, rfl⟩, fun _ _ _ => rfl⟩
/-- values stay what they are while NAMES grow -/
theorem vR_grow {c m c_q m_q : rHp} {v v_q : Int} (h : vR c m v v_q) (hc : gNc c c_q) (hm : gNm m m_q) : vR c_q m_q v v_q := by
  rcases h with h | ⟨k, k_q, h1, h2, h3, h4, h5, h6, h7⟩
  · exact Or.inl h
  · have hs := qW_s h7
    have c1 := hc.1
    have m1 := hm.1
    have m2 := hm.2.1
    obtain ⟨x, y⟩ := hm.2.2.1 k_q h5 h6
    refine Or.inr ⟨k, k_q, h1, h2, h3, by omega, h5, by omega, ?_⟩
    rw [hc.2 k h3 h4, x, y]
    exact qW_move h7 (fun j j0 j1 => (hm.2.2.2 _ (by omega) (by omega)).symm) hs.2.2.1 (by omega)
/-- the same value with the class just where it is the same with the reference -/
theorem vR_iff {c m : rHp} (hc : qNc c) (hm : qNm m) {u u_q v v_q : Int} (h : vR c m u u_q) (h2 : vR c m v v_q) : u = v ↔ u_q = v_q := by
  rcases h with ⟨h, hl⟩ | ⟨k, k_q, h1, h2_q, h3, h4, h5, h6, h7⟩
  · rcases h2 with ⟨g, gl⟩ | ⟨i, i_q, g1, g2, g3, g4, g5, g6, g7⟩
    · rw [h, g]
    · omega
  · rcases h2 with ⟨g, gl⟩ | ⟨i, i_q, g1, g2, g3, g4, g5, g6, g7⟩
    · omega
    · have q := qW_iff (Or.inl rfl) h7 g7
      constructor
      · intro e
        have e1 : k = i := by omega
        obtain ⟨x, y⟩ := q.1 (by rw [e1])
        rw [pSame_iff] at y
        have := hm.2.2.2 k_q i_q h5 h6 g5 g6 x y
        omega
      · intro e
        have e1 : k_q = i_q := by omega
        subst e1
        have := hc.2 k i h3 h4 g3 g4 (q.2 ⟨rfl, by rw [pSame_iff]; intros; rfl⟩)
        omega
/-- a NAME that both look up has the same number, if all had -/
theorem sN_step {c m c_q m_q : rHp} {w k k_q : Int} (hs : sN c m) (n1 : qNc c_q) (n2 : qNm m_q) (g1 : gNc c c_q) (g2 : gNm m m_q) (k0 : 0 ≤ k) (hk : c_q 26 0 k = w) (hck : (k = c 3 0 1 ∧ c_q 3 0 1 = c 3 0 1 + 1) ∨ (k < c 3 0 1 ∧ c_q 3 0 1 = c 3 0 1)) (k0_q : 0 ≤ k_q) (hW : qW pSm (m_q 61 0) (m_q 15 0 9) w (m_q 62 0 k_q) (m_q 63 0 k_q)) (hmk : (k_q = m 15 0 8 ∧ m_q 15 0 8 = m 15 0 8 + 1) ∨ (k_q < m 15 0 8 ∧ m_q 15 0 8 = m 15 0 8)) : sN c_q m_q ∧ k = k_q := by
  obtain ⟨s1, s2⟩ := hs
  have gr : ∀ j, 0 ≤ j → j < c 3 0 1 → qW pSm (m_q 61 0) (m_q 15 0 9) (c_q 26 0 j) (m_q 62 0 j) (m_q 63 0 j) := fun j j0 j1 => by
    have a := s2 j j0 j1
    have b := qW_s a
    obtain ⟨x, y⟩ := g2.2.2.1 j j0 (by omega)
    have z := g2.2.1
    rw [g1.2 j j0 j1, x, y]
    exact qW_move a (fun i i0 i1 => (g2.2.2.2 _ (by omega) (by omega)).symm) b.2.2.1 (by omega)
  have one : ∀ j, 0 ≤ j → j < c 3 0 1 → (c_q 26 0 j = w ↔ j = k_q) := fun j j0 j1 => by
    have q := qW_iff (Or.inl rfl) (gr j j0 j1) hW
    have l8 := g2.1
    have lk : k_q < m_q 15 0 8 := by omega
    constructor
    · intro e
      obtain ⟨x, y⟩ := q.1 e
      rw [pSame_iff] at y
      exact n2.2.2.2 j k_q j0 (by omega) k0_q lk x y
    · intro e
      rw [e] at q ⊢
      exact q.2 ⟨rfl, by rw [pSame_iff]; intros; rfl⟩
  rcases hck with ⟨a1, a2⟩ | ⟨a1, a2⟩
  · rcases hmk with ⟨b1, b2⟩ | ⟨b1, b2⟩
    · refine ⟨⟨by omega, fun j j0 j1 => ?_⟩, by omega⟩
      by_cases e : j = c 3 0 1
      · rw [e, ← a1, hk, show k = k_q by omega]
        exact hW
      · exact gr j j0 (by omega)
    · have e := (one k_q k0_q (by omega)).2 rfl
      have := n1.2 k_q k k0_q (by omega) k0 (by omega) (by rw [e, hk])
      omega
  · have e := (one k k0 a1).1 hk
    rcases hmk with ⟨b1, b2⟩ | ⟨b1, b2⟩
    · omega
    · exact ⟨⟨by omega, fun j j0 j1 => gr j j0 (by omega)⟩, e⟩
/-- values of the same NAMES are the same, where NAMES have the same numbers -/
theorem vR_same {c m : rHp} {v v_q : Int} (hs : sN c m) (hm : qNm m) (h : vR c m v v_q) : v = v_q := by
  rcases h with h | ⟨k, k_q, h1, h2, h3, h4, h5, h6, h7⟩
  · exact h.1
  · have q := qW_iff (Or.inl rfl) (hs.2 k h3 h4) h7
    obtain ⟨x, y⟩ := q.1 rfl
    rw [pSame_iff] at y
    have := hm.2.2.2 k k_q h3 (by have := hs.1; omega) h5 h6 x y
    omega
/-- the CONSTANT of a NAME -/
theorem name_two {c0 m0 c m : rHp} (hN : qN c0 m0 c m) {w : Int} (hW : qW pSm (m 59 0) (m 15 0 34) w (m 15 0 37) (m 15 0 38)) (hB : c 3 0 1 < 5120) (y : List Int) :
    ∃ k k_q c_q m_q, fn92 [w] c = (0, k, c_q) ∧ fn15 y m = (0, k_q + 1099511627776, m_q) ∧ qN c0 m0 c_q m_q ∧ 0 ≤ k ∧ vR c_q m_q (k + 1099511627776) (k_q + 1099511627776) ∧ c_q 3 0 1 ≤ c 3 0 1 + 1 ∧ (∀ G, G ≠ 26 → G ≠ 3 → c_q G = c G) ∧ qFm [61, 62, 63] [8, 9] m m_q ∧ gNc c c_q ∧ gNm m m_q := by
  obtain ⟨n1, n2, n3, n4, n5⟩ := hN
  obtain ⟨k, c_q, h1, h2, h3, h4, h5, h6, h7, h8, h9⟩ := name_c n1 w hB
  obtain ⟨k_q, m_q, g1, g2, g3, g4, g5, g6, g7, g8⟩ := name_m n2 hW y
  exact ⟨k, k_q, c_q, m_q, h1, g1, ⟨h2, g2, gNc_trans n3 h3, gNm_trans n4 g3, fun z => (sN_step (n5 z) h2 g2 h3 g3 h4 h6 h9 g4 g6 g8).1⟩, h4, Or.inr ⟨k, k_q, rfl, rfl, h4, h5, g4, g5, by rw [h6]; exact g6⟩, h7, h8, g7, h3, g3⟩
/-- the PREDICATE of a word -/
theorem pred_two {c m : rHp} (hP : qP c m) {w f s n n0 : Int} (hW : qW pSm (m 59 0) n0 w f s) : ∃ p, fn125 [w, n] c = (0, p, c) ∧ fn21 [f, s, n] m = (0, p, m) ∧ (p = -1 ∨ (0 ≤ p ∧ p < m 15 0 14 ∧ m 66 0 p = n)) := by
  obtain ⟨p1, p2, p3, p4⟩ := hP
  have e : pIx (fun j => decide (¬ (c 16 0 j = w ∧ c 17 0 j = n))) (m 15 0 14) 0 = pIx (fun p => !(pPm m f s n p)) (m 15 0 14) 0 := by
    refine pIx_congr _ _ (Nat.le_refl _) (fun j h1 h2 => ?_)
    obtain ⟨q1, q2⟩ := p4 j h1 h2
    have q3 := qW_iff (Or.inl rfl) q1 hW
    rw [q2]
    unfold pPm
    by_cases h3 : m 66 0 j = n
    · by_cases h4 : c 16 0 j = w
      · obtain ⟨h5, h6⟩ := q3.1 h4
        rw [decide_eq_false (fun h => h ⟨h4, h3⟩), decide_eq_true h3, decide_eq_true h5, h6]
        rfl
      · rw [decide_eq_true (show ¬ (c 16 0 j = w ∧ m 66 0 j = n) from fun h => h4 h.1), decide_eq_true h3, Bool.true_and]
        by_cases h5 : m 65 0 j = s
        · cases h6 : pSame (m 64 0) (12 * j) (m 59 0) f s with
          | false => rw [Bool.and_false]; rfl
          | true => exact absurd (q3.2 ⟨h5, h6⟩) h4
        · rw [decide_eq_false h5, Bool.false_and]
          rfl
    · rw [decide_eq_true (show ¬ (c 16 0 j = w ∧ m 66 0 j = n) from fun h => h3 h.2), decide_eq_false h3, Bool.false_and]
      rfl
  have h1 := fn125_eq w n c
  have h2 := fn21_eq f s n m
  unfold pFd at h1 h2
  rw [p1, e] at h1
  refine ⟨_, h1, h2, ?_⟩
  by_cases h : m 15 0 14 ≤ pIx (fun p => !(pPm m f s n p)) (m 15 0 14) 0
  · rw [if_pos h]; exact Or.inl rfl
  · rw [if_neg h]
    have h0 : 0 ≤ pIx (fun p => !(pPm m f s n p)) (m 15 0 14) 0 := pIx_le
    have h3 := pIx_stop (q := fun p => !(pPm m f s n p)) (n := m 15 0 14) (i := 0) (by omega)
    refine Or.inr ⟨h0, by omega, ?_⟩
    generalize pIx (fun p => !(pPm m f s n p)) (m 15 0 14) 0 = r at h3
    simp only [pPm, Bool.not_eq_false', Bool.and_eq_true, decide_eq_true_eq] at h3
    exact h3.1
