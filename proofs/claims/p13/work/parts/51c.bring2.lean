/-! ===== a FACT or a row comes, by both ===== -/
/-- c_q and m_q have at most one TUPLE more -/
noncomputable def bP (c m c_q m_q : rHp) : Prop := (tT c_q m_q) ∧ (tX c_q m_q) ∧ (∀ t k, 0 ≤ t → t < m_q 15 0 71 → 0 ≤ k → k < 4 → vOk (m_q 99 0 (k + 4 * t))) ∧ (tG c c_q) ∧ (∀ K : Nat, K ≠ 4 → (K < 27 ∨ 33 < K) → (K < 47 ∨ 55 < K) → c_q K = c K) ∧ (∀ j, j ≠ 7 → c_q 4 0 j = c 4 0 j) ∧ (∀ K : Nat, K ≠ 15 → (K < 93 ∨ 102 < K) → m_q K = m K) ∧ (∀ j, j ≠ 71 → m_q 15 0 j = m 15 0 j) ∧ (m 15 0 71 ≤ m_q 15 0 71)
theorem bP.tt {c m c_q m_q : rHp} (h : bP c m c_q m_q) : tT c_q m_q := h.1
theorem bP.tx {c m c_q m_q : rHp} (h : bP c m c_q m_q) : tX c_q m_q := h.2.1
theorem bP.vt {c m c_q m_q : rHp} (h : bP c m c_q m_q) : ∀ t k, 0 ≤ t → t < m_q 15 0 71 → 0 ≤ k → k < 4 → vOk (m_q 99 0 (k + 4 * t)) := h.2.2.1
theorem bP.gr {c m c_q m_q : rHp} (h : bP c m c_q m_q) : tG c c_q := h.2.2.2.1
theorem bP.cK {c m c_q m_q : rHp} (h : bP c m c_q m_q) : ∀ K : Nat, K ≠ 4 → (K < 27 ∨ 33 < K) → (K < 47 ∨ 55 < K) → c_q K = c K := h.2.2.2.2.1
theorem bP.c4 {c m c_q m_q : rHp} (h : bP c m c_q m_q) : ∀ j, j ≠ 7 → c_q 4 0 j = c 4 0 j := h.2.2.2.2.2.1
theorem bP.mK {c m c_q m_q : rHp} (h : bP c m c_q m_q) : ∀ K : Nat, K ≠ 15 → (K < 93 ∨ 102 < K) → m_q K = m K := h.2.2.2.2.2.2.1
theorem bP.m15 {c m c_q m_q : rHp} (h : bP c m c_q m_q) : ∀ j, j ≠ 71 → m_q 15 0 j = m 15 0 j := h.2.2.2.2.2.2.2.1
theorem bP.nn {c m c_q m_q : rHp} (h : bP c m c_q m_q) : m 15 0 71 ≤ m_q 15 0 71 := h.2.2.2.2.2.2.2.2
theorem bring_two {c m : rHp} {p rd ru : Int} (hT : tT c m) (hX : tX c m) (hvt : ∀ t k, 0 ≤ t → t < m 15 0 71 → 0 ≤ k → k < 4 → vOk (m 99 0 (k + 4 * t))) (hp : 0 ≤ p ∧ p < m 15 0 13) (h4 : m 66 0 p ≤ 4) (hd : ∀ k, 0 ≤ k → k < 4 → c 33 0 k = m 102 0 k) (hz : ∀ k, 0 ≤ k → k < 4 → m 66 0 p ≤ k → m 102 0 k = 0) (hvo : ∀ k, 0 ≤ k → k < 4 → vOk (m 102 0 k)) (hrd : rd = m 15 0 76) (hno : ru < 0 ∨ m 71 0 ru ≠ 0) :
    ∃ o v c_q m_q, fn233 [p, rd, ru] c = (o, v, c_q) ∧ fn57 [p, ru] m = (0, 0, m_q) ∧ ((o = 0 ∧ bP c m c_q m_q) ∨ (o = 1 ∧ m_q 15 0 77 = 3)) := by
  have e7 := hT.1
  have n71 := hT.2.2.1.1
  have f206 := fn206_eq (p := p) (n := c 4 0 7) (c := c) (by omega) hT.2.1.2.2
  have f56 := fn56_eq (p := p) (m := m) hT.2.2.1 hp
  rw [← found_two (p := p) hT (fun t t0 t1 => (hX.2 t t0 t1).2) hd h4 hz] at f56
  generalize pFd (pNd c p) (c 4 0 7) = v at f206 f56
  have f233 := fn233_eq (rd := rd) (ru := ru) f206 (by omega)
  have f57 := fn57_eq (ru := ru) f56 hz
  by_cases bv : v < 0
  · rw [if_pos bv] at f233 f57
    by_cases bn : c 4 0 7 < 2000
    · rw [if_pos bn] at f233
      rw [if_pos (show m 15 0 71 ≠ 2000 by omega), en57_no hno] at f57
      have come := come_new (rd := rd) (ru := ru) (m_q := mNew p ru m) hT hX.1 hp hd (by omega) (fun _ _ _ => rfl)
      refine ⟨0, 1, _, _, f233, f57, Or.inl ⟨rfl, ⟨come.1, ⟨come.2, fun t t0 t1 => ?_⟩, fun t k t0 t1 k0 k4 => ?_, ⟨?_, fun t t0 t1 => ?_⟩, fun K a1 a2 a3 => uAd_grp (by omega) (by omega) (by omega), fun j hj => by rw [uAd_4, if_neg hj], fun K a1 a2 => mNew_grp (by omega) (by omega), fun j hj => by rw [mNew_15, if_neg hj], by rw [mNew_15, if_pos rfl]; omega⟩⟩⟩
      · rw [mNew_15, if_pos rfl] at t1
        rw [uAd_28.2.1, uAd_28.2.2.1, uAd_28.2.2.2, rUp_in, rUp_in, rUp_in, mNew_94, mNew_95, mNew_97, mNew_93, mNew_grp (K := 66) (by decide) (by decide), mNew_grp (K := 98) (by decide) (by decide), uAd_grp (K := 31) (by decide) (by decide) (by decide)]
        by_cases b : t = m 15 0 71
        · have b_q : t = c 4 0 7 := by omega
          rw [if_pos b_q, if_pos b_q, if_pos b_q, if_pos b, if_pos b, if_pos b, if_pos b]
          refine ⟨⟨hrd, rfl, rfl, ⟨by decide, by decide⟩, fun k k0 k1 => by omega⟩, fun k k0 k4 hk => ?_⟩
          rw [b, mNew_new k0 k4]
          exact hz k k0 k4 hk
        · have b_q : ¬ t = c 4 0 7 := by omega
          rw [if_neg b_q, if_neg b_q, if_neg b_q, if_neg b, if_neg b, if_neg b, if_neg b]
          obtain ⟨a1, a2⟩ := hX.2 t t0 (by omega)
          refine ⟨a1, fun k k0 k4 hk => ?_⟩
          rw [mNew_old (by omega)]
          exact a2 k k0 k4 hk
      · rw [mNew_15, if_pos rfl] at t1
        by_cases b : t = m 15 0 71
        · rw [b, mNew_new k0 k4]
          exact hvo k k0 k4
        · rw [mNew_old (by omega)]
          exact hvt t k t0 (by omega) k0 k4
      · rw [uAd_4, if_pos rfl]; omega
      · rw [uAd_28.1, rUp_in, if_neg (by omega)]
        exact ⟨rfl, fun k k0 k4 => uAd_old (by omega)⟩
    · rw [if_neg bn] at f233
      rw [if_neg (show ¬ m 15 0 71 ≠ 2000 by omega)] at f57
      exact ⟨1, 0, _, _, f233, f57, Or.inr ⟨rfl, rUp_at⟩⟩
  · rw [if_neg bv] at f233 f57
    refine ⟨0, 0, c, m, f233, f57, Or.inl ⟨rfl, ⟨hT, hX, hvt, ⟨Int.le_refl _, fun _ _ _ => ⟨rfl, fun _ _ _ => rfl⟩⟩, fun _ _ _ _ => rfl, fun _ _ => rfl, fun _ _ _ => rfl, fun _ _ => rfl, Int.le_refl _⟩⟩⟩
/-- FACTS, LAYERS and the rest that a LAYER'S run hangs on, as both keep it -/
noncomputable def lSt (c m : rHp) : Prop := (c 1 0 9 = m 15 0 17 ∧ 0 ≤ m 15 0 17 ∧ ∀ f, 0 ≤ f → f < m 15 0 17 → c 19 0 f = m 67 0 f ∧ (0 ≤ m 67 0 f ∧ m 67 0 f < m 15 0 13) ∧ ∀ k, 0 ≤ k → k < 4 → c 20 0 (k + 4 * f) = m 68 0 (k + 4 * f) ∧ vOk (m 68 0 (k + 4 * f)) ∧ (m 66 0 (m 67 0 f) ≤ k → m 68 0 (k + 4 * f) = 0)) ∧ (∀ p, 0 ≤ p → p < m 15 0 13 → c 18 0 p = m 92 0 p ∧ m 66 0 p ≤ 4)
theorem lSt_fr {c m c_q m_q : rHp} (h : lSt c m) (hc : ∀ K : Nat, K = 18 ∨ K = 19 ∨ K = 20 → c_q K = c K) (c9 : c_q 1 0 9 = c 1 0 9) (hm : ∀ K : Nat, K = 66 ∨ K = 67 ∨ K = 68 ∨ K = 92 → m_q K = m K) (h17 : m_q 15 0 17 = m 15 0 17) (h13 : m_q 15 0 13 = m 15 0 13) : lSt c_q m_q := by
  unfold lSt at h ⊢
  rw [hc 18 (by decide), hc 19 (by decide), hc 20 (by decide), c9, hm 66 (by decide), hm 67 (by decide), hm 68 (by decide), hm 92 (by decide), h17, h13]
  exact h
theorem bP_tr {c m c1 m1 c2 m2 : rHp} (h : bP c m c1 m1) (h2 : bP c1 m1 c2 m2) : bP c m c2 m2 :=
  ⟨h2.tt, h2.tx, h2.vt, tG_tr h.gr h2.gr, fun K a1 a2 a3 => (h2.cK K a1 a2 a3).trans (h.cK K a1 a2 a3), fun j a => (h2.c4 j a).trans (h.c4 j a), fun K a1 a2 => (h2.mK K a1 a2).trans (h.mK K a1 a2), fun j a => (h2.m15 j a).trans (h.m15 j a), Int.le_trans h.nn h2.nn⟩
/-- what is made changes nothing else -/
theorem bP_dr {c m c1 m1 : rHp} (hT : tT c m) (hX : tX c m) (hvt : ∀ t k, 0 ≤ t → t < m 15 0 71 → 0 ≤ k → k < 4 → vOk (m 99 0 (k + 4 * t))) (cg : ∀ K : Nat, K ≠ 33 → c1 K = c K) (mg : ∀ K : Nat, K ≠ 102 → m1 K = m K) : bP c m c1 m1 := by
  refine ⟨tT_fr hT (fun K z => cg K (by omega)) (fun K z => mg K (by omega)) (by rw [mg 15 (by decide)]) (by rw [mg 15 (by decide)]), tX_fr hX (fun K z => cg K (by omega)) (fun K z => mg K (by omega)) (by rw [mg 15 (by decide)]) (by rw [mg 15 (by decide)]), ?_, ?_, fun K a1 a2 a3 => cg K (by omega), fun j _ => by rw [cg 4 (by decide)], fun K a1 a2 => mg K (by omega), fun j _ => by rw [mg 15 (by decide)], by rw [mg 15 (by decide)]; exact Int.le_refl _⟩
  · rw [mg 99 (by decide), mg 15 (by decide)]; exact hvt
  · unfold tG
    rw [cg 4 (by decide), cg 28 (by decide), cg 27 (by decide)]
    exact ⟨Int.le_refl _, fun _ _ _ => ⟨rfl, fun _ _ _ => rfl⟩⟩
theorem bP_rfl {c m : rHp} (hT : tT c m) (hX : tX c m) (hvt : ∀ t k, 0 ≤ t → t < m 15 0 71 → 0 ≤ k → k < 4 → vOk (m 99 0 (k + 4 * t))) : bP c m c m := bP_dr hT hX hvt (fun _ _ => rfl) (fun _ _ => rfl)
/-- FACTS of a LAYER come, by both -/
theorem facts_lp {l : Int} {c0 m0 mB : rHp} (s17 : m0 15 0 17 = mB 15 0 17) (s67 : m0 67 = mB 67) (s68 : m0 68 = mB 68) (s92 : m0 92 = mB 92) : ∀ (n : Nat) (f : Int) (c m : rHp), (mB 15 0 17 - f).toNat ≤ n → 0 ≤ f → f ≤ mB 15 0 17 → lSt c0 mB → bP c0 mB c m → m 15 0 77 = 0 → m 15 0 76 = 0 →
    ∃ o c_q m_q, zLoop (en235 c0) (0, [l, f], c) = (o, 0, c_q) ∧ zLoop (en76 m0) (0, [l, f], m) = zLoop (en76 m0) (1, [l, 0], m_q) ∧ ((o = 0 ∧ m_q 15 0 77 = 0 ∧ bP c0 mB c_q m_q) ∨ (o = 1 ∧ m_q 15 0 77 = 3)) := by
  have stC : ∀ (f : Int) (g : rHp), en235 c0 (0, [l, f], g) = if f ≥ c0 1 0 9 then .inr (0, 0, g) else if c0 18 0 (c0 19 0 f) ≠ l then .inl (0, [l, f + 1], g) else (if (fn233 [c0 19 0 f, 0, -1] (zCpy g 20 0 (4 * f) 33 0 0 4)).1 = 0 then .inl (0, [l, f + 1], (fn233 [c0 19 0 f, 0, -1] (zCpy g 20 0 (4 * f) 33 0 0 4)).2.2) else .inr (1, 0, (fn233 [c0 19 0 f, 0, -1] (zCpy g 20 0 (4 * f) 33 0 0 4)).2.2)) := by
    intro f g
    unfold en235
    simp only [zLet, List.getD_cons_zero, List.getD_cons_succ, ↓reduceIte]
  have stM : ∀ (f : Int) (g : rHp), en76 m0 (0, [l, f], g) = if f ≥ mB 15 0 17 then .inl (1, [l, 0], g) else if g 15 0 77 ≠ 0 then .inl (1, [l, 0], g) else if mB 92 0 (mB 67 0 f) = l then .inl (0, [l, f + 1], (fn57 [mB 67 0 f, -1] (rUp (rUp (rUp (rUp g 102 0 0 (mB 68 0 (4 * f))) 102 0 1 (mB 68 0 (4 * f + 1))) 102 0 2 (mB 68 0 (4 * f + 2))) 102 0 3 (mB 68 0 (4 * f + 3)))).2.2) else .inl (0, [l, f + 1], g) := by
    intro f g
    unfold en76
    simp only [zLet, List.getD_cons_zero, List.getD_cons_succ, ↓reduceIte, s17, s67, s68, s92]
  intro n
  induction n with
  | zero =>
    intro f c m hf f0 f1 hS hP hb hr
    refine ⟨0, c, m, zLoop_inr ((stC f c).trans (if_pos (by have := hS.1.1; omega))), zLoop_inl ((stM f m).trans (if_pos (by omega))), Or.inl ⟨rfl, hb, hP⟩⟩
  | succ n ih =>
    intro f c m hf f0 f1 hS hP hb hr
    have e9 := hS.1.1
    by_cases fe : f = mB 15 0 17
    · exact ⟨0, c, m, zLoop_inr ((stC f c).trans (if_pos (by omega))), zLoop_inl ((stM f m).trans (if_pos (by omega))), Or.inl ⟨rfl, hb, hP⟩⟩
    obtain ⟨h1, h2, h3⟩ := hS.1.2.2 f f0 (by omega)
    have h4 := hS.2 _ h2.1 h2.2
    have sC0 := (stC f c).trans (if_neg (show ¬ f ≥ c0 1 0 9 by omega))
    have sM0 := (stM f m).trans ((if_neg (show ¬ f ≥ mB 15 0 17 by omega)).trans (if_neg (fun z => z hb)))
    rw [h1, h4.1] at sC0
    by_cases b : mB 92 0 (mB 67 0 f) = l
    · rw [if_neg (fun z => z b)] at sC0
      rw [if_pos b] at sM0
      obtain ⟨c1, hc1⟩ : ∃ x, zCpy c 20 0 (4 * f) 33 0 0 4 = x := ⟨_, rfl⟩
      obtain ⟨m1, hm1⟩ : ∃ x, rUp (rUp (rUp (rUp m 102 0 0 (mB 68 0 (4 * f))) 102 0 1 (mB 68 0 (4 * f + 1))) 102 0 2 (mB 68 0 (4 * f + 2))) 102 0 3 (mB 68 0 (4 * f + 3)) = x := ⟨_, rfl⟩
      rw [hc1] at sC0
      rw [hm1] at sM0
      have cg : ∀ K : Nat, K ≠ 33 → c1 K = c K := fun K hK => by rw [← hc1, zCpy_grp hK]
      have mg : ∀ K : Nat, K ≠ 102 → m1 K = m K := fun K hK => by rw [← hm1, rUp_grp hK, rUp_grp hK, rUp_grp hK, rUp_grp hK]
      have m102 : ∀ k, 0 ≤ k → k < 4 → m1 102 0 k = mB 68 0 (k + 4 * f) := fun k k0 k4 => by
        rw [← hm1, rUp_in, rUp_in, rUp_in, rUp_in]
        by_cases e3 : k = 3
        · rw [if_pos e3, e3, show (3 : Int) + 4 * f = 4 * f + 3 by omega]
        rw [if_neg e3]
        by_cases e2 : k = 2
        · rw [if_pos e2, e2, show (2 : Int) + 4 * f = 4 * f + 2 by omega]
        rw [if_neg e2]
        by_cases e1 : k = 1
        · rw [if_pos e1, e1, show (1 : Int) + 4 * f = 4 * f + 1 by omega]
        rw [if_neg e1, if_pos (by omega), show k + 4 * f = 4 * f by omega]
      have hd : ∀ k, 0 ≤ k → k < 4 → c1 33 0 k = m1 102 0 k := fun k k0 k4 => by
        rw [m102 k k0 k4, ← hc1, zCpy_in (by omega) (by omega), hP.cK 20 (by decide) (by decide) (by decide), show 4 * f + (k - 0) = k + 4 * f by omega]
        exact (h3 k k0 k4).1
      have b1 := bP_dr hP.tt hP.tx hP.vt cg mg
      have e66 : m1 66 = mB 66 := (mg 66 (by decide)).trans (hP.mK 66 (by decide) (by decide))
      have e13 : m1 15 0 13 = mB 15 0 13 := by rw [mg 15 (by decide)]; exact hP.m15 13 (by decide)
      obtain ⟨o, v, c2, m2, y1, y2, y3⟩ := bring_two (p := mB 67 0 f) (rd := 0) (ru := -1) b1.tt b1.tx b1.vt (by rw [e13]; exact h2) (by rw [e66]; exact h4.2) hd (fun k k0 k4 hk => by rw [e66] at hk; rw [m102 k k0 k4]; exact (h3 k k0 k4).2.2 hk) (fun k k0 k4 => by rw [m102 k k0 k4]; exact (h3 k k0 k4).2.1) (by rw [mg 15 (by decide)]; exact hr.symm) (Or.inl (by decide))
      rw [y1] at sC0
      rw [y2] at sM0
      rcases y3 with ⟨eo, hb2⟩ | ⟨eo, hb2⟩
      · rw [eo] at sC0
        have sC1 := sC0.trans (if_pos rfl)
        have hP2 : bP c0 mB c2 m2 := bP_tr hP (bP_tr b1 hb2)
        have r77 : m2 15 0 77 = 0 := by rw [hb2.m15 77 (by decide), mg 15 (by decide)]; exact hb
        have r76 : m2 15 0 76 = 0 := by rw [hb2.m15 76 (by decide), mg 15 (by decide)]; exact hr
        obtain ⟨o_q, c_q, m_q, z1, z2, z3⟩ := ih (f + 1) c2 m2 (by omega) (by omega) (by omega) hS hP2 r77 r76
        exact ⟨o_q, c_q, m_q, (zLoop_inl sC1).trans z1, (zLoop_inl sM0).trans z2, z3⟩
      · rw [eo] at sC0
        have sC1 := sC0.trans (if_neg (show ¬ (1 : Nat) = 0 by decide))
        refine ⟨1, c2, m2, zLoop_inr sC1, (zLoop_inl sM0).trans (zLoop_inl ?_), Or.inr ⟨rfl, hb2⟩⟩
        rw [stM]
        by_cases q : f + 1 ≥ mB 15 0 17
        · exact if_pos q
        · exact (if_neg q).trans (if_pos (show m2 15 0 77 ≠ 0 by rw [hb2]; decide))
    · rw [if_pos b] at sC0
      rw [if_neg b] at sM0
      obtain ⟨o_q, c_q, m_q, z1, z2, z3⟩ := ih (f + 1) c m (by omega) (by omega) (by omega) hS hP hb hr
      exact ⟨o_q, c_q, m_q, (zLoop_inl sC0).trans z1, (zLoop_inl sM0).trans z2, z3⟩
