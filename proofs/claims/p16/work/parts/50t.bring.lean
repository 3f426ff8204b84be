/-! ===== a TUPLE comes, by both ===== -/
variable {N : Int}
/-- TUPLES: how they came, as both keep it -/
noncomputable def tX (c m : rHp) : Prop := cR m ∧ ∀ t, 0 ≤ t → t < m 15 0 71 → (c 29 0 t = m 94 0 t ∧ c 30 0 t = m 95 0 t ∧ c 32 0 t = m 97 0 t ∧ (0 ≤ c 32 0 t ∧ c 32 0 t ≤ 8) ∧ ∀ k, 0 ≤ k → k < c 32 0 t → c 31 0 (k + 8 * t) = m 98 0 (k + 8 * t)) ∧ ∀ k, 0 ≤ k → k < 4 → m 66 0 (m 93 0 t) ≤ k → m 99 0 (k + 4 * t) = 0
theorem pMd_iff {m : rHp} {p t : Int} : pMd m p t = true ↔ ∀ k, 0 ≤ k → k < m 66 0 p → m 99 0 (4 * t + k) = m 102 0 k := by
  unfold pMd
  rw [decide_eq_true_eq, pIx_all]
  constructor
  · intro h k k0 k1
    exact of_decide_eq_true (h k k0 k1)
  · intro h k k0 k1
    exact decide_eq_true (h k k0 k1)
theorem found_two {c m : rHp} {p : Int} (hT : tT c m) (hX : ∀ t, 0 ≤ t → t < m 15 0 71 → ∀ k, 0 ≤ k → k < 4 → m 66 0 (m 93 0 t) ≤ k → m 99 0 (k + 4 * t) = 0) (hd : ∀ k, 0 ≤ k → k < 4 → c 33 0 k = m 102 0 k) (h4 : m 66 0 p ≤ 4) (hz : ∀ k, 0 ≤ k → k < 4 → m 66 0 p ≤ k → m 102 0 k = 0) : pFd (pNd c p) (c 4 0 7) = pFd (pNmd m p) (m 15 0 71) := by
  have e : ∀ j, 0 ≤ j → j < m 15 0 71 → pNd c p j = pNmd m p j := by
    intro j j0 j1
    obtain ⟨a1, a2⟩ := hT.2.2.2 j j0 (by rw [hT.1]; exact j1)
    unfold pNd pNmd
    rw [a1]
    by_cases b : m 93 0 j = p
    · rw [decide_eq_true b, Bool.true_and, Bool.true_and]
      have : pDr c j = pMd m p j := by
        rw [Bool.eq_iff_iff, pDr_iff, pMd_iff]
        constructor
        · intro h k k0 k1
          rw [show 4 * j + k = k + 4 * j by omega, ← a2 k k0 (by omega), h k k0 (by omega)]
          exact hd k k0 (by omega)
        · intro h k k0 k1
          rw [a2 k k0 k1, hd k k0 k1]
          by_cases kk : k < m 66 0 p
          · rw [show k + 4 * j = 4 * j + k by omega]
            exact h k k0 kk
          · rw [hz k k0 k1 (by omega)]
            exact hX j j0 j1 k k0 k1 (by rw [b]; omega)
      rw [this]
    · rw [decide_eq_false b, Bool.false_and, Bool.false_and]
  unfold pFd
  rw [hT.1, pIx_congr _ 0 (Nat.le_refl _) (fun j j0 j1 => e j j0 j1)]
theorem fn233_eq {p rd ru v : Int} {c : rHp} (h : fn206 [p] c = (0, v, c)) (n0 : 0 ≤ c 4 0 7) : fn233 [p, rd, ru] c = if v < 0 then (if c 4 0 7 < 2000 then (0, 1, uAd p rd ru (c 4 0 7) c) else (1, 0, c)) else (0, 0, c) := by
  unfold fn233
  simp only [zLet, List.getD_cons_zero, List.getD_cons_succ, h, fn207_eq n0]
  by_cases b : v < 0
  · rw [if_pos b, if_pos b]
    by_cases d : c 4 0 7 < 2000
    · rw [if_pos d, if_pos d]
      exact if_pos (Int.le_refl 1)
    · rw [if_neg d, if_neg d]
      exact if_neg (show ¬ (1 : Int) ≤ 0 by decide)
  · rw [if_neg b, if_neg b]
theorem fn57_eq {p ru v : Int} {m : rHp} (h56 : fn56 [p] m = (0, v, m)) (hz : ∀ k, 0 ≤ k → k < 4 → m 66 0 p ≤ k → m 102 0 k = 0) : fn57 [p, ru] m = if v < 0 then (if m 15 0 71 ≠ 2000 then zLoop (en57 m) (0, [p, ru, 0], mNew p ru m) else (0, 0, rUp m 15 0 77 3)) else (0, 0, m) := by
  unfold fn57
  rw [dn57_eq h56 hz]
  by_cases b : v < 0
  · rw [if_pos b, if_pos b]
    by_cases d : m 15 0 71 ≠ 2000
    · rw [if_pos d, if_pos d]; rfl
    · rw [if_neg d, if_neg d]; rfl
  · rw [if_neg b, if_neg b]; rfl
theorem come_new {c m m_q : rHp} {p rd ru : Int} (hT : tT c m) (hR : cR m) (hp : 0 ≤ p ∧ p < m 15 0 13) (hd : ∀ k, 0 ≤ k → k < 4 → c 33 0 k = m 102 0 k) (n1 : m 15 0 71 < 2000) (hm : ∀ K, K ≠ 97 → K ≠ 98 → m_q K = mNew p ru m K) : tT (uAd p rd ru (c 4 0 7) c) m_q ∧ cR m_q := by
  have e7 := hT.1
  have n0 := hT.2.2.1.1.1
  have r2 := mNew_cR (ru := ru) hR hp
  have r3 : cR m_q := by
    unfold cR at r2 ⊢
    rw [hm 93 (by decide) (by decide), hm 15 (by decide) (by decide)]
    exact cH_eq r2 (hm 100 (by decide) (by decide)) (hm 101 (by decide) (by decide)) (hm 96 (by decide) (by decide))
  have m71 : m_q 15 0 71 = m 15 0 71 + 1 := by rw [hm 15 (by decide) (by decide), mNew_15, if_pos rfl]
  refine ⟨⟨?_, ?_, cR_cM r3 (by rw [m71]; omega), fun t t0 t1 => ?_⟩, r3⟩
  · rw [uAd_4, if_pos rfl, m71, e7]
  · rw [uAd_4, if_pos rfl]
    exact uAd_chn (by omega) hT.2.1
  · rw [uAd_4, if_pos rfl] at t1
    rw [hm 93 (by decide) (by decide), hm 99 (by decide) (by decide), mNew_93, uAd_28.1, rUp_in]
    by_cases b : t = c 4 0 7
    · rw [if_pos b, if_pos (by omega)]
      refine ⟨rfl, fun k k0 k4 => ?_⟩
      rw [b, uAd_new k0 k4, e7, mNew_new k0 k4]
      exact hd k k0 k4
    · obtain ⟨a1, a2⟩ := hT.2.2.2 t t0 (by omega)
      rw [if_neg b, if_neg (by omega)]
      refine ⟨a1, fun k k0 k4 => ?_⟩
      rw [uAd_old (by omega), mNew_old (by omega)]
      exact a2 k k0 k4
/-- what arriving leaves: all that a WAY hangs on stands -/
theorem wP_arr {J : rHp → Prop} {Q : rHp → rHp → Prop} {r R n : Int} {kb : Int → Int} {g : Int} {c m c_q m_q : rHp} (h : (wR N) J Q r R n kb g c m) (hc : ∀ K : Nat, K = 1 ∨ K = 6 ∨ K = 9 ∨ K = 10 ∨ K = 18 ∨ K = 19 ∨ K = 20 ∨ K = 37 ∨ K = 38 ∨ K = 40 ∨ K = 43 ∨ K = 44 ∨ K = 46 → c_q K = c K) (hm : ∀ K : Nat, (59 ≤ K ∧ K ≤ 92) ∨ K = 103 ∨ K = 104 → m_q K = m K) (h15 : ∀ j, j ≤ 70 ∨ j = 72 ∨ j = 73 ∨ j = 76 ∨ j = 77 ∨ (81 ≤ j ∧ j ≤ 84) → m_q 15 0 j = m 15 0 j) (n71 : m 15 0 71 ≤ m_q 15 0 71) (jm : J m_q) (qq : Q c_q m_q) (tt : tT c_q m_q) (vt : ∀ t k, 0 ≤ t → t < m_q 15 0 71 → 0 ≤ k → k < 4 → (vOk N) (m_q 99 0 (k + 4 * t))) (gr : tG c c_q) : (wP N) J Q r R n kb g c m c_q m_q := by
  have sc : sC c c_q := ⟨hc 9 (by decide), hc 10 (by decide), hc 43 (by decide), hc 44 (by decide), hc 46 (by decide), fun j _ _ => by rw [hc 6 (by decide)]⟩
  have sm : sM m m_q := ⟨fun K a b => hm K (Or.inl ⟨a, b⟩), h15 13 (by decide), h15 76 (by decide), fun j a b => h15 j (by omega)⟩
  refine ⟨⟨jm, qq, tt, vt, wS_up h.st sc sm, ?_, ?_, ?_, ?_, ?_, ?_, ?_, ?_⟩, fun v _ _ => ⟨by rw [hc 37 (by decide)], by rw [hm 103 (by decide)]⟩, fun x _ _ _ => by rw [hm 104 (by decide)], gr, sc, sm, ⟨fun K z => hc K (by omega), fun j z => h15 j (by omega)⟩⟩
  · rw [h15 77 (by decide)]; exact h.bad
  · rw [hc 6 (by decide), h15 72 (by decide)]; exact h.stp
  · rw [h15 72 (by decide)]; exact h.st0
  · rw [hc 6 (by decide), h15 81 (by decide)]
    have := h.lim
    exact ⟨this.1, this.2.1, by omega⟩
  · rw [hc 37 (by decide), hm 103 (by decide)]; exact h.bnd
  · rw [hc 38 (by decide), hc 10 (by decide), hm 77 (by decide), hm 104 (by decide), h15 81 (by decide)]; exact h.tkn
  · rw [hc 6 (by decide), hm 77 (by decide), hm 104 (by decide)]; exact h.fr
  · rw [hc 6 (by decide), h15 84 (by decide), h15 83 (by decide), h15 82 (by decide), h15 81 (by decide)]; exact h.ask
