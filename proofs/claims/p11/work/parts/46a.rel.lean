/-! ===== the two sides ===== -/
theorem pEd_congr {q : Int → Bool} {t t_q : Int → Int} {n : Int} : ∀ (f : Nat) (i : Int), (n - i).toNat ≤ f → (∀ j, i ≤ j → j < n → t j = t_q j) → pEd q t n i = pEd q t_q n i := by
  intro f
  induction f with
  | zero =>
    intro i hf _
    rw [pEd_no (by omega), pEd_no (by omega)]
  | succ f ih =>
    intro i hf h
    by_cases hi : i < n
    · have e := h i (Int.le_refl _) hi
      cases eq : q (t i) with
      | true =>
        rw [pEd_go hi eq, pEd_go hi (by rw [← e]; exact eq)]
        exact ih (i + 1) (by omega) (fun j h1 h2 => h j (by omega) h2)
      | false => rw [pEd_no (by rw [eq]; simp), pEd_no (by rw [← e, eq]; simp)]
    · rw [pEd_no (by omega), pEd_no (by omega)]
theorem pSk_congr {t t_q : Int → Int} {n : Int} : ∀ (f : Nat) (i : Int), (n - i).toNat ≤ f → (∀ j, i ≤ j → j < n → t j = t_q j) → pSk t n i = pSk t_q n i := by
  intro f
  induction f with
  | zero =>
    intro i hf _
    rw [pSk_no (by omega), pSk_no (by omega)]
  | succ f ih =>
    intro i hf h
    by_cases hi : i < n
    · have e := h i (Int.le_refl _) hi
      by_cases eq : t i = 32 ∨ t i = 10
      · rw [pSk_go hi eq, pSk_go hi (by rw [← e]; exact eq)]
        exact ih (i + 1) (by omega) (fun j h1 h2 => h j (by omega) h2)
      · rw [pSk_no (fun h => eq h.2), pSk_no (fun h => eq (by rw [e]; exact h.2))]
    · rw [pSk_no (by omega), pSk_no (by omega)]
/-- w is the packed word of s bytes of t from f on, all below n -/
noncomputable def qW (q : Int → Bool) (t : Int → Int) (n w f s : Int) : Prop := ∃ k : Nat, k ≤ 11 ∧ s = (k : Int) + 1 ∧ pV q t f k ∧ w = pPk t f k ∧ 0 ≤ f ∧ f + s ≤ n
theorem qW_s {q : Int → Bool} {t : Int → Int} {n w f s : Int} (h : qW q t n w f s) : 1 ≤ s ∧ s ≤ 12 ∧ 0 ≤ f ∧ f + s ≤ n := by
  obtain ⟨k, h1, h2, _, _, h5, h6⟩ := h
  omega
theorem qW_move {q : Int → Bool} {t t_q : Int → Int} {n n_q w f f_q s : Int} (h : qW q t n w f s) (e : ∀ j, 0 ≤ j → j < s → t (f + j) = t_q (f_q + j)) (h0 : 0 ≤ f_q) (h1 : f_q + s ≤ n_q) : qW q t_q n_q w f_q s := by
  obtain ⟨k, a1, a2, a3, a4, a5, a6⟩ := h
  have e2 : ∀ j : Nat, j ≤ k → t (f + j) = t_q (f_q + j) := fun j hj => e j (by omega) (by omega)
  exact ⟨k, a1, a2, pV_congr a3 e2, a4.trans (pPk_congr e2), h0, h1⟩
/-- two words are the same number just when they are the same bytes -/
theorem qW_iff {q : Int → Bool} (hq : pLt q) {t t_q : Int → Int} {n n_q w w_q f f_q s s_q : Int} (h : qW q t n w f s) (h_q : qW q t_q n_q w_q f_q s_q) : w = w_q ↔ s = s_q ∧ pSame t f t_q f_q s_q = true := by
  obtain ⟨k, a1, a2, a3, a4, a5, a6⟩ := h
  obtain ⟨k_q, b1, b2, b3, b4, b5, b6⟩ := h_q
  rw [a4, b4, pPk_iff hq a1 b1 a3 b3, a2, b2]
  constructor
  · rintro ⟨e1, e2⟩
    have : k = k_q := by omega
    subst this
    exact ⟨rfl, e2⟩
  · rintro ⟨e1, e2⟩
    have : k = k_q := by omega
    subst this
    exact ⟨rfl, e2⟩
theorem qW_dec {q : Int → Bool} (hq : pLt q) {t t_q : Int → Int} {n n_q w w_q f f_q s s_q : Int} (h : qW q t n w f s) (h_q : qW q t_q n_q w_q f_q s_q) : decide (w ≠ w_q) = !(decide (s = s_q) && pSame t f t_q f_q s_q) := by
  have := qW_iff hq h h_q
  by_cases e : w = w_q
  · obtain ⟨e1, e2⟩ := this.1 e
    rw [decide_eq_false (fun h => h e), decide_eq_true e1, e2]
    rfl
  · rw [decide_eq_true (show w ≠ w_q from e)]
    by_cases e1 : s = s_q
    · rw [decide_eq_true e1, Bool.true_and]
      cases e2 : pSame t f t_q f_q s_q with
      | false => rfl
      | true => exact absurd (this.2 ⟨e1, e2⟩) e
    · rw [decide_eq_false e1, Bool.false_and]
      rfl
/-- the tapes -/
noncomputable def qT (c m : rHp) : Prop := c 2 0 3 = m 15 0 34 ∧ 0 ≤ m 15 0 34 ∧ ∀ j, 0 ≤ j → j < m 15 0 34 → c 21 0 j = m 59 0 j ∧ -128 ≤ m 59 0 j ∧ m 59 0 j ≤ 127
/-- where the readers stand -/
noncomputable def qA (c m : rHp) : Prop := c 2 0 6 = m 15 0 35 ∧ 0 ≤ m 15 0 35 ∧ m 15 0 35 ≤ m 15 0 34
/-- the class_q NAMES: no two are the same -/
noncomputable def qNc (c : rHp) : Prop := 0 ≤ c 3 0 1 ∧ ∀ i j, 0 ≤ i → i < c 3 0 1 → 0 ≤ j → j < c 3 0 1 → c 26 0 i = c 26 0 j → i = j
/-- the reference's NAMES: no two are the same -/
noncomputable def qNm (m : rHp) : Prop := 0 ≤ m 15 0 8 ∧ 0 ≤ m 15 0 9 ∧ (∀ k, 0 ≤ k → k < m 15 0 8 → 0 ≤ m 62 0 k ∧ 0 ≤ m 63 0 k ∧ m 62 0 k + m 63 0 k ≤ m 15 0 9) ∧ ∀ i j, 0 ≤ i → i < m 15 0 8 → 0 ≤ j → j < m 15 0 8 → m 63 0 i = m 63 0 j → (∀ x, 0 ≤ x → x < m 63 0 j → m 61 0 (x + m 62 0 i) = m 61 0 (x + m 62 0 j)) → i = j
/-- NAMES only grow -/
noncomputable def gNc (c0 c : rHp) : Prop := c0 3 0 1 ≤ c 3 0 1 ∧ ∀ k, 0 ≤ k → k < c0 3 0 1 → c 26 0 k = c0 26 0 k
noncomputable def gNm (m0 m : rHp) : Prop := m0 15 0 8 ≤ m 15 0 8 ∧ m0 15 0 9 ≤ m 15 0 9 ∧ (∀ k, 0 ≤ k → k < m0 15 0 8 → m 62 0 k = m0 62 0 k ∧ m 63 0 k = m0 63 0 k) ∧ ∀ j, 0 ≤ j → j < m0 15 0 9 → m 61 0 j = m0 61 0 j
/-- NAMES of the same numbers -/
noncomputable def sN (c m : rHp) : Prop := c 3 0 1 = m 15 0 8 ∧ ∀ k, 0 ≤ k → k < c 3 0 1 → qW pSm (m 61 0) (m 15 0 9) (c 26 0 k) (m 62 0 k) (m 63 0 k)
/-- the NAMES of both since the text's beginning; of the same numbers if they were so -/
noncomputable def qN (c0 m0 c m : rHp) : Prop := qNc c ∧ qNm m ∧ gNc c0 c ∧ gNm m0 m ∧ (sN c0 m0 → sN c m)
/-- a value of the class and one of the reference: the same number, or the same NAME -/
noncomputable def vR (c m : rHp) (v v_q : Int) : Prop := (v = v_q ∧ v < 1099511627776 ∧ -2147483648 ≤ v ∧ v ≤ 2147483647) ∨ ∃ k k_q, v = k + 1099511627776 ∧ v_q = k_q + 1099511627776 ∧ 0 ≤ k ∧ k < c 3 0 1 ∧ 0 ≤ k_q ∧ k_q < m 15 0 8 ∧ qW pSm (m 61 0) (m 15 0 9) (c 26 0 k) (m 62 0 k_q) (m 63 0 k_q)
/-- the PREDICATES -/
noncomputable def qP (c m : rHp) : Prop := c 1 0 7 = m 15 0 14 ∧ 0 ≤ m 15 0 14 ∧ m 15 0 14 ≤ 20 ∧ ∀ p, 0 ≤ p → p < m 15 0 14 → qW pSm (m 64 0) (12 * (p + 1)) (c 16 0 p) (12 * p) (m 65 0 p) ∧ c 17 0 p = m 66 0 p
/-- the VARIABLES -/
noncomputable def qV (c m : rHp) : Prop := c 2 0 13 = m 74 0 (m 15 0 44) ∧ 0 ≤ m 74 0 (m 15 0 44) ∧ m 74 0 (m 15 0 44) ≤ 8 ∧ ∀ v, 0 ≤ v → v < m 74 0 (m 15 0 44) → qW pCa (m 59 0) (m 15 0 34) (c 22 0 v) (m 82 0 v) (m 83 0 v) ∧ c 23 0 v = m 84 0 v
/-- the byte looked at: by the class, by the reference -/
noncomputable def qL (L b : Int) : Prop := -1 ≤ L ∧ L ≤ 255 ∧ (L = b ∨ (128 ≤ L ∧ b = L - 256))
theorem qL_is {L b : Int} (h : qL L b) {x : Int} (h0 : 0 ≤ x) (h1 : x ≤ 127) : (L = x) = (b = x) := by
  unfold qL at h
  exact propext ⟨fun e => by omega, fun e => by omega⟩
theorem qL_sm {L b : Int} (h : qL L b) : pSm L = pSm b := by
  unfold qL at h
  unfold pSm
  by_cases e : L = b
  · rw [e]
  · rw [decide_eq_false (show ¬ L ≤ 122 by omega), decide_eq_false (show ¬ 97 ≤ b by omega), Bool.and_false, Bool.false_and]
theorem qL_ca {L b : Int} (h : qL L b) : pCa L = pCa b := by
  unfold qL at h
  unfold pCa
  by_cases e : L = b
  · rw [e]
  · rw [decide_eq_false (show ¬ L ≤ 90 by omega), decide_eq_false (show ¬ 65 ≤ b by omega), Bool.and_false, Bool.false_and]
theorem qL_dg {L b : Int} (h : qL L b) : pDg L = pDg b := by
  unfold qL at h
  unfold pDg
  by_cases e : L = b
  · rw [e]
  · rw [decide_eq_false (show ¬ L ≤ 57 by omega), decide_eq_false (show ¬ 48 ≤ b by omega), Bool.and_false, Bool.false_and]
theorem pL_qL {t t_q : Int → Int} {n i : Int} (h0 : 0 ≤ i) (h : ∀ j, 0 ≤ j → j < n → t j = t_q j ∧ -128 ≤ t_q j ∧ t_q j ≤ 127) : qL (pL t n i) (pB t_q n i) := by
  unfold pL pB
  by_cases hi : n ≤ i
  · rw [if_pos hi, if_pos hi]
    exact ⟨by omega, by omega, Or.inl rfl⟩
  · rw [if_neg hi, if_neg hi]
    obtain ⟨e, e1, e2⟩ := h i h0 (by omega)
    rw [e, zF2_and255 e1 e2]
    unfold qL
    omega
theorem pL_ge {t : Int → Int} {n i : Int} (h : i < n) (h1 : -128 ≤ t i) (h2 : t i ≤ 127) : 0 ≤ pL t n i := by
  unfold pL
  rw [if_neg (by omega), zF2_and255 h1 h2]
  omega
theorem pL_out {t : Int → Int} {n i : Int} (h : n ≤ i) : pL t n i = -1 := if_pos h
/-- blanks are passed over by both -/
theorem look_two {c m : rHp} (hT : qT c m) (hA : qA c m) (x y : List Int) : ∃ p L, fn114 x c = (0, L, rUp c 2 0 6 p) ∧ fn7 y m = (0, 0, rUp m 15 0 35 p) ∧ m 15 0 35 ≤ p ∧ p ≤ m 15 0 34 ∧ qL L (pB (m 59 0) (m 15 0 34) p) ∧ (0 ≤ L ↔ p < m 15 0 34) ∧ pSk (m 59 0) (m 15 0 34) p = p := by
  obtain ⟨t1, t2, t3⟩ := hT
  obtain ⟨a1, a2, a3⟩ := hA
  have e : pSk (c 21 0) (c 2 0 3) (c 2 0 6) = pSk (m 59 0) (m 15 0 34) (m 15 0 35) := by
    rw [t1, a1]
    exact pSk_congr _ _ (Nat.le_refl _) (fun j h1 h2 => (t3 j (by omega) h2).1)
  have hl : m 15 0 35 ≤ pSk (m 59 0) (m 15 0 34) (m 15 0 35) := pSk_le
  have ht : pSk (m 59 0) (m 15 0 34) (m 15 0 35) ≤ m 15 0 34 := pSk_top a3
  refine ⟨pSk (m 59 0) (m 15 0 34) (m 15 0 35), pL (c 21 0) (m 15 0 34) (pSk (m 59 0) (m 15 0 34) (m 15 0 35)), ?_, fn7_eq y m, hl, ht, pL_qL (by omega) t3, ?_, pSk_idem⟩
  · rw [fn114_eq, e, t1]
  · constructor
    · intro h
      by_cases hi : pSk (m 59 0) (m 15 0 34) (m 15 0 35) < m 15 0 34
      · exact hi
      · rw [pL_out (by omega)] at h
        omega
    · intro h
      obtain ⟨e1, e2, e3⟩ := t3 _ (by omega) h
      exact pL_ge h (by omega) (by omega)
theorem fn8_eq {p : Int} {m : rHp} (h : p ≤ m 15 0 34) : fn8 [p] m = (0, 0, rUp m 15 0 36 p) := by
  unfold fn8
  simp only [zLet, List.getD_cons_zero]
  by_cases h2 : p ≥ m 15 0 34
  · rw [if_pos h2, show m 15 0 34 = p by omega]
  · rw [if_neg h2]
theorem fn109_eq {p : Int} {c : rHp} : fn109 [p] c = (0, 0, rUp c 2 0 4 p) := rfl
/-- a word: both read it, or both find it too long -/
theorem word_two {c m : rHp} (hT : qT c m) (hA : qA c m) {q : Int → Bool} (hn : m 15 0 35 < m 15 0 34) (hq : q (m 59 0 (m 15 0 35)) = true) (x y : List Int) :
    (∃ e w, fn115 x c = (0, 1, rUp (rUp (rUp c 2 0 9 (m 15 0 35)) 2 0 8 w) 2 0 6 e) ∧ fn12 y m = (0, 1, rUp (rUp (rUp m 15 0 37 (m 15 0 35)) 15 0 38 (e - m 15 0 35)) 15 0 35 e) ∧ m 15 0 35 < e ∧ e ≤ m 15 0 34 ∧ qW q (m 59 0) (m 15 0 34) w (m 15 0 35) (e - m 15 0 35)) ∨
    (∃ e w, fn115 x c = (0, 0, rUp (rUp (rUp (rUp c 2 0 9 (m 15 0 35)) 2 0 8 w) 2 0 6 e) 2 0 4 (m 15 0 35)) ∧ fn12 y m = (0, 0, rUp (rUp (rUp m 15 0 37 (m 15 0 35)) 15 0 38 (e - m 15 0 35)) 15 0 36 (m 15 0 35))) := by
  obtain ⟨t1, t2, t3⟩ := hT
  obtain ⟨a1, a2, a3⟩ := hA
  have e : pEd pWc (c 21 0) (c 2 0 3) (m 15 0 35 + 1) = pEd pWc (m 59 0) (m 15 0 34) (m 15 0 35 + 1) := by
    rw [t1]
    exact pEd_congr _ _ (Nat.le_refl _) (fun j h1 h2 => (t3 j (by omega) h2).1)
  have hl : m 15 0 35 + 1 ≤ pEd pWc (m 59 0) (m 15 0 34) (m 15 0 35 + 1) := pEd_le
  have ht : pEd pWc (m 59 0) (m 15 0 34) (m 15 0 35 + 1) ≤ m 15 0 34 := pEd_top (by omega)
  have h115 := fn115_eq x c (p := m 15 0 35) (e := pEd pWc (m 59 0) (m 15 0 34) (m 15 0 35 + 1)) a1.symm e.symm
  have h12 := fn12_eq y m
  by_cases h : pEd pWc (m 59 0) (m 15 0 34) (m 15 0 35 + 1) - m 15 0 35 ≤ 12
  · rw [if_pos h] at h115 h12
    refine Or.inl ⟨_, _, h115, h12, by omega, ht, ⟨(pEd pWc (m 59 0) (m 15 0 34) (m 15 0 35 + 1) - m 15 0 35 - 1).toNat, by omega, by omega, ⟨hq, fun j hj => ?_⟩, pPk_congr (fun j hj => (t3 _ (by omega) (by omega)).1), a2, by omega⟩⟩
    exact pEd_in (q := pWc) (t := m 59 0) (n := m 15 0 34) (i := m 15 0 35 + 1) (by omega) (by omega)
  · rw [if_neg h] at h115 h12
    have h8 : ∀ v, fn8 [m 15 0 35] (rUp (rUp m 15 0 37 (m 15 0 35)) 15 0 38 v) = (0, 0, rUp (rUp (rUp m 15 0 37 (m 15 0 35)) 15 0 38 v) 15 0 36 (m 15 0 35)) := fun v => fn8_eq (by rw [rUp_ne (by decide), rUp_ne (by decide)]; exact a3)
    rw [h8] at h12
    exact Or.inr ⟨_, _, h115, h12⟩
