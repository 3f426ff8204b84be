/-! ===== the next TUPLE that may fit, by the class ===== -/
theorem irem4 {j : Int} (h0 : 0 ≤ j) (h1 : j < 8192) : zF2 .irem j 4 = j % 4 := by
  have e1 : (Int32.ofInt j).toInt = j := Int32.toInt_ofInt_of_le (by simp; omega) (by simp; omega)
  have e2 : zF2 .irem j 4 = (Int32.ofInt j - Int32.ofInt j / Int32.ofInt 4 * Int32.ofInt 4).toInt := rfl
  have b : ∀ z : Int, 0 ≤ z → z < 8192 → Int.bmod z (2 ^ 32) = z := fun z z0 z1 => Int.bmod_eq_of_le (by omega) (by omega)
  rw [e2, Int32.toInt_sub, Int32.toInt_mul, Int32.toInt_div, e1, show (Int32.ofInt 4).toInt = 4 from rfl, Int.tdiv_eq_ediv_of_nonneg h0, b (j / 4) (by omega) (by omega), b (j / 4 * 4) (by omega) (by omega), b (j - j / 4 * 4) (by omega) (by omega)]
  omega
/-- the first member of the chain that is of the ARG a, as a TUPLE -/
theorem fn210_eq {c : rHp} {ch : Int → Int} {n x a : Int} (hn : 0 ≤ n ∧ n ≤ 2000) (ha : 0 ≤ a ∧ a < 4) (hN : ∀ j, 0 ≤ j → j < 4 * n → c 52 0 j = pCh ch (4 * n) (ch j) (j + 1)) :
    ∀ (f : Nat) (met i j0 : Int), (4 * n - i).toNat ≤ f → 0 ≤ i → i ≤ 4 * n → met ≤ i → ∃ r, zLoop (en210 c) (0, [j0, a, met, pCh ch (4 * n) x i], c) = (0, r, c) ∧ ((r = -1 ∧ ∀ t, 0 ≤ t → t < n → i ≤ a + 4 * t → ch (a + 4 * t) ≠ x) ∨ (0 ≤ r ∧ r < n ∧ i ≤ a + 4 * r ∧ ch (a + 4 * r) = x ∧ ∀ t, 0 ≤ t → t < r → i ≤ a + 4 * t → ch (a + 4 * t) ≠ x)) := by
  intro f
  induction f with
  | zero =>
    intro met i j0 hf i0 i1 hm
    have hno : pCh ch (4 * n) x i = -1 := (pCh_none i0).2 (fun j _ _ => by omega)
    have en : en210 c (0, [j0, a, met, -1], c) = .inr (0, -1, c) := by
      unfold en210
      simp only [zLet, List.getD_cons_zero, List.getD_cons_succ, ↓reduceIte]
      rw [if_pos (show (-1 : Int) < 0 by decide)]
    rw [hno]
    exact ⟨-1, zLoop_inr en, Or.inl ⟨rfl, fun t t0 t1 t2 => by omega⟩⟩
  | succ f ih =>
    intro met i j0 hf i0 i1 hm
    by_cases hno : pCh ch (4 * n) x i = -1
    · have en : en210 c (0, [j0, a, met, -1], c) = .inr (0, -1, c) := by
        unfold en210
        simp only [zLet, List.getD_cons_zero, List.getD_cons_succ, ↓reduceIte]
        rw [if_pos (show (-1 : Int) < 0 by decide)]
      rw [hno]
      exact ⟨-1, zLoop_inr en, Or.inl ⟨rfl, fun t t0 t1 t2 => (pCh_none i0).1 hno _ t2 (by omega)⟩⟩
    · obtain ⟨m1, m2, m3, m4⟩ := pCh_mem hno
      generalize pCh ch (4 * n) x i = y at *
      have st : en210 c (0, [j0, a, met, y], c) = if y % 4 ≠ a then .inl (0, [j0, a, met + 1, c 52 0 y], c) else .inr (0, y / 4, c) := by
        unfold en210
        simp only [zLet, List.getD_cons_zero, List.getD_cons_succ, ↓reduceIte, irem4 (show 0 ≤ y by omega) (show y < 8192 by omega), fn192_eq (c := c) (show 0 ≤ y by omega) (show y < 8000 by omega)]
        rw [if_neg (show ¬ y < 0 by omega), if_neg (show ¬ met ≥ 8000 by omega)]
      by_cases hy : y % 4 ≠ a
      · rw [zLoop_inl (st.trans (if_pos hy)), hN y (by omega) m2, m3]
        obtain ⟨r, r1, r2⟩ := ih (met + 1) (y + 1) j0 (by omega) (by omega) (by omega) (by omega)
        refine ⟨r, r1, ?_⟩
        have skip : ∀ t, i ≤ a + 4 * t → ¬ y + 1 ≤ a + 4 * t → ch (a + 4 * t) ≠ x := fun t t1 t2 => by
          by_cases e : a + 4 * t = y
          · exact absurd (show y % 4 = a by omega) hy
          · exact m4 _ t1 (by omega)
        rcases r2 with ⟨q1, q2⟩ | ⟨q1, q2, q3, q4, q5⟩
        · refine Or.inl ⟨q1, fun t t0 t1 t2 => ?_⟩
          by_cases e : y + 1 ≤ a + 4 * t
          · exact q2 t t0 t1 e
          · exact skip t t2 e
        · refine Or.inr ⟨q1, q2, by omega, q4, fun t t0 t1 t2 => ?_⟩
          by_cases e : y + 1 ≤ a + 4 * t
          · exact q5 t t0 t1 e
          · exact skip t t2 e
      · have hy : y % 4 = a := by omega
        have e : a + 4 * (y / 4) = y := by omega
        rw [zLoop_inr (st.trans (if_neg (fun z => z hy)))]
        refine ⟨y / 4, rfl, Or.inr ⟨by omega, by omega, by rw [e]; exact m1, by rw [e]; exact m3, fun t t0 t1 t2 => m4 _ t2 (by omega)⟩⟩
/-- the chain of a TUPLE, as an ATOM with the guide u goes along it -/
noncomputable def cdG (c : rHp) (u t : Int) : Int := if u < 0 then chP c t else chA c (u + 4 * t)
theorem nextFor {c : rHp} {G t n u X : Int} (hn : 0 ≤ n ∧ n ≤ 2000) (hc : tChn c n) (hu : c 10 G 9 = u) (u4 : u < 4) (t0 : 0 ≤ t) (t1 : t < n) (hX : cdG c u t = X) : ∃ r, fn227 [G, t] c = (0, r, c) ∧ ((r = -1 ∧ ∀ j, t < j → j < n → cdG c u j ≠ X) ∨ (t < r ∧ r < n ∧ cdG c u r = X ∧ ∀ j, t < j → j < r → cdG c u j ≠ X)) := by
  obtain ⟨⟨_, _, _, p3, _⟩, ⟨_, _, _, a3, _⟩, _⟩ := hc
  unfold fn227
  simp only [zLet, List.getD_cons_zero, List.getD_cons_succ, hu]
  unfold cdG at hX ⊢
  by_cases hg : u ≥ 0
  · rw [if_neg (show ¬ u < 0 by omega)] at hX
    simp only [if_neg (show ¬ u < 0 by omega)]
    rw [if_pos hg]
    have e1 : fn212 [t, u] c = (0, (zLoop (en210 c) (0, [c 52 0 (u + 4 * t), u, 0, c 52 0 (u + 4 * t)], c)).2.1, (zLoop (en210 c) (0, [c 52 0 (u + 4 * t), u, 0, c 52 0 (u + 4 * t)], c)).2.2) := by
      unfold fn212
      simp only [zLet, List.getD_cons_zero, List.getD_cons_succ, fn192_eq (c := c) (show 0 ≤ u + 4 * t by omega) (show u + 4 * t < 8000 by omega)]
      rfl
    have e2 : c 52 0 (u + 4 * t) = pCh (chA c) (4 * n) X (u + 4 * t + 1) := by rw [a3 (u + 4 * t) (by omega) (by omega), hX]
    obtain ⟨r, r1, r2⟩ := fn210_eq (c := c) (ch := chA c) (x := X) hn ⟨hg, u4⟩ a3 _ 0 (u + 4 * t + 1) (c 52 0 (u + 4 * t)) (Nat.le_refl _) (by omega) (by omega) (by omega)
    rw [← e2] at r1
    rw [e1, r1]
    refine ⟨r, rfl, ?_⟩
    rcases r2 with ⟨q1, q2⟩ | ⟨q1, q2, q3, q4, q5⟩
    · exact Or.inl ⟨q1, fun j j0 j1 => q2 j (by omega) j1 (by omega)⟩
    · exact Or.inr ⟨by omega, q2, q4, fun j j0 j1 => q5 j (by omega) j1 (by omega)⟩
  · rw [if_pos (show u < 0 by omega)] at hX
    simp only [if_pos (show u < 0 by omega)]
    rw [if_neg hg]
    have e1 : fn209 [t] c = (0, c 49 0 t, c) := by
      unfold fn209
      simp only [zLet, List.getD_cons_zero, fn188_eq (c := c) t0 (show t < 2000 by omega)]
    rw [e1]
    refine ⟨c 49 0 t, rfl, ?_⟩
    rw [p3 t t0 t1, hX]
    by_cases b : pCh (chP c) n X (t + 1) = -1
    · exact Or.inl ⟨b, fun j j0 j1 => (pCh_none (by omega)).1 b j (by omega) j1⟩
    · obtain ⟨m1, m2, m3, m4⟩ := pCh_mem b
      exact Or.inr ⟨by omega, m2, m3, fun j j0 j1 => m4 j (by omega) j1⟩
