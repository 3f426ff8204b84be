/-! ===== numbers, NAMES, PREDICATES and VARIABLES by both ===== -/
theorem pNv_congr {t t' : Int → Int} {f : Int} : ∀ {k : Nat}, (∀ j : Nat, j < k → t (f + j) = t' (f + j)) → pNv t f k = pNv t' f k
  | 0, _ => rfl
  | k + 1, e => by
    show zF2 .ladd (zF2 .lmul (pNv t f k) 10) (t (f + k) + (-48)) = zF2 .ladd (zF2 .lmul (pNv t' f k) 10) (t' (f + k) + (-48))
    rw [pNv_congr (fun j hj => e j (by omega)), e k (by omega)]
/-- a number: both read it, or both find it BROKEN -/
theorem num_two {c m : rHp} (hT : qT c m) (hA : qA c m) (hn : m 15 0 35 < m 15 0 34) (x y : List Int) :
    (∃ e v, fn116 x c = (0, 1, rUp (rUp c 2 0 6 e) 2 0 10 v) ∧ fn14 y m = (0, 1, rUp (rUp (rUp m 15 0 35 e) 15 0 39 v) 15 0 40 0) ∧ m 15 0 35 < e ∧ e ≤ m 15 0 34) ∨
    (∃ e v, fn116 x c = (0, 0, rUp (rUp (rUp c 2 0 6 e) 2 0 10 v) 2 0 4 (m 15 0 35)) ∧ fn14 y m = (0, 0, rUp m 15 0 36 (m 15 0 35))) := by
  obtain ⟨t1, t2, t3⟩ := hT
  obtain ⟨a1, a2, a3⟩ := hA
  have hb : c 21 0 (m 15 0 35) = m 59 0 (m 15 0 35) := (t3 _ a2 hn).1
  have key : ∀ f : Int, m 15 0 35 ≤ f → pEd pDg (c 21 0) (c 2 0 3) f = pEd pDg (m 59 0) (m 15 0 34) f := by
    intro f hf
    rw [t1]
    exact pEd_congr _ _ (Nat.le_refl _) (fun j h1 h2 => (t3 j (by omega) h2).1)
  have val : ∀ f e : Int, m 15 0 35 ≤ f → f ≤ m 15 0 34 → e = pEd pDg (m 59 0) (m 15 0 34) f → ¬ (e = f ∨ 7 < e - f) → pNv (c 21 0) f (e - f).toNat = vK (m 59 0) f (e - f).toNat := by
    intro f e hf hf2 he h
    have h1 : f ≤ e := by rw [he]; exact pEd_le
    have h2 : e ≤ m 15 0 34 := by rw [he]; exact pEd_top hf2
    rw [pNv_congr (t' := m 59 0) (fun j hj => (t3 _ (by omega) (by omega)).1)]
    refine pNv_eq (by omega) (fun j hj => ?_)
    exact pEd_in (q := pDg) (t := m 59 0) (n := m 15 0 34) (i := f) (by omega) (by rw [← he]; omega)
  have h14 := fn14_eq y m rfl hn
  rw [fn8_eq a3] at h14
  have h116 := fn116_eq x c (p := m 15 0 35) a1.symm (by rw [t1]; exact hn) rfl rfl rfl
  rw [hb] at h116
  by_cases h45 : m 59 0 (m 15 0 35) = 45
  · rw [if_pos h45] at h14
    rw [if_pos h45, if_pos h45, key _ (by omega)] at h116
    by_cases h : pEd pDg (m 59 0) (m 15 0 34) (m 15 0 35 + 1) = m 15 0 35 + 1 ∨ 7 < pEd pDg (m 59 0) (m 15 0 34) (m 15 0 35 + 1) - (m 15 0 35 + 1)
    · rw [if_pos h] at h14 h116
      exact Or.inr ⟨_, _, h116, h14⟩
    · rw [if_neg h] at h14 h116
      rw [if_neg (by decide), val _ _ (by omega) (by omega) rfl h] at h116
      have h1 : m 15 0 35 + 1 ≤ pEd pDg (m 59 0) (m 15 0 34) (m 15 0 35 + 1) := pEd_le
      exact Or.inl ⟨_, _, h116, h14, by omega, pEd_top (by omega)⟩
  · rw [if_neg h45] at h14
    rw [if_neg h45, if_neg h45, key _ (by omega)] at h116
    by_cases h : pEd pDg (m 59 0) (m 15 0 34) (m 15 0 35) = m 15 0 35 ∨ 7 < pEd pDg (m 59 0) (m 15 0 34) (m 15 0 35) - m 15 0 35
    · rw [if_pos h] at h14 h116
      exact Or.inr ⟨_, _, h116, h14⟩
    · rw [if_neg h] at h14 h116
      rw [if_pos rfl, val _ _ (by omega) (by omega) rfl h] at h116
      have h1 : m 15 0 35 ≤ pEd pDg (m 59 0) (m 15 0 34) (m 15 0 35) := pEd_le
      exact Or.inl ⟨_, _, h116, h14, by omega, pEd_top (by omega)⟩
theorem zCpy_grp {g : rHp} {G0 G1 G : Nat} {k0 sp k1 dp n : Int} (h : G ≠ G1) : zCpy g G0 k0 sp G1 k1 dp n G = g G := by
  funext k j
  unfold zCpy
  rw [if_neg (fun q => h q.1)]
theorem zCpy_in {g : rHp} {G0 G1 : Nat} {k0 sp k1 dp n j : Int} (h1 : dp ≤ j) (h2 : j < dp + n) : zCpy g G0 k0 sp G1 k1 dp n G1 k1 j = g G0 k0 (sp + (j - dp)) := by
  unfold zCpy
  rw [if_pos ⟨rfl, rfl, h1, h2⟩]
theorem zCpy_off {g : rHp} {G0 G1 : Nat} {k0 sp k1 dp n j : Int} (h : ¬ (dp ≤ j ∧ j < dp + n)) : zCpy g G0 k0 sp G1 k1 dp n G1 k1 j = g G1 k1 j := by
  unfold zCpy
  rw [if_neg (fun q => h q.2.2)]
/-- g' is g but for the groups of L and the fields of J of the reference's object -/
def qFm (L : List Nat) (J : List Int) (g g' : rHp) : Prop := (∀ G, G ∉ L → G ≠ 15 → g' G = g G) ∧ ∀ j, j ∉ J → g' 15 0 j = g 15 0 j
/-- the CONSTANT of a NAME -/
theorem name_two {c m : rHp} (hN : qN c m) {w : Int} (hW : qW pSm (m 59 0) (m 15 0 34) w (m 15 0 37) (m 15 0 38)) (hB : m 15 0 8 < 5120) (y : List Int) :
    ∃ k c' m', fn92 [w] c = (0, k, c') ∧ fn15 y m = (0, k + 1099511627776, m') ∧ qN c' m' ∧ 0 ≤ k ∧ k < m' 15 0 8 ∧ m' 15 0 8 ≤ m 15 0 8 + 1 ∧ (∀ G, G ≠ 26 → G ≠ 3 → c' G = c G) ∧ qFm [61, 62, 63] [8, 9] m m' := by
  have hs := qW_s hW
  obtain ⟨n1, n2, n3, n4⟩ := hN
  have h92 := fn92_eq w c
  have h15 := fn15_eq y m (by omega)
  have e : pIx (fun j => decide (c 26 0 j ≠ w)) (m 15 0 8) 0 = pIx (fun k => !(pNm m k)) (m 15 0 8) 0 :=
    pIx_congr _ _ (Nat.le_refl _) (fun j h1 h2 => qW_dec (Or.inl rfl) (n4 j h1 h2) hW)
  rw [n1, e] at h92
  by_cases h : m 15 0 8 ≤ pIx (fun k => !(pNm m k)) (m 15 0 8) 0
  · rw [if_pos h, if_pos hB] at h92
    rw [if_pos h] at h15
    have e61 : ∀ j, pNb m (m 15 0 38) 61 0 j = if m 15 0 9 ≤ j ∧ j < m 15 0 9 + m 15 0 38 then m 59 0 (m 15 0 37 + (j - m 15 0 9)) else m 61 0 j := by
      intro j
      unfold pNb
      by_cases hj : m 15 0 9 ≤ j ∧ j < m 15 0 9 + m 15 0 38
      · rw [if_pos hj, zCpy_in hj.1 hj.2, pNa_59]
      · rw [if_neg hj, zCpy_off hj]
        unfold pNa
        rw [rUp_grp (by decide), rUp_grp (by decide)]
    have e62 : pNb m (m 15 0 38) 62 = rUp m 62 0 (m 15 0 8) (m 15 0 9) 62 := by
      unfold pNb pNa
      rw [zCpy_grp (by decide), rUp_grp (by decide)]
    have e63 : pNb m (m 15 0 38) 63 = rUp m 63 0 (m 15 0 8) (m 15 0 38) 63 := by
      unfold pNb pNa
      rw [zCpy_grp (by decide)]
      funext k j
      by_cases hk : k = 0 ∧ j = m 15 0 8
      · rw [hk.1, hk.2, rUp_at, rUp_at]
      · rw [rUp_ne (fun q => hk q.2), rUp_ne (fun q => hk q.2), rUp_ne (fun q => hk q.2)]
    have eo : ∀ G : Nat, G ≠ 61 → G ≠ 62 → G ≠ 63 → pNb m (m 15 0 38) G = m G := by
      intro G g1 g2 g3
      unfold pNb pNa
      rw [zCpy_grp g1, rUp_grp g3, rUp_grp g2]
    refine ⟨_, _, _, h92, h15, ⟨?_, ?_, ?_, ?_⟩, n2, ?_, ?_, ?_, ?_, ?_⟩
    · rw [rUp_at, rUp_at]
    · rw [rUp_at]; omega
    · rw [rUp_ne (by decide), rUp_at]; omega
    · intro k h0 h1
      rw [rUp_at] at h1
      have e9 : rUp (rUp (pNb m (m 15 0 38)) 15 0 9 (m 15 0 38 + m 15 0 9)) 15 0 8 (m 15 0 8 + 1) 15 0 9 = m 15 0 38 + m 15 0 9 := by
        rw [rUp_ne (by decide), rUp_at]
      rw [e9, rUp_grp (show (61 : Nat) ≠ 15 by decide), rUp_grp (show (61 : Nat) ≠ 15 by decide), rUp_grp (show (62 : Nat) ≠ 15 by decide), rUp_grp (show (62 : Nat) ≠ 15 by decide), rUp_grp (show (63 : Nat) ≠ 15 by decide), rUp_grp (show (63 : Nat) ≠ 15 by decide), rUp_grp (show (26 : Nat) ≠ 3 by decide), e62, e63]
      by_cases hk : k = m 15 0 8
      · subst hk
        rw [rUp_at, rUp_at, rUp_at]
        refine qW_move hW (fun j j0 j1 => ?_) n3 (by omega)
        rw [e61, if_pos (by omega), show m 15 0 37 + (m 15 0 9 + j - m 15 0 9) = m 15 0 37 + j by omega]
      · rw [rUp_ne (fun q => hk q.2.2), rUp_ne (fun q => hk q.2.2), rUp_ne (fun q => hk q.2.2)]
        have hw := n4 k h0 (by omega)
        have hw2 := qW_s hw
        refine qW_move hw (fun j j0 j1 => ?_) hw2.2.2.1 (by omega)
        rw [e61, if_neg (by omega)]
    · rw [rUp_at]; omega
    · rw [rUp_at]; omega
    · intro G g1 g2
      rw [rUp_grp g2, rUp_grp g1]
    · intro G g1 g2
      simp only [List.mem_cons, List.not_mem_nil, or_false, not_or] at g1
      rw [rUp_grp g2, rUp_grp g2, eo G g1.1 g1.2.1 g1.2.2]
    · intro j hj
      simp only [List.mem_cons, List.not_mem_nil, or_false, not_or] at hj
      rw [rUp_ne (fun q => hj.1 q.2.2), rUp_ne (fun q => hj.2 q.2.2), eo 15 (by decide) (by decide) (by decide)]
  · rw [if_neg h] at h92 h15
    have h0 : 0 ≤ pIx (fun k => !(pNm m k)) (m 15 0 8) 0 := pIx_le
    exact ⟨_, _, _, h92, h15, ⟨n1, n2, n3, n4⟩, h0, by omega, by omega, fun _ _ _ => rfl, fun _ _ _ => rfl, fun _ _ => rfl⟩
/-- the PREDICATE of a word -/
theorem pred_two {c m : rHp} (hP : qP c m) {w f s n n0 : Int} (hW : qW pSm (m 59 0) n0 w f s) : ∃ p, fn125 [w, n] c = (0, p, c) ∧ fn21 [f, s, n] m = (0, p, m) ∧ (p = -1 ∨ (0 ≤ p ∧ p < m 15 0 14 ∧ m 66 0 p = n)) := by
  obtain ⟨p1, p2, p3, p4⟩ := hP
  have e : pIx (fun j => decide (¬ (c 16 0 j = w ∧ c 17 0 j = n))) (m 15 0 14) 0 = pIx (fun p => !(pPm m f s n p)) (m 15 0 14) 0 := by
    refine pIx_congr _ _ (Nat.le_refl _) (fun j h1 h2 => ?_)
    obtain ⟨q1, q2⟩ := p4 j h1 h2
    have q3 := qW_iff (Or.inl rfl) q1 hW
    rw [q2]
    unfold pPm
    by_cases h3 : m 66 0 j = n
    · by_cases h4 : c 16 0 j = w
      · obtain ⟨h5, h6⟩ := q3.1 h4
        rw [decide_eq_false (fun h => h ⟨h4, h3⟩), decide_eq_true h3, decide_eq_true h5, h6]
        rfl
      · rw [decide_eq_true (show ¬ (c 16 0 j = w ∧ m 66 0 j = n) from fun h => h4 h.1), decide_eq_true h3, Bool.true_and]
        by_cases h5 : m 65 0 j = s
        · cases h6 : pSame (m 64 0) (12 * j) (m 59 0) f s with
          | false => rw [Bool.and_false]; rfl
          | true => exact absurd (q3.2 ⟨h5, h6⟩) h4
        · rw [decide_eq_false h5, Bool.false_and]
          rfl
    · rw [decide_eq_true (show ¬ (c 16 0 j = w ∧ m 66 0 j = n) from fun h => h3 h.2), decide_eq_false h3, Bool.false_and]
      rfl
  have h1 := fn125_eq w n c
  have h2 := fn21_eq f s n m
  unfold pFd at h1 h2
  rw [p1, e] at h1
  refine ⟨_, h1, h2, ?_⟩
  by_cases h : m 15 0 14 ≤ pIx (fun p => !(pPm m f s n p)) (m 15 0 14) 0
  · rw [if_pos h]; exact Or.inl rfl
  · rw [if_neg h]
    have h0 : 0 ≤ pIx (fun p => !(pPm m f s n p)) (m 15 0 14) 0 := pIx_le
    have h3 := pIx_stop (q := fun p => !(pPm m f s n p)) (n := m 15 0 14) (i := 0) (by omega)
    refine Or.inr ⟨h0, by omega, ?_⟩
    generalize pIx (fun p => !(pPm m f s n p)) (m 15 0 14) 0 = r at h3
    simp only [pPm, Bool.not_eq_false', Bool.and_eq_true, decide_eq_true_eq] at h3
    exact h3.1
