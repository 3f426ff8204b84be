/-! ===== a reckoning, by both; what a taken TUPLE gives ===== -/
theorem is_c {c : rHp} {G : Int} (h1 : vOk (vGd c G 0)) (h2 : vOk (vGd c G 1)) : fn231 [G] c = (if vGd c G 0 < 1099511627776 ∧ vGd c G 1 < 1099511627776 then (0, (if -100000000 ≤ rk (c 10 G 4 - 1) (vGd c G 0) (vGd c G 1) ∧ rk (c 10 G 4 - 1) (vGd c G 0) (vGd c G 1) ≤ 100000000 then 1 else 0), rUp c 37 0 (c 10 G 11) (rk (c 10 G 4 - 1) (vGd c G 0) (vGd c G 1))) else (0, 0, c)) := by
  unfold fn231
  simp only [zLet, List.getD_cons_zero, fn224_v, fn172_eq]
  generalize vGd c G 0 = a at *
  generalize vGd c G 1 = b at *
  by_cases b1 : a < 1099511627776
  · rw [if_pos b1, if_pos (Int.le_refl 1)]
    by_cases b2 : b < 1099511627776
    · rw [if_pos b2, if_pos (Int.le_refl 1), if_pos (show a < 1099511627776 ∧ b < 1099511627776 from ⟨b1, b2⟩)]
      have fin : ∀ z : Int, (if z < -100000000 then ((0, 0, rUp c 37 0 (c 10 G 11) z) : zR) else if z > 100000000 then (0, 0, rUp c 37 0 (c 10 G 11) z) else (0, 1, rUp c 37 0 (c 10 G 11) z)) = (0, (if -100000000 ≤ z ∧ z ≤ 100000000 then 1 else 0), rUp c 37 0 (c 10 G 11) z) := by
        intro z
        by_cases z1 : z < -100000000
        · rw [if_pos z1, if_neg (show ¬ (-100000000 ≤ z ∧ z ≤ 100000000) from fun y => by omega)]
        · rw [if_neg z1]
          by_cases z2 : z > 100000000
          · rw [if_pos z2, if_neg (show ¬ (-100000000 ≤ z ∧ z ≤ 100000000) from fun y => by omega)]
          · rw [if_neg z2, if_pos (show -100000000 ≤ z ∧ z ≤ 100000000 from ⟨by omega, by omega⟩)]
      have ra : -2147483648 ≤ a ∧ a ≤ 2147483647 := by unfold vOk at h1; omega
      have rb : -2147483648 ≤ b ∧ b ≤ 2147483647 := by unfold vOk at h2; omega
      unfold rk
      by_cases k6 : c 10 G 4 = 6
      · rw [if_neg (show ¬ c 10 G 4 ≠ 6 from fun y => y k6), if_pos (show c 10 G 4 - 1 = 5 by omega), ladd_s ra rb]
        exact fin (a + b)
      · rw [if_pos (show c 10 G 4 ≠ 6 from k6), if_neg (show ¬ c 10 G 4 - 1 = 5 by omega)]
        by_cases k7 : c 10 G 4 = 7
        · rw [if_neg (show ¬ c 10 G 4 ≠ 7 from fun y => y k7), if_pos (show c 10 G 4 - 1 = 6 by omega), lsub_s ra rb]
          exact fin (a - b)
        · rw [if_pos (show c 10 G 4 ≠ 7 from k7), if_neg (show ¬ c 10 G 4 - 1 = 6 by omega)]
          exact fin (zF2 .lmul a b)
    · rw [if_neg b2, if_neg (show ¬ (1 : Int) ≤ 0 by decide), if_neg (show ¬ (a < 1099511627776 ∧ b < 1099511627776) from fun y => b2 y.2)]
  · rw [if_neg b1, if_neg (show ¬ (1 : Int) ≤ 0 by decide), if_neg (show ¬ (a < 1099511627776 ∧ b < 1099511627776) from fun y => b1 y.1)]
theorem isr_two {c m : rHp} {G q : Int} (hk : c 10 G 4 = m 77 0 q + 1) (h0 : gVal c m G 0 q (4 * q + 1)) (h1 : gVal c m G 1 q (4 * q + 2)) (ht : c 10 G 11 = m 81 0 (4 * q)) (hb : ∀ v, qVr v → qBt (m 79 0 q) v = 1 → c 37 0 v = m 103 0 v) (o1 : vOk (wth m (4 * q + 1))) (o2 : vOk (wth m (4 * q + 2))) :
    ∃ v c_q m_q, fn231 [G] c = (0, v, c_q) ∧ fn65 [q] m = (0, v, m_q) ∧ (v = 0 ∨ v = 1) ∧ (∃ z, c_q = c ∨ c_q = rUp c 37 0 (m 81 0 (4 * q)) z) ∧ (v = 0 → m_q = m) ∧ (v = 1 → ∃ z, (-100000000 ≤ z ∧ z ≤ 100000000) ∧ c_q = rUp c 37 0 (m 81 0 (4 * q)) z ∧ m_q = rUp m 103 0 (m 81 0 (4 * q)) z) := by
  have e0 := val_two h0 hb
  have e1 := val_two h1 hb
  have ec := is_c (c := c) (G := G) (by rw [e0]; exact o1) (by rw [e1]; exact o2)
  have em := is_m o1 o2
  rw [e0, e1, ht, hk, show m 77 0 q + 1 - 1 = m 77 0 q by omega] at ec
  generalize wth m (4 * q + 1) = a at *
  generalize wth m (4 * q + 2) = b at *
  generalize rk (m 77 0 q) a b = z at *
  by_cases n1 : a < 1099511627776 ∧ b < 1099511627776
  · rw [if_pos n1] at ec
    by_cases n2 : -100000000 ≤ z ∧ z ≤ 100000000
    · rw [if_pos n2] at ec
      rw [if_pos (show a < 1099511627776 ∧ b < 1099511627776 ∧ -100000000 ≤ z ∧ z ≤ 100000000 from ⟨n1.1, n1.2, n2.1, n2.2⟩)] at em
      exact ⟨1, _, _, ec, em, Or.inr rfl, ⟨z, Or.inr rfl⟩, fun y => absurd y (by decide), fun _ => ⟨z, n2, rfl, rfl⟩⟩
    · rw [if_neg n2] at ec
      rw [if_neg (show ¬ (a < 1099511627776 ∧ b < 1099511627776 ∧ -100000000 ≤ z ∧ z ≤ 100000000) from fun y => n2 ⟨y.2.2.1, y.2.2.2⟩)] at em
      exact ⟨0, _, _, ec, em, Or.inl rfl, ⟨z, Or.inr rfl⟩, fun _ => rfl, fun y => absurd y (by decide)⟩
  · rw [if_neg n1] at ec
    rw [if_neg (show ¬ (a < 1099511627776 ∧ b < 1099511627776 ∧ -100000000 ≤ z ∧ z ≤ 100000000) from fun y => n1 ⟨y.1, y.2.1⟩)] at em
    exact ⟨0, _, _, ec, em, Or.inl rfl, ⟨0, Or.inl rfl⟩, fun _ => rfl, fun y => absurd y (by decide)⟩
theorem fn63_eq {m : rHp} {q t : Int} (h4 : 0 ≤ m 66 0 (m 78 0 q)) (hs : ∀ i k, 0 ≤ i → i < k → k < m 66 0 (m 78 0 q) → m 80 0 (i + 4 * q) = 1 → m 80 0 (k + 4 * q) = 1 → m 81 0 (i + 4 * q) = m 81 0 (k + 4 * q) → m 99 0 (i + 4 * t) = m 99 0 (k + 4 * t)) :
    ∃ m_q, fn63 [q, t] m = (0, 0, m_q) ∧ (∀ K, K ≠ 103 → m_q K = m K) ∧ (∀ j, j ≠ 0 → m_q 103 j = m 103 j) ∧ (∀ v, (∀ k, 0 ≤ k → k < m 66 0 (m 78 0 q) → m 80 0 (k + 4 * q) = 1 → m 81 0 (k + 4 * q) ≠ v) → m_q 103 0 v = m 103 0 v) ∧ ∀ k, 0 ≤ k → k < m 66 0 (m 78 0 q) → m 80 0 (k + 4 * q) = 1 → m_q 103 0 (m 81 0 (k + 4 * q)) = m 99 0 (k + 4 * t) := by
  have st : ∀ (n k : Int) (g : rHp), en63 m (0, [q, t, k, n], g) = if k ≥ n then .inr (0, 0, g) else if m 80 0 (k + 4 * q) ≠ 1 then .inl (0, [q, t, k + 1, n], g) else .inl (0, [q, t, k + 1, n], rUp g 103 0 (m 81 0 (k + 4 * q)) (m 99 0 (k + 4 * t))) := by
    intro n k g
    unfold en63
    simp only [zLet, List.getD_cons_zero, List.getD_cons_succ, ↓reduceIte]
  have d0 : fn63 [q, t] m = zLoop (en63 m) (0, [q, t, 0, m 66 0 (m 78 0 q)], m) := rfl
  rw [d0]
  generalize m 66 0 (m 78 0 q) = n at *
  have key : ∀ (f : Nat) (k : Int) (g : rHp), (n - k).toNat ≤ f → 0 ≤ k → k ≤ n → (∀ K, K ≠ 103 → g K = m K) → (∀ j, j ≠ 0 → g 103 j = m 103 j) → (∀ v, (∀ i, 0 ≤ i → i < k → m 80 0 (i + 4 * q) = 1 → m 81 0 (i + 4 * q) ≠ v) → g 103 0 v = m 103 0 v) → (∀ i, 0 ≤ i → i < k → m 80 0 (i + 4 * q) = 1 → g 103 0 (m 81 0 (i + 4 * q)) = m 99 0 (i + 4 * t)) →
      ∃ m_q, zLoop (en63 m) (0, [q, t, k, n], g) = (0, 0, m_q) ∧ (∀ K, K ≠ 103 → m_q K = m K) ∧ (∀ j, j ≠ 0 → m_q 103 j = m 103 j) ∧ (∀ v, (∀ k, 0 ≤ k → k < n → m 80 0 (k + 4 * q) = 1 → m 81 0 (k + 4 * q) ≠ v) → m_q 103 0 v = m 103 0 v) ∧ ∀ k, 0 ≤ k → k < n → m 80 0 (k + 4 * q) = 1 → m_q 103 0 (m 81 0 (k + 4 * q)) = m 99 0 (k + 4 * t) := by
    intro f
    induction f with
    | zero =>
      intro k g hf k0 kn g1 g0 g2 g3
      exact ⟨g, zLoop_inr ((st n k g).trans (if_pos (by omega))), g1, g0, fun v hv => g2 v (fun i i0 i1 => hv i i0 (by omega)), fun i i0 i1 => g3 i i0 (by omega)⟩
    | succ f ih =>
      intro k g hf k0 kn g1 g0 g2 g3
      by_cases hk : k ≥ n
      · exact ⟨g, zLoop_inr ((st n k g).trans (if_pos hk)), g1, g0, fun v hv => g2 v (fun i i0 i1 => hv i i0 (by omega)), fun i i0 i1 => g3 i i0 (by omega)⟩
      · have s0 := (st n k g).trans (if_neg hk)
        by_cases h1 : m 80 0 (k + 4 * q) = 1
        · rw [zLoop_inl (s0.trans (if_neg (fun z => z h1)))]
          refine ih (k + 1) _ (by omega) (by omega) (by omega) (fun K hK => by rw [rUp_grp hK]; exact g1 K hK) (fun j hj => by rw [← g0 j hj]; funext x; exact rUp_ne (fun z => hj z.2.1)) (fun v hv => ?_) (fun i i0 i1 i2 => ?_)
          · rw [rUp_ne (fun z => hv k k0 (by omega) h1 z.2.2.symm)]
            exact g2 v (fun i i0 i1 => hv i i0 (by omega))
          · by_cases ei : i = k
            · rw [ei, rUp_at]
            · by_cases ea : m 81 0 (i + 4 * q) = m 81 0 (k + 4 * q)
              · rw [ea, rUp_at]
                exact (hs i k i0 (by omega) (by omega) i2 h1 ea).symm
              · rw [rUp_ne (fun z => ea z.2.2)]
                exact g3 i i0 (by omega) i2
        · rw [zLoop_inl (s0.trans (if_pos h1))]
          refine ih (k + 1) _ (by omega) (by omega) (by omega) g1 g0 (fun v hv => g2 v (fun i i0 i1 => hv i i0 (by omega))) (fun i i0 i1 i2 => ?_)
          by_cases ei : i = k
          · rw [ei] at i2; exact absurd i2 h1
          · exact g3 i i0 (by omega) i2
  exact key _ 0 m (Nat.le_refl _) (Int.le_refl 0) h4 (fun _ _ => rfl) (fun _ _ => rfl) (fun _ _ => rfl) (fun i i0 i1 => by omega)
theorem pMt_same {m : rHp} {q t : Int} (hv : ∀ k, 0 ≤ k → k < m 66 0 (m 78 0 q) → m 80 0 (k + 4 * q) = 1 → qVr (m 81 0 (k + 4 * q))) (h : pMt m q t = true) : ∀ i k, 0 ≤ i → i < k → k < m 66 0 (m 78 0 q) → m 80 0 (i + 4 * q) = 1 → m 80 0 (k + 4 * q) = 1 → m 81 0 (i + 4 * q) = m 81 0 (k + 4 * q) → m 99 0 (i + 4 * t) = m 99 0 (k + 4 * t) :=
  fun i k i0 ik kn a b e => ((pMk_1 (t := t) b (hv k (by omega) kn b)).1 (pMt_all.1 h k (by omega) kn)).2 i i0 ik a e
/-- a VARIABLE of an ATOM is one of eight -/
theorem gAt_vr {c m : rHp} {G q : Int} (hg : gAt c m G q) : ∀ k, 0 ≤ k → k < m 66 0 (m 78 0 q) → m 80 0 (k + 4 * q) = 1 → qVr (m 81 0 (k + 4 * q)) := by
  obtain ⟨g1, g2, g3, g4, g5, g6, g7⟩ := hg
  intro k k0 k1 h
  rw [← g3] at k1
  rcases g5 k k0 k1 with ⟨a1, a2, a3⟩ | ⟨a1, a2, a3, a4, a5⟩ | ⟨a1, a2, a3, a4, a5, a6⟩ | ⟨a1, a2, a3, a4, a5, a6⟩ | ⟨a1, a2, a3⟩
  · rw [a2] at h; exact absurd h (by decide)
  · rw [← a3]; exact a4
  · rw [← a3]; exact a4
  · rw [← a3]; exact a4
  · exact absurd h a3
theorem give_two {c m c1 m1 : rHp} {G q t : Int} (hg : gAt c m G q) (hb : ∀ v, qVr v → qBt (m 79 0 q) v = 1 → c 37 0 v = m 103 0 v) (hm : pMt m q t = true)
    (hc1 : ∀ v, (∀ k, 0 ≤ k → k < c 10 G 5 → c 43 G k = 2 → c 44 G k ≠ v) → c1 37 0 v = c 37 0 v) (hc2 : ∀ k, 0 ≤ k → k < c 10 G 5 → c 43 G k = 2 → c1 37 0 (c 44 G k) = m 99 0 (k + 4 * t))
    (hm1 : ∀ v, (∀ k, 0 ≤ k → k < m 66 0 (m 78 0 q) → m 80 0 (k + 4 * q) = 1 → m 81 0 (k + 4 * q) ≠ v) → m1 103 0 v = m 103 0 v) (hm2 : ∀ k, 0 ≤ k → k < m 66 0 (m 78 0 q) → m 80 0 (k + 4 * q) = 1 → m1 103 0 (m 81 0 (k + 4 * q)) = m 99 0 (k + 4 * t)) :
    (∀ v, qVr v → qBt (m 79 0 q) v = 1 → c1 37 0 v = c 37 0 v ∧ m1 103 0 v = m 103 0 v) ∧ ∀ k, 0 ≤ k → k < c 10 G 5 → m 80 0 (k + 4 * q) = 1 → c1 37 0 (m 81 0 (k + 4 * q)) = m1 103 0 (m 81 0 (k + 4 * q)) ∧ m1 103 0 (m 81 0 (k + 4 * q)) = m 99 0 (k + 4 * t) := by
  have hvr := gAt_vr hg
  obtain ⟨g1, g2, g3, g4, g5, g6, g7⟩ := hg
  have hs := pMt_same hvr hm
  have kn : ∀ v, qVr v → qBt (m 79 0 q) v = 1 → c1 37 0 v = c 37 0 v ∧ m1 103 0 v = m 103 0 v := by
    intro v v0 v1
    refine ⟨hc1 v (fun k k0 k1 k2 k3 => ?_), ?_⟩
    · rcases g5 k k0 k1 with ⟨b1, _⟩ | ⟨b1, _⟩ | ⟨b1, _⟩ | ⟨b1, b2, b3, b4, b5, b6⟩ | ⟨b1, _⟩
      · rw [b1] at k2; exact absurd k2 (by decide)
      · rw [b1] at k2; exact absurd k2 (by decide)
      · rw [b1] at k2; exact absurd k2 (by decide)
      · rw [k3] at b5; exact b5 v1
      · rw [b1] at k2; exact absurd k2 (by decide)
    · by_cases ex : ∃ k, 0 ≤ k ∧ k < m 66 0 (m 78 0 q) ∧ m 80 0 (k + 4 * q) = 1 ∧ m 81 0 (k + 4 * q) = v
      · obtain ⟨k, k0, k1, k2, k3⟩ := ex
        have p := ((pMk_1 (t := t) k2 (hvr k k0 k1 k2)).1 (pMt_all.1 hm k k0 k1)).1
        rw [k3] at p
        rw [← k3, hm2 k k0 k1 k2, k3]
        exact (p v1).symm
      · exact hm1 v (fun k k0 k1 k2 k3 => ex ⟨k, k0, k1, k2, k3⟩)
  refine ⟨kn, fun k k0 k1 k2 => ?_⟩
  have k1_q : k < m 66 0 (m 78 0 q) := by rw [← g3]; exact k1
  refine ⟨?_, hm2 k k0 k1_q k2⟩
  rcases g5 k k0 k1 with ⟨a1, a2, a3⟩ | ⟨a1, a2, a3, a4, a5⟩ | ⟨a1, a2, a3, a4, a5, i, i0, i1, i2, i3⟩ | ⟨a1, a2, a3, a4, a5, a6⟩ | ⟨a1, a2, a3⟩
  · rw [a2] at k2; exact absurd k2 (by decide)
  · rw [← a3, (kn _ a4 a5).1, (kn _ a4 a5).2]
    exact hb _ a4 a5
  · have f0 : m 80 0 (i + 4 * q) = 1 ∧ m 81 0 (i + 4 * q) = c 44 G k := by
      rcases g5 i i0 (by omega) with ⟨b1, _⟩ | ⟨b1, _⟩ | ⟨b1, _⟩ | ⟨b1, b2, b3, b4, b5, b6⟩ | ⟨b1, _⟩
      · rw [b1] at i2; exact absurd i2 (by decide)
      · rw [b1] at i2; exact absurd i2 (by decide)
      · rw [b1] at i2; exact absurd i2 (by decide)
      · exact ⟨b2, by rw [← b3, i3]⟩
      · rw [b1] at i2; exact absurd i2 (by decide)
    rw [hm2 k k0 k1_q k2, ← a3, ← i3, hc2 i i0 (by omega) i2]
    exact hs i k i0 i1 k1_q f0.1 k2 (by rw [f0.2, a3])
  · rw [hm2 k k0 k1_q k2, ← a3]
    exact hc2 k k0 k1 a1
  · exact absurd k2 a3
