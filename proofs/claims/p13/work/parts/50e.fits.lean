/-! ===== whether a TUPLE fits, by both ===== -/
theorem fn224_eq {G k : Int} {g : rHp} : fn224 [G, k] g = (0, (if g 43 G k ≠ 1 then g 46 G k else g 37 0 (g 44 G k)), g) := by
  unfold fn224
  simp only [zLet, List.getD_cons_zero, List.getD_cons_succ]
  split <;> rfl
/-- ARG k of an ATOM, as both keep it -/
noncomputable def gArg (c m : rHp) (G q k : Int) : Prop :=
  (c 43 G k = 0 ∧ m 80 0 (k + 4 * q) = 0 ∧ c 46 G k = m 81 0 (k + 4 * q)) ∨
  (c 43 G k = 1 ∧ m 80 0 (k + 4 * q) = 1 ∧ c 44 G k = m 81 0 (k + 4 * q) ∧ qVr (c 44 G k) ∧ qBt (m 79 0 q) (c 44 G k) = 1) ∨
  (c 43 G k = 1 ∧ m 80 0 (k + 4 * q) = 1 ∧ c 44 G k = m 81 0 (k + 4 * q) ∧ qVr (c 44 G k) ∧ qBt (m 79 0 q) (c 44 G k) ≠ 1 ∧ ∃ i, 0 ≤ i ∧ i < k ∧ c 43 G i = 2 ∧ c 44 G i = c 44 G k) ∨
  (c 43 G k = 2 ∧ m 80 0 (k + 4 * q) = 1 ∧ c 44 G k = m 81 0 (k + 4 * q) ∧ qVr (c 44 G k) ∧ qBt (m 79 0 q) (c 44 G k) ≠ 1 ∧ ∀ i, 0 ≤ i → i < k → m 80 0 (i + 4 * q) = 1 → m 81 0 (i + 4 * q) ≠ c 44 G k) ∨
  (c 43 G k = 3 ∧ m 80 0 (k + 4 * q) ≠ 0 ∧ m 80 0 (k + 4 * q) ≠ 1)
theorem pMi_all {m : rHp} {q t k : Int} : k ≤ pIx (pMi m q t k) k 0 ↔ ∀ i, 0 ≤ i → i < k → m 80 0 (i + 4 * q) = 1 → m 81 0 (i + 4 * q) = m 81 0 (k + 4 * q) → m 99 0 (i + 4 * t) = m 99 0 (k + 4 * t) := by
  rw [pIx_all]
  constructor
  · intro h i i0 i1 h1 h2
    have := h i i0 i1
    unfold pMi at this
    rw [decide_eq_true h1, decide_eq_true h2] at this
    simpa using this
  · intro h i i0 i1
    unfold pMi
    by_cases h1 : m 80 0 (i + 4 * q) = 1
    · by_cases h2 : m 81 0 (i + 4 * q) = m 81 0 (k + 4 * q)
      · rw [decide_eq_true (h i i0 i1 h1 h2), Bool.or_true]
      · rw [decide_eq_false h2, Bool.and_false]; rfl
    · rw [decide_eq_false h1, Bool.false_and]; rfl
theorem pMk_1 {m : rHp} {q t k : Int} (h : m 80 0 (k + 4 * q) = 1) (hv : qVr (m 81 0 (k + 4 * q))) : pMk m q t k = true ↔ (qBt (m 79 0 q) (m 81 0 (k + 4 * q)) = 1 → m 103 0 (m 81 0 (k + 4 * q)) = m 99 0 (k + 4 * t)) ∧ ∀ i, 0 ≤ i → i < k → m 80 0 (i + 4 * q) = 1 → m 81 0 (i + 4 * q) = m 81 0 (k + 4 * q) → m 99 0 (i + 4 * t) = m 99 0 (k + 4 * t) := by
  unfold pMk
  rw [if_neg (by rw [h]; decide), if_pos h, l2i_slot hv, Bool.and_eq_true, Bool.or_eq_true, decide_eq_true_eq, decide_eq_true_eq, decide_eq_true_eq, pMi_all]
  constructor
  · rintro ⟨a, b⟩
    exact ⟨fun z => a.resolve_left (fun y => y z), b⟩
  · rintro ⟨a, b⟩
    refine ⟨?_, b⟩
    by_cases z : qBt (m 79 0 q) (m 81 0 (k + 4 * q)) = 1
    · exact Or.inr (a z)
    · exact Or.inl z
theorem fits_two {c m : rHp} {G q t : Int} (hp : c 10 G 8 = m 78 0 q) (hsz : c 10 G 5 = m 66 0 (m 78 0 q)) (h4 : 0 ≤ c 10 G 5 ∧ c 10 G 5 ≤ 4) (ha : ∀ k, 0 ≤ k → k < c 10 G 5 → gArg c m G q k) (hb : ∀ v, qVr v → qBt (m 79 0 q) v = 1 → c 37 0 v = m 103 0 v) (hv : ∀ k, 0 ≤ k → k < 4 → c 27 0 (k + 4 * t) = m 99 0 (k + 4 * t)) (hpt : c 28 0 t = m 93 0 t) :
    ∃ c_q, fn225 [G, t] c = (0, (if (decide (m 93 0 t = m 78 0 q) && pMt m q t) = true then 1 else 0), c_q) ∧ (∀ K, K ≠ 37 → c_q K = c K) ∧ (∀ j, j ≠ 0 → c_q 37 j = c 37 j) ∧ (∀ v, (∀ k, 0 ≤ k → k < c 10 G 5 → c 43 G k = 2 → c 44 G k ≠ v) → c_q 37 0 v = c 37 0 v) ∧ ((decide (m 93 0 t = m 78 0 q) && pMt m q t) = true → ∀ k, 0 ≤ k → k < c 10 G 5 → c 43 G k = 2 → c_q 37 0 (c 44 G k) = m 99 0 (k + 4 * t)) := by
  have st : ∀ k (g : rHp), (∀ K, K ≠ 37 → g K = c K) → en225 c (0, [G, t, k], g) = if k ≥ c 10 G 5 then .inr (0, 1, g) else if c 43 G k ≠ 2 then (if c 43 G k = 3 then .inl (0, [G, t, k + 1], g) else (if (if c 43 G k ≠ 1 then c 46 G k else g 37 0 (c 44 G k)) = c 27 0 (k + 4 * t) then .inl (0, [G, t, k + 1], g) else .inr (0, 0, g))) else .inl (0, [G, t, k + 1], rUp g 37 0 (c 44 G k) (c 27 0 (k + 4 * t))) := by
    intro k g hg
    unfold en225
    simp only [zLet, List.getD_cons_zero, List.getD_cons_succ, ↓reduceIte, fn224_eq]
    rw [hg 43 (by decide), hg 46 (by decide), hg 44 (by decide)]
  have key : ∀ (f : Nat) (k : Int) (g : rHp), (c 10 G 5 - k).toNat ≤ f → 0 ≤ k → k ≤ c 10 G 5 → (∀ K, K ≠ 37 → g K = c K) → (∀ j, j ≠ 0 → g 37 j = c 37 j) → (∀ v, (∀ i, 0 ≤ i → i < k → c 43 G i = 2 → c 44 G i ≠ v) → g 37 0 v = c 37 0 v) → (∀ i, 0 ≤ i → i < k → c 43 G i = 2 → g 37 0 (c 44 G i) = m 99 0 (i + 4 * t)) → (∀ i, 0 ≤ i → i < k → pMk m q t i = true) →
      ∃ c_q, zLoop (en225 c) (0, [G, t, k], g) = (0, (if decide (c 10 G 5 ≤ pIx (pMk m q t) (c 10 G 5) k) = true then 1 else 0), c_q) ∧ (∀ K, K ≠ 37 → c_q K = c K) ∧ (∀ j, j ≠ 0 → c_q 37 j = c 37 j) ∧ (∀ v, (∀ k, 0 ≤ k → k < c 10 G 5 → c 43 G k = 2 → c 44 G k ≠ v) → c_q 37 0 v = c 37 0 v) ∧ (c 10 G 5 ≤ pIx (pMk m q t) (c 10 G 5) k → ∀ k, 0 ≤ k → k < c 10 G 5 → c 43 G k = 2 → c_q 37 0 (c 44 G k) = m 99 0 (k + 4 * t)) := by
    intro f
    induction f with
    | zero =>
      intro k g hf k0 k1 g1 g0 g2 g3 g4
      have e : k = c 10 G 5 := by omega
      refine ⟨g, ?_, g1, g0, fun v hv => g2 v (fun i i0 i1 => hv i i0 (by omega)), fun _ i i0 i1 => g3 i i0 (by omega)⟩
      rw [zLoop_inr ((st k g g1).trans (if_pos (by omega))), pIx_no (fun z => by omega), decide_eq_true (show c 10 G 5 ≤ k by omega), if_pos rfl]
    | succ f ih =>
      intro k g hf k0 k1 g1 g0 g2 g3 g4
      by_cases hk : k ≥ c 10 G 5
      · refine ⟨g, ?_, g1, g0, fun v hv => g2 v (fun i i0 i1 => hv i i0 (by omega)), fun _ i i0 i1 => g3 i i0 (by omega)⟩
        rw [zLoop_inr ((st k g g1).trans (if_pos hk)), pIx_no (fun z => by omega), decide_eq_true (show c 10 G 5 ≤ k by omega), if_pos rfl]
      · have kn : k < c 10 G 5 := by omega
        have vk := hv k k0 (by have := h4.2; omega)
        -- what happens where the ARG asks what the TUPLE has, and where not, with the bound cells as they are
        have yes : en225 c (0, [G, t, k], g) = .inl (0, [G, t, k + 1], g) → c 43 G k ≠ 2 → pMk m q t k = true → ∃ c_q, zLoop (en225 c) (0, [G, t, k], g) = (0, (if decide (c 10 G 5 ≤ pIx (pMk m q t) (c 10 G 5) k) = true then 1 else 0), c_q) ∧ (∀ K, K ≠ 37 → c_q K = c K) ∧ (∀ j, j ≠ 0 → c_q 37 j = c 37 j) ∧ (∀ v, (∀ k, 0 ≤ k → k < c 10 G 5 → c 43 G k = 2 → c 44 G k ≠ v) → c_q 37 0 v = c 37 0 v) ∧ (c 10 G 5 ≤ pIx (pMk m q t) (c 10 G 5) k → ∀ k, 0 ≤ k → k < c 10 G 5 → c 43 G k = 2 → c_q 37 0 (c 44 G k) = m 99 0 (k + 4 * t)) := by
          intro e1 e2 e3
          rw [zLoop_inl e1, pIx_go kn e3]
          refine ih (k + 1) g (by omega) (by omega) (by omega) g1 g0 (fun v hv => g2 v (fun i i0 i1 => hv i i0 (by omega))) (fun i i0 i1 i2 => ?_) (fun i i0 i1 => ?_)
          · by_cases ei : i = k
            · rw [ei] at i2; exact absurd i2 e2
            · exact g3 i i0 (by omega) i2
          · by_cases ei : i = k
            · rw [ei]; exact e3
            · exact g4 i i0 (by omega)
        have no : en225 c (0, [G, t, k], g) = .inr (0, 0, g) → pMk m q t k ≠ true → ∃ c_q, zLoop (en225 c) (0, [G, t, k], g) = (0, (if decide (c 10 G 5 ≤ pIx (pMk m q t) (c 10 G 5) k) = true then 1 else 0), c_q) ∧ (∀ K, K ≠ 37 → c_q K = c K) ∧ (∀ j, j ≠ 0 → c_q 37 j = c 37 j) ∧ (∀ v, (∀ k, 0 ≤ k → k < c 10 G 5 → c 43 G k = 2 → c 44 G k ≠ v) → c_q 37 0 v = c 37 0 v) ∧ (c 10 G 5 ≤ pIx (pMk m q t) (c 10 G 5) k → ∀ k, 0 ≤ k → k < c 10 G 5 → c 43 G k = 2 → c_q 37 0 (c 44 G k) = m 99 0 (k + 4 * t)) := by
          intro e1 e3
          have ep : pIx (pMk m q t) (c 10 G 5) k = k := pIx_no (fun z => e3 z.2)
          refine ⟨g, ?_, g1, g0, fun v hv => g2 v (fun i i0 i1 => hv i i0 (by omega)), fun z => by rw [ep] at z; omega⟩
          rw [zLoop_inr e1, ep, decide_eq_false (show ¬ c 10 G 5 ≤ k by omega), if_neg (by decide)]
        have s0 := (st k g g1).trans (if_neg hk)
        rcases ha k k0 kn with ⟨a1, a2, a3⟩ | ⟨a1, a2, a3, a4, a5⟩ | ⟨a1, a2, a3, a4, a5, i0, i1, i2, i3, i4⟩ | ⟨a1, a2, a3, a4, a5, a6⟩ | ⟨a1, a2, a3⟩
        · have s1 := s0.trans ((if_pos (by rw [a1]; decide)).trans (if_neg (by rw [a1]; decide)))
          rw [if_pos (show c 43 G k ≠ 1 by rw [a1]; decide), a3, vk] at s1
          have pk : pMk m q t k = decide (m 81 0 (k + 4 * q) = m 99 0 (k + 4 * t)) := by unfold pMk; rw [if_pos a2]
          by_cases e : m 81 0 (k + 4 * q) = m 99 0 (k + 4 * t)
          · exact yes (s1.trans (if_pos e)) (by rw [a1]; decide) (by rw [pk]; exact decide_eq_true e)
          · exact no (s1.trans (if_neg e)) (by rw [pk, decide_eq_false e]; decide)
        · have s1 := s0.trans ((if_pos (by rw [a1]; decide)).trans (if_neg (by rw [a1]; decide)))
          have gb : g 37 0 (c 44 G k) = m 103 0 (c 44 G k) := by
            rw [g2 (c 44 G k) (fun i i0 i1 i2 i3 => ?_), hb _ a4 a5]
            rcases ha i i0 (by omega) with ⟨b1, _⟩ | ⟨b1, _⟩ | ⟨b1, _⟩ | ⟨b1, b2, b3, b4, b5, b6⟩ | ⟨b1, _⟩
            · rw [b1] at i2; exact absurd i2 (by decide)
            · rw [b1] at i2; exact absurd i2 (by decide)
            · rw [b1] at i2; exact absurd i2 (by decide)
            · rw [i3] at b5; exact b5 a5
            · rw [b1] at i2; exact absurd i2 (by decide)
          rw [if_neg (show ¬ c 43 G k ≠ 1 from fun z => z a1), gb, vk] at s1
          have pk := pMk_1 (t := t) a2 (by rw [← a3]; exact a4)
          rw [← a3] at pk
          by_cases e : m 103 0 (c 44 G k) = m 99 0 (k + 4 * t)
          · refine yes (s1.trans (if_pos e)) (by rw [a1]; decide) (pk.2 ⟨fun _ => e, fun i i0 i1 i2 i3 => ?_⟩)
            have := (pMk_1 (t := t) i2 (by rw [i3]; exact a4)).1 (g4 i i0 i1)
            rw [i3] at this
            rw [← this.1 a5, e]
          · exact no (s1.trans (if_neg e)) (fun z => e ((pk.1 z).1 a5))
        · have s1 := s0.trans ((if_pos (by rw [a1]; decide)).trans (if_neg (by rw [a1]; decide)))
          have gb : g 37 0 (c 44 G k) = m 99 0 (i0 + 4 * t) := by rw [← i4]; exact g3 i0 i1 i2 i3
          rw [if_neg (show ¬ c 43 G k ≠ 1 from fun z => z a1), gb, vk] at s1
          have pk := pMk_1 (t := t) a2 (by rw [← a3]; exact a4)
          rw [← a3] at pk
          -- the ARG i0 is the same VARIABLE
          have f0 : m 80 0 (i0 + 4 * q) = 1 ∧ m 81 0 (i0 + 4 * q) = c 44 G k := by
            rcases ha i0 i1 (by omega) with ⟨b1, _⟩ | ⟨b1, _⟩ | ⟨b1, _⟩ | ⟨b1, b2, b3, b4, b5, b6⟩ | ⟨b1, _⟩
            · rw [b1] at i3; exact absurd i3 (by decide)
            · rw [b1] at i3; exact absurd i3 (by decide)
            · rw [b1] at i3; exact absurd i3 (by decide)
            · exact ⟨b2, by rw [← b3, i4]⟩
            · rw [b1] at i3; exact absurd i3 (by decide)
          by_cases e : m 99 0 (i0 + 4 * t) = m 99 0 (k + 4 * t)
          · refine yes (s1.trans (if_pos e)) (by rw [a1]; decide) (pk.2 ⟨fun z => absurd z a5, fun i j0 j1 j2 j3 => ?_⟩)
            rw [← e]
            by_cases w : i = i0
            · rw [w]
            · by_cases w2 : i0 < i
              · have := ((pMk_1 (t := t) j2 (by rw [j3]; exact a4)).1 (g4 i j0 j1)).2 i0 i1 w2 f0.1 (by rw [f0.2, j3])
                exact this.symm
              · have := ((pMk_1 (t := t) f0.1 (by rw [f0.2]; exact a4)).1 (g4 i0 i1 i2)).2 i j0 (by omega) j2 (by rw [j3, f0.2])
                exact this
          · exact no (s1.trans (if_neg e)) (fun z => e ((pk.1 z).2 i0 i1 i2 f0.1 f0.2))
        · have s1 := s0.trans (if_neg (fun z => z a1))
          rw [vk] at s1
          have pk := pMk_1 (t := t) a2 (by rw [← a3]; exact a4)
          rw [← a3] at pk
          have e3 : pMk m q t k = true := pk.2 ⟨fun z => absurd z a5, fun i i0 i1 i2 i3 => absurd i3 (a6 i i0 i1 i2)⟩
          rw [zLoop_inl s1, pIx_go kn e3]
          refine ih (k + 1) _ (by omega) (by omega) (by omega) (fun K hK => by rw [rUp_grp hK]; exact g1 K hK) (fun j hj => by rw [← g0 j hj]; funext x; exact rUp_ne (fun z => hj z.2.1)) (fun v hv => ?_) (fun i i0 i1 i2 => ?_) (fun i i0 i1 => ?_)
          · rw [rUp_ne (fun z => hv k k0 (by omega) a1 z.2.2.symm)]
            exact g2 v (fun i i0 i1 => hv i i0 (by omega))
          · by_cases ei : i = k
            · rw [ei, rUp_at]
            · have ne : c 44 G i ≠ c 44 G k := by
                rcases ha i i0 (by omega) with ⟨b1, _⟩ | ⟨b1, _⟩ | ⟨b1, _⟩ | ⟨b1, b2, b3, b4, b5, b6⟩ | ⟨b1, _⟩
                · rw [b1] at i2; exact absurd i2 (by decide)
                · rw [b1] at i2; exact absurd i2 (by decide)
                · rw [b1] at i2; exact absurd i2 (by decide)
                · rw [b3]; exact a6 i i0 (by omega) b2
                · rw [b1] at i2; exact absurd i2 (by decide)
              rw [rUp_ne (fun z => ne z.2.2)]
              exact g3 i i0 (by omega) i2
          · by_cases ei : i = k
            · rw [ei]; exact e3
            · exact g4 i i0 (by omega)
        · have s1 := s0.trans ((if_pos (by rw [a1]; decide)).trans (if_pos a1))
          exact yes s1 (by rw [a1]; decide) (by unfold pMk; rw [if_neg a2, if_neg a3])
  unfold fn225 dn225
  simp only [zLet, List.getD_cons_zero, List.getD_cons_succ]
  rw [hpt, hp]
  by_cases e : m 93 0 t = m 78 0 q
  · rw [if_pos e, decide_eq_true e, Bool.true_and]
    obtain ⟨c_q, k1, k2, k2_q, k3, k4⟩ := key _ 0 c (Nat.le_refl _) (Int.le_refl 0) h4.1 (fun _ _ => rfl) (fun _ _ => rfl) (fun _ _ => rfl) (fun i i0 i1 => by omega) (fun i i0 i1 => by omega)
    unfold pMt
    rw [← hsz]
    exact ⟨c_q, k1, k2, k2_q, k3, fun z => k4 (of_decide_eq_true z)⟩
  · rw [if_neg e, decide_eq_false e, Bool.false_and]
    exact ⟨c, rfl, fun _ _ => rfl, fun _ _ => rfl, fun _ _ => rfl, fun z => absurd z (by decide)⟩
