/-! ===== ROUNDS of a LAYER, by both ===== -/
theorem fn71_eq {r : Int} {m : rHp} (h : 0 ≤ m 73 0 r) : fn71 [r] m = (0, cn (fun h => decide (m 77 0 (h + 8 * r) = 0)) (m 73 0 r), m) := by
  have st : ∀ x v, en71 m (0, [r, x, v], m) = if x ≥ m 73 0 r then .inr (0, v, m) else if m 77 0 (x + 8 * r) ≠ 0 then .inl (0, [r, x + 1, v], m) else .inl (0, [r, x + 1, v + 1], m) := by
    intro x v
    unfold en71
    simp only [zLet, List.getD_cons_zero, List.getD_cons_succ, ↓reduceIte]
  have key : ∀ (f : Nat) (x : Int), (m 73 0 r - x).toNat ≤ f → 0 ≤ x → x ≤ m 73 0 r → zLoop (en71 m) (0, [r, x, cn (fun h => decide (m 77 0 (h + 8 * r) = 0)) x], m) = (0, cn (fun h => decide (m 77 0 (h + 8 * r) = 0)) (m 73 0 r), m) := by
    intro f
    induction f with
    | zero =>
      intro x hf x0 x1
      rw [show x = m 73 0 r by omega]
      exact zLoop_inr ((st _ _).trans (if_pos (Int.le_refl _)))
    | succ f ih =>
      intro x hf x0 x1
      by_cases e : x ≥ m 73 0 r
      · rw [show x = m 73 0 r by omega]
        exact zLoop_inr ((st _ _).trans (if_pos (Int.le_refl _)))
      · have cs := cn_s (p := fun h => decide (m 77 0 (h + 8 * r) = 0)) x0
        have i := ih (x + 1) (by omega) (by omega) (by omega)
        by_cases b : m 77 0 (x + 8 * r) = 0
        · rw [if_pos (show (fun h => decide (m 77 0 (h + 8 * r) = 0)) x = true from decide_eq_true b)] at cs
          rw [cs] at i
          exact (zLoop_inl ((st _ _).trans ((if_neg e).trans (if_neg (fun z => z b))))).trans i
        · rw [if_neg (show ¬ (fun h => decide (m 77 0 (h + 8 * r) = 0)) x = true from fun z => b (of_decide_eq_true z)), Int.add_zero] at cs
          rw [cs] at i
          exact (zLoop_inl ((st _ _).trans ((if_neg e).trans (if_pos b)))).trans i
  exact key _ 0 (Nat.le_refl _) (Int.le_refl 0) h
/-- cells of 6 0 and 15 0 that hang on nothing else -/
theorem yR_set {c m c_q m_q : rHp} (h : yR c m) (hc : ∀ K : Nat, K ≠ 6 → c_q K = c K) (c0 : c_q 6 0 0 = c 6 0 0) (hm : ∀ K : Nat, K ≠ 15 → m_q K = m K) (h15 : ∀ j, j = 13 ∨ j = 17 ∨ j = 32 ∨ j = 61 ∨ j = 71 ∨ j = 72 ∨ j = 77 → m_q 15 0 j = m 15 0 j) : yR c_q m_q ∧ yQ c m c_q m_q := by
  have s9m : s9 m m_q := ⟨fun K a b => hm K (by omega), h15 13 (by decide)⟩
  have s5c : s5 c c_q := ⟨hc 9 (by decide), hc 10 (by decide), hc 43 (by decide), hc 44 (by decide), hc 46 (by decide)⟩
  refine ⟨⟨tT_fr h.tt (fun K z => hc K (by omega)) (fun K z => hm K (by omega)) (h15 71 (by decide)) (h15 13 (by decide)), tX_fr h.tx (fun K z => hc K (by omega)) (fun K z => hm K (by omega)) (h15 71 (by decide)) (h15 13 (by decide)), ?_, lSt_fr h.st (fun K z => hc K (by omega)) (by rw [hc 1 (by decide)]) (fun K z => hm K (by omega)) (h15 17 (by decide)) (h15 13 (by decide)), ?_, fun r r0 r1 => ?_, ?_, ?_, ?_⟩, ⟨s5c, hc 1 (by decide), hc 40 (by decide), fun K z => hc K (by omega), ⟨s9m, hm 92 (by decide)⟩, fun j z => h15 j (by omega)⟩⟩
  · rw [h15 71 (by decide), hm 99 (by decide)]; exact h.vt
  · rw [hc 1 (by decide), h15 32 (by decide)]; exact h.rn
  · rw [h15 32 (by decide)] at r1
    rw [hc 40 (by decide)]
    exact gRu_re (h.ru r r0 r1) s5c s9m
  · rw [h15 77 (by decide)]; exact h.bad
  · rw [c0, h15 72 (by decide)]; exact h.stp
  · rw [h15 72 (by decide)]; exact h.st0
/-- the end of a ROUND, by the reference -/
noncomputable def rXe (s : Int) (m : rHp) : rHp := rUp (rUp m 15 0 82 s) 15 0 83 (m 15 0 71)
theorem en76_2 {l : Int} {m0 m : rHp} (h : m 15 0 77 ≠ 0) : zLoop (en76 m0) (2, [l], m) = (0, 0, m) := by
  refine zLoop_inr ?_
  unfold en76
  simp only [zLet, List.getD_cons_zero, List.getD_cons_succ, ↓reduceIte, show ¬ (2 : Nat) = 0 by decide, show ¬ (2 : Nat) = 1 by decide, show ¬ (3 : Nat) = 0 by decide, show ¬ (3 : Nat) = 1 by decide, show ¬ (4 : Nat) = 0 by decide, show ¬ (4 : Nat) = 1 by decide]
  rw [if_pos h]
theorem en76_3e {l r s : Int} {m0 m : rHp} (h : r ≥ m0 15 0 32 ∨ m 15 0 77 ≠ 0) : zLoop (en76 m0) (3, [l, r, s], m) = if m 15 0 71 ≤ s then (0, 0, rXe s m) else zLoop (en76 m0) (2, [l], rXe s m) := by
  rw [zLoop_eq]
  unfold en76 rXe
  simp only [zLet, List.getD_cons_zero, List.getD_cons_succ, ↓reduceIte, show ¬ (2 : Nat) = 0 by decide, show ¬ (2 : Nat) = 1 by decide, show ¬ (3 : Nat) = 0 by decide, show ¬ (3 : Nat) = 1 by decide, show ¬ (4 : Nat) = 0 by decide, show ¬ (4 : Nat) = 1 by decide, show ¬ (3 : Nat) = 2 by decide]
  by_cases a : r ≥ m0 15 0 32
  · rw [if_pos a]
    by_cases b : m 15 0 71 ≤ s
    · rw [if_pos b, if_pos b]; rfl
    · rw [if_neg b, if_neg b]; rfl
  · rw [if_neg a, if_pos (h.resolve_left a)]
    by_cases b : m 15 0 71 ≤ s
    · rw [if_pos b, if_pos b]; rfl
    · rw [if_neg b, if_neg b]; rfl
theorem en76_3g {l r s : Int} {m0 m : rHp} (h : ¬ r ≥ m0 15 0 32) (hb : m 15 0 77 = 0) (h73 : 0 ≤ m 73 0 r) : en76 m0 (3, [l, r, s], m) = if m0 71 0 r ≠ 0 then .inl (3, [l, r + 1, s], m) else if m0 92 0 (m0 69 0 r) ≠ l then .inl (3, [l, r + 1, s], m) else if m 15 0 76 = 1 then .inl (3, [l, r + 1, s], (fn72 [r] m).2.2) else if cn (fun h => decide (m 77 0 (h + 8 * r) = 0)) (m 73 0 r) ≤ 0 then .inl (3, [l, r + 1, s], m) else .inl (3, [l, r + 1, s], (fn72 [r] m).2.2) := by
  unfold en76
  simp only [zLet, List.getD_cons_zero, List.getD_cons_succ, ↓reduceIte, show ¬ (2 : Nat) = 0 by decide, show ¬ (2 : Nat) = 1 by decide, show ¬ (3 : Nat) = 0 by decide, show ¬ (3 : Nat) = 1 by decide, show ¬ (4 : Nat) = 0 by decide, show ¬ (4 : Nat) = 1 by decide, show ¬ (3 : Nat) = 2 by decide, fn71_eq h73]
  rw [if_neg h, if_neg (fun z => z hb)]
theorem en264_go {l r p : Int} {c0 c : rHp} (h : ¬ r ≥ c0 1 0 10) : en264 c0 (1, [l, r, p], c) = (fun (A : zSt) => if p = 1 then A else if c0 9 (c0 40 0 r) 3 ≤ 0 then .inl (1, [l, r + 1, p], c) else A) (if c0 10 (9 * c0 40 0 r) 12 ≠ 0 then .inl (1, [l, r + 1, p], c) else if c 18 0 (c 10 (9 * c0 40 0 r) 8) ≠ l then .inl (1, [l, r + 1, p], c) else (if (fn261 [] (fn238 [p, c0 40 0 r, r] c).2.2).1 = 0 then .inl (1, [l, r + 1, p], (fn261 [] (fn238 [p, c0 40 0 r, r] c).2.2).2.2) else if (fn261 [] (fn238 [p, c0 40 0 r, r] c).2.2).1 = 1 then .inr (1, 0, (fn261 [] (fn238 [p, c0 40 0 r, r] c).2.2).2.2) else .inr (4, 0, (fn261 [] (fn238 [p, c0 40 0 r, r] c).2.2).2.2))) := by
  have one : ∀ (v : Int) (A B : zSt), v = (if c 18 0 (c 10 (9 * c0 40 0 r) 8) ≠ l then 0 else 1) → (if 1 ≤ v then A else B) = if c 18 0 (c 10 (9 * c0 40 0 r) 8) ≠ l then B else A := by
    intro v A B hv
    by_cases d : c 18 0 (c 10 (9 * c0 40 0 r) 8) ≠ l
    · rw [if_pos d] at hv
      rw [if_pos d, if_neg (show ¬ 1 ≤ v by omega)]
    · rw [if_neg d] at hv
      rw [if_neg d, if_pos (show 1 ≤ v by omega)]
  unfold en264 fn131
  simp only [zLet, List.getD_cons_zero, List.getD_cons_succ, ↓reduceIte, Nat.one_ne_zero, fn234_eq]
  rw [if_neg h, one _ _ _ rfl]
theorem en264_e {l r p : Int} {c0 c : rHp} (h : r ≥ c0 1 0 10) : en264 c0 (1, [l, r, p], c) = .inl (0, [l, (if c 4 0 7 ≤ c 6 0 11 then 0 else 1), p], rUp c 6 0 12 (c 6 0 11)) := by
  unfold en264
  simp only [zLet, List.getD_cons_zero, List.getD_cons_succ, ↓reduceIte, Nat.one_ne_zero]
  rw [if_pos h]
  by_cases b : c 4 0 7 ≤ c 6 0 11
  · rw [if_pos b, if_pos b]
  · rw [if_neg b, if_neg b]
theorem round_lp {l p L : Int} {c0 m0 cS mS : rHp} (hQ0 : yQ c0 m0 cS mS) (hn : c0 1 0 10 = m0 15 0 32) (hp : p = mS 15 0 76) (hask : (mS 15 0 84 ≠ 0 ↔ 1 < p) ∧ (1 < p → cS 6 0 12 = mS 15 0 82 ∧ mS 15 0 83 = L ∧ 0 ≤ cS 6 0 12)) (L0 : 0 ≤ L) : ∀ (n : Nat) (r : Int) (c m : rHp), (m0 15 0 32 - r).toNat ≤ n → 0 ≤ r → r ≤ m0 15 0 32 → yR c m → yK cS mS c m → c 6 0 11 = L → m 15 0 81 = L → m 15 0 84 = mS 15 0 84 → L ≤ m 15 0 71 →
    ∃ o c_q m_q, ((o = 0 ∧ zLoop (en264 c0) (1, [l, r, p], c) = zLoop (en264 c0) (0, [l, (if c_q 4 0 7 ≤ L then 0 else 1), p], rUp c_q 6 0 12 L) ∧ zLoop (en76 m0) (3, [l, r, L], m) = (if m_q 15 0 71 ≤ L then (0, 0, rXe L m_q) else zLoop (en76 m0) (2, [l], rXe L m_q)) ∧ yR c_q m_q ∧ yK cS mS c_q m_q ∧ L ≤ m_q 15 0 71) ∨ (zLoop (en264 c0) (1, [l, r, p], c) = (o, 0, c_q) ∧ zLoop (en76 m0) (3, [l, r, L], m) = (0, 0, m_q) ∧ ((o = 1 ∧ m_q 15 0 77 = 3) ∨ (o = 4 ∧ m_q 15 0 77 = 2)))) := by
  intro n
  induction n with
  | zero =>
    intro r c m hf r0 r1 h hK hL1 hL2 hA hL3
    have e : r = m0 15 0 32 := by omega
    refine ⟨0, c, m, Or.inl ⟨rfl, ?_, en76_3e (Or.inl (by omega)), h, hK, hL3⟩⟩
    rw [zLoop_inl (en264_e (show r ≥ c0 1 0 10 by rw [hn]; omega)), hL1]
  | succ n ih =>
    intro r c m hf r0 r1 h hK hL1 hL2 hA hL3
    by_cases e : r = m0 15 0 32
    · refine ⟨0, c, m, Or.inl ⟨rfl, ?_, en76_3e (Or.inl (by omega)), h, hK, hL3⟩⟩
      rw [zLoop_inl (en264_e (show r ≥ c0 1 0 10 by rw [hn]; omega)), hL1]
    have Q := yQ_tr hQ0 (yK_Q hK)
    have rr : r < m 15 0 32 := by rw [Q.mJ 32 (by decide)]; omega
    obtain ⟨kb, g1, g2, g3, g4, g5⟩ := h.ru r r0 rr
    have wS1 := g1 (rUp c 6 0 7 (c 40 0 r)) (rUp_grp (by decide)) (rUp_grp (by decide)) (rUp_grp (by decide)) (rUp_grp (by decide)) (rUp_grp (by decide)) rUp_at
    have h73 : 0 ≤ m 73 0 r := wS1.n8.1
    have ac := wS1.ac
    rw [rUp_grp (by decide)] at ac
    have sC := en264_go (l := l) (p := p) (c0 := c0) (c := c) (show ¬ r ≥ c0 1 0 10 by rw [hn]; omega)
    have sM := en76_3g (l := l) (s := L) (m0 := m0) (m := m) (show ¬ r ≥ m0 15 0 32 by omega) h.bad h73
    have e40 : c 40 = c0 40 := Q.c40
    have e10 : c 10 = c0 10 := Q.s.2.1
    have e9 : c 9 = c0 9 := Q.s.1
    have e71 : m 71 = m0 71 := Q.m9.1 71 (by decide) (by decide)
    have e69 : m 69 = m0 69 := Q.m9.1 69 (by decide) (by decide)
    have e92 : m 92 = m0 92 := Q.m92
    have m76 : m 15 0 76 = p := by rw [hK.mJ 76 (by decide), hp]
    rw [e10, e40, e71] at g4
    have lay := (h.st.2 _ g3.2.1.1 g3.2.1.2).1
    have hd8 := g3.1
    rw [e40] at hd8
    rw [e40, e9] at ac
    rw [hd8, lay, e69, e92, g4, ac] at sC
    rw [m76] at sM
    have next : en264 c0 (1, [l, r, p], c) = .inl (1, [l, r + 1, p], c) → en76 m0 (3, [l, r, L], m) = .inl (3, [l, r + 1, L], m) → ∃ o c_q m_q, ((o = 0 ∧ zLoop (en264 c0) (1, [l, r, p], c) = zLoop (en264 c0) (0, [l, (if c_q 4 0 7 ≤ L then 0 else 1), p], rUp c_q 6 0 12 L) ∧ zLoop (en76 m0) (3, [l, r, L], m) = (if m_q 15 0 71 ≤ L then (0, 0, rXe L m_q) else zLoop (en76 m0) (2, [l], rXe L m_q)) ∧ yR c_q m_q ∧ yK cS mS c_q m_q ∧ L ≤ m_q 15 0 71) ∨ (zLoop (en264 c0) (1, [l, r, p], c) = (o, 0, c_q) ∧ zLoop (en76 m0) (3, [l, r, L], m) = (0, 0, m_q) ∧ ((o = 1 ∧ m_q 15 0 77 = 3) ∨ (o = 4 ∧ m_q 15 0 77 = 2)))) := fun a b => by
      rw [zLoop_inl a, zLoop_inl b]
      exact ih (r + 1) c m (by omega) (by omega) (by omega) h hK hL1 hL2 hA hL3
    -- where the RULE is due
    have due : m0 71 0 r = 0 → ¬ m0 92 0 (m0 69 0 r) ≠ l → en264 c0 (1, [l, r, p], c) = (if (fn261 [] (fn238 [p, c0 40 0 r, r] c).2.2).1 = 0 then .inl (1, [l, r + 1, p], (fn261 [] (fn238 [p, c0 40 0 r, r] c).2.2).2.2) else if (fn261 [] (fn238 [p, c0 40 0 r, r] c).2.2).1 = 1 then .inr (1, 0, (fn261 [] (fn238 [p, c0 40 0 r, r] c).2.2).2.2) else .inr (4, 0, (fn261 [] (fn238 [p, c0 40 0 r, r] c).2.2).2.2)) → en76 m0 (3, [l, r, L], m) = .inl (3, [l, r + 1, L], (fn72 [r] m).2.2) → ∃ o c_q m_q, ((o = 0 ∧ zLoop (en264 c0) (1, [l, r, p], c) = zLoop (en264 c0) (0, [l, (if c_q 4 0 7 ≤ L then 0 else 1), p], rUp c_q 6 0 12 L) ∧ zLoop (en76 m0) (3, [l, r, L], m) = (if m_q 15 0 71 ≤ L then (0, 0, rXe L m_q) else zLoop (en76 m0) (2, [l], rXe L m_q)) ∧ yR c_q m_q ∧ yK cS mS c_q m_q ∧ L ≤ m_q 15 0 71) ∨ (zLoop (en264 c0) (1, [l, r, p], c) = (o, 0, c_q) ∧ zLoop (en76 m0) (3, [l, r, L], m) = (0, 0, m_q) ∧ ((o = 1 ∧ m_q 15 0 77 = 3) ∨ (o = 4 ∧ m_q 15 0 77 = 2)))) := fun hh _ a b => by
      obtain ⟨o, c_q, m_q, z1, z2, z3⟩ := rule_d (rd := p) h r0 rr (by rw [e71]; exact hh) ⟨hL1.trans hL2.symm, by omega, by omega⟩ m76.symm (by
        rw [hA, hK.c12, hK.mJ 82 (by decide), hK.mJ 83 (by decide), hL2]
        exact hask)
      rw [e40] at z1
      rw [z1] at a
      rw [z2] at b
      have b : en76 m0 (3, [l, r, L], m) = .inl (3, [l, r + 1, L], m_q) := b
      rcases z3 with ⟨eo, hR, hk, q1, q2, q3⟩ | ⟨eo, hb⟩ | ⟨eo, hb⟩
      · rw [eo] at a
        have a : en264 c0 (1, [l, r, p], c) = .inl (1, [l, r + 1, p], c_q) := a.trans (if_pos rfl)
        rw [zLoop_inl a, zLoop_inl b]
        have g71 : m 15 0 71 ≤ m_q 15 0 71 := by
          have a1 := h.tt.1
          have a2 := hR.tt.1
          have a3 := hk.gr.1
          omega
        exact ih (r + 1) c_q m_q (by omega) (by omega) (by omega) hR (yK_tr hK hk) (q1.trans hL1) (q2.trans hL2) (q3.trans hA) (by omega)
      · rw [eo] at a
        have a : en264 c0 (1, [l, r, p], c) = .inr (1, 0, c_q) := a.trans ((if_neg (show ¬ (1 : Nat) = 0 by decide)).trans (if_pos rfl))
        refine ⟨1, c_q, rXe L m_q, Or.inr ⟨zLoop_inr a, ?_, Or.inl ⟨rfl, ?_⟩⟩⟩
        · have hx : rXe L m_q 15 0 77 ≠ 0 := by unfold rXe; rw [rUp_in, if_neg (by decide), rUp_in, if_neg (by decide), hb]; decide
          rw [zLoop_inl b, en76_3e (Or.inr (by rw [hb]; decide)), en76_2 hx]
          split <;> rfl
        · unfold rXe
          rw [rUp_in, if_neg (by decide), rUp_in, if_neg (by decide)]
          exact hb
      · rw [eo] at a
        have a : en264 c0 (1, [l, r, p], c) = .inr (4, 0, c_q) := a.trans ((if_neg (show ¬ (4 : Nat) = 0 by decide)).trans (if_neg (show ¬ (4 : Nat) = 1 by decide)))
        refine ⟨4, c_q, rXe L m_q, Or.inr ⟨zLoop_inr a, ?_, Or.inr ⟨rfl, ?_⟩⟩⟩
        · have hx : rXe L m_q 15 0 77 ≠ 0 := by unfold rXe; rw [rUp_in, if_neg (by decide), rUp_in, if_neg (by decide), hb]; decide
          rw [zLoop_inl b, en76_3e (Or.inr (by rw [hb]; decide)), en76_2 hx]
          split <;> rfl
        · unfold rXe
          rw [rUp_in, if_neg (by decide), rUp_in, if_neg (by decide)]
          exact hb
    have sC : en264 c0 (1, [l, r, p], c) = (if p = 1 then (if m0 71 0 r ≠ 0 then .inl (1, [l, r + 1, p], c) else if m0 92 0 (m0 69 0 r) ≠ l then .inl (1, [l, r + 1, p], c) else (if (fn261 [] (fn238 [p, c0 40 0 r, r] c).2.2).1 = 0 then .inl (1, [l, r + 1, p], (fn261 [] (fn238 [p, c0 40 0 r, r] c).2.2).2.2) else if (fn261 [] (fn238 [p, c0 40 0 r, r] c).2.2).1 = 1 then .inr (1, 0, (fn261 [] (fn238 [p, c0 40 0 r, r] c).2.2).2.2) else .inr (4, 0, (fn261 [] (fn238 [p, c0 40 0 r, r] c).2.2).2.2))) else if cn (fun h => decide (m 77 0 (h + 8 * r) = 0)) (m 73 0 r) ≤ 0 then .inl (1, [l, r + 1, p], c) else (if m0 71 0 r ≠ 0 then .inl (1, [l, r + 1, p], c) else if m0 92 0 (m0 69 0 r) ≠ l then .inl (1, [l, r + 1, p], c) else (if (fn261 [] (fn238 [p, c0 40 0 r, r] c).2.2).1 = 0 then .inl (1, [l, r + 1, p], (fn261 [] (fn238 [p, c0 40 0 r, r] c).2.2).2.2) else if (fn261 [] (fn238 [p, c0 40 0 r, r] c).2.2).1 = 1 then .inr (1, 0, (fn261 [] (fn238 [p, c0 40 0 r, r] c).2.2).2.2) else .inr (4, 0, (fn261 [] (fn238 [p, c0 40 0 r, r] c).2.2).2.2)))) := sC
    by_cases b1 : m0 71 0 r = 0
    · by_cases b2 : m0 92 0 (m0 69 0 r) ≠ l
      · refine next ?_ (sM.trans ((if_neg (fun z => z b1)).trans (if_pos b2)))
        rw [sC, if_neg (show ¬ m0 71 0 r ≠ 0 from fun z => z b1), if_pos b2]
        split
        · rfl
        · split <;> rfl
      · have sM := sM.trans ((if_neg (fun z => z b1)).trans (if_neg b2))
        rw [if_neg (show ¬ m0 71 0 r ≠ 0 from fun z => z b1), if_neg b2] at sC
        by_cases p1 : p = 1
        · exact due b1 b2 (sC.trans (if_pos p1)) (sM.trans (if_pos p1))
        · have sC := sC.trans (if_neg p1)
          have sM := sM.trans (if_neg p1)
          by_cases b3 : cn (fun h => decide (m 77 0 (h + 8 * r) = 0)) (m 73 0 r) ≤ 0
          · exact next (sC.trans (if_pos b3)) (sM.trans (if_pos b3))
          · exact due b1 b2 (sC.trans (if_neg b3)) (sM.trans (if_neg b3))
    · refine next ?_ (sM.trans (if_pos b1))
      rw [sC, if_pos (show m0 71 0 r ≠ 0 from b1)]
      split
      · rfl
      · split <;> rfl
