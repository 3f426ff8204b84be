/-! ===== a LAYER, by both ===== -/
theorem iadd_1 {a : Int} (h0 : 0 ≤ a) (h1 : a ≤ 2000000000) : zF2 .iadd a 1 = a + 1 := by
  have e : zF2 .iadd a 1 = (Int32.ofInt a + Int32.ofInt 1).toInt := rfl
  rw [e, Int32.toInt_add, i_of (by omega) (by omega), i_of (by decide) (by decide)]
  exact Int.bmod_eq_of_le (by omega) (by omega)
theorem iadd_n {a b : Int} (h0 : 0 ≤ a) (h1 : a ≤ 1000000000) (h2 : 0 ≤ b) (h3 : b ≤ 1000000000) : zF2 .iadd a b = a + b := by
  have e : zF2 .iadd a b = (Int32.ofInt a + Int32.ofInt b).toInt := rfl
  rw [e, Int32.toInt_add, i_of (by omega) (by omega), i_of (by omega) (by omega)]
  exact Int.bmod_eq_of_le (by omega) (by omega)
theorem en264_0 {l p : Int} {c0 c : rHp} (h : p ≤ 2000) : en264 c0 (0, [l, 1, p], c) = .inl (1, [l, 0, p + 1], rUp c 6 0 11 (c 4 0 7)) := by
  unfold en264
  simp only [zLet, List.getD_cons_zero, List.getD_cons_succ, ↓reduceIte]
  rw [if_neg (show ¬ (1 : Int) = 0 by decide), if_neg (show ¬ p > 2000 by omega)]
theorem en264_no {l p : Int} {c0 c : rHp} : zLoop (en264 c0) (0, [l, 0, p], c) = (0, p, c) := by
  refine zLoop_inr ?_
  unfold en264
  simp only [zLet, List.getD_cons_zero, List.getD_cons_succ, ↓reduceIte]
/-- a ROUND begins, by the reference -/
noncomputable def rB (p : Int) (m : rHp) : rHp := rUp (rUp (rUp (rUp m 15 0 76 (p + 1)) 15 0 73 (m 15 0 73 + 1)) 15 0 81 (m 15 0 71)) 15 0 84 (if p + 1 ≤ 1 then 0 else 1)
theorem en76_b {l p : Int} {m0 m : rHp} (hb : m 15 0 77 = 0) (hp : m 15 0 76 = p) (p0 : 0 ≤ p) (p1 : p ≤ 2000000000) (q0 : 0 ≤ m 15 0 73) (q1 : m 15 0 73 ≤ 2000000000) : en76 m0 (2, [l], m) = .inl (3, [l, 0, m 15 0 71], rB p m) := by
  have e1 : zF2 .iadd (m 15 0 76) 1 = p + 1 := by rw [hp]; exact iadd_1 p0 p1
  have e2 : zF2 .iadd (m 15 0 73) 1 = m 15 0 73 + 1 := iadd_1 q0 q1
  unfold en76 rB
  simp only [zLet, List.getD_cons_zero, List.getD_cons_succ, ↓reduceIte, show ¬ (2 : Nat) = 0 by decide, show ¬ (2 : Nat) = 1 by decide, show ¬ (3 : Nat) = 0 by decide, show ¬ (3 : Nat) = 1 by decide, show ¬ (4 : Nat) = 0 by decide, show ¬ (4 : Nat) = 1 by decide, e1, e2]
  rw [if_neg (fun z => z hb)]
  by_cases b : p + 1 ≤ 1
  · rw [if_pos b, if_pos b]
  · rw [if_neg b, if_neg b]
theorem rounds_lp {l : Int} {c0 m0 : rHp} (hn : c0 1 0 10 = m0 15 0 32) : ∀ (n : Nat) (p : Int) (c m : rHp), (2001 - m 15 0 71).toNat ≤ n → yR c m → yQ c0 m0 c m → m 15 0 76 = p → 0 ≤ p → p ≤ m 15 0 71 → (1 ≤ p → c 6 0 12 = m 15 0 82 ∧ m 15 0 83 = m 15 0 71 ∧ 0 ≤ c 6 0 12) → 0 ≤ m 15 0 73 → m 15 0 73 ≤ 1000000000 + m 15 0 71 →
    ∃ o v c_q m_q, zLoop (en264 c0) (0, [l, 1, p], c) = (o, v, c_q) ∧ zLoop (en76 m0) (2, [l], m) = (0, 0, m_q) ∧ ((o = 0 ∧ yR c_q m_q ∧ yQ c0 m0 c_q m_q ∧ m_q 15 0 73 = m 15 0 73 + (v - p) ∧ 1 ≤ v - p ∧ v ≤ 2001) ∨ (o = 1 ∧ v = 0 ∧ m_q 15 0 77 = 3) ∨ (o = 4 ∧ v = 0 ∧ m_q 15 0 77 = 2)) := by
  intro n
  induction n with
  | zero =>
    intro p c m hf h
    have := h.tt.2.2.1.1
    omega
  | succ n ih =>
    intro p c m hf h hQ hp p0 p1 hfr q0 q1
    have n71 := h.tt.2.2.1.1
    have e7 := h.tt.1
    have hL := hQ.mJ 32 (by decide)
    have r0 := h.rn.2
    rw [zLoop_inl (en264_0 (show p ≤ 2000 by omega)), zLoop_inl (en76_b h.bad hp p0 (by omega) q0 (by omega))]
    obtain ⟨c1, hc1⟩ : ∃ x, rUp c 6 0 11 (c 4 0 7) = x := ⟨_, rfl⟩
    obtain ⟨m1, hm1⟩ : ∃ x, rB p m = x := ⟨_, rfl⟩
    rw [hc1, hm1]
    have cg : ∀ K : Nat, K ≠ 6 → c1 K = c K := fun K hK => by rw [← hc1, rUp_grp hK]
    have c6 : ∀ j, j ≠ 11 → c1 6 0 j = c 6 0 j := fun j hj => by rw [← hc1, rUp_in, if_neg hj]
    have mg : ∀ K : Nat, K ≠ 15 → m1 K = m K := fun K hK => by rw [← hm1]; unfold rB; rw [rUp_grp hK, rUp_grp hK, rUp_grp hK, rUp_grp hK]
    have m15 : ∀ j, m1 15 0 j = if j = 84 then (if p + 1 ≤ 1 then 0 else 1) else if j = 81 then m 15 0 71 else if j = 73 then m 15 0 73 + 1 else if j = 76 then p + 1 else m 15 0 j := fun j => by rw [← hm1]; unfold rB; rw [rUp_in, rUp_in, rUp_in, rUp_in]
    have u : ∀ j, j ≠ 84 → j ≠ 81 → j ≠ 73 → j ≠ 76 → m1 15 0 j = m 15 0 j := fun j a b d e => by rw [m15, if_neg a, if_neg b, if_neg d, if_neg e]
    obtain ⟨hR1, hQ1⟩ := yR_set h cg (c6 0 (by decide)) mg (fun j z => u j (by omega) (by omega) (by omega) (by omega))
    have u71 : m1 15 0 71 = m 15 0 71 := u 71 (by decide) (by decide) (by decide) (by decide)
    have u73 : m1 15 0 73 = m 15 0 73 + 1 := by rw [m15, if_neg (by decide), if_neg (by decide), if_pos rfl]
    have u76 : m1 15 0 76 = p + 1 := by rw [m15, if_neg (by decide), if_neg (by decide), if_neg (by decide), if_pos rfl]
    have hQ01 := yQ_tr hQ hQ1
    have res := round_lp (l := l) (p := p + 1) (L := m 15 0 71) hQ01 hn u76.symm (by
      rw [c6 12 (by decide), u 82 (by decide) (by decide) (by decide) (by decide), u 83 (by decide) (by decide) (by decide) (by decide), m15, if_pos rfl]
      refine ⟨?_, fun z => hfr (by omega)⟩
      by_cases b : p + 1 ≤ 1
      · rw [if_pos b]
        exact ⟨fun z => absurd rfl z, fun z => by omega⟩
      · rw [if_neg b]
        exact ⟨fun _ => by omega, fun _ => by decide⟩) n71.1 _ 0 c1 m1 (Nat.le_refl _) (Int.le_refl 0) (by omega) hR1 yK_rfl (by rw [← hc1, rUp_at]; exact e7) (by rw [m15, if_neg (by decide), if_pos rfl]) rfl (by omega)
    obtain ⟨o, c2, m2, z⟩ := res
    rcases z with ⟨eo, z1, z2, hR2, hK2, hle⟩ | ⟨z1, z2, z3⟩
    · have a7 := hR2.tt.1
      have a71 := hR2.tt.2.2.1.1
      have x71 : rXe (m 15 0 71) m2 15 0 71 = m2 15 0 71 := by unfold rXe; rw [rUp_in, if_neg (by decide), rUp_in, if_neg (by decide)]
      have x73 : rXe (m 15 0 71) m2 15 0 73 = m 15 0 73 + 1 := by unfold rXe; rw [rUp_in, if_neg (by decide), rUp_in, if_neg (by decide), hK2.mJ 73 (by decide)]; exact u73
      have x76 : rXe (m 15 0 71) m2 15 0 76 = p + 1 := by unfold rXe; rw [rUp_in, if_neg (by decide), rUp_in, if_neg (by decide), hK2.mJ 76 (by decide)]; exact u76
      have xg : ∀ K : Nat, K ≠ 15 → rXe (m 15 0 71) m2 K = m2 K := fun K hK => by unfold rXe; rw [rUp_grp hK, rUp_grp hK]
      have xj : ∀ j, j ≠ 82 → j ≠ 83 → rXe (m 15 0 71) m2 15 0 j = m2 15 0 j := fun j a b => by unfold rXe; rw [rUp_in, if_neg b, rUp_in, if_neg a]
      obtain ⟨hR3, hQ3⟩ := yR_set hR2 (c_q := rUp c2 6 0 12 (m 15 0 71)) (m_q := rXe (m 15 0 71) m2) (fun K hK => rUp_grp hK) (by rw [rUp_in, if_neg (by decide)]) xg (fun j w => xj j (by omega) (by omega))
      have hQ4 := yQ_tr hQ01 (yQ_tr (yK_Q hK2) hQ3)
      by_cases b : m2 15 0 71 ≤ m 15 0 71
      · rw [if_pos (show c2 4 0 7 ≤ m 15 0 71 by omega), en264_no] at z1
        rw [if_pos b] at z2
        exact ⟨0, p + 1, _, _, z1, z2, Or.inl ⟨rfl, hR3, hQ4, by rw [x73]; omega, by omega, by omega⟩⟩
      · rw [if_neg (show ¬ c2 4 0 7 ≤ m 15 0 71 by omega)] at z1
        rw [if_neg b] at z2
        obtain ⟨o_q, v_q, c_q, m_q, w1, w2, w3⟩ := ih (p + 1) _ _ (by rw [x71]; omega) hR3 hQ4 x76 (by omega) (by rw [x71]; omega) (fun _ => by
          refine ⟨?_, ?_, ?_⟩
          · rw [rUp_at]; unfold rXe; rw [rUp_in, if_neg (by decide), rUp_in, if_pos rfl]
          · rw [x71]; unfold rXe; rw [rUp_in, if_pos rfl]
          · rw [rUp_at]; exact n71.1) (by rw [x73]; omega) (by rw [x73, x71]; omega)
        refine ⟨o_q, v_q, c_q, m_q, z1.trans w1, z2.trans w2, ?_⟩
        rcases w3 with ⟨eo_q, y1, y2, y3, y4, y5⟩ | w3
        · exact Or.inl ⟨eo_q, y1, y2, by rw [y3, x73]; omega, by omega, y5⟩
        · exact Or.inr w3
    · refine ⟨o, 0, c2, m2, z1, z2, ?_⟩
      rcases z3 with ⟨eo, hb⟩ | ⟨eo, hb⟩
      · exact Or.inr (Or.inl ⟨eo, rfl, hb⟩)
      · exact Or.inr (Or.inr ⟨eo, rfl, hb⟩)
theorem bad_76 {l : Int} {m0 m : rHp} (h : m 15 0 77 ≠ 0) : zLoop (en76 m0) (1, [l, 0], m) = (0, 0, rUp (rUp m 15 0 82 0) 15 0 83 0) := by
  have e : en76 m0 (1, [l, 0], m) = .inl (2, [l], rUp (rUp m 15 0 82 0) 15 0 83 0) := by
    unfold en76
    simp only [zLet, List.getD_cons_zero, List.getD_cons_succ, ↓reduceIte, Nat.one_ne_zero]
    by_cases b : (0 : Int) ≥ m0 15 0 32
    · rw [if_pos b]
    · rw [if_neg b, if_pos h]
  rw [zLoop_inl e]
  exact en76_2 (by rw [rUp_in, if_neg (by decide), rUp_in, if_neg (by decide)]; exact h)
theorem facts_two {l : Int} {c m0 mB : rHp} (h : yR c mB) (s17 : m0 15 0 17 = mB 15 0 17) (s67 : m0 67 = mB 67) (s68 : m0 68 = mB 68) (s92 : m0 92 = mB 92) (h76 : mB 15 0 76 = 0) :
    ∃ o c_q m_q, zLoop (en235 c) (0, [l, 0], c) = (o, 0, c_q) ∧ zLoop (en76 m0) (0, [l, 0], mB) = zLoop (en76 m0) (1, [l, 0], m_q) ∧ ((o = 0 ∧ yR c_q m_q ∧ yK c mB c_q m_q) ∨ (o = 1 ∧ m_q 15 0 77 = 3)) := by
  obtain ⟨o, c_q, m_q, z1, z2, z3⟩ := facts_lp (l := l) s17 s67 s68 s92 _ 0 c mB (Nat.le_refl _) (Int.le_refl 0) h.st.1.2.1 h.st (bP_rfl h.tt h.tx h.vt) h.bad h76
  refine ⟨o, c_q, m_q, z1, z2, ?_⟩
  rcases z3 with ⟨eo, hb, hP⟩ | z3
  · have k : yK c mB c_q m_q := ⟨hP.gr, ⟨hP.cK 9 (by decide) (by decide) (by decide), hP.cK 10 (by decide) (by decide) (by decide), hP.cK 43 (by decide) (by decide) (by decide), hP.cK 44 (by decide) (by decide) (by decide), hP.cK 46 (by decide) (by decide) (by decide)⟩, hP.cK 1 (by decide) (by decide) (by decide), hP.cK 40 (by decide) (by decide) (by decide), fun K z => hP.cK K (by omega) (by omega) (by omega), by rw [hP.cK 6 (by decide) (by decide) (by decide)], ⟨⟨fun K a b => hP.mK K (by omega) (by omega), hP.m15 13 (by decide)⟩, hP.mK 92 (by decide) (by decide)⟩, fun j z => hP.m15 j (by omega)⟩
    refine Or.inl ⟨eo, yR_re h k hP.tt hP.tx hP.vt hb ?_ ?_, k⟩
    · rw [hP.cK 6 (by decide) (by decide) (by decide), hP.m15 72 (by decide)]; exact h.stp
    · rw [hP.m15 72 (by decide)]; exact h.st0
  · exact Or.inr z3
/-- a LAYER of the first side: FACTS, RULES with # , ROUNDS -/
noncomputable def lPp (l : Int) (c : rHp) : zR :=
  if (fn235 [l] c).1 = 0 then
    if (fn263 [l] (fn235 [l] c).2.2).1 = 0 then
      if (fn264 [l] (fn263 [l] (fn235 [l] c).2.2).2.2).1 = 0 then (0, (fn264 [l] (fn263 [l] (fn235 [l] c).2.2).2.2).2.1, (fn264 [l] (fn263 [l] (fn235 [l] c).2.2).2.2).2.2)
      else if (fn264 [l] (fn263 [l] (fn235 [l] c).2.2).2.2).1 = 1 then (1, 0, (fn264 [l] (fn263 [l] (fn235 [l] c).2.2).2.2).2.2) else (4, 0, (fn264 [l] (fn263 [l] (fn235 [l] c).2.2).2.2).2.2)
    else if (fn263 [l] (fn235 [l] c).2.2).1 = 1 then (1, 0, (fn263 [l] (fn235 [l] c).2.2).2.2) else (4, 0, (fn263 [l] (fn235 [l] c).2.2).2.2)
  else (1, 0, (fn235 [l] c).2.2)
theorem layer_two {l : Int} {c m : rHp} (h : yR c m) (q0 : 0 ≤ m 15 0 73) (q1 : m 15 0 73 ≤ 1000000000) :
    ∃ o v c_q m_q, lPp l c = (o, v, c_q) ∧ fn76 [l] m = (0, 0, m_q) ∧ ((o = 0 ∧ yR c_q m_q ∧ yQ c m c_q m_q ∧ m_q 15 0 73 = m 15 0 73 + v ∧ 1 ≤ v ∧ v ≤ 2001) ∨ (o = 1 ∧ v = 0 ∧ m_q 15 0 77 = 3) ∨ (o = 4 ∧ v = 0 ∧ m_q 15 0 77 = 2)) := by
  have f76 : fn76 [l] m = zLoop (en76 m) (0, [l, 0], rUp m 15 0 76 0) := rfl
  obtain ⟨mB, hmB⟩ : ∃ x, rUp m 15 0 76 0 = x := ⟨_, rfl⟩
  rw [hmB] at f76
  have mg : ∀ K : Nat, K ≠ 15 → mB K = m K := fun K hK => by rw [← hmB, rUp_grp hK]
  have mj : ∀ j, j ≠ 76 → mB 15 0 j = m 15 0 j := fun j hj => by rw [← hmB, rUp_in, if_neg hj]
  have b76 : mB 15 0 76 = 0 := by rw [← hmB, rUp_at]
  obtain ⟨hRB, hQB⟩ := yR_set h (c_q := c) (m_q := mB) (fun _ _ => rfl) rfl mg (fun j z => mj j (by omega))
  obtain ⟨o1, c1, m1, a1, a2, a3⟩ := facts_two (l := l) (m0 := m) hRB (mj 17 (by decide)).symm (mg 67 (by decide)).symm (mg 68 (by decide)).symm (mg 92 (by decide)).symm b76
  have e235 : fn235 [l] c = (o1, 0, c1) := a1
  rw [a2] at f76
  unfold lPp
  rw [e235]
  rcases a3 with ⟨eo, hR1, hK1⟩ | ⟨eo, hb⟩
  · have hQ1 : yQ c m c1 m1 := yQ_tr hQB (yK_Q hK1)
    have b761 : m1 15 0 76 = 0 := by rw [hK1.mJ 76 (by decide)]; exact b76
    have b731 : m1 15 0 73 = m 15 0 73 := by rw [hK1.mJ 73 (by decide)]; exact mj 73 (by decide)
    have r0 := h.rn.2
    have hn1 : c1 1 0 10 = m 15 0 32 := by rw [hR1.rn.1]; exact hQ1.mJ 32 (by decide)
    have hQ11 : yQ c1 m c1 m1 := ⟨⟨rfl, rfl, rfl, rfl, rfl⟩, rfl, rfl, fun _ _ => rfl, ⟨hQ1.m9, hQ1.m92⟩, hQ1.mJ⟩
    obtain ⟨o2, c2, m2, d1, d2⟩ := tallies_lp (l := l) (c0 := c1) (m0 := m) hn1 hQ11 b761 _ 0 c1 m1 (Nat.le_refl _) (Int.le_refl 0) r0 hR1 yK_rfl
    have e263 : fn263 [l] c1 = (o2, 0, c2) := d1
    rw [eo]
    show ∃ o v c_q m_q, (if (0 : Nat) = 0 then _ else _) = (o, v, c_q) ∧ _
    rw [if_pos rfl]
    show ∃ o v c_q m_q, (if (fn263 [l] c1).1 = 0 then (if (fn264 [l] (fn263 [l] c1).2.2).1 = 0 then (0, (fn264 [l] (fn263 [l] c1).2.2).2.1, (fn264 [l] (fn263 [l] c1).2.2).2.2) else if (fn264 [l] (fn263 [l] c1).2.2).1 = 1 then (1, 0, (fn264 [l] (fn263 [l] c1).2.2).2.2) else (4, 0, (fn264 [l] (fn263 [l] c1).2.2).2.2)) else if (fn263 [l] c1).1 = 1 then (1, 0, (fn263 [l] c1).2.2) else (4, 0, (fn263 [l] c1).2.2)) = (o, v, c_q) ∧ _
    rw [e263]
    rcases d2 with ⟨eo2, d3, hR2, hK2⟩ | ⟨eo2, d3, hb⟩ | ⟨eo2, d3, hb⟩
    · obtain ⟨m3, hm3⟩ : ∃ x, rUp (rUp m2 15 0 82 0) 15 0 83 0 = x := ⟨_, rfl⟩
      rw [hm3] at d3
      have xg : ∀ K : Nat, K ≠ 15 → m3 K = m2 K := fun K hK => by rw [← hm3, rUp_grp hK, rUp_grp hK]
      have xj : ∀ j, j ≠ 82 → j ≠ 83 → m3 15 0 j = m2 15 0 j := fun j a b => by rw [← hm3, rUp_in, if_neg b, rUp_in, if_neg a]
      obtain ⟨c3, hc3⟩ : ∃ x, rUp c2 6 0 12 (c2 4 0 7) = x := ⟨_, rfl⟩
      have cg3 : ∀ K : Nat, K ≠ 6 → c3 K = c2 K := fun K hK => by rw [← hc3, rUp_grp hK]
      obtain ⟨hR3, hQ3⟩ := yR_set hR2 (c_q := c3) (m_q := m3) cg3 (by rw [← hc3, rUp_in, if_neg (by decide)]) xg (fun j w => xj j (by omega) (by omega))
      have hQ2 : yQ c m c2 m2 := yQ_tr hQ1 (yK_Q hK2)
      have hQ23 := yQ_tr hQ2 hQ3
      have hn2 : c2 1 0 10 = m 15 0 32 := by rw [hR2.rn.1]; exact hQ2.mJ 32 (by decide)
      have hQ33 : yQ c2 m c3 m3 := ⟨hQ3.s, hQ3.c1, hQ3.c40, hQ3.cF, ⟨hQ23.m9, hQ23.m92⟩, hQ23.mJ⟩
      have n73 : m3 15 0 73 = m 15 0 73 := by rw [xj 73 (by decide) (by decide), hK2.mJ 73 (by decide)]; exact b731
      have n71 := hR3.tt.2.2.1.1
      obtain ⟨o3, v3, c4, m4, w1, w2, w3⟩ := rounds_lp (l := l) (c0 := c2) (m0 := m) hn2 _ 0 c3 m3 (Nat.le_refl _) hR3 hQ33 (by rw [xj 76 (by decide) (by decide), hK2.mJ 76 (by decide)]; exact b761) (Int.le_refl 0) n71.1 (fun z => by omega) (by omega) (by omega)
      have e264 : fn264 [l] c2 = (o3, v3, c4) := by
        have : fn264 [l] c2 = zLoop (en264 c2) (0, [l, 1, 0], rUp c2 6 0 12 (c2 4 0 7)) := rfl
        rw [this, hc3]
        exact w1
      rw [eo2]
      show ∃ o v c_q m_q, (if (0 : Nat) = 0 then (if (fn264 [l] c2).1 = 0 then (0, (fn264 [l] c2).2.1, (fn264 [l] c2).2.2) else if (fn264 [l] c2).1 = 1 then (1, 0, (fn264 [l] c2).2.2) else (4, 0, (fn264 [l] c2).2.2)) else _) = (o, v, c_q) ∧ _
      rw [if_pos rfl, e264]
      rcases w3 with ⟨eo3, y1, y2, y3, y4, y5⟩ | ⟨eo3, ev, hb⟩ | ⟨eo3, ev, hb⟩
      · rw [eo3]
        refine ⟨0, v3, c4, m4, rfl, f76.trans (d3.trans w2), Or.inl ⟨rfl, y1, ?_, by rw [y3, n73]; omega, by omega, y5⟩⟩
        exact ⟨⟨y2.s.1.trans hQ2.s.1, y2.s.2.1.trans hQ2.s.2.1, y2.s.2.2.1.trans hQ2.s.2.2.1, y2.s.2.2.2.1.trans hQ2.s.2.2.2.1, y2.s.2.2.2.2.trans hQ2.s.2.2.2.2⟩, y2.c1.trans hQ2.c1, y2.c40.trans hQ2.c40, fun K z => (y2.cF K z).trans (hQ2.cF K z), ⟨y2.m9, y2.m92⟩, y2.mJ⟩
      · rw [eo3]
        exact ⟨1, 0, c4, m4, rfl, f76.trans (d3.trans w2), Or.inr (Or.inl ⟨rfl, rfl, hb⟩)⟩
      · rw [eo3]
        exact ⟨4, 0, c4, m4, rfl, f76.trans (d3.trans w2), Or.inr (Or.inr ⟨rfl, rfl, hb⟩)⟩
    · rw [eo2]
      exact ⟨1, 0, c2, m2, rfl, f76.trans d3, Or.inr (Or.inl ⟨rfl, rfl, hb⟩)⟩
    · rw [eo2]
      exact ⟨4, 0, c2, m2, rfl, f76.trans d3, Or.inr (Or.inr ⟨rfl, rfl, hb⟩)⟩
  · rw [eo]
    exact ⟨1, 0, c1, rUp (rUp m1 15 0 82 0) 15 0 83 0, rfl, f76.trans (bad_76 (by rw [hb]; decide)), Or.inr (Or.inl ⟨rfl, rfl, by rw [rUp_in, if_neg (by decide), rUp_in, if_neg (by decide)]; exact hb⟩)⟩
