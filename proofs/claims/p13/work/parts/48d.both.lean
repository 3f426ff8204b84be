/-! ===== find and ask: what both leave ===== -/
theorem qUm_eq {m : rHp} : rUp (rUp (fn5 [] m).2.2 15 0 0 0) 15 0 14 (m 15 0 13) = qUm m := by
  have e1 : (fn5 [] m).2.2 = rUp (rUp (rUp m 15 0 34 (m 15 0 3)) 15 0 3 0) 15 0 35 0 := rfl
  have e2 : qUm m = rUp (rUp (rUp (rUp (rUp m 15 0 0 0) 15 0 34 (rUp m 15 0 0 0 15 0 3)) 15 0 3 0) 15 0 35 0) 15 0 14 (m 15 0 13) := rfl
  rw [e1, e2, show rUp m 15 0 0 0 15 0 3 = m 15 0 3 from rUp_ne (by decide)]
  rw [rUp_comm (g := rUp (rUp m 15 0 34 (m 15 0 3)) 15 0 3 0) (G := 15) (G_q := 15) (k := 0) (k_q := 0) (j := 35) (j_q := 0) (by decide), rUp_comm (g := rUp m 15 0 34 (m 15 0 3)) (G := 15) (G_q := 15) (k := 0) (k_q := 0) (j := 3) (j_q := 0) (by decide), rUp_comm (g := m) (G := 15) (G_q := 15) (k := 0) (k_q := 0) (j := 34) (j_q := 0) (by decide)]
/-- where each side alone has read or not -/
theorem four {B : Int} {c m cR mR : rHp} (h : Rel B c m) (fR : Rel (B + 1) (rUp cR 2 0 3 0) mR) (sd : qSd (B + 1) c m cR mR) {a b : Prop} {cE mE : rHp} (hc : a ∧ cE = rUp cR 2 0 3 0 ∨ ¬ a ∧ cE = rUp c 2 0 3 0) (hm : b ∧ mE = mR ∨ ¬ b ∧ mE = rUp (fn5 [] m).2.2 15 0 0 1) : Rel (B + 1) cE mE := by
  obtain ⟨⟨d1, d2, d3, d4, d5, d6, d7, d8⟩, d9, d10, d11, d12, d13⟩ := sd
  have fm : fH 15 [] [0, 3, 34, 35] m (rUp (fn5 [] m).2.2 15 0 0 1) := fH_fld (fH_fld (fH_fld (fH_fld fH_refl (by decide)) (by decide)) (by decide)) (by decide)
  have m3 : rUp (fn5 [] m).2.2 15 0 0 1 15 0 3 = 0 := by
    show rUp (rUp (rUp (rUp m 15 0 34 (m 15 0 3)) 15 0 3 0) 15 0 35 0) 15 0 0 1 15 0 3 = 0
    rw [rUp_ne (by decide), rUp_ne (by decide), rUp_at]
  have g : ∀ (x : rHp) (G : Nat), G ≠ 2 → rUp x 2 0 3 0 G = x G := fun x G z => rUp_grp z
  have h4 := h.2.2.2.1
  have h3 := h.1.2.1
  have nc : ∀ x : rHp, qNc x → qNc (rUp x 2 0 3 0) := by
    intro x hx
    unfold qNc at hx ⊢
    rw [g x 3 (by decide), g x 26 (by decide)]; exact hx
  have gc : ∀ x : rHp, gNc c x → gNc c (rUp x 2 0 3 0) := by
    intro x hx
    unfold gNc at hx ⊢
    rw [g x 3 (by decide), g x 26 (by decide)]; exact hx
  rcases hc with ⟨_, e1⟩ | ⟨_, e1⟩
  · rcases hm with ⟨_, e2⟩ | ⟨_, e2⟩
    · rw [e1, e2]; exact fR
    · rw [e1, e2]
      exact Rel_c h (nc _ d1) (gc _ d2) (by rw [g cR 1 (by decide)]; exact d3) (by rw [g cR 16 (by decide)]; exact d4) (by rw [g cR 17 (by decide)]; exact d5) (by rw [g cR 19 (by decide)]; exact d6) (by rw [g cR 20 (by decide)]; exact d7) fm m3 rUp_at (by rw [g cR 3 (by decide)]; exact d8)
  · rcases hm with ⟨_, e2⟩ | ⟨_, e2⟩
    · rw [e1, e2]
      exact Rel_m h (fH_fld fH_refl (by decide)) rUp_at d9 d10 d11 d12 d13 (by omega)
    · rw [e1, e2]
      exact Rel_c h (nc _ h.2.1) (gc _ gNc_refl) (g c 1 (by decide)) (g c 16 (by decide)) (g c 17 (by decide)) (g c 19 (by decide)) (g c 20 (by decide)) fm m3 rUp_at (by rw [g c 3 (by decide)]; omega)
/-- find: the class_q heap behind its reading -/
noncomputable def hpF (c : rHp) : rHp := if c 0 0 7 ≠ 0 then rUp (qFg (9 * c 40 0 (c 1 0 10)) (qUc 1 c)).2.2 2 0 3 0 else rUp c 2 0 3 0
/-- find: the reference's -/
noncomputable def hpG (m : rHp) : rHp := if m 15 0 59 ≠ 0 then (qFh (m 15 0 3) (fn32 [61] (rUp (rUp (fn5 [] m).2.2 15 0 0 0) 15 0 14 (m 15 0 13))).2.2).2.2 else rUp (fn5 [] m).2.2 15 0 0 1
/-- ask: the class_q heap behind its reading -/
noncomputable def hpA (c : rHp) : rHp := if c 0 0 7 ≠ 0 then rUp (fn159 [] (qUc 2 c)).2.2 2 0 3 0 else rUp c 2 0 3 0
/-- ask: the reference's -/
noncomputable def hpB (m : rHp) : rHp := if m 15 0 59 ≠ 0 then (fn38 [0] (fn32 [61] (rUp (rUp (fn5 [] m).2.2 15 0 0 0) 15 0 14 (m 15 0 13))).2.2).2.2 else rUp (fn5 [] m).2.2 15 0 0 1
theorem if_two {p : Prop} [Decidable p] {x a b : rHp} (h : x = if p then a else b) : p ∧ x = a ∨ ¬ p ∧ x = b := by
  by_cases q : p
  · rw [if_pos q] at h; exact Or.inl ⟨q, h⟩
  · rw [if_neg q] at h; exact Or.inr ⟨q, h⟩
theorem qFg_o {cU c1 : rHp} {h : Int} (e : fn146 [] cU = qH6 c1) : fO (qH0 c1) c1 (qFg h cU).2.2 := by
  unfold qFg
  rw [e]
  have a1 : fO (qH0 c1) c1 (qH6 c1).2.2 := qH6_o
  have a2 : fO (qH0 c1) c1 (fn147 [h] (qH6 c1).2.2).2.2 := fO_tr a1 fn147_o
  have a3 : fO (qH0 c1) c1 (fn149 [] (fn147 [h] (qH6 c1).2.2).2.2).2.2 := fO_tr a2 fn149_o
  split
  · split
    · split
      · exact a3
      · exact a3
    · exact a2
  · exact a1
theorem qFh_y {n q : Int} {m : rHp} : fY q m (qFh n m).2.2 := by
  unfold qFh
  have a1 : fY q m (fn27 [] m).2.2 := fn27_y
  split
  · split
    · exact fY_tr (fY_tr (fY_tr a1 fn31_y) fn7_y) qNk_y
    · exact fY_tr a1 fn31_y
  · exact a1
theorem calling_D {c0 m1 cU c1 : rHp} {h r n : Int} (e : fn146 [] cU = qH6 c1) (hR : qR 0 c0 m1 c1 m1) (hZ : qZ c0 m1 (qFg h cU).2.2 (qFh n m1).2.2) : fD (c1 40 0 (c1 1 0 10)) c1 (qFg h cU).2.2 ∧ fE r m1 (qFh n m1).2.2 := by
  refine read_D hR (qFg_o e) (fun q => qFh_y) (fun hl => ?_) (hZ.2.2.1.2 3 (by decide)) (hZ.2.2.2.2.1.2 34 (by decide))
  obtain ⟨a, b, z1, z2, z3, z4⟩ := head_e hR hl
  have q1 : (qFg h cU).2.2 = a := by
    unfold qFg
    rw [e, z1]
    exact congrArg (fun r : zR => r.2.2) (if_neg (show ¬ (1 : Int) ≤ 0 by decide))
  have q2 : (qFh n m1).2.2 = b := by
    unfold qFh
    rw [z2]
    exact congrArg (fun r : zR => r.2.2) (if_neg (show ¬ (1 : Int) ≤ 0 by decide))
  rw [q1, q2]
  exact ⟨fD_H z3 (by decide), fE_H z4 (by decide) (by decide)⟩
/-- where nothing is read -/
theorem none_read {c m : rHp} : (yU c m → yU (rUp c 2 0 3 0) (rUp (fn5 [] m).2.2 15 0 0 1)) ∧ yFA c m (rUp c 2 0 3 0) (rUp (fn5 [] m).2.2 15 0 0 1) := by
  have F : fH 2 [] [3] c (rUp c 2 0 3 0) := fH_fld fH_refl (by decide)
  have M : fH 15 [] [0, 3, 34, 35] m (rUp (fn5 [] m).2.2 15 0 0 1) := fH_fld (fH_fld (fH_fld (fH_fld fH_refl (by decide)) (by decide)) (by decide)) (by decide)
  exact ⟨fun y => yU_H y F (by decide) M (by decide) (by decide), yFA_H F (by decide) M (by decide) (by decide) (by decide)⟩
theorem find_two {B : Int} {c m : rHp} (h : Rel B c m) (hB : B ≤ 10239) : Rel (B + 1) (hpF c) (hpG m) ∧ (c 0 0 7 = m 15 0 59 → (yU c m → yU (hpF c) (hpG m)) ∧ yFA c m (hpF c) (hpG m)) := by
  obtain ⟨c0, c1, m1, e1, e2, hR, hBB, h00, hlim, o7, x40, x7, x16, x73, m34, m17, m3, fin⟩ := start_any (p := 1) (r := 61) h hB (by decide)
  have k40 : qUc 1 c 40 0 (qUc 1 c 1 0 10) = c 40 0 (c 1 0 10) := rfl
  have e1_q := e1
  rw [← k40] at e1_q
  have hZ := calling_Z (h := 9 * c 40 0 (c 1 0 10)) (n2 := m 15 0 3) e1_q hR hBB h00 hlim (by rw [x40]) x7
  obtain ⟨fR, fF, f9, f17, sd, fy, fA⟩ := fin _ _ hZ
  have e3 : (fn32 [61] (rUp (rUp (fn5 [] m).2.2 15 0 0 0) 15 0 14 (m 15 0 13))).2.2 = m1 := by
    rw [qUm_eq, ← e2]; rfl
  refine ⟨?_, fun hf => ?_⟩
  · refine four (a := c 0 0 7 ≠ 0) (b := m 15 0 59 ≠ 0) h fR sd (if_two rfl) ?_
    refine if_two ?_
    rw [← e3]
    rfl
  · unfold hpF hpG
    by_cases b : c 0 0 7 ≠ 0
    · rw [if_pos b, if_pos (by rw [← hf]; exact b), e3]
      obtain ⟨d1, d2⟩ := calling_D (h := 9 * c 40 0 (c 1 0 10)) (r := 61) (n := m 15 0 3) (by rw [fn146_eq, e1_q]) hR hZ
      rw [x40] at d1
      exact ⟨fy d1 d2 (by have := h.2.2.2.2.2.1; omega), fA⟩
    · rw [if_neg b, if_neg (by rw [← hf]; exact b)]
      exact none_read
/-- a text with nothing in it has no GOAL -/
theorem goal_e {H : Int → Prop} {c0 m0 c m : rHp} (hR : qR 0 c0 m0 c m) (hB : qB H c m) (hl : m 15 0 34 = 0) (h73 : m 73 0 (m 15 0 44) = 0) : ∃ c_q m_q, fn157 [] c = (0, 0, c_q) ∧ fnQ [] m = (0, 0, m_q) ∧ fH 2 [] [4, 6] c c_q ∧ fE (m 15 0 44) m m_q := by
  obtain ⟨p, L, k1, k2, k3, k4, k5, k6, k7⟩ := look_two hR.1 hR.2.1 [] []
  have a0 := hR.2.1.2.1
  have hn : ¬ p < m 15 0 34 := by omega
  have hL : ¬ 0 ≤ L := fun z => hn (k6.1 z)
  obtain ⟨c1, m3, e1, e3, hR1, hB1, fc, fm, y35, x6, hsk, f6⟩ := goal_pre hR hB k3 k4 k7
  rw [e1] at k1
  have f33 : ∀ g : rHp, (fn33 [] g).2.2 = g := fun g => rfl
  have yl : rUp m 15 0 35 p 15 0 35 = p := rUp_at
  have y34 : m3 15 0 34 = m 15 0 34 := fm.2 34 (by decide)
  have h20 := item_out (any := 0) hsk (by omega) (by omega)
  refine ⟨rUp c1 2 0 4 p, rUp m3 15 0 36 (m3 15 0 35), ?_, ?_, fH_fld (fH_sub fc (by decide) (by decide)) (by decide), ?_⟩
  · unfold fn157
    simp only [zLet, k1, x6, fn106_eq, fn105_eq, fn107_eq, fn109_eq]
    rw [if_neg hL]
  · unfold fnQ
    simp only [zLet, k2, f33, yl, e3, f6, fn9_eq, h20]
    rw [if_neg (by omega)]
  · refine fE_tr ?_ (fE_H (L := []) (J := [36]) (fH_fld fH_refl (by decide)) (by decide) (by decide))
    rw [← e3, h73]
    refine ⟨fun K x z1 _ => by rw [rUp_grp (by omega), rUp_grp (by omega)], fun K x z1 _ => by rw [rUp_grp (by omega), rUp_grp (by omega)], fun K x z1 z2 => ?_, fun K x z1 _ => by rw [rUp_grp (by omega), rUp_grp (by omega)], by rw [rUp_grp (by decide), rUp_ne (by decide)]; exact Int.le_refl _, fun p _ => by rw [rUp_grp (by decide), rUp_grp (by decide)]⟩
    rw [rUp_ne (fun w => by have := w.2.2; omega), rUp_grp (by omega)]
theorem ask_two {B : Int} {c m : rHp} (h : Rel B c m) (hB : B ≤ 10239) : Rel (B + 1) (hpA c) (hpB m) ∧ (c 0 0 7 = m 15 0 59 → (yU c m → yU (hpA c) (hpB m)) ∧ yFA c m (hpA c) (hpB m)) := by
  obtain ⟨c0, c1, m1, e1, e2, hR, hBB, h00, hlim, o7, x40, x7, x16, x73, m34, m17, m3, fin⟩ := start_any (p := 2) (r := 61) h hB (by decide)
  have eU : (fn110 [] (qUc 2 c)).2.2 = qUc 2 c := by
    show rUp (rUp (rUp (qUc 2 c) 2 0 13 0) 2 0 16 0) 2 0 5 0 = qUc 2 c
    have q : qUc 2 c = rUp (rUp (rUp (rUp (rUp c 2 0 7 2) 2 0 6 0) 2 0 13 0) 2 0 16 0) 2 0 5 0 := rfl
    rw [rUp_self (g := qUc 2 c) (G := 2) (k := 0) (j := 13) (v := 0) (by rw [q, rUp_ne (by decide), rUp_ne (by decide), rUp_at]), rUp_self (g := qUc 2 c) (G := 2) (k := 0) (j := 16) (v := 0) (by rw [q, rUp_ne (by decide), rUp_at]), rUp_self (g := qUc 2 c) (G := 2) (k := 0) (j := 5) (v := 0) (by rw [q, rUp_at])]
  rw [eU] at e1
  have e9 : fn159 [] (qUc 2 c) = zLoop (en159 (qUc 2 c)) (0, [], c1) := by
    rw [← e1]
    rfl
  have e38 : fn38 [0] m1 = zLoop (en38 m1) (0, [0, 1], m1) := rfl
  have fc : fH 2 [9] [] (qUc 2 c) c1 := by
    rw [← e1]
    exact fH_grp (fH_grp fH_refl (by decide) (by decide)) (by decide) (by decide)
  have x2 : c1 9 (c 40 0 (c 1 0 10)) 2 = 0 := by rw [← e1, rUp_ne (fun y => absurd y.2.2 (by decide)), rUp_at]
  have x3 : c1 9 (c 40 0 (c 1 0 10)) 3 = 0 := by rw [← e1, rUp_at]
  have fD1 : fD (c 40 0 (c 1 0 10)) (qUc 2 c) c1 := by
    rw [← e1]
    refine ⟨by rw [rUp_grp (by decide), rUp_grp (by decide)], fun x z => ?_, fun K x z _ => by rw [rUp_grp (by omega), rUp_grp (by omega)]⟩
    funext y
    rw [rUp_ne (fun w => z w.2.1), rUp_ne (fun w => z w.2.1)]
  have c110 : ∀ j, qUc 2 c 1 0 j = c1 1 0 j := fun j => by rw [fc.1 1 (by decide) (by decide)]
  have m44 : m1 15 0 44 = 61 := by
    rw [← e2]
    show rUp (rUp (rUp (rUp (rUp (qUm m) 15 0 44 61) 73 0 61 0) 74 0 61 0) 15 0 45 0) 15 0 58 0 15 0 44 = 61
    rw [rUp_ne (by decide), rUp_ne (by decide), rUp_grp (by decide), rUp_grp (by decide), rUp_at]
  have hB45 : c1 2 0 5 = m1 15 0 45 := hBB.2.2.1
  have hZ : qZ c0 m1 (fn159 [] (qUc 2 c)).2.2 (fn38 [0] m1).2.2 ∧ fD (c 40 0 (c 1 0 10)) c1 (fn159 [] (qUc 2 c)).2.2 ∧ fE 61 m1 (fn38 [0] m1).2.2 := by
    rw [e9, e38]
    by_cases hne : m1 15 0 34 = 0
    · obtain ⟨c_q, m_q, z1, z2, z3, z4⟩ := goal_e hR hBB hne x73
      have f7 : fn37 [0] (fn7 [] m1).2.2 = (0, 0, m_q) := by rw [fn37_is, fn7_eq, fnQ_look]; exact z2
      have g := goal_two_a hR hBB h00 hlim (by rw [x16]; decide) x7
      rw [zLoop_inr (en159_bad (cS := qUc 2 c) (n1 := c 40 0 (c 1 0 10)) rfl x2 (by decide) z1), zLoop_inr (en38_bad (mS := m1) rfl x73 (by decide) f7)]
      refine ⟨?_, fD_H z3 (by decide), by rw [m44] at z4; exact z4⟩
      rcases g with ⟨a, b, g1, _⟩ | ⟨a, b, g1, g2, g3⟩
      · rw [z1] at g1
        exact absurd (congrArg (fun r : zR => r.2.1) g1) (show ¬ (0 : Int) = 1 by decide)
      · rw [z1] at g1
        rw [z2] at g2
        have q1 : c_q = a := congrArg (fun r : zR => r.2.2) g1
        have q2 : m_q = b := congrArg (fun r : zR => r.2.2) g2
        rw [q1, q2]
        exact g3
    · have key := goals_loop_a (H := fun _ => False) (cS := qUc 2 c) (mS := m1) (n1 := c 40 0 (c 1 0 10)) (n8 := m1 15 0 44) h00 hlim rfl rfl rfl (fun j hj => by rw [c110 j]; exact hR.2.2.2.2.2.2.1 j hj) hne 8 0 c1 m1 (by decide) (by decide) hR hBB ⟨x2, x73, by rw [x16]; decide, fH_sub fc (by decide) (by decide), fH_refl, fun G z => by rw [fc.1 G (by simp only [List.mem_cons, List.not_mem_nil, or_false] at z ⊢; omega) (memG z).1], fD1, fE_refl, gGs_nil rfl (by rw [← hB45]; exact hBB.2.2.2.1) x3⟩
      rw [m44] at key
      refine ⟨key.1, ⟨key.2.1.1.trans fD1.1.symm, fun x z => (key.2.1.2.1 x z).trans (fD1.2.1 x z).symm, fun K x z1 z2 => (key.2.1.2.2 K x z1 z2).trans (fD1.2.2 K x z1 z2).symm⟩, key.2.2⟩
  obtain ⟨fR, fF, f9, f17, sd, fy, fA⟩ := fin _ _ hZ.1
  have e3 : (fn32 [61] (rUp (rUp (fn5 [] m).2.2 15 0 0 0) 15 0 14 (m 15 0 13))).2.2 = m1 := by
    rw [qUm_eq, ← e2]; rfl
  refine ⟨?_, fun hf => ?_⟩
  · refine four (a := c 0 0 7 ≠ 0) (b := m 15 0 59 ≠ 0) h fR sd (if_two rfl) ?_
    refine if_two ?_
    rw [← e3]
    rfl
  · unfold hpA hpB
    by_cases b : c 0 0 7 ≠ 0
    · rw [if_pos b, if_pos (by rw [← hf]; exact b), e3]
      exact ⟨fy hZ.2.1 hZ.2.2 (by have := h.2.2.2.2.2.1; omega), fA⟩
    · rw [if_neg b, if_neg (by rw [← hf]; exact b)]
      exact none_read
