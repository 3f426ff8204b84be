/-! ===== find and ask: what both leave ===== -/
theorem qUm_eq {m : rHp} : rUp (rUp (fn5 [] m).2.2 15 0 0 0) 15 0 14 (m 15 0 13) = qUm m := by
  have e1 : (fn5 [] m).2.2 = rUp (rUp (rUp m 15 0 34 (m 15 0 3)) 15 0 3 0) 15 0 35 0 := rfl
  have e2 : qUm m = rUp (rUp (rUp (rUp (rUp m 15 0 0 0) 15 0 34 (rUp m 15 0 0 0 15 0 3)) 15 0 3 0) 15 0 35 0) 15 0 14 (m 15 0 13) := rfl
  rw [e1, e2, show rUp m 15 0 0 0 15 0 3 = m 15 0 3 from rUp_ne (by decide)]
  rw [rUp_comm (g := rUp (rUp m 15 0 34 (m 15 0 3)) 15 0 3 0) (G := 15) (G' := 15) (k := 0) (k' := 0) (j := 35) (j' := 0) (by decide), rUp_comm (g := rUp m 15 0 34 (m 15 0 3)) (G := 15) (G' := 15) (k := 0) (k' := 0) (j := 3) (j' := 0) (by decide), rUp_comm (g := m) (G := 15) (G' := 15) (k := 0) (k' := 0) (j := 34) (j' := 0) (by decide)]
/-- where each side alone has read or not -/
theorem four {B : Int} {c m cR mR : rHp} (h : Rel B c m) (fR : Rel (B + 1) (rUp cR 2 0 3 0) mR) (sd : qSd (B + 1) c m cR mR) {a b : Prop} {cE mE : rHp} (hc : a ∧ cE = rUp cR 2 0 3 0 ∨ ¬ a ∧ cE = rUp c 2 0 3 0) (hm : b ∧ mE = mR ∨ ¬ b ∧ mE = rUp (fn5 [] m).2.2 15 0 0 1) : Rel (B + 1) cE mE := by
  obtain ⟨⟨d1, d2, d3, d4, d5, d6, d7, d8⟩, d9, d10, d11, d12, d13⟩ := sd
  have fm : fH 15 [] [0, 3, 34, 35] m (rUp (fn5 [] m).2.2 15 0 0 1) := fH_fld (fH_fld (fH_fld (fH_fld fH_refl (by decide)) (by decide)) (by decide)) (by decide)
  have m3 : rUp (fn5 [] m).2.2 15 0 0 1 15 0 3 = 0 := by
    show rUp (rUp (rUp (rUp m 15 0 34 (m 15 0 3)) 15 0 3 0) 15 0 35 0) 15 0 0 1 15 0 3 = 0
    rw [rUp_ne (by decide), rUp_ne (by decide), rUp_at]
  have g : ∀ (x : rHp) (G : Nat), G ≠ 2 → rUp x 2 0 3 0 G = x G := fun x G z => rUp_grp z
  have h4 := h.2.2.2.1
  have h3 := h.1.2.1
  have nc : ∀ x : rHp, qNc x → qNc (rUp x 2 0 3 0) := by
    intro x hx
    unfold qNc at hx ⊢
    rw [g x 3 (by decide), g x 26 (by decide)]; exact hx
  have gc : ∀ x : rHp, gNc c x → gNc c (rUp x 2 0 3 0) := by
    intro x hx
    unfold gNc at hx ⊢
    rw [g x 3 (by decide), g x 26 (by decide)]; exact hx
  rcases hc with ⟨_, e1⟩ | ⟨_, e1⟩
  · rcases hm with ⟨_, e2⟩ | ⟨_, e2⟩
    · rw [e1, e2]; exact fR
    · rw [e1, e2]
      exact Rel_c h (nc _ d1) (gc _ d2) (by rw [g cR 1 (by decide)]; exact d3) (by rw [g cR 16 (by decide)]; exact d4) (by rw [g cR 17 (by decide)]; exact d5) (by rw [g cR 19 (by decide)]; exact d6) (by rw [g cR 20 (by decide)]; exact d7) fm m3 rUp_at (by rw [g cR 3 (by decide)]; exact d8)
  · rcases hm with ⟨_, e2⟩ | ⟨_, e2⟩
    · rw [e1, e2]
      exact Rel_m h (fH_fld fH_refl (by decide)) rUp_at d9 d10 d11 d12 d13 (by omega)
    · rw [e1, e2]
      exact Rel_c h (nc _ h.2.1) (gc _ gNc_refl) (g c 1 (by decide)) (g c 16 (by decide)) (g c 17 (by decide)) (g c 19 (by decide)) (g c 20 (by decide)) fm m3 rUp_at (by rw [g c 3 (by decide)]; omega)
/-- find: the class' heap behind its reading -/
noncomputable def hpF (c : rHp) : rHp := if c 0 0 7 ≠ 0 then rUp (qFg (9 * c 40 0 (c 1 0 10)) (qUc 1 c)).2.2 2 0 3 0 else rUp c 2 0 3 0
/-- find: the reference's -/
noncomputable def hpG (m : rHp) : rHp := if m 15 0 59 ≠ 0 then (qFh (m 15 0 3) (fn32 [61] (rUp (rUp (fn5 [] m).2.2 15 0 0 0) 15 0 14 (m 15 0 13))).2.2).2.2 else rUp (fn5 [] m).2.2 15 0 0 1
/-- ask: the class' heap behind its reading -/
noncomputable def hpA (c : rHp) : rHp := if c 0 0 7 ≠ 0 then rUp (fn159 [] (qUc 2 c)).2.2 2 0 3 0 else rUp c 2 0 3 0
/-- ask: the reference's -/
noncomputable def hpB (m : rHp) : rHp := if m 15 0 59 ≠ 0 then (fn38 [0] (fn32 [61] (rUp (rUp (fn5 [] m).2.2 15 0 0 0) 15 0 14 (m 15 0 13))).2.2).2.2 else rUp (fn5 [] m).2.2 15 0 0 1
theorem if_two {p : Prop} [Decidable p] {x a b : rHp} (h : x = if p then a else b) : p ∧ x = a ∨ ¬ p ∧ x = b := by
  by_cases q : p
  · rw [if_pos q] at h; exact Or.inl ⟨q, h⟩
  · rw [if_neg q] at h; exact Or.inr ⟨q, h⟩
theorem find_two {B : Int} {c m : rHp} (h : Rel B c m) (hB : B ≤ 10239) : Rel (B + 1) (hpF c) (hpG m) := by
  obtain ⟨c0, c1, m1, e1, e2, hR, hBB, h00, hlim, o7, x40, x7, x16, x73, m34, m17, m3, fin⟩ := start_any (p := 1) (r := 61) h hB (by decide)
  have k40 : qUc 1 c 40 0 (qUc 1 c 1 0 10) = c 40 0 (c 1 0 10) := rfl
  have e1' := e1
  rw [← k40] at e1'
  have hZ := calling_Z (h := 9 * c 40 0 (c 1 0 10)) (n2 := m 15 0 3) e1' hR hBB h00 hlim (by rw [x40]) x7
  obtain ⟨fR, fF, f9, f17, sd⟩ := fin _ _ hZ
  refine four (a := c 0 0 7 ≠ 0) (b := m 15 0 59 ≠ 0) h fR sd (if_two rfl) ?_
  have e3 : (fn32 [61] (rUp (rUp (fn5 [] m).2.2 15 0 0 0) 15 0 14 (m 15 0 13))).2.2 = m1 := by
    rw [qUm_eq, ← e2]; rfl
  refine if_two ?_
  rw [← e3]
  rfl
theorem ask_two {B : Int} {c m : rHp} (h : Rel B c m) (hB : B ≤ 10239) : Rel (B + 1) (hpA c) (hpB m) := by
  obtain ⟨c0, c1, m1, e1, e2, hR, hBB, h00, hlim, o7, x40, x7, x16, x73, m34, m17, m3, fin⟩ := start_any (p := 2) (r := 61) h hB (by decide)
  have eU : (fn110 [] (qUc 2 c)).2.2 = qUc 2 c := by
    show rUp (rUp (rUp (qUc 2 c) 2 0 13 0) 2 0 16 0) 2 0 5 0 = qUc 2 c
    have q : qUc 2 c = rUp (rUp (rUp (rUp (rUp c 2 0 7 2) 2 0 6 0) 2 0 13 0) 2 0 16 0) 2 0 5 0 := rfl
    rw [rUp_self (g := qUc 2 c) (G := 2) (k := 0) (j := 13) (v := 0) (by rw [q, rUp_ne (by decide), rUp_ne (by decide), rUp_at]), rUp_self (g := qUc 2 c) (G := 2) (k := 0) (j := 16) (v := 0) (by rw [q, rUp_ne (by decide), rUp_at]), rUp_self (g := qUc 2 c) (G := 2) (k := 0) (j := 5) (v := 0) (by rw [q, rUp_at])]
  rw [eU] at e1
  have e9 : fn159 [] (qUc 2 c) = zLoop (en159 (qUc 2 c)) (0, [], c1) := by
    rw [← e1]
    rfl
  have e38 : fn38 [0] m1 = zLoop (en38 m1) (0, [0, 1], m1) := rfl
  have fc : fH 2 [9] [] (qUc 2 c) c1 := by
    rw [← e1]
    exact fH_grp (fH_grp fH_refl (by decide) (by decide)) (by decide) (by decide)
  have x2 : c1 9 (c 40 0 (c 1 0 10)) 2 = 0 := by rw [← e1, rUp_ne (fun y => absurd y.2.2 (by decide)), rUp_at]
  have c110 : ∀ j, qUc 2 c 1 0 j = c1 1 0 j := fun j => by rw [fc.1 1 (by decide) (by decide)]
  have hZ : qZ c0 m1 (fn159 [] (qUc 2 c)).2.2 (fn38 [0] m1).2.2 := by
    rw [e9, e38]
    refine goals_loop_a (H := fun _ => False) (cS := qUc 2 c) (mS := m1) (n1 := c 40 0 (c 1 0 10)) (n8 := m1 15 0 44) h00 hlim rfl rfl rfl (fun j hj => by rw [c110 j]; exact hR.2.2.2.2.2.2.1 j hj) 8 0 c1 m1 (by decide) (by decide) hR hBB ⟨x2, x73, ?_, fH_sub fc (by decide) (by decide), fH_refl, ?_⟩
    · rw [x16]; decide
    · intro G z
      rw [fc.1 G (by simp only [List.mem_cons, List.not_mem_nil, or_false] at z ⊢; omega) (memG z).1]
  obtain ⟨fR, fF, f9, f17, sd⟩ := fin _ _ hZ
  refine four (a := c 0 0 7 ≠ 0) (b := m 15 0 59 ≠ 0) h fR sd (if_two rfl) ?_
  have e3 : (fn32 [61] (rUp (rUp (fn5 [] m).2.2 15 0 0 0) 15 0 14 (m 15 0 13))).2.2 = m1 := by
    rw [qUm_eq, ← e2]; rfl
  refine if_two ?_
  rw [← e3]
  rfl
