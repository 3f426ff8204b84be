/-! ===== an ATOM by both, when told ===== -/
theorem en99_go {c0 c : rHp} {g v i : Int} (h : i < 4) : en99 c0 (0, [g, v, i], c) = .inl (0, [g, v, i + 1], rUp c 46 g i v) := by
  unfold en99
  simp only [zLet, List.getD_cons_zero, List.getD_cons_succ, ↓reduceIte]
  rw [if_neg (by omega)]
theorem en99_end {c0 c : rHp} {g v : Int} : en99 c0 (0, [g, v, 4], c) = .inr (0, 0, c) := by
  unfold en99
  simp only [zLet, List.getD_cons_zero, List.getD_cons_succ, ↓reduceIte]
  rw [if_pos (by decide)]
theorem fn99_eq {c : rHp} {g v : Int} : fn99 [g, v] c = (0, 0, rUp (rUp (rUp (rUp c 46 g 0 v) 46 g 1 v) 46 g 2 v) 46 g 3 v) := by
  show zLoop (en99 c) (0, [g, v, 0], c) = _
  rw [zLoop_inl (en99_go (by decide)), zLoop_inl (en99_go (by decide)), zLoop_inl (en99_go (by decide)), zLoop_inl (en99_go (by decide))]
  exact zLoop_inr en99_end
/-- a GOAL is begun -/
theorem fn103_all {c : rHp} {k w p : Int} : ∃ c_q, fn103 [k, w, p] c = (0, 0, c_q) ∧ fH 2 [10, 46] [] c c_q ∧ c_q 10 (qG c) 4 = k ∧ c_q 10 (qG c) 5 = 0 ∧ c_q 10 (qG c) 6 = w ∧ ∀ G h, h ≠ qG c → c_q G h = c G h := by
  refine ⟨rUp (rUp (rUp (rUp (rUp (rUp (rUp (rUp (rUp (rUp (rUp c 10 (qG c) 4 k) 10 (qG c) 6 w) 10 (qG c) 7 p) 10 (qG c) 5 0) 10 (qG c) 8 (-1)) 10 (qG c) 9 (-1)) 10 (qG c) 12 0) 46 (qG c) 0 0) 46 (qG c) 1 0) 46 (qG c) 2 0) 46 (qG c) 3 0, ?_, ?_, ?_, ?_, ?_, ?_⟩
  · unfold fn103
    simp only [zLet, List.getD_cons_zero, List.getD_cons_succ, fn99_eq]
    rfl
  · exact fH_grp (fH_grp (fH_grp (fH_grp (fH_grp (fH_grp (fH_grp (fH_grp (fH_grp (fH_grp (fH_grp fH_refl (by decide) (by decide)) (by decide) (by decide)) (by decide) (by decide)) (by decide) (by decide)) (by decide) (by decide)) (by decide) (by decide)) (by decide) (by decide)) (by decide) (by decide)) (by decide) (by decide)) (by decide) (by decide)) (by decide) (by decide)
  · rw [rUp_grp (by decide), rUp_grp (by decide), rUp_grp (by decide), rUp_grp (by decide), rUp_ne (fun q => absurd q.2.2 (by decide)), rUp_ne (fun q => absurd q.2.2 (by decide)), rUp_ne (fun q => absurd q.2.2 (by decide)), rUp_ne (fun q => absurd q.2.2 (by decide)), rUp_ne (fun q => absurd q.2.2 (by decide)), rUp_ne (fun q => absurd q.2.2 (by decide)), rUp_at]
  · rw [rUp_grp (by decide), rUp_grp (by decide), rUp_grp (by decide), rUp_grp (by decide), rUp_ne (fun q => absurd q.2.2 (by decide)), rUp_ne (fun q => absurd q.2.2 (by decide)), rUp_ne (fun q => absurd q.2.2 (by decide)), rUp_at]
  · rw [rUp_grp (by decide), rUp_grp (by decide), rUp_grp (by decide), rUp_grp (by decide), rUp_ne (fun q => absurd q.2.2 (by decide)), rUp_ne (fun q => absurd q.2.2 (by decide)), rUp_ne (fun q => absurd q.2.2 (by decide)), rUp_ne (fun q => absurd q.2.2 (by decide)), rUp_ne (fun q => absurd q.2.2 (by decide)), rUp_at]
  · intro G h hh
    funext j
    rw [rUp_ne (fun q => hh q.2.1), rUp_ne (fun q => hh q.2.1), rUp_ne (fun q => hh q.2.1), rUp_ne (fun q => hh q.2.1), rUp_ne (fun q => hh q.2.1), rUp_ne (fun q => hh q.2.1), rUp_ne (fun q => hh q.2.1), rUp_ne (fun q => hh q.2.1), rUp_ne (fun q => hh q.2.1), rUp_ne (fun q => hh q.2.1), rUp_ne (fun q => hh q.2.1)]
theorem fn103_nine {c : rHp} {k w p : Int} : (fn103 [k, w, p] c).2.2 10 (qG c) 9 = -1 := by
  have : (fn103 [k, w, p] c).2.2 = rUp (rUp (rUp (rUp (rUp (rUp (rUp (rUp (rUp (rUp (rUp c 10 (qG c) 4 k) 10 (qG c) 6 w) 10 (qG c) 7 p) 10 (qG c) 5 0) 10 (qG c) 8 (-1)) 10 (qG c) 9 (-1)) 10 (qG c) 12 0) 46 (qG c) 0 0) 46 (qG c) 1 0) 46 (qG c) 2 0) 46 (qG c) 3 0 := by
    unfold fn103
    simp only [zLet, List.getD_cons_zero, List.getD_cons_succ, fn99_eq]
    rfl
  rw [this, rUp_grp (by decide), rUp_grp (by decide), rUp_grp (by decide), rUp_grp (by decide), rUp_ne (fun q => absurd q.2.2 (by decide)), rUp_at]
/-- what holds between GOALS, beside qR -/
noncomputable def qB (H : Int → Prop) (c m : rHp) : Prop := qS m ∧ qO H c m ∧ c 2 0 5 = m 15 0 45 ∧ qKr (c 2 0 5) ∧ ∀ v, m 74 0 (m 15 0 44) ≤ v → v < 8 → qBt (c 2 0 5) v ≠ 1
/-- an ATOM whose ( is at hand -/
theorem atom_two {H : Int → Prop} {kind n0 : Int} {c0 m0 c m : rHp} (hR : qR 0 c0 m0 c m) (hB : qB H c m) (h00 : 0 ≤ c0 1000 0 0) (hlim : 2 * c0 1000 0 0 + m0 15 0 34 ≤ 10239) (hk : kind = 1 ∧ n0 = 0 ∨ kind = 2 ∧ n0 = 1) (hst : c 2 0 16 ≤ 28) (hpu : c 2 0 7 = 0) (hW : qW pSm (m 59 0) (m 15 0 34) (c 2 0 8) (m 15 0 37) (m 15 0 38))
    (hsk : pSk (m 59 0) (m 15 0 34) (m 15 0 35) = m 15 0 35) (hn : m 15 0 35 < m 15 0 34) (hb : m 59 0 (m 15 0 35) = 40) :
    (∃ c_q m_q, fn145 [kind] c = (0, 1, c_q) ∧ fn41 [n0] m = (0, 1, m_q) ∧ qE H kind c m c0 m0 c_q m_q) ∨ (∃ c_q m_q, fn145 [kind] c = (0, 0, c_q) ∧ fn41 [n0] m = (0, 0, m_q) ∧ qZ c0 m0 c_q m_q) := by
  obtain ⟨cK, h1, h2, h3, h4, h5, h6⟩ := fn103_all (c := c) (k := kind) (w := c 2 0 8) (p := c 2 0 9)
  obtain ⟨b1, b2, b3, b4, b5⟩ := hB
  have a0 := hR.2.1.2.1
  have hRK : qR 0 c0 m0 cK m := by
    refine qR_up hR (fH_sub h2 (by decide) (by decide)) fH_refl ?_ (Int.le_refl _) hR.2.1.2.1 hR.2.1.2.2
    rw [h2.2 6 (by decide)]; exact hR.2.1.1
  obtain ⟨L, k1, k2, k3, k4⟩ := look_at hRK.1 hRK.2.1 hsk [] []
  have hL : 0 ≤ L := k4.2 hn
  have hL40 : L = 40 := by
    rw [qL_is k3 (by decide) (by decide), pB_in hn]; exact hb
  have e1 : fn145 [kind] c = zLoop (en145 c) (0, [0], rUp cK 2 0 6 (cK 2 0 6 + 1)) := by
    unfold fn145 dn145
    simp only [zLet, List.getD_cons_zero, h1, k1]
    rw [if_pos hL, if_pos hL40]
    rfl
  have e2 : fn41 [n0] m = zLoop (en41 m) (0, [n0, 1, 0, 0], rUp m 15 0 35 (m 15 0 35 + 1)) := rfl
  rw [e1, e2]
  have hR1 : qR 0 c0 m0 (rUp cK 2 0 6 (cK 2 0 6 + 1)) (rUp m 15 0 35 (m 15 0 35 + 1)) := by
    refine qR_up hRK (fH_fld fH_refl (by decide)) (fH_fld fH_refl (by decide)) ?_ ?_ ?_ ?_
    · rw [rUp_at, rUp_at, hRK.2.1.1]
    · rw [rUp_at]; omega
    · rw [rUp_at]; omega
    · rw [rUp_at]; omega
  have f1 : fH 2 [] [6] cK (rUp cK 2 0 6 (cK 2 0 6 + 1)) := fH_fld fH_refl (by decide)
  have f2 : fH 15 [] [35] m (rUp m 15 0 35 (m 15 0 35 + 1)) := fH_fld fH_refl (by decide)
  have y35 : rUp m 15 0 35 (m 15 0 35 + 1) 15 0 35 = m 15 0 35 + 1 := rUp_at
  generalize rUp cK 2 0 6 (cK 2 0 6 + 1) = c1 at *
  generalize rUp m 15 0 35 (m 15 0 35 + 1) = m1 at *
  have g : ∀ G : Nat, G ≠ 2 → c1 G = cK G := fun G q => f1.1 G (by simp) q
  have x5 : c1 2 0 5 = c 2 0 5 := (f1.2 5 (by decide)).trans (h2.2 5 (by decide))
  have x16 : c1 2 0 16 = c 2 0 16 := (f1.2 16 (by decide)).trans (h2.2 16 (by decide))
  have m74 : m1 74 0 (m1 15 0 44) = m 74 0 (m 15 0 44) := by rw [f2.1 74 (by decide) (by decide), f2.2 44 (by decide)]
  refine atom_loop h00 hlim (hk.imp (fun q => q.1) (fun q => q.1)) b3 hst hpu hW 4 0 0 c1 m1 (by decide) (by decide) hR1 ⟨?_, ?_, ?_, ?_, ⟨?_, ?_, ?_⟩, ?_, ?_, ?_, ?_, ?_, ?_, ?_⟩
  · exact qS_up b1 (f2.2 44 (by decide)) (f2.1 74 (by decide) (by decide)) (f2.1 84 (by decide) (by decide)) (by rw [y35]; omega)
  · exact qO_up b2 x16 ((g 25 (by decide)).trans (h2.1 25 (by decide) (by decide))) (f2.2 58 (by decide)) (f2.1 89 (by decide) (by decide)) (f2.1 90 (by decide) (by decide)) (f2.1 91 (by decide) (by decide)) (by rw [m74]; exact Int.le_refl _)
  · exact fH_trans (fH_sub h2 (by decide) (by decide)) (fH_sub f1 (by decide) (by decide))
  · exact fH_sub f2 (by decide) (by decide)
  · rw [g 10 (by decide)]; exact h3
  · rw [g 10 (by decide)]; exact h4
  · rw [g 10 (by decide)]; exact h5
  · rw [x5]; exact b4
  · rw [x5, m74]; exact b5
  · rw [x5]
    rcases hk with q | q
    · refine Or.inl ⟨q.1, q.2, ?_⟩
      rw [ior_zero (by rw [← b3]; exact b4)]; exact b3
    · exact Or.inr ⟨q.1, q.2, b3⟩
  · rw [x16]; omega
  · intro G h q q2
    rw [g G (memG q).1, h6 G h q2]
  · rw [x5, b3]
    exact qAs_nil
  · have h9 : c1 10 (qG c) 9 = -1 := by
      have := fn103_nine (c := c) (k := kind) (w := c 2 0 8) (p := c 2 0 9)
      rw [h1] at this
      rw [g 10 (by decide)]
      exact this
    exact ⟨by omega, by omega, fun z => by omega⟩
/-- no ( is at hand: the class_q ATOM is BROKEN -/
theorem atom_not {kind : Int} {c0 m0 c m : rHp} (hR : qR 0 c0 m0 c m) (hsk : pSk (m 59 0) (m 15 0 34) (m 15 0 35) = m 15 0 35) (hb : ¬ (m 15 0 35 < m 15 0 34 ∧ m 59 0 (m 15 0 35) = 40)) : ∃ c_q, fn145 [kind] c = (0, 0, c_q) ∧ fH 2 lC jC c c_q := by
  obtain ⟨cK, h1, h2, h3, h4, h5, h6⟩ := fn103_all (c := c) (k := kind) (w := c 2 0 8) (p := c 2 0 9)
  have hRK : qR 0 c0 m0 cK m := by
    refine qR_up hR (fH_sub h2 (by decide) (by decide)) fH_refl ?_ (Int.le_refl _) hR.2.1.2.1 hR.2.1.2.2
    rw [h2.2 6 (by decide)]; exact hR.2.1.1
  obtain ⟨L, k1, k2, k3, k4⟩ := look_at hRK.1 hRK.2.1 hsk [] []
  refine ⟨rUp cK 2 0 4 (cK 2 0 6), ?_, fH_fld (fH_sub h2 (by decide) (by decide)) (by decide)⟩
  unfold fn145 dn145
  simp only [zLet, List.getD_cons_zero, h1, k1, fn109_eq]
  by_cases hL : 0 ≤ L
  · have hn := k4.1 hL
    rw [if_pos hL, if_neg (fun q => hb ⟨hn, by rw [← pB_in (t := m 59 0) (n := m 15 0 34) hn, ← qL_is k3 (by decide) (by decide)]; exact q⟩)]
    rfl
  · rw [if_neg hL]
    rfl
